/-! contracts, printed by wip/gen/gy.py -/
section MYNModel_row5
theorem c_Model_row5 {l : Launch} {rho : Nat → Int32} {d : Nat} {h : my_H} {Q : my_H → my_V → Prop} {x1 x2 x3 x4 x5 : Int} (n_Rws : Rws h) (k0 : ∀ (h' : my_H), my_fr [(10, 0), (61, -1), (62, -1)] h h' → h' 151 0 = 0 → ¬ zyRow (zqMA h) (zqMS h 0) x1 x2 x3 x4 x5 → OtT h h' 5 5 5 → Rws h' → Q h' (0, 0)) (k1 : ∀ (h' : my_H), my_fr [(10, 0), (61, -1), (62, -1)] h h' → 0 ≤ x1 → x1 ≤ 2 → 0 ≤ x2 → x2 ≤ 19 → h' 151 0 = 0 → zyRow (zqMA h) (zqMS h 0) x1 x2 x3 x4 x5 → zqAg (zqAdd (zqMS h 0) x1 x2 (zyF (h 157 x1) x2 x3 x4 x5)) (zqMS h' 0) ∧ OtT h h' 0 5 5 → Rws h' → Q h' (0, 1)) : wp l rho (d + 5) 148 0 [(2, 151), (0, x1), (0, x2), (0, x3), (0, x4), (0, x5), (9, 0)] [] h Q := by
  refine v_knowA (x := 162) is_162 rd_61 (fun kT => ?_)
  refine v_knowA (x := 163) is_163 rd_62 (fun kV => ?_)
  refine v_knowA (x := 160) is_160 rd_59 (fun kN => ?_)
  refine v_knowA (x := 157) is_157 rd_56 (fun kC => ?_)
  have T : MTy h := ⟨kV, kT, kN, kC⟩
  refine w_aload_n gz_148_0 rfl ?_
  refine w_iconst gz_148_1 (by decide) ?_
  refine v_putI (j := 0) gz_148_2 rfl is_151 rd_10 rfl (by omega) (by omega) rfl (fun h1 fh1 => ?_)
  have gh1 : my_fr [(10, 0), (61, -1), (62, -1)] h h1 := my_fr.up my_fr.rf is_151 fh1 rfl
  have Rws_h1 : Rws h1 := Rws_ag (my_ag.up fh1 is_151 rfl) n_Rws
  refine w_aload_n gz_148_5 rfl ?_
  refine w_iload_n gz_148_6 rfl ?_
  have c157 : ∀ j : Int, h1 157 j = h 157 j := fun j => ((my_up_role fh1 is_157 is_151 rfl).trans (rfl : h 157 j = h 157 j))
  have c158 : ∀ j : Int, h1 158 j = h 158 j := fun j => ((my_up_role fh1 is_158 is_151 rfl).trans (rfl : h 158 j = h 158 j))
  have c159 : ∀ j : Int, h1 159 j = h 159 j := fun j => ((my_up_role fh1 is_159 is_151 rfl).trans (rfl : h 159 j = h 159 j))
  have c160 : ∀ j : Int, h1 160 j = h 160 j := fun j => ((my_up_role fh1 is_160 is_151 rfl).trans (rfl : h 160 j = h 160 j))
  have c161 : ∀ j : Int, h1 161 j = h 161 j := fun j => ((my_up_role fh1 is_161 is_151 rfl).trans (rfl : h 161 j = h 161 j))
  have b162 : ∀ j : Int, h1 162 j = h 162 j := fun j => ((my_up_role fh1 is_162 is_151 rfl).trans (rfl : h 162 j = h 162 j))
  have b163 : ∀ j : Int, h1 163 j = h 163 j := fun j => ((my_up_role fh1 is_163 is_151 rfl).trans (rfl : h 163 j = h 163 j))
  have n1 := c157 x1
  have e1a : zqMA h1 = zqMA h := zqMA_e c157 c158 c159 c160 c161
  have e1s : zqMS h1 0 = zqMS h 0 := MS_eq b162 b163
  refine w_inv (k := 0) (as := [(0, x1)]) (r := []) (x := 151) (ls0 := [(2, 151), (0, x1)]) gz_148_7 gm_149 rfl is_151 rd_10 rfl rfl rfl rfl rfl ?_
  refine w_iload_n gz_149_0 rfl ?_
  refine w_iflt (t := 22) gz_149_1 rfl (fun u2 => ?_) (fun u2 => ?_)
  ·
    refine w_iconst gz_149_22 (by decide) ?_
    refine w_bret gz_149_23 gm_149 (by omega) (by omega) ?_
    show wp l rho (d + 5) 148 10 [(2, 151), (0, x1), (0, x2), (0, x3), (0, x4), (0, x5), (9, 0)] [(0, 0)] h1 Q
    refine w_ifeq (t := 27) gz_148_10 rfl (fun u3 => ?_) (fun u3 => by exfalso; omega)
    refine w_iconst gz_148_27 (by decide) ?_
    refine w_istore (ls' := [(2, 151), (0, x1), (0, x2), (0, x3), (0, x4), (0, x5), (0, 0)]) gz_148_28 gm_148 rfl rfl rfl ?_
    refine w_iload gz_148_30 rfl ?_
    refine w_ifeq (t := 101) gz_148_32 rfl (fun u4 => ?_) (fun u4 => by exfalso; omega)
    refine w_iconst gz_148_101 (by decide) ?_
    refine w_istore (ls' := [(2, 151), (0, x1), (0, x2), (0, x3), (0, x4), (0, x5), (0, 0)]) gz_148_102 gm_148 rfl rfl rfl ?_
    refine w_iload gz_148_104 rfl ?_
    refine w_ifeq (t := 134) gz_148_106 rfl (fun u5 => ?_) (fun u5 => by exfalso; omega)
    refine w_iconst gz_148_134 (by decide) ?_
    have c6 := (my_up_self fh1)
    exact w_bret gz_148_135 gm_148 (by omega) (by omega) (k0 h1 (gh1) (by omega) (by first | exact ⟨(show (0 ≤ x1 ∧ x1 ≤ 2 ∧ 0 < h 157 x1) ∧ (0 ≤ x2 ∧ x2 ≤ 19) ∧ (2 ≤ h 157 x1 → 0 ≤ x3 ∧ x3 ≤ 19) ∧ (3 ≤ h 157 x1 → 0 ≤ x4 ∧ x4 ≤ 19) ∧ (4 ≤ h 157 x1 → 0 ≤ x5 ∧ x5 ≤ 19) by omega), no.mpr (by omega), by omega, (Mlf_t T ma8 ot8.1).mp lf8⟩ | exact Mtk ot8.1 ot8.2 tk8 | exact (fun z => by have z1 : (0 ≤ x1 ∧ x1 ≤ 2 ∧ 0 < h 157 x1) ∧ (0 ≤ x2 ∧ x2 ≤ 19) ∧ (2 ≤ h 157 x1 → 0 ≤ x3 ∧ x3 ≤ 19) ∧ (3 ≤ h 157 x1 → 0 ≤ x4 ∧ x4 ≤ 19) ∧ (4 ≤ h 157 x1 → 0 ≤ x5 ∧ x5 ≤ 19) := z.1; omega) | exact (fun z => no.mp z.2.1 (by omega)) | exact (fun z => by have q := z.2.2.1; omega) | exact (fun z => lf8 ((Mlf_t T ma8 ot8.1).mpr z.2.2.2)) | exact OtT_0 b162 b163 | exact OtT_e ot8.2 tk8.1 tk8.2 | assumption | omega) (by first | exact ⟨(show (0 ≤ x1 ∧ x1 ≤ 2 ∧ 0 < h 157 x1) ∧ (0 ≤ x2 ∧ x2 ≤ 19) ∧ (2 ≤ h 157 x1 → 0 ≤ x3 ∧ x3 ≤ 19) ∧ (3 ≤ h 157 x1 → 0 ≤ x4 ∧ x4 ≤ 19) ∧ (4 ≤ h 157 x1 → 0 ≤ x5 ∧ x5 ≤ 19) by omega), no.mpr (by omega), by omega, (Mlf_t T ma8 ot8.1).mp lf8⟩ | exact Mtk ot8.1 ot8.2 tk8 | exact (fun z => by have z1 : (0 ≤ x1 ∧ x1 ≤ 2 ∧ 0 < h 157 x1) ∧ (0 ≤ x2 ∧ x2 ≤ 19) ∧ (2 ≤ h 157 x1 → 0 ≤ x3 ∧ x3 ≤ 19) ∧ (3 ≤ h 157 x1 → 0 ≤ x4 ∧ x4 ≤ 19) ∧ (4 ≤ h 157 x1 → 0 ≤ x5 ∧ x5 ≤ 19) := z.1; omega) | exact (fun z => no.mp z.2.1 (by omega)) | exact (fun z => by have q := z.2.2.1; omega) | exact (fun z => lf8 ((Mlf_t T ma8 ot8.1).mpr z.2.2.2)) | exact OtT_0 b162 b163 | exact OtT_e ot8.2 tk8.1 tk8.2 | assumption | omega) Rws_h1)
  ·
    refine w_iload_n gz_149_4 rfl ?_
    refine w_iconst gz_149_5 (by decide) ?_
    refine w_icge (t := 22) gz_149_6 rfl (fun u7 => ?_) (fun u7 => ?_)
    ·
      refine w_iconst gz_149_22 (by decide) ?_
      refine w_bret gz_149_23 gm_149 (by omega) (by omega) ?_
      show wp l rho (d + 5) 148 10 [(2, 151), (0, x1), (0, x2), (0, x3), (0, x4), (0, x5), (9, 0)] [(0, 0)] h1 Q
      refine w_ifeq (t := 27) gz_148_10 rfl (fun u8 => ?_) (fun u8 => by exfalso; omega)
      refine w_iconst gz_148_27 (by decide) ?_
      refine w_istore (ls' := [(2, 151), (0, x1), (0, x2), (0, x3), (0, x4), (0, x5), (0, 0)]) gz_148_28 gm_148 rfl rfl rfl ?_
      refine w_iload gz_148_30 rfl ?_
      refine w_ifeq (t := 101) gz_148_32 rfl (fun u9 => ?_) (fun u9 => by exfalso; omega)
      refine w_iconst gz_148_101 (by decide) ?_
      refine w_istore (ls' := [(2, 151), (0, x1), (0, x2), (0, x3), (0, x4), (0, x5), (0, 0)]) gz_148_102 gm_148 rfl rfl rfl ?_
      refine w_iload gz_148_104 rfl ?_
      refine w_ifeq (t := 134) gz_148_106 rfl (fun u10 => ?_) (fun u10 => by exfalso; omega)
      refine w_iconst gz_148_134 (by decide) ?_
      have c11 := (my_up_self fh1)
      exact w_bret gz_148_135 gm_148 (by omega) (by omega) (k0 h1 (gh1) (by omega) (by first | exact ⟨(show (0 ≤ x1 ∧ x1 ≤ 2 ∧ 0 < h 157 x1) ∧ (0 ≤ x2 ∧ x2 ≤ 19) ∧ (2 ≤ h 157 x1 → 0 ≤ x3 ∧ x3 ≤ 19) ∧ (3 ≤ h 157 x1 → 0 ≤ x4 ∧ x4 ≤ 19) ∧ (4 ≤ h 157 x1 → 0 ≤ x5 ∧ x5 ≤ 19) by omega), no.mpr (by omega), by omega, (Mlf_t T ma8 ot8.1).mp lf8⟩ | exact Mtk ot8.1 ot8.2 tk8 | exact (fun z => by have z1 : (0 ≤ x1 ∧ x1 ≤ 2 ∧ 0 < h 157 x1) ∧ (0 ≤ x2 ∧ x2 ≤ 19) ∧ (2 ≤ h 157 x1 → 0 ≤ x3 ∧ x3 ≤ 19) ∧ (3 ≤ h 157 x1 → 0 ≤ x4 ∧ x4 ≤ 19) ∧ (4 ≤ h 157 x1 → 0 ≤ x5 ∧ x5 ≤ 19) := z.1; omega) | exact (fun z => no.mp z.2.1 (by omega)) | exact (fun z => by have q := z.2.2.1; omega) | exact (fun z => lf8 ((Mlf_t T ma8 ot8.1).mpr z.2.2.2)) | exact OtT_0 b162 b163 | exact OtT_e ot8.2 tk8.1 tk8.2 | assumption | omega) (by first | exact ⟨(show (0 ≤ x1 ∧ x1 ≤ 2 ∧ 0 < h 157 x1) ∧ (0 ≤ x2 ∧ x2 ≤ 19) ∧ (2 ≤ h 157 x1 → 0 ≤ x3 ∧ x3 ≤ 19) ∧ (3 ≤ h 157 x1 → 0 ≤ x4 ∧ x4 ≤ 19) ∧ (4 ≤ h 157 x1 → 0 ≤ x5 ∧ x5 ≤ 19) by omega), no.mpr (by omega), by omega, (Mlf_t T ma8 ot8.1).mp lf8⟩ | exact Mtk ot8.1 ot8.2 tk8 | exact (fun z => by have z1 : (0 ≤ x1 ∧ x1 ≤ 2 ∧ 0 < h 157 x1) ∧ (0 ≤ x2 ∧ x2 ≤ 19) ∧ (2 ≤ h 157 x1 → 0 ≤ x3 ∧ x3 ≤ 19) ∧ (3 ≤ h 157 x1 → 0 ≤ x4 ∧ x4 ≤ 19) ∧ (4 ≤ h 157 x1 → 0 ≤ x5 ∧ x5 ≤ 19) := z.1; omega) | exact (fun z => no.mp z.2.1 (by omega)) | exact (fun z => by have q := z.2.2.1; omega) | exact (fun z => lf8 ((Mlf_t T ma8 ot8.1).mpr z.2.2.2)) | exact OtT_0 b162 b163 | exact OtT_e ot8.2 tk8.1 tk8.2 | assumption | omega) Rws_h1)
    ·
      refine w_aload_n gz_149_9 rfl ?_
      refine w_getX (v := 157) gz_149_10 is_151 rd_10 rfl (by decide) rfl ?_
      refine w_iload_n gz_149_13 rfl ?_
      refine w_iald gz_149_14 is_157 rd_56 (by omega) (by omega) (fun v13 ev13 pv13 qv13 => ?_)
      refine w_ifle (t := 22) gz_149_15 rfl (fun u14 => ?_) (fun u14 => ?_)
      ·
        refine w_iconst gz_149_22 (by decide) ?_
        refine w_bret gz_149_23 gm_149 (by omega) (by omega) ?_
        show wp l rho (d + 5) 148 10 [(2, 151), (0, x1), (0, x2), (0, x3), (0, x4), (0, x5), (9, 0)] [(0, 0)] h1 Q
        refine w_ifeq (t := 27) gz_148_10 rfl (fun u15 => ?_) (fun u15 => by exfalso; omega)
        refine w_iconst gz_148_27 (by decide) ?_
        refine w_istore (ls' := [(2, 151), (0, x1), (0, x2), (0, x3), (0, x4), (0, x5), (0, 0)]) gz_148_28 gm_148 rfl rfl rfl ?_
        refine w_iload gz_148_30 rfl ?_
        refine w_ifeq (t := 101) gz_148_32 rfl (fun u16 => ?_) (fun u16 => by exfalso; omega)
        refine w_iconst gz_148_101 (by decide) ?_
        refine w_istore (ls' := [(2, 151), (0, x1), (0, x2), (0, x3), (0, x4), (0, x5), (0, 0)]) gz_148_102 gm_148 rfl rfl rfl ?_
        refine w_iload gz_148_104 rfl ?_
        refine w_ifeq (t := 134) gz_148_106 rfl (fun u17 => ?_) (fun u17 => by exfalso; omega)
        refine w_iconst gz_148_134 (by decide) ?_
        have c18 := (my_up_self fh1)
        exact w_bret gz_148_135 gm_148 (by omega) (by omega) (k0 h1 (gh1) (by omega) (by first | exact ⟨(show (0 ≤ x1 ∧ x1 ≤ 2 ∧ 0 < h 157 x1) ∧ (0 ≤ x2 ∧ x2 ≤ 19) ∧ (2 ≤ h 157 x1 → 0 ≤ x3 ∧ x3 ≤ 19) ∧ (3 ≤ h 157 x1 → 0 ≤ x4 ∧ x4 ≤ 19) ∧ (4 ≤ h 157 x1 → 0 ≤ x5 ∧ x5 ≤ 19) by omega), no.mpr (by omega), by omega, (Mlf_t T ma8 ot8.1).mp lf8⟩ | exact Mtk ot8.1 ot8.2 tk8 | exact (fun z => by have z1 : (0 ≤ x1 ∧ x1 ≤ 2 ∧ 0 < h 157 x1) ∧ (0 ≤ x2 ∧ x2 ≤ 19) ∧ (2 ≤ h 157 x1 → 0 ≤ x3 ∧ x3 ≤ 19) ∧ (3 ≤ h 157 x1 → 0 ≤ x4 ∧ x4 ≤ 19) ∧ (4 ≤ h 157 x1 → 0 ≤ x5 ∧ x5 ≤ 19) := z.1; omega) | exact (fun z => no.mp z.2.1 (by omega)) | exact (fun z => by have q := z.2.2.1; omega) | exact (fun z => lf8 ((Mlf_t T ma8 ot8.1).mpr z.2.2.2)) | exact OtT_0 b162 b163 | exact OtT_e ot8.2 tk8.1 tk8.2 | assumption | omega) (by first | exact ⟨(show (0 ≤ x1 ∧ x1 ≤ 2 ∧ 0 < h 157 x1) ∧ (0 ≤ x2 ∧ x2 ≤ 19) ∧ (2 ≤ h 157 x1 → 0 ≤ x3 ∧ x3 ≤ 19) ∧ (3 ≤ h 157 x1 → 0 ≤ x4 ∧ x4 ≤ 19) ∧ (4 ≤ h 157 x1 → 0 ≤ x5 ∧ x5 ≤ 19) by omega), no.mpr (by omega), by omega, (Mlf_t T ma8 ot8.1).mp lf8⟩ | exact Mtk ot8.1 ot8.2 tk8 | exact (fun z => by have z1 : (0 ≤ x1 ∧ x1 ≤ 2 ∧ 0 < h 157 x1) ∧ (0 ≤ x2 ∧ x2 ≤ 19) ∧ (2 ≤ h 157 x1 → 0 ≤ x3 ∧ x3 ≤ 19) ∧ (3 ≤ h 157 x1 → 0 ≤ x4 ∧ x4 ≤ 19) ∧ (4 ≤ h 157 x1 → 0 ≤ x5 ∧ x5 ≤ 19) := z.1; omega) | exact (fun z => no.mp z.2.1 (by omega)) | exact (fun z => by have q := z.2.2.1; omega) | exact (fun z => lf8 ((Mlf_t T ma8 ot8.1).mpr z.2.2.2)) | exact OtT_0 b162 b163 | exact OtT_e ot8.2 tk8.1 tk8.2 | assumption | omega) Rws_h1)
      ·
        refine w_iconst gz_149_18 (by decide) ?_
        refine w_goto (t := 23) gz_149_19 rfl ?_
        refine w_bret gz_149_23 gm_149 (by omega) (by omega) ?_
        show wp l rho (d + 5) 148 10 [(2, 151), (0, x1), (0, x2), (0, x3), (0, x4), (0, x5), (9, 0)] [(0, 1)] h1 Q
        refine w_ifeq (t := 27) gz_148_10 rfl (fun u19 => by exfalso; omega) (fun u19 => ?_)
        refine w_iload_n gz_148_13 rfl ?_
        refine w_iconst gz_148_14 (by decide) ?_
        refine w_bipush gz_148_15 (by decide) ?_
        refine w_inS (k := 0) (as := [(0, 19), (0, 0), (0, x2)]) (r := []) (ls0 := [(0, x2), (0, 0), (0, 19)]) gz_148_17 gm_147 rfl rfl rfl rfl rfl rfl ?_
        refine w_iload_n gz_147_0 rfl ?_
        refine w_iload_n gz_147_1 rfl ?_
        refine w_iclt (t := 14) gz_147_2 rfl (fun u20 => ?_) (fun u20 => ?_)
        ·
          refine w_iconst gz_147_14 (by decide) ?_
          refine w_bret gz_147_15 gm_147 (by omega) (by omega) ?_
          show wp l rho (d + 5) 148 20 [(2, 151), (0, x1), (0, x2), (0, x3), (0, x4), (0, x5), (9, 0)] [(0, 0)] h1 Q
          refine w_ifeq (t := 27) gz_148_20 rfl (fun u21 => ?_) (fun u21 => by exfalso; omega)
          refine w_iconst gz_148_27 (by decide) ?_
          refine w_istore (ls' := [(2, 151), (0, x1), (0, x2), (0, x3), (0, x4), (0, x5), (0, 0)]) gz_148_28 gm_148 rfl rfl rfl ?_
          refine w_iload gz_148_30 rfl ?_
          refine w_ifeq (t := 101) gz_148_32 rfl (fun u22 => ?_) (fun u22 => by exfalso; omega)
          refine w_iconst gz_148_101 (by decide) ?_
          refine w_istore (ls' := [(2, 151), (0, x1), (0, x2), (0, x3), (0, x4), (0, x5), (0, 0)]) gz_148_102 gm_148 rfl rfl rfl ?_
          refine w_iload gz_148_104 rfl ?_
          refine w_ifeq (t := 134) gz_148_106 rfl (fun u23 => ?_) (fun u23 => by exfalso; omega)
          refine w_iconst gz_148_134 (by decide) ?_
          have c24 := (my_up_self fh1)
          exact w_bret gz_148_135 gm_148 (by omega) (by omega) (k0 h1 (gh1) (by omega) (by first | exact ⟨(show (0 ≤ x1 ∧ x1 ≤ 2 ∧ 0 < h 157 x1) ∧ (0 ≤ x2 ∧ x2 ≤ 19) ∧ (2 ≤ h 157 x1 → 0 ≤ x3 ∧ x3 ≤ 19) ∧ (3 ≤ h 157 x1 → 0 ≤ x4 ∧ x4 ≤ 19) ∧ (4 ≤ h 157 x1 → 0 ≤ x5 ∧ x5 ≤ 19) by omega), no.mpr (by omega), by omega, (Mlf_t T ma8 ot8.1).mp lf8⟩ | exact Mtk ot8.1 ot8.2 tk8 | exact (fun z => by have z1 : (0 ≤ x1 ∧ x1 ≤ 2 ∧ 0 < h 157 x1) ∧ (0 ≤ x2 ∧ x2 ≤ 19) ∧ (2 ≤ h 157 x1 → 0 ≤ x3 ∧ x3 ≤ 19) ∧ (3 ≤ h 157 x1 → 0 ≤ x4 ∧ x4 ≤ 19) ∧ (4 ≤ h 157 x1 → 0 ≤ x5 ∧ x5 ≤ 19) := z.1; omega) | exact (fun z => no.mp z.2.1 (by omega)) | exact (fun z => by have q := z.2.2.1; omega) | exact (fun z => lf8 ((Mlf_t T ma8 ot8.1).mpr z.2.2.2)) | exact OtT_0 b162 b163 | exact OtT_e ot8.2 tk8.1 tk8.2 | assumption | omega) (by first | exact ⟨(show (0 ≤ x1 ∧ x1 ≤ 2 ∧ 0 < h 157 x1) ∧ (0 ≤ x2 ∧ x2 ≤ 19) ∧ (2 ≤ h 157 x1 → 0 ≤ x3 ∧ x3 ≤ 19) ∧ (3 ≤ h 157 x1 → 0 ≤ x4 ∧ x4 ≤ 19) ∧ (4 ≤ h 157 x1 → 0 ≤ x5 ∧ x5 ≤ 19) by omega), no.mpr (by omega), by omega, (Mlf_t T ma8 ot8.1).mp lf8⟩ | exact Mtk ot8.1 ot8.2 tk8 | exact (fun z => by have z1 : (0 ≤ x1 ∧ x1 ≤ 2 ∧ 0 < h 157 x1) ∧ (0 ≤ x2 ∧ x2 ≤ 19) ∧ (2 ≤ h 157 x1 → 0 ≤ x3 ∧ x3 ≤ 19) ∧ (3 ≤ h 157 x1 → 0 ≤ x4 ∧ x4 ≤ 19) ∧ (4 ≤ h 157 x1 → 0 ≤ x5 ∧ x5 ≤ 19) := z.1; omega) | exact (fun z => no.mp z.2.1 (by omega)) | exact (fun z => by have q := z.2.2.1; omega) | exact (fun z => lf8 ((Mlf_t T ma8 ot8.1).mpr z.2.2.2)) | exact OtT_0 b162 b163 | exact OtT_e ot8.2 tk8.1 tk8.2 | assumption | omega) Rws_h1)
        ·
          refine w_iload_n gz_147_5 rfl ?_
          refine w_iload_n gz_147_6 rfl ?_
          refine w_icgt (t := 14) gz_147_7 rfl (fun u25 => ?_) (fun u25 => ?_)
          ·
            refine w_iconst gz_147_14 (by decide) ?_
            refine w_bret gz_147_15 gm_147 (by omega) (by omega) ?_
            show wp l rho (d + 5) 148 20 [(2, 151), (0, x1), (0, x2), (0, x3), (0, x4), (0, x5), (9, 0)] [(0, 0)] h1 Q
            refine w_ifeq (t := 27) gz_148_20 rfl (fun u26 => ?_) (fun u26 => by exfalso; omega)
            refine w_iconst gz_148_27 (by decide) ?_
            refine w_istore (ls' := [(2, 151), (0, x1), (0, x2), (0, x3), (0, x4), (0, x5), (0, 0)]) gz_148_28 gm_148 rfl rfl rfl ?_
            refine w_iload gz_148_30 rfl ?_
            refine w_ifeq (t := 101) gz_148_32 rfl (fun u27 => ?_) (fun u27 => by exfalso; omega)
            refine w_iconst gz_148_101 (by decide) ?_
            refine w_istore (ls' := [(2, 151), (0, x1), (0, x2), (0, x3), (0, x4), (0, x5), (0, 0)]) gz_148_102 gm_148 rfl rfl rfl ?_
            refine w_iload gz_148_104 rfl ?_
            refine w_ifeq (t := 134) gz_148_106 rfl (fun u28 => ?_) (fun u28 => by exfalso; omega)
            refine w_iconst gz_148_134 (by decide) ?_
            have c29 := (my_up_self fh1)
            exact w_bret gz_148_135 gm_148 (by omega) (by omega) (k0 h1 (gh1) (by omega) (by first | exact ⟨(show (0 ≤ x1 ∧ x1 ≤ 2 ∧ 0 < h 157 x1) ∧ (0 ≤ x2 ∧ x2 ≤ 19) ∧ (2 ≤ h 157 x1 → 0 ≤ x3 ∧ x3 ≤ 19) ∧ (3 ≤ h 157 x1 → 0 ≤ x4 ∧ x4 ≤ 19) ∧ (4 ≤ h 157 x1 → 0 ≤ x5 ∧ x5 ≤ 19) by omega), no.mpr (by omega), by omega, (Mlf_t T ma8 ot8.1).mp lf8⟩ | exact Mtk ot8.1 ot8.2 tk8 | exact (fun z => by have z1 : (0 ≤ x1 ∧ x1 ≤ 2 ∧ 0 < h 157 x1) ∧ (0 ≤ x2 ∧ x2 ≤ 19) ∧ (2 ≤ h 157 x1 → 0 ≤ x3 ∧ x3 ≤ 19) ∧ (3 ≤ h 157 x1 → 0 ≤ x4 ∧ x4 ≤ 19) ∧ (4 ≤ h 157 x1 → 0 ≤ x5 ∧ x5 ≤ 19) := z.1; omega) | exact (fun z => no.mp z.2.1 (by omega)) | exact (fun z => by have q := z.2.2.1; omega) | exact (fun z => lf8 ((Mlf_t T ma8 ot8.1).mpr z.2.2.2)) | exact OtT_0 b162 b163 | exact OtT_e ot8.2 tk8.1 tk8.2 | assumption | omega) (by first | exact ⟨(show (0 ≤ x1 ∧ x1 ≤ 2 ∧ 0 < h 157 x1) ∧ (0 ≤ x2 ∧ x2 ≤ 19) ∧ (2 ≤ h 157 x1 → 0 ≤ x3 ∧ x3 ≤ 19) ∧ (3 ≤ h 157 x1 → 0 ≤ x4 ∧ x4 ≤ 19) ∧ (4 ≤ h 157 x1 → 0 ≤ x5 ∧ x5 ≤ 19) by omega), no.mpr (by omega), by omega, (Mlf_t T ma8 ot8.1).mp lf8⟩ | exact Mtk ot8.1 ot8.2 tk8 | exact (fun z => by have z1 : (0 ≤ x1 ∧ x1 ≤ 2 ∧ 0 < h 157 x1) ∧ (0 ≤ x2 ∧ x2 ≤ 19) ∧ (2 ≤ h 157 x1 → 0 ≤ x3 ∧ x3 ≤ 19) ∧ (3 ≤ h 157 x1 → 0 ≤ x4 ∧ x4 ≤ 19) ∧ (4 ≤ h 157 x1 → 0 ≤ x5 ∧ x5 ≤ 19) := z.1; omega) | exact (fun z => no.mp z.2.1 (by omega)) | exact (fun z => by have q := z.2.2.1; omega) | exact (fun z => lf8 ((Mlf_t T ma8 ot8.1).mpr z.2.2.2)) | exact OtT_0 b162 b163 | exact OtT_e ot8.2 tk8.1 tk8.2 | assumption | omega) Rws_h1)
          ·
            refine w_iconst gz_147_10 (by decide) ?_
            refine w_goto (t := 15) gz_147_11 rfl ?_
            refine w_bret gz_147_15 gm_147 (by omega) (by omega) ?_
            show wp l rho (d + 5) 148 20 [(2, 151), (0, x1), (0, x2), (0, x3), (0, x4), (0, x5), (9, 0)] [(0, 1)] h1 Q
            refine w_ifeq (t := 27) gz_148_20 rfl (fun u30 => by exfalso; omega) (fun u30 => ?_)
            refine w_iconst gz_148_23 (by decide) ?_
            refine w_goto (t := 28) gz_148_24 rfl ?_
            refine w_istore (ls' := [(2, 151), (0, x1), (0, x2), (0, x3), (0, x4), (0, x5), (0, 1)]) gz_148_28 gm_148 rfl rfl rfl ?_
            refine w_iload gz_148_30 rfl ?_
            refine w_ifeq (t := 101) gz_148_32 rfl (fun u31 => by exfalso; omega) (fun u31 => ?_)
            refine w_aload_n gz_148_35 rfl ?_
            refine w_getX (v := 157) gz_148_36 is_151 rd_10 rfl (by decide) rfl ?_
            refine w_iload_n gz_148_39 rfl ?_
            refine w_iald gz_148_40 is_157 rd_56 (by omega) (by omega) (fun v33 ev33 pv33 qv33 => ?_)
            have zv33 := ev33.trans ev13.symm
            refine w_iconst gz_148_41 (by decide) ?_
            refine w_iclt (t := 55) gz_148_42 rfl (fun u34 => ?_) (fun u34 => ?_)
            ·
              refine w_aload_n gz_148_55 rfl ?_
              refine w_getX (v := 157) gz_148_56 is_151 rd_10 rfl (by decide) rfl ?_
              refine w_iload_n gz_148_59 rfl ?_
              refine w_iald gz_148_60 is_157 rd_56 (by omega) (by omega) (fun v36 ev36 pv36 qv36 => ?_)
              have zv36 := ev36.trans ev33.symm
              refine w_iconst gz_148_61 (by decide) ?_
              refine w_iclt (t := 76) gz_148_62 rfl (fun u37 => ?_) (fun u37 => by exfalso; omega)
              refine w_aload_n gz_148_76 rfl ?_
              refine w_getX (v := 157) gz_148_77 is_151 rd_10 rfl (by decide) rfl ?_
              refine w_iload_n gz_148_80 rfl ?_
              refine w_iald gz_148_81 is_157 rd_56 (by omega) (by omega) (fun v39 ev39 pv39 qv39 => ?_)
              have zv39 := ev39.trans ev36.symm
              refine w_iconst gz_148_82 (by decide) ?_
              refine w_iclt (t := 97) gz_148_83 rfl (fun u40 => ?_) (fun u40 => by exfalso; omega)
              refine w_iconst gz_148_97 (by decide) ?_
              refine w_goto (t := 102) gz_148_98 rfl ?_
              refine w_istore (ls' := [(2, 151), (0, x1), (0, x2), (0, x3), (0, x4), (0, x5), (0, 1)]) gz_148_102 gm_148 rfl rfl rfl ?_
              refine w_iload gz_148_104 rfl ?_
              refine w_ifeq (t := 134) gz_148_106 rfl (fun u41 => by exfalso; omega) (fun u41 => ?_)
              refine w_aload_n gz_148_109 rfl ?_
              refine w_getX (v := 162) gz_148_110 is_151 rd_10 rfl (by decide) rfl ?_
              refine w_iconst gz_148_113 (by decide) ?_
              refine w_iload_n gz_148_114 rfl ?_
              refine w_iload_n gz_148_115 rfl ?_
              refine w_inS (k := 0) (as := [(0, x2), (0, x1), (0, 0)]) (r := [(2, 162)]) (ls0 := [(0, 0), (0, x1), (0, x2)]) gz_148_116 gm_150 rfl rfl rfl rfl rfl rfl ?_
              refine w_bipush gz_150_0 (by decide) ?_
              refine w_iload_n gz_150_2 rfl ?_
              refine w_imul gz_150_3 ⟨by omega, by omega⟩ ?_
              refine w_bipush gz_150_4 (by decide) ?_
              refine w_iload_n gz_150_6 rfl ?_
              refine w_imul gz_150_7 ⟨by omega, by omega⟩ ?_
              refine w_iadd gz_150_8 ⟨by omega, by omega⟩ ?_
              refine w_iload_n gz_150_9 rfl ?_
              refine w_iadd gz_150_10 ⟨by omega, by omega⟩ ?_
              refine w_iret gz_150_11 gm_150 ?_
              show wp l rho (d + 5) 148 119 [(2, 151), (0, x1), (0, x2), (0, x3), (0, x4), (0, x5), (0, 1)] [(0, (((60 * 0) + (20 * x1)) + x2)), (2, 162)] h1 Q
              have n162 := b162 (60 * 0 + 20 * x1 + x2)
              have no := MS_n (k := x2) T (s := 0) (by omega) (by omega) (w := x1) (by omega) (by omega) (by omega) (by omega)
              refine w_bald gz_148_119 is_162 rd_61 (by omega) (by omega) (fun v43 ev43 pv43 qv43 => ?_)
              refine w_ifne (t := 134) gz_148_120 rfl (fun u44 => ?_) (fun u44 => ?_)
              ·
                refine w_iconst gz_148_134 (by decide) ?_
                have c45 := (my_up_self fh1)
                exact w_bret gz_148_135 gm_148 (by omega) (by omega) (k0 h1 (gh1) (by omega) (by first | exact ⟨(show (0 ≤ x1 ∧ x1 ≤ 2 ∧ 0 < h 157 x1) ∧ (0 ≤ x2 ∧ x2 ≤ 19) ∧ (2 ≤ h 157 x1 → 0 ≤ x3 ∧ x3 ≤ 19) ∧ (3 ≤ h 157 x1 → 0 ≤ x4 ∧ x4 ≤ 19) ∧ (4 ≤ h 157 x1 → 0 ≤ x5 ∧ x5 ≤ 19) by omega), no.mpr (by omega), by omega, (Mlf_t T ma8 ot8.1).mp lf8⟩ | exact Mtk ot8.1 ot8.2 tk8 | exact (fun z => by have z1 : (0 ≤ x1 ∧ x1 ≤ 2 ∧ 0 < h 157 x1) ∧ (0 ≤ x2 ∧ x2 ≤ 19) ∧ (2 ≤ h 157 x1 → 0 ≤ x3 ∧ x3 ≤ 19) ∧ (3 ≤ h 157 x1 → 0 ≤ x4 ∧ x4 ≤ 19) ∧ (4 ≤ h 157 x1 → 0 ≤ x5 ∧ x5 ≤ 19) := z.1; omega) | exact (fun z => no.mp z.2.1 (by omega)) | exact (fun z => by have q := z.2.2.1; omega) | exact (fun z => lf8 ((Mlf_t T ma8 ot8.1).mpr z.2.2.2)) | exact OtT_0 b162 b163 | exact OtT_e ot8.2 tk8.1 tk8.2 | assumption | omega) (by first | exact ⟨(show (0 ≤ x1 ∧ x1 ≤ 2 ∧ 0 < h 157 x1) ∧ (0 ≤ x2 ∧ x2 ≤ 19) ∧ (2 ≤ h 157 x1 → 0 ≤ x3 ∧ x3 ≤ 19) ∧ (3 ≤ h 157 x1 → 0 ≤ x4 ∧ x4 ≤ 19) ∧ (4 ≤ h 157 x1 → 0 ≤ x5 ∧ x5 ≤ 19) by omega), no.mpr (by omega), by omega, (Mlf_t T ma8 ot8.1).mp lf8⟩ | exact Mtk ot8.1 ot8.2 tk8 | exact (fun z => by have z1 : (0 ≤ x1 ∧ x1 ≤ 2 ∧ 0 < h 157 x1) ∧ (0 ≤ x2 ∧ x2 ≤ 19) ∧ (2 ≤ h 157 x1 → 0 ≤ x3 ∧ x3 ≤ 19) ∧ (3 ≤ h 157 x1 → 0 ≤ x4 ∧ x4 ≤ 19) ∧ (4 ≤ h 157 x1 → 0 ≤ x5 ∧ x5 ≤ 19) := z.1; omega) | exact (fun z => no.mp z.2.1 (by omega)) | exact (fun z => by have q := z.2.2.1; omega) | exact (fun z => lf8 ((Mlf_t T ma8 ot8.1).mpr z.2.2.2)) | exact OtT_0 b162 b163 | exact OtT_e ot8.2 tk8.1 tk8.2 | assumption | omega) Rws_h1)
              ·
                refine w_aload_n gz_148_123 rfl ?_
                refine w_iconst gz_148_124 (by decide) ?_
                refine w_iload_n gz_148_125 rfl ?_
                refine w_inv (k := 2) (as := [(0, x1), (0, 0)]) (r := []) (x := 151) (ls0 := [(2, 151), (0, 0), (0, x1), (9, 0), (9, 0)]) gz_148_126 gm_151 rfl is_151 rd_10 rfl rfl rfl rfl rfl (c_Model_rowsOf2 (d := (d + 3)) (x1 := 0) (x2 := x1) (by omega) (by omega) (by omega) (by omega) (fun v46 w47 w48 xp49 => ?_))
                show wp l rho (d + 5) 148 129 [(2, 151), (0, x1), (0, x2), (0, x3), (0, x4), (0, x5), (0, 1)] [(0, v46)] h1 Q
                have ry := xp49
                have rb := (Rws_h1) 0 x1 (by omega) (by omega) (by omega) (by omega)
                have cn8 := (ry.trans (rc_cg9 b162 20)).trans (rc_Cn T (by omega) (by omega) (by omega) (by omega) 20 (by omega))
                refine w_bipush gz_148_129 (by decide) ?_
                refine w_icne (t := 136) gz_148_131 rfl (fun u50 => ?_) (fun u50 => ?_)
                ·
                  refine w_aload_n gz_148_136 rfl ?_
                  refine w_iconst gz_148_137 (by decide) ?_
                  refine w_iconst gz_148_138 (by decide) ?_
                  refine w_inv (k := 1) (as := [(0, 5), (0, 0)]) (r := []) (x := 151) (ls0 := [(2, 151), (0, 0), (0, 5), (9, 0)]) gz_148_139 gm_152 rfl is_151 rd_10 rfl rfl rfl rfl rfl (c_Model_copies5 (d := (d + 4)) (x1 := 0) (x2 := 5) (by omega) (by omega) (by omega) (by omega) Rws_h1 (fun h51 frh51 xp52 xp53 Rws_h51t54 => ?_))
                  have gh51 : my_fr [(10, 0), (61, -1), (62, -1)] h h51 := my_fr.tr gh1 (frh51.mo rfl)
                  show wp l rho (d + 5) 148 142 [(2, 151), (0, x1), (0, x2), (0, x3), (0, x4), (0, x5), (0, 1)] [] h51 Q
                  have cpx := xp52
                  have cp8 := xp52
                  have cq8 := xp53
                  refine w_aload_n gz_148_142 rfl ?_
                  refine w_iconst gz_148_143 (by decide) ?_
                  refine w_iload_n gz_148_144 rfl ?_
                  refine w_iload_n gz_148_145 rfl ?_
                  refine w_aload_n gz_148_146 rfl ?_
                  refine w_getX (v := 157) gz_148_147 is_151 rd_10 rfl (by decide) rfl ?_
                  refine w_iload_n gz_148_150 rfl ?_
                  refine w_iald gz_148_151 is_157 rd_56 (by omega) (by omega) (fun v56 ev56 pv56 qv56 => ?_)
                  have zv56 := ev56.trans ((my_fr.at frh51 is_157 rfl).trans ev39.symm)
                  refine w_iconst gz_148_152 (by decide) ?_
                  refine w_icge (t := 160) gz_148_153 rfl (fun u57 => by exfalso; omega) (fun u57 => ?_)
                  refine w_iconst gz_148_156 (by decide) ?_
                  refine w_goto (t := 161) gz_148_157 rfl ?_
                  refine w_aload_n gz_148_161 rfl ?_
                  refine w_getX (v := 157) gz_148_162 is_151 rd_10 rfl (by decide) rfl ?_
                  refine w_iload_n gz_148_165 rfl ?_
                  refine w_iald gz_148_166 is_157 rd_56 (by omega) (by omega) (fun v59 ev59 pv59 qv59 => ?_)
                  have zv59 := ev59.trans ev56.symm
                  refine w_iconst gz_148_167 (by decide) ?_
                  refine w_icge (t := 175) gz_148_168 rfl (fun u60 => by exfalso; omega) (fun u60 => ?_)
                  refine w_iconst gz_148_171 (by decide) ?_
                  refine w_goto (t := 177) gz_148_172 rfl ?_
                  refine w_aload_n gz_148_177 rfl ?_
                  refine w_getX (v := 157) gz_148_178 is_151 rd_10 rfl (by decide) rfl ?_
                  refine w_iload_n gz_148_181 rfl ?_
                  refine w_iald gz_148_182 is_157 rd_56 (by omega) (by omega) (fun v62 ev62 pv62 qv62 => ?_)
                  have zv62 := ev62.trans ev59.symm
                  refine w_iconst gz_148_183 (by decide) ?_
                  refine w_icge (t := 191) gz_148_184 rfl (fun u63 => by exfalso; omega) (fun u63 => ?_)
                  refine w_iconst gz_148_187 (by decide) ?_
                  refine w_goto (t := 193) gz_148_188 rfl ?_
                  have d157 : ∀ j : Int, h51 157 j = h 157 j := fun j => ((my_fr.at frh51 is_157 rfl).trans ((my_up_role fh1 is_157 is_151 rfl).trans (rfl : h 157 j = h 157 j)))
                  have n2 := d157 x1
                  refine w_inv (k := 1) (as := [(0, 0), (0, 0), (0, 0), (0, x2), (0, x1), (0, 5)]) (r := []) (x := 151) (ls0 := [(2, 151), (0, 5), (0, x1), (0, x2), (0, 0), (0, 0), (0, 0), (9, 0)]) gz_148_193 gm_153 rfl is_151 rd_10 rfl rfl rfl rfl rfl (c_Model_lays5 (d := (d + 3)) (x1 := 5) (x2 := x1) (x3 := x2) (x4 := 0) (x5 := 0) (x6 := 0) (by omega) (by omega) (by omega) (by omega) (by omega) (by omega) (by omega) (by omega) (by omega) (by omega) (by omega) (by omega) Rws_h51t54 (by rw [rc_Cp cpx (by omega) (by omega)]; omega) (fun h64 frh64 xp65 Rws_h64t66 => ?_))
                  have gh64 : my_fr [(10, 0), (61, -1), (62, -1)] h h64 := my_fr.tr gh51 (frh64.mo rfl)
                  show wp l rho (d + 5) 148 196 [(2, 151), (0, x1), (0, x2), (0, x3), (0, x4), (0, x5), (0, 1)] [] h64 Q
                  have ot8 := Mrow_t (b := x3) (c := x4) (d := x5) (m := h 157 x1) cp8 cq8 b162 b163 xp65 (by omega) (by omega) (by omega) (by omega) (by omega) rfl (by omega) (by omega) (by omega)
                  refine w_aload_n gz_148_196 rfl ?_
                  have ma8 : zqMA h64 = zqMA h := zqMA_e (fun j => my_fr.at gh64 pis_157 rfl) (fun j => my_fr.at gh64 pis_158 rfl) (fun j => my_fr.at gh64 pis_159 rfl) (fun j => my_fr.at gh64 pis_160 rfl) (fun j => my_fr.at gh64 pis_161 rfl)
                  refine w_inv (k := 0) (as := []) (r := []) (x := 151) (ls0 := [(2, 151)]) gz_148_197 gm_154 rfl is_151 rd_10 rfl rfl rfl rfl rfl (c_Model_takes5 (d := d)  Rws_h64t66 (fun h67 frh67 xp68 xp69 Rws_h67t70 => ?_) (fun h71 frh71 xp72 xp73 Rws_h71t74 => ?_))
                  ·
                    have gh67 : my_fr [(10, 0), (61, -1), (62, -1)] h h67 := my_fr.tr gh64 (frh67.mo rfl)
                    show wp l rho (d + 5) 148 200 [(2, 151), (0, x1), (0, x2), (0, x3), (0, x4), (0, x5), (0, 1)] [(0, 0)] h67 Q
                    have lf8 := xp68
                    have tk8 := xp69
                    have c75 := ((my_fr.at frh67 is_151 rfl).trans ((my_fr.at frh64 is_151 rfl).trans ((my_fr.at frh51 is_151 rfl).trans (my_up_self fh1))))
                    exact w_bret gz_148_200 gm_148 (by omega) (by omega) (k0 h67 (gh67) (by omega) (by first | exact ⟨(show (0 ≤ x1 ∧ x1 ≤ 2 ∧ 0 < h 157 x1) ∧ (0 ≤ x2 ∧ x2 ≤ 19) ∧ (2 ≤ h 157 x1 → 0 ≤ x3 ∧ x3 ≤ 19) ∧ (3 ≤ h 157 x1 → 0 ≤ x4 ∧ x4 ≤ 19) ∧ (4 ≤ h 157 x1 → 0 ≤ x5 ∧ x5 ≤ 19) by omega), no.mpr (by omega), by omega, (Mlf_t T ma8 ot8.1).mp lf8⟩ | exact Mtk ot8.1 ot8.2 tk8 | exact (fun z => by have z1 : (0 ≤ x1 ∧ x1 ≤ 2 ∧ 0 < h 157 x1) ∧ (0 ≤ x2 ∧ x2 ≤ 19) ∧ (2 ≤ h 157 x1 → 0 ≤ x3 ∧ x3 ≤ 19) ∧ (3 ≤ h 157 x1 → 0 ≤ x4 ∧ x4 ≤ 19) ∧ (4 ≤ h 157 x1 → 0 ≤ x5 ∧ x5 ≤ 19) := z.1; omega) | exact (fun z => no.mp z.2.1 (by omega)) | exact (fun z => by have q := z.2.2.1; omega) | exact (fun z => lf8 ((Mlf_t T ma8 ot8.1).mpr z.2.2.2)) | exact OtT_0 b162 b163 | exact OtT_e ot8.2 tk8.1 tk8.2 | assumption | omega) (by first | exact ⟨(show (0 ≤ x1 ∧ x1 ≤ 2 ∧ 0 < h 157 x1) ∧ (0 ≤ x2 ∧ x2 ≤ 19) ∧ (2 ≤ h 157 x1 → 0 ≤ x3 ∧ x3 ≤ 19) ∧ (3 ≤ h 157 x1 → 0 ≤ x4 ∧ x4 ≤ 19) ∧ (4 ≤ h 157 x1 → 0 ≤ x5 ∧ x5 ≤ 19) by omega), no.mpr (by omega), by omega, (Mlf_t T ma8 ot8.1).mp lf8⟩ | exact Mtk ot8.1 ot8.2 tk8 | exact (fun z => by have z1 : (0 ≤ x1 ∧ x1 ≤ 2 ∧ 0 < h 157 x1) ∧ (0 ≤ x2 ∧ x2 ≤ 19) ∧ (2 ≤ h 157 x1 → 0 ≤ x3 ∧ x3 ≤ 19) ∧ (3 ≤ h 157 x1 → 0 ≤ x4 ∧ x4 ≤ 19) ∧ (4 ≤ h 157 x1 → 0 ≤ x5 ∧ x5 ≤ 19) := z.1; omega) | exact (fun z => no.mp z.2.1 (by omega)) | exact (fun z => by have q := z.2.2.1; omega) | exact (fun z => lf8 ((Mlf_t T ma8 ot8.1).mpr z.2.2.2)) | exact OtT_0 b162 b163 | exact OtT_e ot8.2 tk8.1 tk8.2 | assumption | omega) Rws_h67t70)
                  ·
                    have gh71 : my_fr [(10, 0), (61, -1), (62, -1)] h h71 := my_fr.tr gh64 (frh71.mo rfl)
                    show wp l rho (d + 5) 148 200 [(2, 151), (0, x1), (0, x2), (0, x3), (0, x4), (0, x5), (0, 1)] [(0, 1)] h71 Q
                    have lf8 := xp72
                    have tk8 := xp73
                    have c76 := ((my_fr.at frh71 is_151 rfl).trans ((my_fr.at frh64 is_151 rfl).trans ((my_fr.at frh51 is_151 rfl).trans (my_up_self fh1))))
                    exact w_bret gz_148_200 gm_148 (by omega) (by omega) (k1 h71 (gh71) (by omega) (by omega) (by omega) (by omega) (by omega) (by first | exact ⟨(show (0 ≤ x1 ∧ x1 ≤ 2 ∧ 0 < h 157 x1) ∧ (0 ≤ x2 ∧ x2 ≤ 19) ∧ (2 ≤ h 157 x1 → 0 ≤ x3 ∧ x3 ≤ 19) ∧ (3 ≤ h 157 x1 → 0 ≤ x4 ∧ x4 ≤ 19) ∧ (4 ≤ h 157 x1 → 0 ≤ x5 ∧ x5 ≤ 19) by omega), no.mpr (by omega), by omega, (Mlf_t T ma8 ot8.1).mp lf8⟩ | exact Mtk ot8.1 ot8.2 tk8 | exact (fun z => by have z1 : (0 ≤ x1 ∧ x1 ≤ 2 ∧ 0 < h 157 x1) ∧ (0 ≤ x2 ∧ x2 ≤ 19) ∧ (2 ≤ h 157 x1 → 0 ≤ x3 ∧ x3 ≤ 19) ∧ (3 ≤ h 157 x1 → 0 ≤ x4 ∧ x4 ≤ 19) ∧ (4 ≤ h 157 x1 → 0 ≤ x5 ∧ x5 ≤ 19) := z.1; omega) | exact (fun z => no.mp z.2.1 (by omega)) | exact (fun z => by have q := z.2.2.1; omega) | exact (fun z => lf8 ((Mlf_t T ma8 ot8.1).mpr z.2.2.2)) | exact OtT_0 b162 b163 | exact OtT_e ot8.2 tk8.1 tk8.2 | assumption | omega) (by first | exact ⟨(show (0 ≤ x1 ∧ x1 ≤ 2 ∧ 0 < h 157 x1) ∧ (0 ≤ x2 ∧ x2 ≤ 19) ∧ (2 ≤ h 157 x1 → 0 ≤ x3 ∧ x3 ≤ 19) ∧ (3 ≤ h 157 x1 → 0 ≤ x4 ∧ x4 ≤ 19) ∧ (4 ≤ h 157 x1 → 0 ≤ x5 ∧ x5 ≤ 19) by omega), no.mpr (by omega), by omega, (Mlf_t T ma8 ot8.1).mp lf8⟩ | exact Mtk ot8.1 ot8.2 tk8 | exact (fun z => by have z1 : (0 ≤ x1 ∧ x1 ≤ 2 ∧ 0 < h 157 x1) ∧ (0 ≤ x2 ∧ x2 ≤ 19) ∧ (2 ≤ h 157 x1 → 0 ≤ x3 ∧ x3 ≤ 19) ∧ (3 ≤ h 157 x1 → 0 ≤ x4 ∧ x4 ≤ 19) ∧ (4 ≤ h 157 x1 → 0 ≤ x5 ∧ x5 ≤ 19) := z.1; omega) | exact (fun z => no.mp z.2.1 (by omega)) | exact (fun z => by have q := z.2.2.1; omega) | exact (fun z => lf8 ((Mlf_t T ma8 ot8.1).mpr z.2.2.2)) | exact OtT_0 b162 b163 | exact OtT_e ot8.2 tk8.1 tk8.2 | assumption | omega) Rws_h71t74)
                ·
                  refine w_iconst gz_148_134 (by decide) ?_
                  have c77 := (my_up_self fh1)
                  exact w_bret gz_148_135 gm_148 (by omega) (by omega) (k0 h1 (gh1) (by omega) (by first | exact ⟨(show (0 ≤ x1 ∧ x1 ≤ 2 ∧ 0 < h 157 x1) ∧ (0 ≤ x2 ∧ x2 ≤ 19) ∧ (2 ≤ h 157 x1 → 0 ≤ x3 ∧ x3 ≤ 19) ∧ (3 ≤ h 157 x1 → 0 ≤ x4 ∧ x4 ≤ 19) ∧ (4 ≤ h 157 x1 → 0 ≤ x5 ∧ x5 ≤ 19) by omega), no.mpr (by omega), by omega, (Mlf_t T ma8 ot8.1).mp lf8⟩ | exact Mtk ot8.1 ot8.2 tk8 | exact (fun z => by have z1 : (0 ≤ x1 ∧ x1 ≤ 2 ∧ 0 < h 157 x1) ∧ (0 ≤ x2 ∧ x2 ≤ 19) ∧ (2 ≤ h 157 x1 → 0 ≤ x3 ∧ x3 ≤ 19) ∧ (3 ≤ h 157 x1 → 0 ≤ x4 ∧ x4 ≤ 19) ∧ (4 ≤ h 157 x1 → 0 ≤ x5 ∧ x5 ≤ 19) := z.1; omega) | exact (fun z => no.mp z.2.1 (by omega)) | exact (fun z => by have q := z.2.2.1; omega) | exact (fun z => lf8 ((Mlf_t T ma8 ot8.1).mpr z.2.2.2)) | exact OtT_0 b162 b163 | exact OtT_e ot8.2 tk8.1 tk8.2 | assumption | omega) (by first | exact ⟨(show (0 ≤ x1 ∧ x1 ≤ 2 ∧ 0 < h 157 x1) ∧ (0 ≤ x2 ∧ x2 ≤ 19) ∧ (2 ≤ h 157 x1 → 0 ≤ x3 ∧ x3 ≤ 19) ∧ (3 ≤ h 157 x1 → 0 ≤ x4 ∧ x4 ≤ 19) ∧ (4 ≤ h 157 x1 → 0 ≤ x5 ∧ x5 ≤ 19) by omega), no.mpr (by omega), by omega, (Mlf_t T ma8 ot8.1).mp lf8⟩ | exact Mtk ot8.1 ot8.2 tk8 | exact (fun z => by have z1 : (0 ≤ x1 ∧ x1 ≤ 2 ∧ 0 < h 157 x1) ∧ (0 ≤ x2 ∧ x2 ≤ 19) ∧ (2 ≤ h 157 x1 → 0 ≤ x3 ∧ x3 ≤ 19) ∧ (3 ≤ h 157 x1 → 0 ≤ x4 ∧ x4 ≤ 19) ∧ (4 ≤ h 157 x1 → 0 ≤ x5 ∧ x5 ≤ 19) := z.1; omega) | exact (fun z => no.mp z.2.1 (by omega)) | exact (fun z => by have q := z.2.2.1; omega) | exact (fun z => lf8 ((Mlf_t T ma8 ot8.1).mpr z.2.2.2)) | exact OtT_0 b162 b163 | exact OtT_e ot8.2 tk8.1 tk8.2 | assumption | omega) Rws_h1)
            ·
              refine w_iload_n gz_148_45 rfl ?_
              refine w_iconst gz_148_46 (by decide) ?_
              refine w_bipush gz_148_47 (by decide) ?_
              refine w_inS (k := 0) (as := [(0, 19), (0, 0), (0, x3)]) (r := []) (ls0 := [(0, x3), (0, 0), (0, 19)]) gz_148_49 gm_147 rfl rfl rfl rfl rfl rfl ?_
              refine w_iload_n gz_147_0 rfl ?_
              refine w_iload_n gz_147_1 rfl ?_
              refine w_iclt (t := 14) gz_147_2 rfl (fun u78 => ?_) (fun u78 => ?_)
              ·
                refine w_iconst gz_147_14 (by decide) ?_
                refine w_bret gz_147_15 gm_147 (by omega) (by omega) ?_
                show wp l rho (d + 5) 148 52 [(2, 151), (0, x1), (0, x2), (0, x3), (0, x4), (0, x5), (0, 1)] [(0, 0)] h1 Q
                refine w_ifeq (t := 101) gz_148_52 rfl (fun u79 => ?_) (fun u79 => by exfalso; omega)
                refine w_iconst gz_148_101 (by decide) ?_
                refine w_istore (ls' := [(2, 151), (0, x1), (0, x2), (0, x3), (0, x4), (0, x5), (0, 0)]) gz_148_102 gm_148 rfl rfl rfl ?_
                refine w_iload gz_148_104 rfl ?_
                refine w_ifeq (t := 134) gz_148_106 rfl (fun u80 => ?_) (fun u80 => by exfalso; omega)
                refine w_iconst gz_148_134 (by decide) ?_
                have c81 := (my_up_self fh1)
                exact w_bret gz_148_135 gm_148 (by omega) (by omega) (k0 h1 (gh1) (by omega) (by first | exact ⟨(show (0 ≤ x1 ∧ x1 ≤ 2 ∧ 0 < h 157 x1) ∧ (0 ≤ x2 ∧ x2 ≤ 19) ∧ (2 ≤ h 157 x1 → 0 ≤ x3 ∧ x3 ≤ 19) ∧ (3 ≤ h 157 x1 → 0 ≤ x4 ∧ x4 ≤ 19) ∧ (4 ≤ h 157 x1 → 0 ≤ x5 ∧ x5 ≤ 19) by omega), no.mpr (by omega), by omega, (Mlf_t T ma8 ot8.1).mp lf8⟩ | exact Mtk ot8.1 ot8.2 tk8 | exact (fun z => by have z1 : (0 ≤ x1 ∧ x1 ≤ 2 ∧ 0 < h 157 x1) ∧ (0 ≤ x2 ∧ x2 ≤ 19) ∧ (2 ≤ h 157 x1 → 0 ≤ x3 ∧ x3 ≤ 19) ∧ (3 ≤ h 157 x1 → 0 ≤ x4 ∧ x4 ≤ 19) ∧ (4 ≤ h 157 x1 → 0 ≤ x5 ∧ x5 ≤ 19) := z.1; omega) | exact (fun z => no.mp z.2.1 (by omega)) | exact (fun z => by have q := z.2.2.1; omega) | exact (fun z => lf8 ((Mlf_t T ma8 ot8.1).mpr z.2.2.2)) | exact OtT_0 b162 b163 | exact OtT_e ot8.2 tk8.1 tk8.2 | assumption | omega) (by first | exact ⟨(show (0 ≤ x1 ∧ x1 ≤ 2 ∧ 0 < h 157 x1) ∧ (0 ≤ x2 ∧ x2 ≤ 19) ∧ (2 ≤ h 157 x1 → 0 ≤ x3 ∧ x3 ≤ 19) ∧ (3 ≤ h 157 x1 → 0 ≤ x4 ∧ x4 ≤ 19) ∧ (4 ≤ h 157 x1 → 0 ≤ x5 ∧ x5 ≤ 19) by omega), no.mpr (by omega), by omega, (Mlf_t T ma8 ot8.1).mp lf8⟩ | exact Mtk ot8.1 ot8.2 tk8 | exact (fun z => by have z1 : (0 ≤ x1 ∧ x1 ≤ 2 ∧ 0 < h 157 x1) ∧ (0 ≤ x2 ∧ x2 ≤ 19) ∧ (2 ≤ h 157 x1 → 0 ≤ x3 ∧ x3 ≤ 19) ∧ (3 ≤ h 157 x1 → 0 ≤ x4 ∧ x4 ≤ 19) ∧ (4 ≤ h 157 x1 → 0 ≤ x5 ∧ x5 ≤ 19) := z.1; omega) | exact (fun z => no.mp z.2.1 (by omega)) | exact (fun z => by have q := z.2.2.1; omega) | exact (fun z => lf8 ((Mlf_t T ma8 ot8.1).mpr z.2.2.2)) | exact OtT_0 b162 b163 | exact OtT_e ot8.2 tk8.1 tk8.2 | assumption | omega) Rws_h1)
              ·
                refine w_iload_n gz_147_5 rfl ?_
                refine w_iload_n gz_147_6 rfl ?_
                refine w_icgt (t := 14) gz_147_7 rfl (fun u82 => ?_) (fun u82 => ?_)
                ·
                  refine w_iconst gz_147_14 (by decide) ?_
                  refine w_bret gz_147_15 gm_147 (by omega) (by omega) ?_
                  show wp l rho (d + 5) 148 52 [(2, 151), (0, x1), (0, x2), (0, x3), (0, x4), (0, x5), (0, 1)] [(0, 0)] h1 Q
                  refine w_ifeq (t := 101) gz_148_52 rfl (fun u83 => ?_) (fun u83 => by exfalso; omega)
                  refine w_iconst gz_148_101 (by decide) ?_
                  refine w_istore (ls' := [(2, 151), (0, x1), (0, x2), (0, x3), (0, x4), (0, x5), (0, 0)]) gz_148_102 gm_148 rfl rfl rfl ?_
                  refine w_iload gz_148_104 rfl ?_
                  refine w_ifeq (t := 134) gz_148_106 rfl (fun u84 => ?_) (fun u84 => by exfalso; omega)
                  refine w_iconst gz_148_134 (by decide) ?_
                  have c85 := (my_up_self fh1)
                  exact w_bret gz_148_135 gm_148 (by omega) (by omega) (k0 h1 (gh1) (by omega) (by first | exact ⟨(show (0 ≤ x1 ∧ x1 ≤ 2 ∧ 0 < h 157 x1) ∧ (0 ≤ x2 ∧ x2 ≤ 19) ∧ (2 ≤ h 157 x1 → 0 ≤ x3 ∧ x3 ≤ 19) ∧ (3 ≤ h 157 x1 → 0 ≤ x4 ∧ x4 ≤ 19) ∧ (4 ≤ h 157 x1 → 0 ≤ x5 ∧ x5 ≤ 19) by omega), no.mpr (by omega), by omega, (Mlf_t T ma8 ot8.1).mp lf8⟩ | exact Mtk ot8.1 ot8.2 tk8 | exact (fun z => by have z1 : (0 ≤ x1 ∧ x1 ≤ 2 ∧ 0 < h 157 x1) ∧ (0 ≤ x2 ∧ x2 ≤ 19) ∧ (2 ≤ h 157 x1 → 0 ≤ x3 ∧ x3 ≤ 19) ∧ (3 ≤ h 157 x1 → 0 ≤ x4 ∧ x4 ≤ 19) ∧ (4 ≤ h 157 x1 → 0 ≤ x5 ∧ x5 ≤ 19) := z.1; omega) | exact (fun z => no.mp z.2.1 (by omega)) | exact (fun z => by have q := z.2.2.1; omega) | exact (fun z => lf8 ((Mlf_t T ma8 ot8.1).mpr z.2.2.2)) | exact OtT_0 b162 b163 | exact OtT_e ot8.2 tk8.1 tk8.2 | assumption | omega) (by first | exact ⟨(show (0 ≤ x1 ∧ x1 ≤ 2 ∧ 0 < h 157 x1) ∧ (0 ≤ x2 ∧ x2 ≤ 19) ∧ (2 ≤ h 157 x1 → 0 ≤ x3 ∧ x3 ≤ 19) ∧ (3 ≤ h 157 x1 → 0 ≤ x4 ∧ x4 ≤ 19) ∧ (4 ≤ h 157 x1 → 0 ≤ x5 ∧ x5 ≤ 19) by omega), no.mpr (by omega), by omega, (Mlf_t T ma8 ot8.1).mp lf8⟩ | exact Mtk ot8.1 ot8.2 tk8 | exact (fun z => by have z1 : (0 ≤ x1 ∧ x1 ≤ 2 ∧ 0 < h 157 x1) ∧ (0 ≤ x2 ∧ x2 ≤ 19) ∧ (2 ≤ h 157 x1 → 0 ≤ x3 ∧ x3 ≤ 19) ∧ (3 ≤ h 157 x1 → 0 ≤ x4 ∧ x4 ≤ 19) ∧ (4 ≤ h 157 x1 → 0 ≤ x5 ∧ x5 ≤ 19) := z.1; omega) | exact (fun z => no.mp z.2.1 (by omega)) | exact (fun z => by have q := z.2.2.1; omega) | exact (fun z => lf8 ((Mlf_t T ma8 ot8.1).mpr z.2.2.2)) | exact OtT_0 b162 b163 | exact OtT_e ot8.2 tk8.1 tk8.2 | assumption | omega) Rws_h1)
                ·
                  refine w_iconst gz_147_10 (by decide) ?_
                  refine w_goto (t := 15) gz_147_11 rfl ?_
                  refine w_bret gz_147_15 gm_147 (by omega) (by omega) ?_
                  show wp l rho (d + 5) 148 52 [(2, 151), (0, x1), (0, x2), (0, x3), (0, x4), (0, x5), (0, 1)] [(0, 1)] h1 Q
                  refine w_ifeq (t := 101) gz_148_52 rfl (fun u86 => by exfalso; omega) (fun u86 => ?_)
                  refine w_aload_n gz_148_55 rfl ?_
                  refine w_getX (v := 157) gz_148_56 is_151 rd_10 rfl (by decide) rfl ?_
                  refine w_iload_n gz_148_59 rfl ?_
                  refine w_iald gz_148_60 is_157 rd_56 (by omega) (by omega) (fun v88 ev88 pv88 qv88 => ?_)
                  have zv88 := ev88.trans ev33.symm
                  refine w_iconst gz_148_61 (by decide) ?_
                  refine w_iclt (t := 76) gz_148_62 rfl (fun u89 => ?_) (fun u89 => ?_)
                  ·
                    refine w_aload_n gz_148_76 rfl ?_
                    refine w_getX (v := 157) gz_148_77 is_151 rd_10 rfl (by decide) rfl ?_
                    refine w_iload_n gz_148_80 rfl ?_
                    refine w_iald gz_148_81 is_157 rd_56 (by omega) (by omega) (fun v91 ev91 pv91 qv91 => ?_)
                    have zv91 := ev91.trans ev88.symm
                    refine w_iconst gz_148_82 (by decide) ?_
                    refine w_iclt (t := 97) gz_148_83 rfl (fun u92 => ?_) (fun u92 => by exfalso; omega)
                    refine w_iconst gz_148_97 (by decide) ?_
                    refine w_goto (t := 102) gz_148_98 rfl ?_
                    refine w_istore (ls' := [(2, 151), (0, x1), (0, x2), (0, x3), (0, x4), (0, x5), (0, 1)]) gz_148_102 gm_148 rfl rfl rfl ?_
                    refine w_iload gz_148_104 rfl ?_
                    refine w_ifeq (t := 134) gz_148_106 rfl (fun u93 => by exfalso; omega) (fun u93 => ?_)
                    refine w_aload_n gz_148_109 rfl ?_
                    refine w_getX (v := 162) gz_148_110 is_151 rd_10 rfl (by decide) rfl ?_
                    refine w_iconst gz_148_113 (by decide) ?_
                    refine w_iload_n gz_148_114 rfl ?_
                    refine w_iload_n gz_148_115 rfl ?_
                    refine w_inS (k := 0) (as := [(0, x2), (0, x1), (0, 0)]) (r := [(2, 162)]) (ls0 := [(0, 0), (0, x1), (0, x2)]) gz_148_116 gm_150 rfl rfl rfl rfl rfl rfl ?_
                    refine w_bipush gz_150_0 (by decide) ?_
                    refine w_iload_n gz_150_2 rfl ?_
                    refine w_imul gz_150_3 ⟨by omega, by omega⟩ ?_
                    refine w_bipush gz_150_4 (by decide) ?_
                    refine w_iload_n gz_150_6 rfl ?_
                    refine w_imul gz_150_7 ⟨by omega, by omega⟩ ?_
                    refine w_iadd gz_150_8 ⟨by omega, by omega⟩ ?_
                    refine w_iload_n gz_150_9 rfl ?_
                    refine w_iadd gz_150_10 ⟨by omega, by omega⟩ ?_
                    refine w_iret gz_150_11 gm_150 ?_
                    show wp l rho (d + 5) 148 119 [(2, 151), (0, x1), (0, x2), (0, x3), (0, x4), (0, x5), (0, 1)] [(0, (((60 * 0) + (20 * x1)) + x2)), (2, 162)] h1 Q
                    have n162 := b162 (60 * 0 + 20 * x1 + x2)
                    have no := MS_n (k := x2) T (s := 0) (by omega) (by omega) (w := x1) (by omega) (by omega) (by omega) (by omega)
                    refine w_bald gz_148_119 is_162 rd_61 (by omega) (by omega) (fun v95 ev95 pv95 qv95 => ?_)
                    refine w_ifne (t := 134) gz_148_120 rfl (fun u96 => ?_) (fun u96 => ?_)
                    ·
                      refine w_iconst gz_148_134 (by decide) ?_
                      have c97 := (my_up_self fh1)
                      exact w_bret gz_148_135 gm_148 (by omega) (by omega) (k0 h1 (gh1) (by omega) (by first | exact ⟨(show (0 ≤ x1 ∧ x1 ≤ 2 ∧ 0 < h 157 x1) ∧ (0 ≤ x2 ∧ x2 ≤ 19) ∧ (2 ≤ h 157 x1 → 0 ≤ x3 ∧ x3 ≤ 19) ∧ (3 ≤ h 157 x1 → 0 ≤ x4 ∧ x4 ≤ 19) ∧ (4 ≤ h 157 x1 → 0 ≤ x5 ∧ x5 ≤ 19) by omega), no.mpr (by omega), by omega, (Mlf_t T ma8 ot8.1).mp lf8⟩ | exact Mtk ot8.1 ot8.2 tk8 | exact (fun z => by have z1 : (0 ≤ x1 ∧ x1 ≤ 2 ∧ 0 < h 157 x1) ∧ (0 ≤ x2 ∧ x2 ≤ 19) ∧ (2 ≤ h 157 x1 → 0 ≤ x3 ∧ x3 ≤ 19) ∧ (3 ≤ h 157 x1 → 0 ≤ x4 ∧ x4 ≤ 19) ∧ (4 ≤ h 157 x1 → 0 ≤ x5 ∧ x5 ≤ 19) := z.1; omega) | exact (fun z => no.mp z.2.1 (by omega)) | exact (fun z => by have q := z.2.2.1; omega) | exact (fun z => lf8 ((Mlf_t T ma8 ot8.1).mpr z.2.2.2)) | exact OtT_0 b162 b163 | exact OtT_e ot8.2 tk8.1 tk8.2 | assumption | omega) (by first | exact ⟨(show (0 ≤ x1 ∧ x1 ≤ 2 ∧ 0 < h 157 x1) ∧ (0 ≤ x2 ∧ x2 ≤ 19) ∧ (2 ≤ h 157 x1 → 0 ≤ x3 ∧ x3 ≤ 19) ∧ (3 ≤ h 157 x1 → 0 ≤ x4 ∧ x4 ≤ 19) ∧ (4 ≤ h 157 x1 → 0 ≤ x5 ∧ x5 ≤ 19) by omega), no.mpr (by omega), by omega, (Mlf_t T ma8 ot8.1).mp lf8⟩ | exact Mtk ot8.1 ot8.2 tk8 | exact (fun z => by have z1 : (0 ≤ x1 ∧ x1 ≤ 2 ∧ 0 < h 157 x1) ∧ (0 ≤ x2 ∧ x2 ≤ 19) ∧ (2 ≤ h 157 x1 → 0 ≤ x3 ∧ x3 ≤ 19) ∧ (3 ≤ h 157 x1 → 0 ≤ x4 ∧ x4 ≤ 19) ∧ (4 ≤ h 157 x1 → 0 ≤ x5 ∧ x5 ≤ 19) := z.1; omega) | exact (fun z => no.mp z.2.1 (by omega)) | exact (fun z => by have q := z.2.2.1; omega) | exact (fun z => lf8 ((Mlf_t T ma8 ot8.1).mpr z.2.2.2)) | exact OtT_0 b162 b163 | exact OtT_e ot8.2 tk8.1 tk8.2 | assumption | omega) Rws_h1)
                    ·
                      refine w_aload_n gz_148_123 rfl ?_
                      refine w_iconst gz_148_124 (by decide) ?_
                      refine w_iload_n gz_148_125 rfl ?_
                      refine w_inv (k := 2) (as := [(0, x1), (0, 0)]) (r := []) (x := 151) (ls0 := [(2, 151), (0, 0), (0, x1), (9, 0), (9, 0)]) gz_148_126 gm_151 rfl is_151 rd_10 rfl rfl rfl rfl rfl (c_Model_rowsOf2 (d := (d + 3)) (x1 := 0) (x2 := x1) (by omega) (by omega) (by omega) (by omega) (fun v98 w99 w100 xp101 => ?_))
                      show wp l rho (d + 5) 148 129 [(2, 151), (0, x1), (0, x2), (0, x3), (0, x4), (0, x5), (0, 1)] [(0, v98)] h1 Q
                      have ry := xp101
                      have rb := (Rws_h1) 0 x1 (by omega) (by omega) (by omega) (by omega)
                      have cn8 := (ry.trans (rc_cg9 b162 20)).trans (rc_Cn T (by omega) (by omega) (by omega) (by omega) 20 (by omega))
                      refine w_bipush gz_148_129 (by decide) ?_
                      refine w_icne (t := 136) gz_148_131 rfl (fun u102 => ?_) (fun u102 => ?_)
                      ·
                        refine w_aload_n gz_148_136 rfl ?_
                        refine w_iconst gz_148_137 (by decide) ?_
                        refine w_iconst gz_148_138 (by decide) ?_
                        refine w_inv (k := 1) (as := [(0, 5), (0, 0)]) (r := []) (x := 151) (ls0 := [(2, 151), (0, 0), (0, 5), (9, 0)]) gz_148_139 gm_152 rfl is_151 rd_10 rfl rfl rfl rfl rfl (c_Model_copies5 (d := (d + 4)) (x1 := 0) (x2 := 5) (by omega) (by omega) (by omega) (by omega) Rws_h1 (fun h103 frh103 xp104 xp105 Rws_h103t106 => ?_))
                        have gh103 : my_fr [(10, 0), (61, -1), (62, -1)] h h103 := my_fr.tr gh1 (frh103.mo rfl)
                        show wp l rho (d + 5) 148 142 [(2, 151), (0, x1), (0, x2), (0, x3), (0, x4), (0, x5), (0, 1)] [] h103 Q
                        have cpx := xp104
                        have cp8 := xp104
                        have cq8 := xp105
                        refine w_aload_n gz_148_142 rfl ?_
                        refine w_iconst gz_148_143 (by decide) ?_
                        refine w_iload_n gz_148_144 rfl ?_
                        refine w_iload_n gz_148_145 rfl ?_
                        refine w_aload_n gz_148_146 rfl ?_
                        refine w_getX (v := 157) gz_148_147 is_151 rd_10 rfl (by decide) rfl ?_
                        refine w_iload_n gz_148_150 rfl ?_
                        refine w_iald gz_148_151 is_157 rd_56 (by omega) (by omega) (fun v108 ev108 pv108 qv108 => ?_)
                        have zv108 := ev108.trans ((my_fr.at frh103 is_157 rfl).trans ev91.symm)
                        refine w_iconst gz_148_152 (by decide) ?_
                        refine w_icge (t := 160) gz_148_153 rfl (fun u109 => ?_) (fun u109 => by exfalso; omega)
                        refine w_iload_n gz_148_160 rfl ?_
                        refine w_aload_n gz_148_161 rfl ?_
                        refine w_getX (v := 157) gz_148_162 is_151 rd_10 rfl (by decide) rfl ?_
                        refine w_iload_n gz_148_165 rfl ?_
                        refine w_iald gz_148_166 is_157 rd_56 (by omega) (by omega) (fun v111 ev111 pv111 qv111 => ?_)
                        have zv111 := ev111.trans ev108.symm
                        refine w_iconst gz_148_167 (by decide) ?_
                        refine w_icge (t := 175) gz_148_168 rfl (fun u112 => by exfalso; omega) (fun u112 => ?_)
                        refine w_iconst gz_148_171 (by decide) ?_
                        refine w_goto (t := 177) gz_148_172 rfl ?_
                        refine w_aload_n gz_148_177 rfl ?_
                        refine w_getX (v := 157) gz_148_178 is_151 rd_10 rfl (by decide) rfl ?_
                        refine w_iload_n gz_148_181 rfl ?_
                        refine w_iald gz_148_182 is_157 rd_56 (by omega) (by omega) (fun v114 ev114 pv114 qv114 => ?_)
                        have zv114 := ev114.trans ev111.symm
                        refine w_iconst gz_148_183 (by decide) ?_
                        refine w_icge (t := 191) gz_148_184 rfl (fun u115 => by exfalso; omega) (fun u115 => ?_)
                        refine w_iconst gz_148_187 (by decide) ?_
                        refine w_goto (t := 193) gz_148_188 rfl ?_
                        have d157 : ∀ j : Int, h103 157 j = h 157 j := fun j => ((my_fr.at frh103 is_157 rfl).trans ((my_up_role fh1 is_157 is_151 rfl).trans (rfl : h 157 j = h 157 j)))
                        have n2 := d157 x1
                        refine w_inv (k := 1) (as := [(0, 0), (0, 0), (0, x3), (0, x2), (0, x1), (0, 5)]) (r := []) (x := 151) (ls0 := [(2, 151), (0, 5), (0, x1), (0, x2), (0, x3), (0, 0), (0, 0), (9, 0)]) gz_148_193 gm_153 rfl is_151 rd_10 rfl rfl rfl rfl rfl (c_Model_lays5 (d := (d + 3)) (x1 := 5) (x2 := x1) (x3 := x2) (x4 := x3) (x5 := 0) (x6 := 0) (by omega) (by omega) (by omega) (by omega) (by omega) (by omega) (by omega) (by omega) (by omega) (by omega) (by omega) (by omega) Rws_h103t106 (by rw [rc_Cp cpx (by omega) (by omega)]; omega) (fun h116 frh116 xp117 Rws_h116t118 => ?_))
                        have gh116 : my_fr [(10, 0), (61, -1), (62, -1)] h h116 := my_fr.tr gh103 (frh116.mo rfl)
                        show wp l rho (d + 5) 148 196 [(2, 151), (0, x1), (0, x2), (0, x3), (0, x4), (0, x5), (0, 1)] [] h116 Q
                        have ot8 := Mrow_t (b := x3) (c := x4) (d := x5) (m := h 157 x1) cp8 cq8 b162 b163 xp117 (by omega) (by omega) (by omega) (by omega) (by omega) rfl (by omega) (by omega) (by omega)
                        refine w_aload_n gz_148_196 rfl ?_
                        have ma8 : zqMA h116 = zqMA h := zqMA_e (fun j => my_fr.at gh116 pis_157 rfl) (fun j => my_fr.at gh116 pis_158 rfl) (fun j => my_fr.at gh116 pis_159 rfl) (fun j => my_fr.at gh116 pis_160 rfl) (fun j => my_fr.at gh116 pis_161 rfl)
                        refine w_inv (k := 0) (as := []) (r := []) (x := 151) (ls0 := [(2, 151)]) gz_148_197 gm_154 rfl is_151 rd_10 rfl rfl rfl rfl rfl (c_Model_takes5 (d := d)  Rws_h116t118 (fun h119 frh119 xp120 xp121 Rws_h119t122 => ?_) (fun h123 frh123 xp124 xp125 Rws_h123t126 => ?_))
                        ·
                          have gh119 : my_fr [(10, 0), (61, -1), (62, -1)] h h119 := my_fr.tr gh116 (frh119.mo rfl)
                          show wp l rho (d + 5) 148 200 [(2, 151), (0, x1), (0, x2), (0, x3), (0, x4), (0, x5), (0, 1)] [(0, 0)] h119 Q
                          have lf8 := xp120
                          have tk8 := xp121
                          have c127 := ((my_fr.at frh119 is_151 rfl).trans ((my_fr.at frh116 is_151 rfl).trans ((my_fr.at frh103 is_151 rfl).trans (my_up_self fh1))))
                          exact w_bret gz_148_200 gm_148 (by omega) (by omega) (k0 h119 (gh119) (by omega) (by first | exact ⟨(show (0 ≤ x1 ∧ x1 ≤ 2 ∧ 0 < h 157 x1) ∧ (0 ≤ x2 ∧ x2 ≤ 19) ∧ (2 ≤ h 157 x1 → 0 ≤ x3 ∧ x3 ≤ 19) ∧ (3 ≤ h 157 x1 → 0 ≤ x4 ∧ x4 ≤ 19) ∧ (4 ≤ h 157 x1 → 0 ≤ x5 ∧ x5 ≤ 19) by omega), no.mpr (by omega), by omega, (Mlf_t T ma8 ot8.1).mp lf8⟩ | exact Mtk ot8.1 ot8.2 tk8 | exact (fun z => by have z1 : (0 ≤ x1 ∧ x1 ≤ 2 ∧ 0 < h 157 x1) ∧ (0 ≤ x2 ∧ x2 ≤ 19) ∧ (2 ≤ h 157 x1 → 0 ≤ x3 ∧ x3 ≤ 19) ∧ (3 ≤ h 157 x1 → 0 ≤ x4 ∧ x4 ≤ 19) ∧ (4 ≤ h 157 x1 → 0 ≤ x5 ∧ x5 ≤ 19) := z.1; omega) | exact (fun z => no.mp z.2.1 (by omega)) | exact (fun z => by have q := z.2.2.1; omega) | exact (fun z => lf8 ((Mlf_t T ma8 ot8.1).mpr z.2.2.2)) | exact OtT_0 b162 b163 | exact OtT_e ot8.2 tk8.1 tk8.2 | assumption | omega) (by first | exact ⟨(show (0 ≤ x1 ∧ x1 ≤ 2 ∧ 0 < h 157 x1) ∧ (0 ≤ x2 ∧ x2 ≤ 19) ∧ (2 ≤ h 157 x1 → 0 ≤ x3 ∧ x3 ≤ 19) ∧ (3 ≤ h 157 x1 → 0 ≤ x4 ∧ x4 ≤ 19) ∧ (4 ≤ h 157 x1 → 0 ≤ x5 ∧ x5 ≤ 19) by omega), no.mpr (by omega), by omega, (Mlf_t T ma8 ot8.1).mp lf8⟩ | exact Mtk ot8.1 ot8.2 tk8 | exact (fun z => by have z1 : (0 ≤ x1 ∧ x1 ≤ 2 ∧ 0 < h 157 x1) ∧ (0 ≤ x2 ∧ x2 ≤ 19) ∧ (2 ≤ h 157 x1 → 0 ≤ x3 ∧ x3 ≤ 19) ∧ (3 ≤ h 157 x1 → 0 ≤ x4 ∧ x4 ≤ 19) ∧ (4 ≤ h 157 x1 → 0 ≤ x5 ∧ x5 ≤ 19) := z.1; omega) | exact (fun z => no.mp z.2.1 (by omega)) | exact (fun z => by have q := z.2.2.1; omega) | exact (fun z => lf8 ((Mlf_t T ma8 ot8.1).mpr z.2.2.2)) | exact OtT_0 b162 b163 | exact OtT_e ot8.2 tk8.1 tk8.2 | assumption | omega) Rws_h119t122)
                        ·
                          have gh123 : my_fr [(10, 0), (61, -1), (62, -1)] h h123 := my_fr.tr gh116 (frh123.mo rfl)
                          show wp l rho (d + 5) 148 200 [(2, 151), (0, x1), (0, x2), (0, x3), (0, x4), (0, x5), (0, 1)] [(0, 1)] h123 Q
                          have lf8 := xp124
                          have tk8 := xp125
                          have c128 := ((my_fr.at frh123 is_151 rfl).trans ((my_fr.at frh116 is_151 rfl).trans ((my_fr.at frh103 is_151 rfl).trans (my_up_self fh1))))
                          exact w_bret gz_148_200 gm_148 (by omega) (by omega) (k1 h123 (gh123) (by omega) (by omega) (by omega) (by omega) (by omega) (by first | exact ⟨(show (0 ≤ x1 ∧ x1 ≤ 2 ∧ 0 < h 157 x1) ∧ (0 ≤ x2 ∧ x2 ≤ 19) ∧ (2 ≤ h 157 x1 → 0 ≤ x3 ∧ x3 ≤ 19) ∧ (3 ≤ h 157 x1 → 0 ≤ x4 ∧ x4 ≤ 19) ∧ (4 ≤ h 157 x1 → 0 ≤ x5 ∧ x5 ≤ 19) by omega), no.mpr (by omega), by omega, (Mlf_t T ma8 ot8.1).mp lf8⟩ | exact Mtk ot8.1 ot8.2 tk8 | exact (fun z => by have z1 : (0 ≤ x1 ∧ x1 ≤ 2 ∧ 0 < h 157 x1) ∧ (0 ≤ x2 ∧ x2 ≤ 19) ∧ (2 ≤ h 157 x1 → 0 ≤ x3 ∧ x3 ≤ 19) ∧ (3 ≤ h 157 x1 → 0 ≤ x4 ∧ x4 ≤ 19) ∧ (4 ≤ h 157 x1 → 0 ≤ x5 ∧ x5 ≤ 19) := z.1; omega) | exact (fun z => no.mp z.2.1 (by omega)) | exact (fun z => by have q := z.2.2.1; omega) | exact (fun z => lf8 ((Mlf_t T ma8 ot8.1).mpr z.2.2.2)) | exact OtT_0 b162 b163 | exact OtT_e ot8.2 tk8.1 tk8.2 | assumption | omega) (by first | exact ⟨(show (0 ≤ x1 ∧ x1 ≤ 2 ∧ 0 < h 157 x1) ∧ (0 ≤ x2 ∧ x2 ≤ 19) ∧ (2 ≤ h 157 x1 → 0 ≤ x3 ∧ x3 ≤ 19) ∧ (3 ≤ h 157 x1 → 0 ≤ x4 ∧ x4 ≤ 19) ∧ (4 ≤ h 157 x1 → 0 ≤ x5 ∧ x5 ≤ 19) by omega), no.mpr (by omega), by omega, (Mlf_t T ma8 ot8.1).mp lf8⟩ | exact Mtk ot8.1 ot8.2 tk8 | exact (fun z => by have z1 : (0 ≤ x1 ∧ x1 ≤ 2 ∧ 0 < h 157 x1) ∧ (0 ≤ x2 ∧ x2 ≤ 19) ∧ (2 ≤ h 157 x1 → 0 ≤ x3 ∧ x3 ≤ 19) ∧ (3 ≤ h 157 x1 → 0 ≤ x4 ∧ x4 ≤ 19) ∧ (4 ≤ h 157 x1 → 0 ≤ x5 ∧ x5 ≤ 19) := z.1; omega) | exact (fun z => no.mp z.2.1 (by omega)) | exact (fun z => by have q := z.2.2.1; omega) | exact (fun z => lf8 ((Mlf_t T ma8 ot8.1).mpr z.2.2.2)) | exact OtT_0 b162 b163 | exact OtT_e ot8.2 tk8.1 tk8.2 | assumption | omega) Rws_h123t126)
                      ·
                        refine w_iconst gz_148_134 (by decide) ?_
                        have c129 := (my_up_self fh1)
                        exact w_bret gz_148_135 gm_148 (by omega) (by omega) (k0 h1 (gh1) (by omega) (by first | exact ⟨(show (0 ≤ x1 ∧ x1 ≤ 2 ∧ 0 < h 157 x1) ∧ (0 ≤ x2 ∧ x2 ≤ 19) ∧ (2 ≤ h 157 x1 → 0 ≤ x3 ∧ x3 ≤ 19) ∧ (3 ≤ h 157 x1 → 0 ≤ x4 ∧ x4 ≤ 19) ∧ (4 ≤ h 157 x1 → 0 ≤ x5 ∧ x5 ≤ 19) by omega), no.mpr (by omega), by omega, (Mlf_t T ma8 ot8.1).mp lf8⟩ | exact Mtk ot8.1 ot8.2 tk8 | exact (fun z => by have z1 : (0 ≤ x1 ∧ x1 ≤ 2 ∧ 0 < h 157 x1) ∧ (0 ≤ x2 ∧ x2 ≤ 19) ∧ (2 ≤ h 157 x1 → 0 ≤ x3 ∧ x3 ≤ 19) ∧ (3 ≤ h 157 x1 → 0 ≤ x4 ∧ x4 ≤ 19) ∧ (4 ≤ h 157 x1 → 0 ≤ x5 ∧ x5 ≤ 19) := z.1; omega) | exact (fun z => no.mp z.2.1 (by omega)) | exact (fun z => by have q := z.2.2.1; omega) | exact (fun z => lf8 ((Mlf_t T ma8 ot8.1).mpr z.2.2.2)) | exact OtT_0 b162 b163 | exact OtT_e ot8.2 tk8.1 tk8.2 | assumption | omega) (by first | exact ⟨(show (0 ≤ x1 ∧ x1 ≤ 2 ∧ 0 < h 157 x1) ∧ (0 ≤ x2 ∧ x2 ≤ 19) ∧ (2 ≤ h 157 x1 → 0 ≤ x3 ∧ x3 ≤ 19) ∧ (3 ≤ h 157 x1 → 0 ≤ x4 ∧ x4 ≤ 19) ∧ (4 ≤ h 157 x1 → 0 ≤ x5 ∧ x5 ≤ 19) by omega), no.mpr (by omega), by omega, (Mlf_t T ma8 ot8.1).mp lf8⟩ | exact Mtk ot8.1 ot8.2 tk8 | exact (fun z => by have z1 : (0 ≤ x1 ∧ x1 ≤ 2 ∧ 0 < h 157 x1) ∧ (0 ≤ x2 ∧ x2 ≤ 19) ∧ (2 ≤ h 157 x1 → 0 ≤ x3 ∧ x3 ≤ 19) ∧ (3 ≤ h 157 x1 → 0 ≤ x4 ∧ x4 ≤ 19) ∧ (4 ≤ h 157 x1 → 0 ≤ x5 ∧ x5 ≤ 19) := z.1; omega) | exact (fun z => no.mp z.2.1 (by omega)) | exact (fun z => by have q := z.2.2.1; omega) | exact (fun z => lf8 ((Mlf_t T ma8 ot8.1).mpr z.2.2.2)) | exact OtT_0 b162 b163 | exact OtT_e ot8.2 tk8.1 tk8.2 | assumption | omega) Rws_h1)
                  ·
                    refine w_iload gz_148_65 rfl ?_
                    refine w_iconst gz_148_67 (by decide) ?_
                    refine w_bipush gz_148_68 (by decide) ?_
                    refine w_inS (k := 0) (as := [(0, 19), (0, 0), (0, x4)]) (r := []) (ls0 := [(0, x4), (0, 0), (0, 19)]) gz_148_70 gm_147 rfl rfl rfl rfl rfl rfl ?_
                    refine w_iload_n gz_147_0 rfl ?_
                    refine w_iload_n gz_147_1 rfl ?_
                    refine w_iclt (t := 14) gz_147_2 rfl (fun u130 => ?_) (fun u130 => ?_)
                    ·
                      refine w_iconst gz_147_14 (by decide) ?_
                      refine w_bret gz_147_15 gm_147 (by omega) (by omega) ?_
                      show wp l rho (d + 5) 148 73 [(2, 151), (0, x1), (0, x2), (0, x3), (0, x4), (0, x5), (0, 1)] [(0, 0)] h1 Q
                      refine w_ifeq (t := 101) gz_148_73 rfl (fun u131 => ?_) (fun u131 => by exfalso; omega)
                      refine w_iconst gz_148_101 (by decide) ?_
                      refine w_istore (ls' := [(2, 151), (0, x1), (0, x2), (0, x3), (0, x4), (0, x5), (0, 0)]) gz_148_102 gm_148 rfl rfl rfl ?_
                      refine w_iload gz_148_104 rfl ?_
                      refine w_ifeq (t := 134) gz_148_106 rfl (fun u132 => ?_) (fun u132 => by exfalso; omega)
                      refine w_iconst gz_148_134 (by decide) ?_
                      have c133 := (my_up_self fh1)
                      exact w_bret gz_148_135 gm_148 (by omega) (by omega) (k0 h1 (gh1) (by omega) (by first | exact ⟨(show (0 ≤ x1 ∧ x1 ≤ 2 ∧ 0 < h 157 x1) ∧ (0 ≤ x2 ∧ x2 ≤ 19) ∧ (2 ≤ h 157 x1 → 0 ≤ x3 ∧ x3 ≤ 19) ∧ (3 ≤ h 157 x1 → 0 ≤ x4 ∧ x4 ≤ 19) ∧ (4 ≤ h 157 x1 → 0 ≤ x5 ∧ x5 ≤ 19) by omega), no.mpr (by omega), by omega, (Mlf_t T ma8 ot8.1).mp lf8⟩ | exact Mtk ot8.1 ot8.2 tk8 | exact (fun z => by have z1 : (0 ≤ x1 ∧ x1 ≤ 2 ∧ 0 < h 157 x1) ∧ (0 ≤ x2 ∧ x2 ≤ 19) ∧ (2 ≤ h 157 x1 → 0 ≤ x3 ∧ x3 ≤ 19) ∧ (3 ≤ h 157 x1 → 0 ≤ x4 ∧ x4 ≤ 19) ∧ (4 ≤ h 157 x1 → 0 ≤ x5 ∧ x5 ≤ 19) := z.1; omega) | exact (fun z => no.mp z.2.1 (by omega)) | exact (fun z => by have q := z.2.2.1; omega) | exact (fun z => lf8 ((Mlf_t T ma8 ot8.1).mpr z.2.2.2)) | exact OtT_0 b162 b163 | exact OtT_e ot8.2 tk8.1 tk8.2 | assumption | omega) (by first | exact ⟨(show (0 ≤ x1 ∧ x1 ≤ 2 ∧ 0 < h 157 x1) ∧ (0 ≤ x2 ∧ x2 ≤ 19) ∧ (2 ≤ h 157 x1 → 0 ≤ x3 ∧ x3 ≤ 19) ∧ (3 ≤ h 157 x1 → 0 ≤ x4 ∧ x4 ≤ 19) ∧ (4 ≤ h 157 x1 → 0 ≤ x5 ∧ x5 ≤ 19) by omega), no.mpr (by omega), by omega, (Mlf_t T ma8 ot8.1).mp lf8⟩ | exact Mtk ot8.1 ot8.2 tk8 | exact (fun z => by have z1 : (0 ≤ x1 ∧ x1 ≤ 2 ∧ 0 < h 157 x1) ∧ (0 ≤ x2 ∧ x2 ≤ 19) ∧ (2 ≤ h 157 x1 → 0 ≤ x3 ∧ x3 ≤ 19) ∧ (3 ≤ h 157 x1 → 0 ≤ x4 ∧ x4 ≤ 19) ∧ (4 ≤ h 157 x1 → 0 ≤ x5 ∧ x5 ≤ 19) := z.1; omega) | exact (fun z => no.mp z.2.1 (by omega)) | exact (fun z => by have q := z.2.2.1; omega) | exact (fun z => lf8 ((Mlf_t T ma8 ot8.1).mpr z.2.2.2)) | exact OtT_0 b162 b163 | exact OtT_e ot8.2 tk8.1 tk8.2 | assumption | omega) Rws_h1)
                    ·
                      refine w_iload_n gz_147_5 rfl ?_
                      refine w_iload_n gz_147_6 rfl ?_
                      refine w_icgt (t := 14) gz_147_7 rfl (fun u134 => ?_) (fun u134 => ?_)
                      ·
                        refine w_iconst gz_147_14 (by decide) ?_
                        refine w_bret gz_147_15 gm_147 (by omega) (by omega) ?_
                        show wp l rho (d + 5) 148 73 [(2, 151), (0, x1), (0, x2), (0, x3), (0, x4), (0, x5), (0, 1)] [(0, 0)] h1 Q
                        refine w_ifeq (t := 101) gz_148_73 rfl (fun u135 => ?_) (fun u135 => by exfalso; omega)
                        refine w_iconst gz_148_101 (by decide) ?_
                        refine w_istore (ls' := [(2, 151), (0, x1), (0, x2), (0, x3), (0, x4), (0, x5), (0, 0)]) gz_148_102 gm_148 rfl rfl rfl ?_
                        refine w_iload gz_148_104 rfl ?_
                        refine w_ifeq (t := 134) gz_148_106 rfl (fun u136 => ?_) (fun u136 => by exfalso; omega)
                        refine w_iconst gz_148_134 (by decide) ?_
                        have c137 := (my_up_self fh1)
                        exact w_bret gz_148_135 gm_148 (by omega) (by omega) (k0 h1 (gh1) (by omega) (by first | exact ⟨(show (0 ≤ x1 ∧ x1 ≤ 2 ∧ 0 < h 157 x1) ∧ (0 ≤ x2 ∧ x2 ≤ 19) ∧ (2 ≤ h 157 x1 → 0 ≤ x3 ∧ x3 ≤ 19) ∧ (3 ≤ h 157 x1 → 0 ≤ x4 ∧ x4 ≤ 19) ∧ (4 ≤ h 157 x1 → 0 ≤ x5 ∧ x5 ≤ 19) by omega), no.mpr (by omega), by omega, (Mlf_t T ma8 ot8.1).mp lf8⟩ | exact Mtk ot8.1 ot8.2 tk8 | exact (fun z => by have z1 : (0 ≤ x1 ∧ x1 ≤ 2 ∧ 0 < h 157 x1) ∧ (0 ≤ x2 ∧ x2 ≤ 19) ∧ (2 ≤ h 157 x1 → 0 ≤ x3 ∧ x3 ≤ 19) ∧ (3 ≤ h 157 x1 → 0 ≤ x4 ∧ x4 ≤ 19) ∧ (4 ≤ h 157 x1 → 0 ≤ x5 ∧ x5 ≤ 19) := z.1; omega) | exact (fun z => no.mp z.2.1 (by omega)) | exact (fun z => by have q := z.2.2.1; omega) | exact (fun z => lf8 ((Mlf_t T ma8 ot8.1).mpr z.2.2.2)) | exact OtT_0 b162 b163 | exact OtT_e ot8.2 tk8.1 tk8.2 | assumption | omega) (by first | exact ⟨(show (0 ≤ x1 ∧ x1 ≤ 2 ∧ 0 < h 157 x1) ∧ (0 ≤ x2 ∧ x2 ≤ 19) ∧ (2 ≤ h 157 x1 → 0 ≤ x3 ∧ x3 ≤ 19) ∧ (3 ≤ h 157 x1 → 0 ≤ x4 ∧ x4 ≤ 19) ∧ (4 ≤ h 157 x1 → 0 ≤ x5 ∧ x5 ≤ 19) by omega), no.mpr (by omega), by omega, (Mlf_t T ma8 ot8.1).mp lf8⟩ | exact Mtk ot8.1 ot8.2 tk8 | exact (fun z => by have z1 : (0 ≤ x1 ∧ x1 ≤ 2 ∧ 0 < h 157 x1) ∧ (0 ≤ x2 ∧ x2 ≤ 19) ∧ (2 ≤ h 157 x1 → 0 ≤ x3 ∧ x3 ≤ 19) ∧ (3 ≤ h 157 x1 → 0 ≤ x4 ∧ x4 ≤ 19) ∧ (4 ≤ h 157 x1 → 0 ≤ x5 ∧ x5 ≤ 19) := z.1; omega) | exact (fun z => no.mp z.2.1 (by omega)) | exact (fun z => by have q := z.2.2.1; omega) | exact (fun z => lf8 ((Mlf_t T ma8 ot8.1).mpr z.2.2.2)) | exact OtT_0 b162 b163 | exact OtT_e ot8.2 tk8.1 tk8.2 | assumption | omega) Rws_h1)
                      ·
                        refine w_iconst gz_147_10 (by decide) ?_
                        refine w_goto (t := 15) gz_147_11 rfl ?_
                        refine w_bret gz_147_15 gm_147 (by omega) (by omega) ?_
                        show wp l rho (d + 5) 148 73 [(2, 151), (0, x1), (0, x2), (0, x3), (0, x4), (0, x5), (0, 1)] [(0, 1)] h1 Q
                        refine w_ifeq (t := 101) gz_148_73 rfl (fun u138 => by exfalso; omega) (fun u138 => ?_)
                        refine w_aload_n gz_148_76 rfl ?_
                        refine w_getX (v := 157) gz_148_77 is_151 rd_10 rfl (by decide) rfl ?_
                        refine w_iload_n gz_148_80 rfl ?_
                        refine w_iald gz_148_81 is_157 rd_56 (by omega) (by omega) (fun v140 ev140 pv140 qv140 => ?_)
                        have zv140 := ev140.trans ev88.symm
                        refine w_iconst gz_148_82 (by decide) ?_
                        refine w_iclt (t := 97) gz_148_83 rfl (fun u141 => ?_) (fun u141 => ?_)
                        ·
                          refine w_iconst gz_148_97 (by decide) ?_
                          refine w_goto (t := 102) gz_148_98 rfl ?_
                          refine w_istore (ls' := [(2, 151), (0, x1), (0, x2), (0, x3), (0, x4), (0, x5), (0, 1)]) gz_148_102 gm_148 rfl rfl rfl ?_
                          refine w_iload gz_148_104 rfl ?_
                          refine w_ifeq (t := 134) gz_148_106 rfl (fun u142 => by exfalso; omega) (fun u142 => ?_)
                          refine w_aload_n gz_148_109 rfl ?_
                          refine w_getX (v := 162) gz_148_110 is_151 rd_10 rfl (by decide) rfl ?_
                          refine w_iconst gz_148_113 (by decide) ?_
                          refine w_iload_n gz_148_114 rfl ?_
                          refine w_iload_n gz_148_115 rfl ?_
                          refine w_inS (k := 0) (as := [(0, x2), (0, x1), (0, 0)]) (r := [(2, 162)]) (ls0 := [(0, 0), (0, x1), (0, x2)]) gz_148_116 gm_150 rfl rfl rfl rfl rfl rfl ?_
                          refine w_bipush gz_150_0 (by decide) ?_
                          refine w_iload_n gz_150_2 rfl ?_
                          refine w_imul gz_150_3 ⟨by omega, by omega⟩ ?_
                          refine w_bipush gz_150_4 (by decide) ?_
                          refine w_iload_n gz_150_6 rfl ?_
                          refine w_imul gz_150_7 ⟨by omega, by omega⟩ ?_
                          refine w_iadd gz_150_8 ⟨by omega, by omega⟩ ?_
                          refine w_iload_n gz_150_9 rfl ?_
                          refine w_iadd gz_150_10 ⟨by omega, by omega⟩ ?_
                          refine w_iret gz_150_11 gm_150 ?_
                          show wp l rho (d + 5) 148 119 [(2, 151), (0, x1), (0, x2), (0, x3), (0, x4), (0, x5), (0, 1)] [(0, (((60 * 0) + (20 * x1)) + x2)), (2, 162)] h1 Q
                          have n162 := b162 (60 * 0 + 20 * x1 + x2)
                          have no := MS_n (k := x2) T (s := 0) (by omega) (by omega) (w := x1) (by omega) (by omega) (by omega) (by omega)
                          refine w_bald gz_148_119 is_162 rd_61 (by omega) (by omega) (fun v144 ev144 pv144 qv144 => ?_)
                          refine w_ifne (t := 134) gz_148_120 rfl (fun u145 => ?_) (fun u145 => ?_)
                          ·
                            refine w_iconst gz_148_134 (by decide) ?_
                            have c146 := (my_up_self fh1)
                            exact w_bret gz_148_135 gm_148 (by omega) (by omega) (k0 h1 (gh1) (by omega) (by first | exact ⟨(show (0 ≤ x1 ∧ x1 ≤ 2 ∧ 0 < h 157 x1) ∧ (0 ≤ x2 ∧ x2 ≤ 19) ∧ (2 ≤ h 157 x1 → 0 ≤ x3 ∧ x3 ≤ 19) ∧ (3 ≤ h 157 x1 → 0 ≤ x4 ∧ x4 ≤ 19) ∧ (4 ≤ h 157 x1 → 0 ≤ x5 ∧ x5 ≤ 19) by omega), no.mpr (by omega), by omega, (Mlf_t T ma8 ot8.1).mp lf8⟩ | exact Mtk ot8.1 ot8.2 tk8 | exact (fun z => by have z1 : (0 ≤ x1 ∧ x1 ≤ 2 ∧ 0 < h 157 x1) ∧ (0 ≤ x2 ∧ x2 ≤ 19) ∧ (2 ≤ h 157 x1 → 0 ≤ x3 ∧ x3 ≤ 19) ∧ (3 ≤ h 157 x1 → 0 ≤ x4 ∧ x4 ≤ 19) ∧ (4 ≤ h 157 x1 → 0 ≤ x5 ∧ x5 ≤ 19) := z.1; omega) | exact (fun z => no.mp z.2.1 (by omega)) | exact (fun z => by have q := z.2.2.1; omega) | exact (fun z => lf8 ((Mlf_t T ma8 ot8.1).mpr z.2.2.2)) | exact OtT_0 b162 b163 | exact OtT_e ot8.2 tk8.1 tk8.2 | assumption | omega) (by first | exact ⟨(show (0 ≤ x1 ∧ x1 ≤ 2 ∧ 0 < h 157 x1) ∧ (0 ≤ x2 ∧ x2 ≤ 19) ∧ (2 ≤ h 157 x1 → 0 ≤ x3 ∧ x3 ≤ 19) ∧ (3 ≤ h 157 x1 → 0 ≤ x4 ∧ x4 ≤ 19) ∧ (4 ≤ h 157 x1 → 0 ≤ x5 ∧ x5 ≤ 19) by omega), no.mpr (by omega), by omega, (Mlf_t T ma8 ot8.1).mp lf8⟩ | exact Mtk ot8.1 ot8.2 tk8 | exact (fun z => by have z1 : (0 ≤ x1 ∧ x1 ≤ 2 ∧ 0 < h 157 x1) ∧ (0 ≤ x2 ∧ x2 ≤ 19) ∧ (2 ≤ h 157 x1 → 0 ≤ x3 ∧ x3 ≤ 19) ∧ (3 ≤ h 157 x1 → 0 ≤ x4 ∧ x4 ≤ 19) ∧ (4 ≤ h 157 x1 → 0 ≤ x5 ∧ x5 ≤ 19) := z.1; omega) | exact (fun z => no.mp z.2.1 (by omega)) | exact (fun z => by have q := z.2.2.1; omega) | exact (fun z => lf8 ((Mlf_t T ma8 ot8.1).mpr z.2.2.2)) | exact OtT_0 b162 b163 | exact OtT_e ot8.2 tk8.1 tk8.2 | assumption | omega) Rws_h1)
                          ·
                            refine w_aload_n gz_148_123 rfl ?_
                            refine w_iconst gz_148_124 (by decide) ?_
                            refine w_iload_n gz_148_125 rfl ?_
                            refine w_inv (k := 2) (as := [(0, x1), (0, 0)]) (r := []) (x := 151) (ls0 := [(2, 151), (0, 0), (0, x1), (9, 0), (9, 0)]) gz_148_126 gm_151 rfl is_151 rd_10 rfl rfl rfl rfl rfl (c_Model_rowsOf2 (d := (d + 3)) (x1 := 0) (x2 := x1) (by omega) (by omega) (by omega) (by omega) (fun v147 w148 w149 xp150 => ?_))
                            show wp l rho (d + 5) 148 129 [(2, 151), (0, x1), (0, x2), (0, x3), (0, x4), (0, x5), (0, 1)] [(0, v147)] h1 Q
                            have ry := xp150
                            have rb := (Rws_h1) 0 x1 (by omega) (by omega) (by omega) (by omega)
                            have cn8 := (ry.trans (rc_cg9 b162 20)).trans (rc_Cn T (by omega) (by omega) (by omega) (by omega) 20 (by omega))
                            refine w_bipush gz_148_129 (by decide) ?_
                            refine w_icne (t := 136) gz_148_131 rfl (fun u151 => ?_) (fun u151 => ?_)
                            ·
                              refine w_aload_n gz_148_136 rfl ?_
                              refine w_iconst gz_148_137 (by decide) ?_
                              refine w_iconst gz_148_138 (by decide) ?_
                              refine w_inv (k := 1) (as := [(0, 5), (0, 0)]) (r := []) (x := 151) (ls0 := [(2, 151), (0, 0), (0, 5), (9, 0)]) gz_148_139 gm_152 rfl is_151 rd_10 rfl rfl rfl rfl rfl (c_Model_copies5 (d := (d + 4)) (x1 := 0) (x2 := 5) (by omega) (by omega) (by omega) (by omega) Rws_h1 (fun h152 frh152 xp153 xp154 Rws_h152t155 => ?_))
                              have gh152 : my_fr [(10, 0), (61, -1), (62, -1)] h h152 := my_fr.tr gh1 (frh152.mo rfl)
                              show wp l rho (d + 5) 148 142 [(2, 151), (0, x1), (0, x2), (0, x3), (0, x4), (0, x5), (0, 1)] [] h152 Q
                              have cpx := xp153
                              have cp8 := xp153
                              have cq8 := xp154
                              refine w_aload_n gz_148_142 rfl ?_
                              refine w_iconst gz_148_143 (by decide) ?_
                              refine w_iload_n gz_148_144 rfl ?_
                              refine w_iload_n gz_148_145 rfl ?_
                              refine w_aload_n gz_148_146 rfl ?_
                              refine w_getX (v := 157) gz_148_147 is_151 rd_10 rfl (by decide) rfl ?_
                              refine w_iload_n gz_148_150 rfl ?_
                              refine w_iald gz_148_151 is_157 rd_56 (by omega) (by omega) (fun v157 ev157 pv157 qv157 => ?_)
                              have zv157 := ev157.trans ((my_fr.at frh152 is_157 rfl).trans ev140.symm)
                              refine w_iconst gz_148_152 (by decide) ?_
                              refine w_icge (t := 160) gz_148_153 rfl (fun u158 => ?_) (fun u158 => by exfalso; omega)
                              refine w_iload_n gz_148_160 rfl ?_
                              refine w_aload_n gz_148_161 rfl ?_
                              refine w_getX (v := 157) gz_148_162 is_151 rd_10 rfl (by decide) rfl ?_
                              refine w_iload_n gz_148_165 rfl ?_
                              refine w_iald gz_148_166 is_157 rd_56 (by omega) (by omega) (fun v160 ev160 pv160 qv160 => ?_)
                              have zv160 := ev160.trans ev157.symm
                              refine w_iconst gz_148_167 (by decide) ?_
                              refine w_icge (t := 175) gz_148_168 rfl (fun u161 => ?_) (fun u161 => by exfalso; omega)
                              refine w_iload gz_148_175 rfl ?_
                              refine w_aload_n gz_148_177 rfl ?_
                              refine w_getX (v := 157) gz_148_178 is_151 rd_10 rfl (by decide) rfl ?_
                              refine w_iload_n gz_148_181 rfl ?_
                              refine w_iald gz_148_182 is_157 rd_56 (by omega) (by omega) (fun v163 ev163 pv163 qv163 => ?_)
                              have zv163 := ev163.trans ev160.symm
                              refine w_iconst gz_148_183 (by decide) ?_
                              refine w_icge (t := 191) gz_148_184 rfl (fun u164 => by exfalso; omega) (fun u164 => ?_)
                              refine w_iconst gz_148_187 (by decide) ?_
                              refine w_goto (t := 193) gz_148_188 rfl ?_
                              have d157 : ∀ j : Int, h152 157 j = h 157 j := fun j => ((my_fr.at frh152 is_157 rfl).trans ((my_up_role fh1 is_157 is_151 rfl).trans (rfl : h 157 j = h 157 j)))
                              have n2 := d157 x1
                              refine w_inv (k := 1) (as := [(0, 0), (0, x4), (0, x3), (0, x2), (0, x1), (0, 5)]) (r := []) (x := 151) (ls0 := [(2, 151), (0, 5), (0, x1), (0, x2), (0, x3), (0, x4), (0, 0), (9, 0)]) gz_148_193 gm_153 rfl is_151 rd_10 rfl rfl rfl rfl rfl (c_Model_lays5 (d := (d + 3)) (x1 := 5) (x2 := x1) (x3 := x2) (x4 := x3) (x5 := x4) (x6 := 0) (by omega) (by omega) (by omega) (by omega) (by omega) (by omega) (by omega) (by omega) (by omega) (by omega) (by omega) (by omega) Rws_h152t155 (by rw [rc_Cp cpx (by omega) (by omega)]; omega) (fun h165 frh165 xp166 Rws_h165t167 => ?_))
                              have gh165 : my_fr [(10, 0), (61, -1), (62, -1)] h h165 := my_fr.tr gh152 (frh165.mo rfl)
                              show wp l rho (d + 5) 148 196 [(2, 151), (0, x1), (0, x2), (0, x3), (0, x4), (0, x5), (0, 1)] [] h165 Q
                              have ot8 := Mrow_t (b := x3) (c := x4) (d := x5) (m := h 157 x1) cp8 cq8 b162 b163 xp166 (by omega) (by omega) (by omega) (by omega) (by omega) rfl (by omega) (by omega) (by omega)
                              refine w_aload_n gz_148_196 rfl ?_
                              have ma8 : zqMA h165 = zqMA h := zqMA_e (fun j => my_fr.at gh165 pis_157 rfl) (fun j => my_fr.at gh165 pis_158 rfl) (fun j => my_fr.at gh165 pis_159 rfl) (fun j => my_fr.at gh165 pis_160 rfl) (fun j => my_fr.at gh165 pis_161 rfl)
                              refine w_inv (k := 0) (as := []) (r := []) (x := 151) (ls0 := [(2, 151)]) gz_148_197 gm_154 rfl is_151 rd_10 rfl rfl rfl rfl rfl (c_Model_takes5 (d := d)  Rws_h165t167 (fun h168 frh168 xp169 xp170 Rws_h168t171 => ?_) (fun h172 frh172 xp173 xp174 Rws_h172t175 => ?_))
                              ·
                                have gh168 : my_fr [(10, 0), (61, -1), (62, -1)] h h168 := my_fr.tr gh165 (frh168.mo rfl)
                                show wp l rho (d + 5) 148 200 [(2, 151), (0, x1), (0, x2), (0, x3), (0, x4), (0, x5), (0, 1)] [(0, 0)] h168 Q
                                have lf8 := xp169
                                have tk8 := xp170
                                have c176 := ((my_fr.at frh168 is_151 rfl).trans ((my_fr.at frh165 is_151 rfl).trans ((my_fr.at frh152 is_151 rfl).trans (my_up_self fh1))))
                                exact w_bret gz_148_200 gm_148 (by omega) (by omega) (k0 h168 (gh168) (by omega) (by first | exact ⟨(show (0 ≤ x1 ∧ x1 ≤ 2 ∧ 0 < h 157 x1) ∧ (0 ≤ x2 ∧ x2 ≤ 19) ∧ (2 ≤ h 157 x1 → 0 ≤ x3 ∧ x3 ≤ 19) ∧ (3 ≤ h 157 x1 → 0 ≤ x4 ∧ x4 ≤ 19) ∧ (4 ≤ h 157 x1 → 0 ≤ x5 ∧ x5 ≤ 19) by omega), no.mpr (by omega), by omega, (Mlf_t T ma8 ot8.1).mp lf8⟩ | exact Mtk ot8.1 ot8.2 tk8 | exact (fun z => by have z1 : (0 ≤ x1 ∧ x1 ≤ 2 ∧ 0 < h 157 x1) ∧ (0 ≤ x2 ∧ x2 ≤ 19) ∧ (2 ≤ h 157 x1 → 0 ≤ x3 ∧ x3 ≤ 19) ∧ (3 ≤ h 157 x1 → 0 ≤ x4 ∧ x4 ≤ 19) ∧ (4 ≤ h 157 x1 → 0 ≤ x5 ∧ x5 ≤ 19) := z.1; omega) | exact (fun z => no.mp z.2.1 (by omega)) | exact (fun z => by have q := z.2.2.1; omega) | exact (fun z => lf8 ((Mlf_t T ma8 ot8.1).mpr z.2.2.2)) | exact OtT_0 b162 b163 | exact OtT_e ot8.2 tk8.1 tk8.2 | assumption | omega) (by first | exact ⟨(show (0 ≤ x1 ∧ x1 ≤ 2 ∧ 0 < h 157 x1) ∧ (0 ≤ x2 ∧ x2 ≤ 19) ∧ (2 ≤ h 157 x1 → 0 ≤ x3 ∧ x3 ≤ 19) ∧ (3 ≤ h 157 x1 → 0 ≤ x4 ∧ x4 ≤ 19) ∧ (4 ≤ h 157 x1 → 0 ≤ x5 ∧ x5 ≤ 19) by omega), no.mpr (by omega), by omega, (Mlf_t T ma8 ot8.1).mp lf8⟩ | exact Mtk ot8.1 ot8.2 tk8 | exact (fun z => by have z1 : (0 ≤ x1 ∧ x1 ≤ 2 ∧ 0 < h 157 x1) ∧ (0 ≤ x2 ∧ x2 ≤ 19) ∧ (2 ≤ h 157 x1 → 0 ≤ x3 ∧ x3 ≤ 19) ∧ (3 ≤ h 157 x1 → 0 ≤ x4 ∧ x4 ≤ 19) ∧ (4 ≤ h 157 x1 → 0 ≤ x5 ∧ x5 ≤ 19) := z.1; omega) | exact (fun z => no.mp z.2.1 (by omega)) | exact (fun z => by have q := z.2.2.1; omega) | exact (fun z => lf8 ((Mlf_t T ma8 ot8.1).mpr z.2.2.2)) | exact OtT_0 b162 b163 | exact OtT_e ot8.2 tk8.1 tk8.2 | assumption | omega) Rws_h168t171)
                              ·
                                have gh172 : my_fr [(10, 0), (61, -1), (62, -1)] h h172 := my_fr.tr gh165 (frh172.mo rfl)
                                show wp l rho (d + 5) 148 200 [(2, 151), (0, x1), (0, x2), (0, x3), (0, x4), (0, x5), (0, 1)] [(0, 1)] h172 Q
                                have lf8 := xp173
                                have tk8 := xp174
                                have c177 := ((my_fr.at frh172 is_151 rfl).trans ((my_fr.at frh165 is_151 rfl).trans ((my_fr.at frh152 is_151 rfl).trans (my_up_self fh1))))
                                exact w_bret gz_148_200 gm_148 (by omega) (by omega) (k1 h172 (gh172) (by omega) (by omega) (by omega) (by omega) (by omega) (by first | exact ⟨(show (0 ≤ x1 ∧ x1 ≤ 2 ∧ 0 < h 157 x1) ∧ (0 ≤ x2 ∧ x2 ≤ 19) ∧ (2 ≤ h 157 x1 → 0 ≤ x3 ∧ x3 ≤ 19) ∧ (3 ≤ h 157 x1 → 0 ≤ x4 ∧ x4 ≤ 19) ∧ (4 ≤ h 157 x1 → 0 ≤ x5 ∧ x5 ≤ 19) by omega), no.mpr (by omega), by omega, (Mlf_t T ma8 ot8.1).mp lf8⟩ | exact Mtk ot8.1 ot8.2 tk8 | exact (fun z => by have z1 : (0 ≤ x1 ∧ x1 ≤ 2 ∧ 0 < h 157 x1) ∧ (0 ≤ x2 ∧ x2 ≤ 19) ∧ (2 ≤ h 157 x1 → 0 ≤ x3 ∧ x3 ≤ 19) ∧ (3 ≤ h 157 x1 → 0 ≤ x4 ∧ x4 ≤ 19) ∧ (4 ≤ h 157 x1 → 0 ≤ x5 ∧ x5 ≤ 19) := z.1; omega) | exact (fun z => no.mp z.2.1 (by omega)) | exact (fun z => by have q := z.2.2.1; omega) | exact (fun z => lf8 ((Mlf_t T ma8 ot8.1).mpr z.2.2.2)) | exact OtT_0 b162 b163 | exact OtT_e ot8.2 tk8.1 tk8.2 | assumption | omega) (by first | exact ⟨(show (0 ≤ x1 ∧ x1 ≤ 2 ∧ 0 < h 157 x1) ∧ (0 ≤ x2 ∧ x2 ≤ 19) ∧ (2 ≤ h 157 x1 → 0 ≤ x3 ∧ x3 ≤ 19) ∧ (3 ≤ h 157 x1 → 0 ≤ x4 ∧ x4 ≤ 19) ∧ (4 ≤ h 157 x1 → 0 ≤ x5 ∧ x5 ≤ 19) by omega), no.mpr (by omega), by omega, (Mlf_t T ma8 ot8.1).mp lf8⟩ | exact Mtk ot8.1 ot8.2 tk8 | exact (fun z => by have z1 : (0 ≤ x1 ∧ x1 ≤ 2 ∧ 0 < h 157 x1) ∧ (0 ≤ x2 ∧ x2 ≤ 19) ∧ (2 ≤ h 157 x1 → 0 ≤ x3 ∧ x3 ≤ 19) ∧ (3 ≤ h 157 x1 → 0 ≤ x4 ∧ x4 ≤ 19) ∧ (4 ≤ h 157 x1 → 0 ≤ x5 ∧ x5 ≤ 19) := z.1; omega) | exact (fun z => no.mp z.2.1 (by omega)) | exact (fun z => by have q := z.2.2.1; omega) | exact (fun z => lf8 ((Mlf_t T ma8 ot8.1).mpr z.2.2.2)) | exact OtT_0 b162 b163 | exact OtT_e ot8.2 tk8.1 tk8.2 | assumption | omega) Rws_h172t175)
                            ·
                              refine w_iconst gz_148_134 (by decide) ?_
                              have c178 := (my_up_self fh1)
                              exact w_bret gz_148_135 gm_148 (by omega) (by omega) (k0 h1 (gh1) (by omega) (by first | exact ⟨(show (0 ≤ x1 ∧ x1 ≤ 2 ∧ 0 < h 157 x1) ∧ (0 ≤ x2 ∧ x2 ≤ 19) ∧ (2 ≤ h 157 x1 → 0 ≤ x3 ∧ x3 ≤ 19) ∧ (3 ≤ h 157 x1 → 0 ≤ x4 ∧ x4 ≤ 19) ∧ (4 ≤ h 157 x1 → 0 ≤ x5 ∧ x5 ≤ 19) by omega), no.mpr (by omega), by omega, (Mlf_t T ma8 ot8.1).mp lf8⟩ | exact Mtk ot8.1 ot8.2 tk8 | exact (fun z => by have z1 : (0 ≤ x1 ∧ x1 ≤ 2 ∧ 0 < h 157 x1) ∧ (0 ≤ x2 ∧ x2 ≤ 19) ∧ (2 ≤ h 157 x1 → 0 ≤ x3 ∧ x3 ≤ 19) ∧ (3 ≤ h 157 x1 → 0 ≤ x4 ∧ x4 ≤ 19) ∧ (4 ≤ h 157 x1 → 0 ≤ x5 ∧ x5 ≤ 19) := z.1; omega) | exact (fun z => no.mp z.2.1 (by omega)) | exact (fun z => by have q := z.2.2.1; omega) | exact (fun z => lf8 ((Mlf_t T ma8 ot8.1).mpr z.2.2.2)) | exact OtT_0 b162 b163 | exact OtT_e ot8.2 tk8.1 tk8.2 | assumption | omega) (by first | exact ⟨(show (0 ≤ x1 ∧ x1 ≤ 2 ∧ 0 < h 157 x1) ∧ (0 ≤ x2 ∧ x2 ≤ 19) ∧ (2 ≤ h 157 x1 → 0 ≤ x3 ∧ x3 ≤ 19) ∧ (3 ≤ h 157 x1 → 0 ≤ x4 ∧ x4 ≤ 19) ∧ (4 ≤ h 157 x1 → 0 ≤ x5 ∧ x5 ≤ 19) by omega), no.mpr (by omega), by omega, (Mlf_t T ma8 ot8.1).mp lf8⟩ | exact Mtk ot8.1 ot8.2 tk8 | exact (fun z => by have z1 : (0 ≤ x1 ∧ x1 ≤ 2 ∧ 0 < h 157 x1) ∧ (0 ≤ x2 ∧ x2 ≤ 19) ∧ (2 ≤ h 157 x1 → 0 ≤ x3 ∧ x3 ≤ 19) ∧ (3 ≤ h 157 x1 → 0 ≤ x4 ∧ x4 ≤ 19) ∧ (4 ≤ h 157 x1 → 0 ≤ x5 ∧ x5 ≤ 19) := z.1; omega) | exact (fun z => no.mp z.2.1 (by omega)) | exact (fun z => by have q := z.2.2.1; omega) | exact (fun z => lf8 ((Mlf_t T ma8 ot8.1).mpr z.2.2.2)) | exact OtT_0 b162 b163 | exact OtT_e ot8.2 tk8.1 tk8.2 | assumption | omega) Rws_h1)
                        ·
                          refine w_iload gz_148_86 rfl ?_
                          refine w_iconst gz_148_88 (by decide) ?_
                          refine w_bipush gz_148_89 (by decide) ?_
                          refine w_inS (k := 0) (as := [(0, 19), (0, 0), (0, x5)]) (r := []) (ls0 := [(0, x5), (0, 0), (0, 19)]) gz_148_91 gm_147 rfl rfl rfl rfl rfl rfl ?_
                          refine w_iload_n gz_147_0 rfl ?_
                          refine w_iload_n gz_147_1 rfl ?_
                          refine w_iclt (t := 14) gz_147_2 rfl (fun u179 => ?_) (fun u179 => ?_)
                          ·
                            refine w_iconst gz_147_14 (by decide) ?_
                            refine w_bret gz_147_15 gm_147 (by omega) (by omega) ?_
                            show wp l rho (d + 5) 148 94 [(2, 151), (0, x1), (0, x2), (0, x3), (0, x4), (0, x5), (0, 1)] [(0, 0)] h1 Q
                            refine w_ifeq (t := 101) gz_148_94 rfl (fun u180 => ?_) (fun u180 => by exfalso; omega)
                            refine w_iconst gz_148_101 (by decide) ?_
                            refine w_istore (ls' := [(2, 151), (0, x1), (0, x2), (0, x3), (0, x4), (0, x5), (0, 0)]) gz_148_102 gm_148 rfl rfl rfl ?_
                            refine w_iload gz_148_104 rfl ?_
                            refine w_ifeq (t := 134) gz_148_106 rfl (fun u181 => ?_) (fun u181 => by exfalso; omega)
                            refine w_iconst gz_148_134 (by decide) ?_
                            have c182 := (my_up_self fh1)
                            exact w_bret gz_148_135 gm_148 (by omega) (by omega) (k0 h1 (gh1) (by omega) (by first | exact ⟨(show (0 ≤ x1 ∧ x1 ≤ 2 ∧ 0 < h 157 x1) ∧ (0 ≤ x2 ∧ x2 ≤ 19) ∧ (2 ≤ h 157 x1 → 0 ≤ x3 ∧ x3 ≤ 19) ∧ (3 ≤ h 157 x1 → 0 ≤ x4 ∧ x4 ≤ 19) ∧ (4 ≤ h 157 x1 → 0 ≤ x5 ∧ x5 ≤ 19) by omega), no.mpr (by omega), by omega, (Mlf_t T ma8 ot8.1).mp lf8⟩ | exact Mtk ot8.1 ot8.2 tk8 | exact (fun z => by have z1 : (0 ≤ x1 ∧ x1 ≤ 2 ∧ 0 < h 157 x1) ∧ (0 ≤ x2 ∧ x2 ≤ 19) ∧ (2 ≤ h 157 x1 → 0 ≤ x3 ∧ x3 ≤ 19) ∧ (3 ≤ h 157 x1 → 0 ≤ x4 ∧ x4 ≤ 19) ∧ (4 ≤ h 157 x1 → 0 ≤ x5 ∧ x5 ≤ 19) := z.1; omega) | exact (fun z => no.mp z.2.1 (by omega)) | exact (fun z => by have q := z.2.2.1; omega) | exact (fun z => lf8 ((Mlf_t T ma8 ot8.1).mpr z.2.2.2)) | exact OtT_0 b162 b163 | exact OtT_e ot8.2 tk8.1 tk8.2 | assumption | omega) (by first | exact ⟨(show (0 ≤ x1 ∧ x1 ≤ 2 ∧ 0 < h 157 x1) ∧ (0 ≤ x2 ∧ x2 ≤ 19) ∧ (2 ≤ h 157 x1 → 0 ≤ x3 ∧ x3 ≤ 19) ∧ (3 ≤ h 157 x1 → 0 ≤ x4 ∧ x4 ≤ 19) ∧ (4 ≤ h 157 x1 → 0 ≤ x5 ∧ x5 ≤ 19) by omega), no.mpr (by omega), by omega, (Mlf_t T ma8 ot8.1).mp lf8⟩ | exact Mtk ot8.1 ot8.2 tk8 | exact (fun z => by have z1 : (0 ≤ x1 ∧ x1 ≤ 2 ∧ 0 < h 157 x1) ∧ (0 ≤ x2 ∧ x2 ≤ 19) ∧ (2 ≤ h 157 x1 → 0 ≤ x3 ∧ x3 ≤ 19) ∧ (3 ≤ h 157 x1 → 0 ≤ x4 ∧ x4 ≤ 19) ∧ (4 ≤ h 157 x1 → 0 ≤ x5 ∧ x5 ≤ 19) := z.1; omega) | exact (fun z => no.mp z.2.1 (by omega)) | exact (fun z => by have q := z.2.2.1; omega) | exact (fun z => lf8 ((Mlf_t T ma8 ot8.1).mpr z.2.2.2)) | exact OtT_0 b162 b163 | exact OtT_e ot8.2 tk8.1 tk8.2 | assumption | omega) Rws_h1)
                          ·
                            refine w_iload_n gz_147_5 rfl ?_
                            refine w_iload_n gz_147_6 rfl ?_
                            refine w_icgt (t := 14) gz_147_7 rfl (fun u183 => ?_) (fun u183 => ?_)
                            ·
                              refine w_iconst gz_147_14 (by decide) ?_
                              refine w_bret gz_147_15 gm_147 (by omega) (by omega) ?_
                              show wp l rho (d + 5) 148 94 [(2, 151), (0, x1), (0, x2), (0, x3), (0, x4), (0, x5), (0, 1)] [(0, 0)] h1 Q
                              refine w_ifeq (t := 101) gz_148_94 rfl (fun u184 => ?_) (fun u184 => by exfalso; omega)
                              refine w_iconst gz_148_101 (by decide) ?_
                              refine w_istore (ls' := [(2, 151), (0, x1), (0, x2), (0, x3), (0, x4), (0, x5), (0, 0)]) gz_148_102 gm_148 rfl rfl rfl ?_
                              refine w_iload gz_148_104 rfl ?_
                              refine w_ifeq (t := 134) gz_148_106 rfl (fun u185 => ?_) (fun u185 => by exfalso; omega)
                              refine w_iconst gz_148_134 (by decide) ?_
                              have c186 := (my_up_self fh1)
                              exact w_bret gz_148_135 gm_148 (by omega) (by omega) (k0 h1 (gh1) (by omega) (by first | exact ⟨(show (0 ≤ x1 ∧ x1 ≤ 2 ∧ 0 < h 157 x1) ∧ (0 ≤ x2 ∧ x2 ≤ 19) ∧ (2 ≤ h 157 x1 → 0 ≤ x3 ∧ x3 ≤ 19) ∧ (3 ≤ h 157 x1 → 0 ≤ x4 ∧ x4 ≤ 19) ∧ (4 ≤ h 157 x1 → 0 ≤ x5 ∧ x5 ≤ 19) by omega), no.mpr (by omega), by omega, (Mlf_t T ma8 ot8.1).mp lf8⟩ | exact Mtk ot8.1 ot8.2 tk8 | exact (fun z => by have z1 : (0 ≤ x1 ∧ x1 ≤ 2 ∧ 0 < h 157 x1) ∧ (0 ≤ x2 ∧ x2 ≤ 19) ∧ (2 ≤ h 157 x1 → 0 ≤ x3 ∧ x3 ≤ 19) ∧ (3 ≤ h 157 x1 → 0 ≤ x4 ∧ x4 ≤ 19) ∧ (4 ≤ h 157 x1 → 0 ≤ x5 ∧ x5 ≤ 19) := z.1; omega) | exact (fun z => no.mp z.2.1 (by omega)) | exact (fun z => by have q := z.2.2.1; omega) | exact (fun z => lf8 ((Mlf_t T ma8 ot8.1).mpr z.2.2.2)) | exact OtT_0 b162 b163 | exact OtT_e ot8.2 tk8.1 tk8.2 | assumption | omega) (by first | exact ⟨(show (0 ≤ x1 ∧ x1 ≤ 2 ∧ 0 < h 157 x1) ∧ (0 ≤ x2 ∧ x2 ≤ 19) ∧ (2 ≤ h 157 x1 → 0 ≤ x3 ∧ x3 ≤ 19) ∧ (3 ≤ h 157 x1 → 0 ≤ x4 ∧ x4 ≤ 19) ∧ (4 ≤ h 157 x1 → 0 ≤ x5 ∧ x5 ≤ 19) by omega), no.mpr (by omega), by omega, (Mlf_t T ma8 ot8.1).mp lf8⟩ | exact Mtk ot8.1 ot8.2 tk8 | exact (fun z => by have z1 : (0 ≤ x1 ∧ x1 ≤ 2 ∧ 0 < h 157 x1) ∧ (0 ≤ x2 ∧ x2 ≤ 19) ∧ (2 ≤ h 157 x1 → 0 ≤ x3 ∧ x3 ≤ 19) ∧ (3 ≤ h 157 x1 → 0 ≤ x4 ∧ x4 ≤ 19) ∧ (4 ≤ h 157 x1 → 0 ≤ x5 ∧ x5 ≤ 19) := z.1; omega) | exact (fun z => no.mp z.2.1 (by omega)) | exact (fun z => by have q := z.2.2.1; omega) | exact (fun z => lf8 ((Mlf_t T ma8 ot8.1).mpr z.2.2.2)) | exact OtT_0 b162 b163 | exact OtT_e ot8.2 tk8.1 tk8.2 | assumption | omega) Rws_h1)
                            ·
                              refine w_iconst gz_147_10 (by decide) ?_
                              refine w_goto (t := 15) gz_147_11 rfl ?_
                              refine w_bret gz_147_15 gm_147 (by omega) (by omega) ?_
                              show wp l rho (d + 5) 148 94 [(2, 151), (0, x1), (0, x2), (0, x3), (0, x4), (0, x5), (0, 1)] [(0, 1)] h1 Q
                              refine w_ifeq (t := 101) gz_148_94 rfl (fun u187 => by exfalso; omega) (fun u187 => ?_)
                              refine w_iconst gz_148_97 (by decide) ?_
                              refine w_goto (t := 102) gz_148_98 rfl ?_
                              refine w_istore (ls' := [(2, 151), (0, x1), (0, x2), (0, x3), (0, x4), (0, x5), (0, 1)]) gz_148_102 gm_148 rfl rfl rfl ?_
                              refine w_iload gz_148_104 rfl ?_
                              refine w_ifeq (t := 134) gz_148_106 rfl (fun u188 => by exfalso; omega) (fun u188 => ?_)
                              refine w_aload_n gz_148_109 rfl ?_
                              refine w_getX (v := 162) gz_148_110 is_151 rd_10 rfl (by decide) rfl ?_
                              refine w_iconst gz_148_113 (by decide) ?_
                              refine w_iload_n gz_148_114 rfl ?_
                              refine w_iload_n gz_148_115 rfl ?_
                              refine w_inS (k := 0) (as := [(0, x2), (0, x1), (0, 0)]) (r := [(2, 162)]) (ls0 := [(0, 0), (0, x1), (0, x2)]) gz_148_116 gm_150 rfl rfl rfl rfl rfl rfl ?_
                              refine w_bipush gz_150_0 (by decide) ?_
                              refine w_iload_n gz_150_2 rfl ?_
                              refine w_imul gz_150_3 ⟨by omega, by omega⟩ ?_
                              refine w_bipush gz_150_4 (by decide) ?_
                              refine w_iload_n gz_150_6 rfl ?_
                              refine w_imul gz_150_7 ⟨by omega, by omega⟩ ?_
                              refine w_iadd gz_150_8 ⟨by omega, by omega⟩ ?_
                              refine w_iload_n gz_150_9 rfl ?_
                              refine w_iadd gz_150_10 ⟨by omega, by omega⟩ ?_
                              refine w_iret gz_150_11 gm_150 ?_
                              show wp l rho (d + 5) 148 119 [(2, 151), (0, x1), (0, x2), (0, x3), (0, x4), (0, x5), (0, 1)] [(0, (((60 * 0) + (20 * x1)) + x2)), (2, 162)] h1 Q
                              have n162 := b162 (60 * 0 + 20 * x1 + x2)
                              have no := MS_n (k := x2) T (s := 0) (by omega) (by omega) (w := x1) (by omega) (by omega) (by omega) (by omega)
                              refine w_bald gz_148_119 is_162 rd_61 (by omega) (by omega) (fun v190 ev190 pv190 qv190 => ?_)
                              refine w_ifne (t := 134) gz_148_120 rfl (fun u191 => ?_) (fun u191 => ?_)
                              ·
                                refine w_iconst gz_148_134 (by decide) ?_
                                have c192 := (my_up_self fh1)
                                exact w_bret gz_148_135 gm_148 (by omega) (by omega) (k0 h1 (gh1) (by omega) (by first | exact ⟨(show (0 ≤ x1 ∧ x1 ≤ 2 ∧ 0 < h 157 x1) ∧ (0 ≤ x2 ∧ x2 ≤ 19) ∧ (2 ≤ h 157 x1 → 0 ≤ x3 ∧ x3 ≤ 19) ∧ (3 ≤ h 157 x1 → 0 ≤ x4 ∧ x4 ≤ 19) ∧ (4 ≤ h 157 x1 → 0 ≤ x5 ∧ x5 ≤ 19) by omega), no.mpr (by omega), by omega, (Mlf_t T ma8 ot8.1).mp lf8⟩ | exact Mtk ot8.1 ot8.2 tk8 | exact (fun z => by have z1 : (0 ≤ x1 ∧ x1 ≤ 2 ∧ 0 < h 157 x1) ∧ (0 ≤ x2 ∧ x2 ≤ 19) ∧ (2 ≤ h 157 x1 → 0 ≤ x3 ∧ x3 ≤ 19) ∧ (3 ≤ h 157 x1 → 0 ≤ x4 ∧ x4 ≤ 19) ∧ (4 ≤ h 157 x1 → 0 ≤ x5 ∧ x5 ≤ 19) := z.1; omega) | exact (fun z => no.mp z.2.1 (by omega)) | exact (fun z => by have q := z.2.2.1; omega) | exact (fun z => lf8 ((Mlf_t T ma8 ot8.1).mpr z.2.2.2)) | exact OtT_0 b162 b163 | exact OtT_e ot8.2 tk8.1 tk8.2 | assumption | omega) (by first | exact ⟨(show (0 ≤ x1 ∧ x1 ≤ 2 ∧ 0 < h 157 x1) ∧ (0 ≤ x2 ∧ x2 ≤ 19) ∧ (2 ≤ h 157 x1 → 0 ≤ x3 ∧ x3 ≤ 19) ∧ (3 ≤ h 157 x1 → 0 ≤ x4 ∧ x4 ≤ 19) ∧ (4 ≤ h 157 x1 → 0 ≤ x5 ∧ x5 ≤ 19) by omega), no.mpr (by omega), by omega, (Mlf_t T ma8 ot8.1).mp lf8⟩ | exact Mtk ot8.1 ot8.2 tk8 | exact (fun z => by have z1 : (0 ≤ x1 ∧ x1 ≤ 2 ∧ 0 < h 157 x1) ∧ (0 ≤ x2 ∧ x2 ≤ 19) ∧ (2 ≤ h 157 x1 → 0 ≤ x3 ∧ x3 ≤ 19) ∧ (3 ≤ h 157 x1 → 0 ≤ x4 ∧ x4 ≤ 19) ∧ (4 ≤ h 157 x1 → 0 ≤ x5 ∧ x5 ≤ 19) := z.1; omega) | exact (fun z => no.mp z.2.1 (by omega)) | exact (fun z => by have q := z.2.2.1; omega) | exact (fun z => lf8 ((Mlf_t T ma8 ot8.1).mpr z.2.2.2)) | exact OtT_0 b162 b163 | exact OtT_e ot8.2 tk8.1 tk8.2 | assumption | omega) Rws_h1)
                              ·
                                refine w_aload_n gz_148_123 rfl ?_
                                refine w_iconst gz_148_124 (by decide) ?_
                                refine w_iload_n gz_148_125 rfl ?_
                                refine w_inv (k := 2) (as := [(0, x1), (0, 0)]) (r := []) (x := 151) (ls0 := [(2, 151), (0, 0), (0, x1), (9, 0), (9, 0)]) gz_148_126 gm_151 rfl is_151 rd_10 rfl rfl rfl rfl rfl (c_Model_rowsOf2 (d := (d + 3)) (x1 := 0) (x2 := x1) (by omega) (by omega) (by omega) (by omega) (fun v193 w194 w195 xp196 => ?_))
                                show wp l rho (d + 5) 148 129 [(2, 151), (0, x1), (0, x2), (0, x3), (0, x4), (0, x5), (0, 1)] [(0, v193)] h1 Q
                                have ry := xp196
                                have rb := (Rws_h1) 0 x1 (by omega) (by omega) (by omega) (by omega)
                                have cn8 := (ry.trans (rc_cg9 b162 20)).trans (rc_Cn T (by omega) (by omega) (by omega) (by omega) 20 (by omega))
                                refine w_bipush gz_148_129 (by decide) ?_
                                refine w_icne (t := 136) gz_148_131 rfl (fun u197 => ?_) (fun u197 => ?_)
                                ·
                                  refine w_aload_n gz_148_136 rfl ?_
                                  refine w_iconst gz_148_137 (by decide) ?_
                                  refine w_iconst gz_148_138 (by decide) ?_
                                  refine w_inv (k := 1) (as := [(0, 5), (0, 0)]) (r := []) (x := 151) (ls0 := [(2, 151), (0, 0), (0, 5), (9, 0)]) gz_148_139 gm_152 rfl is_151 rd_10 rfl rfl rfl rfl rfl (c_Model_copies5 (d := (d + 4)) (x1 := 0) (x2 := 5) (by omega) (by omega) (by omega) (by omega) Rws_h1 (fun h198 frh198 xp199 xp200 Rws_h198t201 => ?_))
                                  have gh198 : my_fr [(10, 0), (61, -1), (62, -1)] h h198 := my_fr.tr gh1 (frh198.mo rfl)
                                  show wp l rho (d + 5) 148 142 [(2, 151), (0, x1), (0, x2), (0, x3), (0, x4), (0, x5), (0, 1)] [] h198 Q
                                  have cpx := xp199
                                  have cp8 := xp199
                                  have cq8 := xp200
                                  refine w_aload_n gz_148_142 rfl ?_
                                  refine w_iconst gz_148_143 (by decide) ?_
                                  refine w_iload_n gz_148_144 rfl ?_
                                  refine w_iload_n gz_148_145 rfl ?_
                                  refine w_aload_n gz_148_146 rfl ?_
                                  refine w_getX (v := 157) gz_148_147 is_151 rd_10 rfl (by decide) rfl ?_
                                  refine w_iload_n gz_148_150 rfl ?_
                                  refine w_iald gz_148_151 is_157 rd_56 (by omega) (by omega) (fun v203 ev203 pv203 qv203 => ?_)
                                  have zv203 := ev203.trans ((my_fr.at frh198 is_157 rfl).trans ev140.symm)
                                  refine w_iconst gz_148_152 (by decide) ?_
                                  refine w_icge (t := 160) gz_148_153 rfl (fun u204 => ?_) (fun u204 => by exfalso; omega)
                                  refine w_iload_n gz_148_160 rfl ?_
                                  refine w_aload_n gz_148_161 rfl ?_
                                  refine w_getX (v := 157) gz_148_162 is_151 rd_10 rfl (by decide) rfl ?_
                                  refine w_iload_n gz_148_165 rfl ?_
                                  refine w_iald gz_148_166 is_157 rd_56 (by omega) (by omega) (fun v206 ev206 pv206 qv206 => ?_)
                                  have zv206 := ev206.trans ev203.symm
                                  refine w_iconst gz_148_167 (by decide) ?_
                                  refine w_icge (t := 175) gz_148_168 rfl (fun u207 => ?_) (fun u207 => by exfalso; omega)
                                  refine w_iload gz_148_175 rfl ?_
                                  refine w_aload_n gz_148_177 rfl ?_
                                  refine w_getX (v := 157) gz_148_178 is_151 rd_10 rfl (by decide) rfl ?_
                                  refine w_iload_n gz_148_181 rfl ?_
                                  refine w_iald gz_148_182 is_157 rd_56 (by omega) (by omega) (fun v209 ev209 pv209 qv209 => ?_)
                                  have zv209 := ev209.trans ev206.symm
                                  refine w_iconst gz_148_183 (by decide) ?_
                                  refine w_icge (t := 191) gz_148_184 rfl (fun u210 => ?_) (fun u210 => by exfalso; omega)
                                  refine w_iload gz_148_191 rfl ?_
                                  have d157 : ∀ j : Int, h198 157 j = h 157 j := fun j => ((my_fr.at frh198 is_157 rfl).trans ((my_up_role fh1 is_157 is_151 rfl).trans (rfl : h 157 j = h 157 j)))
                                  have n2 := d157 x1
                                  refine w_inv (k := 1) (as := [(0, x5), (0, x4), (0, x3), (0, x2), (0, x1), (0, 5)]) (r := []) (x := 151) (ls0 := [(2, 151), (0, 5), (0, x1), (0, x2), (0, x3), (0, x4), (0, x5), (9, 0)]) gz_148_193 gm_153 rfl is_151 rd_10 rfl rfl rfl rfl rfl (c_Model_lays5 (d := (d + 3)) (x1 := 5) (x2 := x1) (x3 := x2) (x4 := x3) (x5 := x4) (x6 := x5) (by omega) (by omega) (by omega) (by omega) (by omega) (by omega) (by omega) (by omega) (by omega) (by omega) (by omega) (by omega) Rws_h198t201 (by rw [rc_Cp cpx (by omega) (by omega)]; omega) (fun h211 frh211 xp212 Rws_h211t213 => ?_))
                                  have gh211 : my_fr [(10, 0), (61, -1), (62, -1)] h h211 := my_fr.tr gh198 (frh211.mo rfl)
                                  show wp l rho (d + 5) 148 196 [(2, 151), (0, x1), (0, x2), (0, x3), (0, x4), (0, x5), (0, 1)] [] h211 Q
                                  have ot8 := Mrow_t (b := x3) (c := x4) (d := x5) (m := h 157 x1) cp8 cq8 b162 b163 xp212 (by omega) (by omega) (by omega) (by omega) (by omega) rfl (by omega) (by omega) (by omega)
                                  refine w_aload_n gz_148_196 rfl ?_
                                  have ma8 : zqMA h211 = zqMA h := zqMA_e (fun j => my_fr.at gh211 pis_157 rfl) (fun j => my_fr.at gh211 pis_158 rfl) (fun j => my_fr.at gh211 pis_159 rfl) (fun j => my_fr.at gh211 pis_160 rfl) (fun j => my_fr.at gh211 pis_161 rfl)
                                  refine w_inv (k := 0) (as := []) (r := []) (x := 151) (ls0 := [(2, 151)]) gz_148_197 gm_154 rfl is_151 rd_10 rfl rfl rfl rfl rfl (c_Model_takes5 (d := d)  Rws_h211t213 (fun h214 frh214 xp215 xp216 Rws_h214t217 => ?_) (fun h218 frh218 xp219 xp220 Rws_h218t221 => ?_))
                                  ·
                                    have gh214 : my_fr [(10, 0), (61, -1), (62, -1)] h h214 := my_fr.tr gh211 (frh214.mo rfl)
                                    show wp l rho (d + 5) 148 200 [(2, 151), (0, x1), (0, x2), (0, x3), (0, x4), (0, x5), (0, 1)] [(0, 0)] h214 Q
                                    have lf8 := xp215
                                    have tk8 := xp216
                                    have c222 := ((my_fr.at frh214 is_151 rfl).trans ((my_fr.at frh211 is_151 rfl).trans ((my_fr.at frh198 is_151 rfl).trans (my_up_self fh1))))
                                    exact w_bret gz_148_200 gm_148 (by omega) (by omega) (k0 h214 (gh214) (by omega) (by first | exact ⟨(show (0 ≤ x1 ∧ x1 ≤ 2 ∧ 0 < h 157 x1) ∧ (0 ≤ x2 ∧ x2 ≤ 19) ∧ (2 ≤ h 157 x1 → 0 ≤ x3 ∧ x3 ≤ 19) ∧ (3 ≤ h 157 x1 → 0 ≤ x4 ∧ x4 ≤ 19) ∧ (4 ≤ h 157 x1 → 0 ≤ x5 ∧ x5 ≤ 19) by omega), no.mpr (by omega), by omega, (Mlf_t T ma8 ot8.1).mp lf8⟩ | exact Mtk ot8.1 ot8.2 tk8 | exact (fun z => by have z1 : (0 ≤ x1 ∧ x1 ≤ 2 ∧ 0 < h 157 x1) ∧ (0 ≤ x2 ∧ x2 ≤ 19) ∧ (2 ≤ h 157 x1 → 0 ≤ x3 ∧ x3 ≤ 19) ∧ (3 ≤ h 157 x1 → 0 ≤ x4 ∧ x4 ≤ 19) ∧ (4 ≤ h 157 x1 → 0 ≤ x5 ∧ x5 ≤ 19) := z.1; omega) | exact (fun z => no.mp z.2.1 (by omega)) | exact (fun z => by have q := z.2.2.1; omega) | exact (fun z => lf8 ((Mlf_t T ma8 ot8.1).mpr z.2.2.2)) | exact OtT_0 b162 b163 | exact OtT_e ot8.2 tk8.1 tk8.2 | assumption | omega) (by first | exact ⟨(show (0 ≤ x1 ∧ x1 ≤ 2 ∧ 0 < h 157 x1) ∧ (0 ≤ x2 ∧ x2 ≤ 19) ∧ (2 ≤ h 157 x1 → 0 ≤ x3 ∧ x3 ≤ 19) ∧ (3 ≤ h 157 x1 → 0 ≤ x4 ∧ x4 ≤ 19) ∧ (4 ≤ h 157 x1 → 0 ≤ x5 ∧ x5 ≤ 19) by omega), no.mpr (by omega), by omega, (Mlf_t T ma8 ot8.1).mp lf8⟩ | exact Mtk ot8.1 ot8.2 tk8 | exact (fun z => by have z1 : (0 ≤ x1 ∧ x1 ≤ 2 ∧ 0 < h 157 x1) ∧ (0 ≤ x2 ∧ x2 ≤ 19) ∧ (2 ≤ h 157 x1 → 0 ≤ x3 ∧ x3 ≤ 19) ∧ (3 ≤ h 157 x1 → 0 ≤ x4 ∧ x4 ≤ 19) ∧ (4 ≤ h 157 x1 → 0 ≤ x5 ∧ x5 ≤ 19) := z.1; omega) | exact (fun z => no.mp z.2.1 (by omega)) | exact (fun z => by have q := z.2.2.1; omega) | exact (fun z => lf8 ((Mlf_t T ma8 ot8.1).mpr z.2.2.2)) | exact OtT_0 b162 b163 | exact OtT_e ot8.2 tk8.1 tk8.2 | assumption | omega) Rws_h214t217)
                                  ·
                                    have gh218 : my_fr [(10, 0), (61, -1), (62, -1)] h h218 := my_fr.tr gh211 (frh218.mo rfl)
                                    show wp l rho (d + 5) 148 200 [(2, 151), (0, x1), (0, x2), (0, x3), (0, x4), (0, x5), (0, 1)] [(0, 1)] h218 Q
                                    have lf8 := xp219
                                    have tk8 := xp220
                                    have c223 := ((my_fr.at frh218 is_151 rfl).trans ((my_fr.at frh211 is_151 rfl).trans ((my_fr.at frh198 is_151 rfl).trans (my_up_self fh1))))
                                    exact w_bret gz_148_200 gm_148 (by omega) (by omega) (k1 h218 (gh218) (by omega) (by omega) (by omega) (by omega) (by omega) (by first | exact ⟨(show (0 ≤ x1 ∧ x1 ≤ 2 ∧ 0 < h 157 x1) ∧ (0 ≤ x2 ∧ x2 ≤ 19) ∧ (2 ≤ h 157 x1 → 0 ≤ x3 ∧ x3 ≤ 19) ∧ (3 ≤ h 157 x1 → 0 ≤ x4 ∧ x4 ≤ 19) ∧ (4 ≤ h 157 x1 → 0 ≤ x5 ∧ x5 ≤ 19) by omega), no.mpr (by omega), by omega, (Mlf_t T ma8 ot8.1).mp lf8⟩ | exact Mtk ot8.1 ot8.2 tk8 | exact (fun z => by have z1 : (0 ≤ x1 ∧ x1 ≤ 2 ∧ 0 < h 157 x1) ∧ (0 ≤ x2 ∧ x2 ≤ 19) ∧ (2 ≤ h 157 x1 → 0 ≤ x3 ∧ x3 ≤ 19) ∧ (3 ≤ h 157 x1 → 0 ≤ x4 ∧ x4 ≤ 19) ∧ (4 ≤ h 157 x1 → 0 ≤ x5 ∧ x5 ≤ 19) := z.1; omega) | exact (fun z => no.mp z.2.1 (by omega)) | exact (fun z => by have q := z.2.2.1; omega) | exact (fun z => lf8 ((Mlf_t T ma8 ot8.1).mpr z.2.2.2)) | exact OtT_0 b162 b163 | exact OtT_e ot8.2 tk8.1 tk8.2 | assumption | omega) (by first | exact ⟨(show (0 ≤ x1 ∧ x1 ≤ 2 ∧ 0 < h 157 x1) ∧ (0 ≤ x2 ∧ x2 ≤ 19) ∧ (2 ≤ h 157 x1 → 0 ≤ x3 ∧ x3 ≤ 19) ∧ (3 ≤ h 157 x1 → 0 ≤ x4 ∧ x4 ≤ 19) ∧ (4 ≤ h 157 x1 → 0 ≤ x5 ∧ x5 ≤ 19) by omega), no.mpr (by omega), by omega, (Mlf_t T ma8 ot8.1).mp lf8⟩ | exact Mtk ot8.1 ot8.2 tk8 | exact (fun z => by have z1 : (0 ≤ x1 ∧ x1 ≤ 2 ∧ 0 < h 157 x1) ∧ (0 ≤ x2 ∧ x2 ≤ 19) ∧ (2 ≤ h 157 x1 → 0 ≤ x3 ∧ x3 ≤ 19) ∧ (3 ≤ h 157 x1 → 0 ≤ x4 ∧ x4 ≤ 19) ∧ (4 ≤ h 157 x1 → 0 ≤ x5 ∧ x5 ≤ 19) := z.1; omega) | exact (fun z => no.mp z.2.1 (by omega)) | exact (fun z => by have q := z.2.2.1; omega) | exact (fun z => lf8 ((Mlf_t T ma8 ot8.1).mpr z.2.2.2)) | exact OtT_0 b162 b163 | exact OtT_e ot8.2 tk8.1 tk8.2 | assumption | omega) Rws_h218t221)
                                ·
                                  refine w_iconst gz_148_134 (by decide) ?_
                                  have c224 := (my_up_self fh1)
                                  exact w_bret gz_148_135 gm_148 (by omega) (by omega) (k0 h1 (gh1) (by omega) (by first | exact ⟨(show (0 ≤ x1 ∧ x1 ≤ 2 ∧ 0 < h 157 x1) ∧ (0 ≤ x2 ∧ x2 ≤ 19) ∧ (2 ≤ h 157 x1 → 0 ≤ x3 ∧ x3 ≤ 19) ∧ (3 ≤ h 157 x1 → 0 ≤ x4 ∧ x4 ≤ 19) ∧ (4 ≤ h 157 x1 → 0 ≤ x5 ∧ x5 ≤ 19) by omega), no.mpr (by omega), by omega, (Mlf_t T ma8 ot8.1).mp lf8⟩ | exact Mtk ot8.1 ot8.2 tk8 | exact (fun z => by have z1 : (0 ≤ x1 ∧ x1 ≤ 2 ∧ 0 < h 157 x1) ∧ (0 ≤ x2 ∧ x2 ≤ 19) ∧ (2 ≤ h 157 x1 → 0 ≤ x3 ∧ x3 ≤ 19) ∧ (3 ≤ h 157 x1 → 0 ≤ x4 ∧ x4 ≤ 19) ∧ (4 ≤ h 157 x1 → 0 ≤ x5 ∧ x5 ≤ 19) := z.1; omega) | exact (fun z => no.mp z.2.1 (by omega)) | exact (fun z => by have q := z.2.2.1; omega) | exact (fun z => lf8 ((Mlf_t T ma8 ot8.1).mpr z.2.2.2)) | exact OtT_0 b162 b163 | exact OtT_e ot8.2 tk8.1 tk8.2 | assumption | omega) (by first | exact ⟨(show (0 ≤ x1 ∧ x1 ≤ 2 ∧ 0 < h 157 x1) ∧ (0 ≤ x2 ∧ x2 ≤ 19) ∧ (2 ≤ h 157 x1 → 0 ≤ x3 ∧ x3 ≤ 19) ∧ (3 ≤ h 157 x1 → 0 ≤ x4 ∧ x4 ≤ 19) ∧ (4 ≤ h 157 x1 → 0 ≤ x5 ∧ x5 ≤ 19) by omega), no.mpr (by omega), by omega, (Mlf_t T ma8 ot8.1).mp lf8⟩ | exact Mtk ot8.1 ot8.2 tk8 | exact (fun z => by have z1 : (0 ≤ x1 ∧ x1 ≤ 2 ∧ 0 < h 157 x1) ∧ (0 ≤ x2 ∧ x2 ≤ 19) ∧ (2 ≤ h 157 x1 → 0 ≤ x3 ∧ x3 ≤ 19) ∧ (3 ≤ h 157 x1 → 0 ≤ x4 ∧ x4 ≤ 19) ∧ (4 ≤ h 157 x1 → 0 ≤ x5 ∧ x5 ≤ 19) := z.1; omega) | exact (fun z => no.mp z.2.1 (by omega)) | exact (fun z => by have q := z.2.2.1; omega) | exact (fun z => lf8 ((Mlf_t T ma8 ot8.1).mpr z.2.2.2)) | exact OtT_0 b162 b163 | exact OtT_e ot8.2 tk8.1 tk8.2 | assumption | omega) Rws_h1)
end MYNModel_row5
