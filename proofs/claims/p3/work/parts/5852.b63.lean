/-! contracts, printed by wip/gen/gy.py -/
section MYNModel_findComing5
theorem c_Model_findComing5 {l : Launch} {rho : Nat → Int32} {d : Nat} {h : my_H} {Q : my_H → my_V → Prop} {x1 : Int} (a1 : 0 ≤ x1) (b1 : x1 ≤ 5) (n_Mw : Mw h) (hfp : Fp h x1) (hlm : LmW h) (k0 : ∀ (h' : my_H), my_fr [(10, 27), (10, 32), (10, 33), (73, -1), (74, -1), (75, -1), (76, -1), (77, -1), (78, -1), (79, -1), (94, -1)] h h' → (∀ c : Int, 0 ≤ c → c ≤ 3 → h' 195 c = cmM h x1 c) → h' 151 33 = mBs h x1 → Q h' (9, 0)) : wp l rho (d + 2) 217 0 [(2, 151), (0, x1), (9, 0), (9, 0)] [] h Q := by
  obtain ⟨W, hW⟩ := id n_Mw
  have tx : h 164 x1 = 1 := hfp.1 (by omega)
  have lm0 := hlm _ a1 b1 tx
  have w80 := LmW_8 hlm a1 b1 tx
  have J7_0 : ∀ (n : Nat) (p7_0 : Int) (h7_0 : my_H), my_fr [(10, 27), (10, 32), (10, 33), (73, -1), (74, -1), (75, -1), (76, -1), (77, -1), (78, -1), (79, -1), (94, -1)] h h7_0 → 0 ≤ p7_0 → p7_0 ≤ 4 → Mw h7_0 → Fc h h7_0 (h7_0 151 32) (-1) x1 → 1 ≤ h7_0 151 32 ∧ h7_0 151 32 ≤ 6 → CoS h h7_0 x1 (mCW h x1) → h7_0 151 33 = mBs h x1 → (∀ i : Int, 0 ≤ i → i < p7_0 → h7_0 195 i = cmM h x1 i) → 5 - p7_0 ≤ (n : Int) → wp l rho (d + 2) 217 7 [(2, 151), (0, x1), (0, p7_0), (9, 0)] [] h7_0 Q := by
    intro n
    induction n with
    | zero => intro p7_0 h7_0 gh_7_0 q0_7_0 q1_7_0 n_Mw_7_0 fc_7_0 c1_7_0 co_7_0 b3_7_0 cm_7_0 hm_7_0; exfalso; omega
    | succ n ih_7_0 =>
      intro p7_0 h7_0 gh_7_0 q0_7_0 q1_7_0 n_Mw_7_0 fc_7_0 c1_7_0 co_7_0 b3_7_0 cm_7_0 hm_7_0
      have J47_0 : ∀ (n : Nat) (p47_0 p47_1 p47_2 : Int) (h47_0 : my_H), my_fr [(10, 27), (10, 32), (10, 33), (73, -1), (74, -1), (75, -1), (76, -1), (77, -1), (78, -1), (79, -1), (94, -1)] h h47_0 → p7_0 ≤ 3 → (-1) ≤ p47_0 → p47_0 ≤ 7 → 0 ≤ p47_2 → p47_2 ≤ 2 → 0 ≤ p47_1 → p47_1 ≤ 8 → p47_0 ≤ (p47_1 - 1) → h47_0 151 27 = p47_1 → h47_0 151 33 = p47_2 → Mw h47_0 → Fc h h47_0 (h47_0 151 32) (-1) x1 → 1 ≤ h47_0 151 32 ∧ h47_0 151 32 ≤ 6 → CoS h h47_0 x1 (mCW h x1) → h47_0 151 33 = mBs h x1 → (∀ i : Int, 0 ≤ i → i < p7_0 → h47_0 195 i = cmM h x1 i) → CmI (zqOg (mBs h x1) (h 157 (mBs h x1)) (mCW h x1)) (4 * mBs h x1 + p7_0) (h 188) (MWd h x1) (mFu h x1 p7_0) p47_0 (h47_0 195 p7_0) → p47_0 < MWd h x1 → p47_0 - (-2) ≤ (n : Int) → wp l rho (d + 2) 217 47 [(2, 151), (0, x1), (0, p7_0), (0, p47_0)] [] h47_0 Q := by
        intro n
        induction n with
        | zero => intro p47_0 p47_1 p47_2 h47_0 gh_47_0 q0_47_0 q1_47_0 q2_47_0 q3_47_0 q4_47_0 q5_47_0 q6_47_0 q7_47_0 c151_27_47_0 c151_33_47_0 n_Mw_47_0 fc_47_0 c1_47_0 co_47_0 b3_47_0 cm_47_0 cv_47_0 lb_47_0 hm_47_0; exfalso; omega
        | succ n ih_47_0 =>
          intro p47_0 p47_1 p47_2 h47_0 gh_47_0 q0_47_0 q1_47_0 q2_47_0 q3_47_0 q4_47_0 q5_47_0 q6_47_0 q7_47_0 c151_27_47_0 c151_33_47_0 n_Mw_47_0 fc_47_0 c1_47_0 co_47_0 b3_47_0 cm_47_0 cv_47_0 lb_47_0 hm_47_0
          refine w_iload_n gz_217_47 rfl ?_
          refine w_iflt (t := 97) gz_217_48 rfl (fun u1 => ?_) (fun u1 => ?_)
          ·
            refine w_iinc (ls' := [(2, 151), (0, x1), (0, (p7_0 + 1)), (0, p47_0)]) gz_217_97 rfl gm_217 rfl rfl rfl ⟨by omega, by omega⟩ ?_
            refine w_goto (t := 7) gz_217_100 rfl ?_
            have ca : ∀ j : Int, h47_0 177 j = h47_0 177 j := fun _ => rfl
            have d174 : ∀ j : Int, h47_0 174 j = h47_0 174 j := fun _ => rfl
            have d175 : ∀ j : Int, h47_0 175 j = h47_0 175 j := fun _ => rfl
            have d176 : ∀ j : Int, h47_0 176 j = h47_0 176 j := fun _ => rfl
            have ce2 : h47_0 151 33 = p47_2 := c151_33_47_0
            have ce3 : h47_0 151 27 = p47_1 := c151_27_47_0
            refine w_weak (ls' := [(2, 151), (0, x1), (0, (p7_0 + 1)), (9, 0)]) (wk_e (wk_e (wk_e (wk_9 wk_n)))) ?_
            exact ih_7_0 ((p7_0 + 1)) h47_0 (gh_47_0) (by omega) (by omega) n_Mw_47_0 (by first | exact fc0 | exact fc_7_0 | exact fc_47_0 | (rw [show h47_0 151 32 = h47_0 151 32 by omega]; exact Fc_cg ca (by omega) fc_47_0) | (rw [show h47_0 151 32 = h7_0 151 32 by omega]; exact Fc_cg ca (by omega) fc_7_0) | assumption | omega) (by first | omega | assumption | omega) (by first | exact co0 | exact co_7_0 | exact co_47_0 | exact CoS_cg co_47_0 (by omega) d174 d175 d176 | exact CoS_cg co_7_0 (by omega) d174 d175 d176 | assumption | omega) (by first | exact b30 | omega | assumption | omega) (by first | exact st_0 | exact (fun i a b => (my_up_ne no_such_saying (by omega)).trans (cm_7_0 i a b)) | exact (fun i a b => (my_up_ne no_such_saying (by omega)).trans (cm_47_0 i a b)) | exact st_1 cm_47_0 (CmI_e cv_47_0 (by omega) (by omega) rfl) | assumption | omega) (by omega)
          ·
            have cm8 := CoM co_47_0.1 lm0.2.1 lm0.2.2.1 lm0.2.2.2.2 lm0.1 (j := p47_0) (c := p7_0) (by omega) (by have z := co_47_0.2; unfold MWd at lb_47_0; omega) (by omega) (by omega)
            refine w_aload_n gz_217_51 rfl ?_
            refine w_getX (v := 195) gz_217_52 is_151 rd_10 rfl (by decide) rfl ?_
            refine w_iload_n gz_217_55 rfl ?_
            refine w_aload_n gz_217_56 rfl ?_
            refine w_getX (v := 176) gz_217_57 is_151 rd_10 rfl (by decide) rfl ?_
            refine w_iload_n gz_217_60 rfl ?_
            refine w_bald gz_217_61 is_176 rd_75 (by omega) (by omega) (fun v6 ev6 pv6 qv6 => ?_)
            have ow8 : v6 = h47_0 176 p47_0 := by omega
            refine w_ifeq (t := 84) gz_217_62 rfl (fun u7 => ?_) (fun u7 => ?_)
            ·
              refine w_aload_n gz_217_84 rfl ?_
              refine w_getX (v := 195) gz_217_85 is_151 rd_10 rfl (by decide) rfl ?_
              refine w_iload_n gz_217_88 rfl ?_
              refine w_iald gz_217_89 is_195 rd_94 (by omega) (by omega) (fun v9 ev9 pv9 qv9 => ?_)
              have rd8 : v9 = h 188 p47_0 ∨ v9 = h47_0 195 p7_0 := by first | exact Or.inl dr8 | exact Or.inr (by omega)
              refine w_iast gz_217_90 is_195 rd_94 (by omega) (by omega) (by omega) (by omega) (fun h10 fh10 => ?_)
              have gh10 : my_fr [(10, 27), (10, 32), (10, 33), (73, -1), (74, -1), (75, -1), (76, -1), (77, -1), (78, -1), (79, -1), (94, -1)] h h10 := my_fr.up gh_47_0 is_195 fh10 rfl
              have Mw_h10 : Mw h10 := Mw_ag (my_ag.up fh10 is_195 rfl) n_Mw_47_0
              refine w_iinc (ls' := [(2, 151), (0, x1), (0, p7_0), (0, (p47_0 + (-1)))]) gz_217_91 rfl gm_217 rfl rfl rfl ⟨by omega, by omega⟩ ?_
              refine w_goto (t := 47) gz_217_94 rfl ?_
              have ca : ∀ j : Int, h10 177 j = h47_0 177 j := fun j => ((my_up_role fh10 is_177 is_195 rfl).trans (rfl : h47_0 177 j = h47_0 177 j))
              have d174 : ∀ j : Int, h10 174 j = h47_0 174 j := fun j => ((my_up_role fh10 is_174 is_195 rfl).trans (rfl : h47_0 174 j = h47_0 174 j))
              have d175 : ∀ j : Int, h10 175 j = h47_0 175 j := fun j => ((my_up_role fh10 is_175 is_195 rfl).trans (rfl : h47_0 175 j = h47_0 175 j))
              have d176 : ∀ j : Int, h10 176 j = h47_0 176 j := fun j => ((my_up_role fh10 is_176 is_195 rfl).trans (rfl : h47_0 176 j = h47_0 176 j))
              have ce11 : h10 151 32 = h47_0 151 32 := ((my_up_role fh10 is_151 is_195 rfl).trans (rfl : h47_0 151 32 = h47_0 151 32))
              have ce12 : h10 151 33 = p47_2 := ((my_up_role fh10 is_151 is_195 rfl).trans c151_33_47_0)
              have ce13 : h10 151 27 = p47_1 := ((my_up_role fh10 is_151 is_195 rfl).trans c151_27_47_0)
              exact ih_47_0 ((p47_0 + (-1))) (p47_1) (p47_2) h10 (gh10) (by omega) (by omega) (by omega) (by omega) (by omega) (by omega) (by omega) (by omega) (((my_up_role fh10 is_151 is_195 rfl).trans c151_27_47_0).trans (by omega)) (((my_up_role fh10 is_151 is_195 rfl).trans c151_33_47_0).trans (by omega)) Mw_h10 (by first | exact fc0 | exact fc_7_0 | exact fc_47_0 | (rw [show h10 151 32 = h47_0 151 32 by omega]; exact Fc_cg ca (by omega) fc_47_0) | (rw [show h10 151 32 = h7_0 151 32 by omega]; exact Fc_cg ca (by omega) fc_7_0) | assumption | omega) (by first | omega | assumption | omega) (by first | exact co0 | exact co_7_0 | exact co_47_0 | exact CoS_cg co_47_0 (by omega) d174 d175 d176 | exact CoS_cg co_7_0 (by omega) d174 d175 d176 | assumption | omega) (by first | exact b30 | omega | assumption | omega) (by first | exact st_0 | exact (fun i a b => (my_up_ne fh10 (by omega)).trans (cm_7_0 i a b)) | exact (fun i a b => (my_up_ne fh10 (by omega)).trans (cm_47_0 i a b)) | exact st_1 cm_47_0 (CmI_e cv_47_0 (by omega) (by omega) rfl) | assumption | omega) (by first | exact CmI_0 (by omega) ((my_up_self fh10).trans fu8) | exact CmI_y (by omega) (cm8.mp ⟨by omega, by omega⟩) ((my_up_self fh10).trans dr8) | exact CmI_n cv_47_0 (fun z => by have q := cm8.mpr z; omega) ((my_up_self fh10).trans (by omega)) | assumption | omega) (by omega) (by omega)
            ·
              refine w_aload_n gz_217_65 rfl ?_
              refine w_getX (v := 175) gz_217_66 is_151 rd_10 rfl (by decide) rfl ?_
              refine w_iload_n gz_217_69 rfl ?_
              refine w_iald gz_217_70 is_175 rd_74 (by omega) (by omega) (fun v15 ev15 pv15 qv15 => ?_)
              refine w_iload_n gz_217_71 rfl ?_
              have fr8 : v15 = h47_0 175 p47_0 := by omega
              refine w_icne (t := 84) gz_217_72 rfl (fun u16 => ?_) (fun u16 => ?_)
              ·
                refine w_aload_n gz_217_84 rfl ?_
                refine w_getX (v := 195) gz_217_85 is_151 rd_10 rfl (by decide) rfl ?_
                refine w_iload_n gz_217_88 rfl ?_
                refine w_iald gz_217_89 is_195 rd_94 (by omega) (by omega) (fun v18 ev18 pv18 qv18 => ?_)
                have rd8 : v18 = h 188 p47_0 ∨ v18 = h47_0 195 p7_0 := by first | exact Or.inl dr8 | exact Or.inr (by omega)
                refine w_iast gz_217_90 is_195 rd_94 (by omega) (by omega) (by omega) (by omega) (fun h19 fh19 => ?_)
                have gh19 : my_fr [(10, 27), (10, 32), (10, 33), (73, -1), (74, -1), (75, -1), (76, -1), (77, -1), (78, -1), (79, -1), (94, -1)] h h19 := my_fr.up gh_47_0 is_195 fh19 rfl
                have Mw_h19 : Mw h19 := Mw_ag (my_ag.up fh19 is_195 rfl) n_Mw_47_0
                refine w_iinc (ls' := [(2, 151), (0, x1), (0, p7_0), (0, (p47_0 + (-1)))]) gz_217_91 rfl gm_217 rfl rfl rfl ⟨by omega, by omega⟩ ?_
                refine w_goto (t := 47) gz_217_94 rfl ?_
                have ca : ∀ j : Int, h19 177 j = h47_0 177 j := fun j => ((my_up_role fh19 is_177 is_195 rfl).trans (rfl : h47_0 177 j = h47_0 177 j))
                have d174 : ∀ j : Int, h19 174 j = h47_0 174 j := fun j => ((my_up_role fh19 is_174 is_195 rfl).trans (rfl : h47_0 174 j = h47_0 174 j))
                have d175 : ∀ j : Int, h19 175 j = h47_0 175 j := fun j => ((my_up_role fh19 is_175 is_195 rfl).trans (rfl : h47_0 175 j = h47_0 175 j))
                have d176 : ∀ j : Int, h19 176 j = h47_0 176 j := fun j => ((my_up_role fh19 is_176 is_195 rfl).trans (rfl : h47_0 176 j = h47_0 176 j))
                have ce20 : h19 151 32 = h47_0 151 32 := ((my_up_role fh19 is_151 is_195 rfl).trans (rfl : h47_0 151 32 = h47_0 151 32))
                have ce21 : h19 151 33 = p47_2 := ((my_up_role fh19 is_151 is_195 rfl).trans c151_33_47_0)
                have ce22 : h19 151 27 = p47_1 := ((my_up_role fh19 is_151 is_195 rfl).trans c151_27_47_0)
                exact ih_47_0 ((p47_0 + (-1))) (p47_1) (p47_2) h19 (gh19) (by omega) (by omega) (by omega) (by omega) (by omega) (by omega) (by omega) (by omega) (((my_up_role fh19 is_151 is_195 rfl).trans c151_27_47_0).trans (by omega)) (((my_up_role fh19 is_151 is_195 rfl).trans c151_33_47_0).trans (by omega)) Mw_h19 (by first | exact fc0 | exact fc_7_0 | exact fc_47_0 | (rw [show h19 151 32 = h47_0 151 32 by omega]; exact Fc_cg ca (by omega) fc_47_0) | (rw [show h19 151 32 = h7_0 151 32 by omega]; exact Fc_cg ca (by omega) fc_7_0) | assumption | omega) (by first | omega | assumption | omega) (by first | exact co0 | exact co_7_0 | exact co_47_0 | exact CoS_cg co_47_0 (by omega) d174 d175 d176 | exact CoS_cg co_7_0 (by omega) d174 d175 d176 | assumption | omega) (by first | exact b30 | omega | assumption | omega) (by first | exact st_0 | exact (fun i a b => (my_up_ne fh19 (by omega)).trans (cm_7_0 i a b)) | exact (fun i a b => (my_up_ne fh19 (by omega)).trans (cm_47_0 i a b)) | exact st_1 cm_47_0 (CmI_e cv_47_0 (by omega) (by omega) rfl) | assumption | omega) (by first | exact CmI_0 (by omega) ((my_up_self fh19).trans fu8) | exact CmI_y (by omega) (cm8.mp ⟨by omega, by omega⟩) ((my_up_self fh19).trans dr8) | exact CmI_n cv_47_0 (fun z => by have q := cm8.mpr z; omega) ((my_up_self fh19).trans (by omega)) | assumption | omega) (by omega) (by omega)
              ·
                refine w_aload_n gz_217_75 rfl ?_
                refine w_getX (v := 188) gz_217_76 is_151 rd_10 rfl (by decide) rfl ?_
                refine w_iload_n gz_217_79 rfl ?_
                refine w_iald gz_217_80 is_188 rd_87 (by omega) (by omega) (fun v24 ev24 pv24 qv24 => ?_)
                have dr8 : v24 = h 188 p47_0 := by
                  have z : h47_0 188 p47_0 = h 188 p47_0 := my_fr.at gh_47_0 pis_188 rfl
                  omega
                refine w_goto (t := 90) gz_217_81 rfl ?_
                have rd8 : v24 = h 188 p47_0 ∨ v24 = h47_0 195 p7_0 := by first | exact Or.inl dr8 | exact Or.inr (by omega)
                refine w_iast gz_217_90 is_195 rd_94 (by omega) (by omega) (by omega) (by omega) (fun h25 fh25 => ?_)
                have gh25 : my_fr [(10, 27), (10, 32), (10, 33), (73, -1), (74, -1), (75, -1), (76, -1), (77, -1), (78, -1), (79, -1), (94, -1)] h h25 := my_fr.up gh_47_0 is_195 fh25 rfl
                have Mw_h25 : Mw h25 := Mw_ag (my_ag.up fh25 is_195 rfl) n_Mw_47_0
                refine w_iinc (ls' := [(2, 151), (0, x1), (0, p7_0), (0, (p47_0 + (-1)))]) gz_217_91 rfl gm_217 rfl rfl rfl ⟨by omega, by omega⟩ ?_
                refine w_goto (t := 47) gz_217_94 rfl ?_
                have ca : ∀ j : Int, h25 177 j = h47_0 177 j := fun j => ((my_up_role fh25 is_177 is_195 rfl).trans (rfl : h47_0 177 j = h47_0 177 j))
                have d174 : ∀ j : Int, h25 174 j = h47_0 174 j := fun j => ((my_up_role fh25 is_174 is_195 rfl).trans (rfl : h47_0 174 j = h47_0 174 j))
                have d175 : ∀ j : Int, h25 175 j = h47_0 175 j := fun j => ((my_up_role fh25 is_175 is_195 rfl).trans (rfl : h47_0 175 j = h47_0 175 j))
                have d176 : ∀ j : Int, h25 176 j = h47_0 176 j := fun j => ((my_up_role fh25 is_176 is_195 rfl).trans (rfl : h47_0 176 j = h47_0 176 j))
                have ce26 : h25 151 32 = h47_0 151 32 := ((my_up_role fh25 is_151 is_195 rfl).trans (rfl : h47_0 151 32 = h47_0 151 32))
                have ce27 : h25 151 33 = p47_2 := ((my_up_role fh25 is_151 is_195 rfl).trans c151_33_47_0)
                have ce28 : h25 151 27 = p47_1 := ((my_up_role fh25 is_151 is_195 rfl).trans c151_27_47_0)
                exact ih_47_0 ((p47_0 + (-1))) (p47_1) (p47_2) h25 (gh25) (by omega) (by omega) (by omega) (by omega) (by omega) (by omega) (by omega) (by omega) (((my_up_role fh25 is_151 is_195 rfl).trans c151_27_47_0).trans (by omega)) (((my_up_role fh25 is_151 is_195 rfl).trans c151_33_47_0).trans (by omega)) Mw_h25 (by first | exact fc0 | exact fc_7_0 | exact fc_47_0 | (rw [show h25 151 32 = h47_0 151 32 by omega]; exact Fc_cg ca (by omega) fc_47_0) | (rw [show h25 151 32 = h7_0 151 32 by omega]; exact Fc_cg ca (by omega) fc_7_0) | assumption | omega) (by first | omega | assumption | omega) (by first | exact co0 | exact co_7_0 | exact co_47_0 | exact CoS_cg co_47_0 (by omega) d174 d175 d176 | exact CoS_cg co_7_0 (by omega) d174 d175 d176 | assumption | omega) (by first | exact b30 | omega | assumption | omega) (by first | exact st_0 | exact (fun i a b => (my_up_ne fh25 (by omega)).trans (cm_7_0 i a b)) | exact (fun i a b => (my_up_ne fh25 (by omega)).trans (cm_47_0 i a b)) | exact st_1 cm_47_0 (CmI_e cv_47_0 (by omega) (by omega) rfl) | assumption | omega) (by first | exact CmI_0 (by omega) ((my_up_self fh25).trans fu8) | exact CmI_y (by omega) (cm8.mp ⟨by omega, by omega⟩) ((my_up_self fh25).trans dr8) | exact CmI_n cv_47_0 (fun z => by have q := cm8.mpr z; omega) ((my_up_self fh25).trans (by omega)) | assumption | omega) (by omega) (by omega)
      refine w_iload_n gz_217_7 rfl ?_
      refine w_iconst gz_217_8 (by decide) ?_
      refine w_icge (t := 103) gz_217_9 rfl (fun u29 => ?_) (fun u29 => ?_)
      ·
        exact w_vret gz_217_103 gm_217 (k0 h7_0 (gh_7_0) (by first | exact (fun c a b => cm_7_0 c a (by omega)) | exact b3_7_0 | assumption | omega) (by first | exact (fun c a b => cm_7_0 c a (by omega)) | exact b3_7_0 | assumption | omega))
      ·
        refine w_aload_n gz_217_12 rfl ?_
        refine w_getX (v := 195) gz_217_13 is_151 rd_10 rfl (by decide) rfl ?_
        refine w_iload_n gz_217_16 rfl ?_
        refine w_iload_n gz_217_17 rfl ?_
        refine w_aload_n gz_217_18 rfl ?_
        refine w_getX (v := 157) gz_217_19 is_151 rd_10 rfl (by decide) rfl ?_
        refine w_aload_n gz_217_22 rfl ?_
        refine v_getI (j := 33) gz_217_23 rfl is_151 rd_10 rfl (fun v32 ev32 pv32 qv32 => ?_)
        refine w_iald gz_217_26 is_157 rd_56 (by omega) (by omega) (fun v33 ev33 pv33 qv33 => ?_)
        have m8 : v33 = h 157 (mBs h x1) := by
          have q : h7_0 157 (mBs h x1) = h 157 (mBs h x1) := my_fr.at gh_7_0 pis_157 rfl
          rw [← q, ← (show v32 = mBs h x1 by omega)]
          omega
        refine w_icge (t := 38) gz_217_27 rfl (fun u34 => ?_) (fun u34 => ?_)
        ·
          refine w_iconst gz_217_38 (by decide) ?_
          have fu8 : 0 = mFu h x1 p7_0 := by first | exact fuA | (unfold mFu; rw [if_neg (by omega)])
          refine w_iast gz_217_39 is_195 rd_94 (by omega) (by omega) (by omega) (by omega) (fun h35 fh35 => ?_)
          have gh35 : my_fr [(10, 27), (10, 32), (10, 33), (73, -1), (74, -1), (75, -1), (76, -1), (77, -1), (78, -1), (79, -1), (94, -1)] h h35 := my_fr.up gh_7_0 is_195 fh35 rfl
          have Mw_h35 : Mw h35 := Mw_ag (my_ag.up fh35 is_195 rfl) n_Mw_7_0
          refine w_aload_n gz_217_40 rfl ?_
          have ce36 : h35 151 27 = h7_0 151 27 := ((my_up_role fh35 is_151 is_195 rfl).trans (rfl : h7_0 151 27 = h7_0 151 27))
          have ce37 : h35 151 33 = v32 := ((my_up_role fh35 is_151 is_195 rfl).trans ev32.symm)
          have ce38 : h35 151 32 = h7_0 151 32 := ((my_up_role fh35 is_151 is_195 rfl).trans (rfl : h7_0 151 32 = h7_0 151 32))
          refine v_getI (j := 27) gz_217_41 rfl is_151 rd_10 rfl (fun v39 ev39 pv39 qv39 => ?_)
          have w27 : v39 = MWd h x1 := by
            have z := co_7_0.2
            show _ = zqW (h 157 (mBs h x1)) (mCW h x1)
            omega
          refine w_iconst gz_217_44 (by decide) ?_
          refine w_isub gz_217_45 ⟨by omega, by omega⟩ ?_
          refine w_istore_n (ls' := [(2, 151), (0, x1), (0, p7_0), (0, (v39 - 1))]) gz_217_46 gm_217 rfl rfl rfl ?_
          have ca : ∀ j : Int, h35 177 j = h7_0 177 j := fun j => ((my_up_role fh35 is_177 is_195 rfl).trans (rfl : h7_0 177 j = h7_0 177 j))
          have d174 : ∀ j : Int, h35 174 j = h7_0 174 j := fun j => ((my_up_role fh35 is_174 is_195 rfl).trans (rfl : h7_0 174 j = h7_0 174 j))
          have d175 : ∀ j : Int, h35 175 j = h7_0 175 j := fun j => ((my_up_role fh35 is_175 is_195 rfl).trans (rfl : h7_0 175 j = h7_0 175 j))
          have d176 : ∀ j : Int, h35 176 j = h7_0 176 j := fun j => ((my_up_role fh35 is_176 is_195 rfl).trans (rfl : h7_0 176 j = h7_0 176 j))
          have ce40 : h35 151 32 = h7_0 151 32 := ((my_up_role fh35 is_151 is_195 rfl).trans (rfl : h7_0 151 32 = h7_0 151 32))
          have ce41 : h35 151 33 = v32 := ((my_up_role fh35 is_151 is_195 rfl).trans ev32.symm)
          have ce42 : h35 151 27 = v39 := ev39.symm
          exact J47_0 9 ((v39 - 1)) (v39) (v32) h35 (gh35) (by omega) (by omega) (by omega) (by omega) (by omega) (by omega) (by omega) (by omega) (ev39.symm.trans (by omega)) (((my_up_role fh35 is_151 is_195 rfl).trans ev32.symm).trans (by omega)) Mw_h35 (by first | exact fc0 | exact fc_7_0 | exact fc_47_0 | (rw [show h35 151 32 = h47_0 151 32 by omega]; exact Fc_cg ca (by omega) fc_47_0) | (rw [show h35 151 32 = h7_0 151 32 by omega]; exact Fc_cg ca (by omega) fc_7_0) | assumption | omega) (by first | omega | assumption | omega) (by first | exact co0 | exact co_7_0 | exact co_47_0 | exact CoS_cg co_47_0 (by omega) d174 d175 d176 | exact CoS_cg co_7_0 (by omega) d174 d175 d176 | assumption | omega) (by first | exact b30 | omega | assumption | omega) (by first | exact st_0 | exact (fun i a b => (my_up_ne fh35 (by omega)).trans (cm_7_0 i a b)) | exact (fun i a b => (my_up_ne fh35 (by omega)).trans (cm_47_0 i a b)) | exact st_1 cm_47_0 (CmI_e cv_47_0 (by omega) (by omega) rfl) | assumption | omega) (by first | exact CmI_0 (by omega) ((my_up_self fh35).trans fu8) | exact CmI_y (by omega) (cm8.mp ⟨by omega, by omega⟩) ((my_up_self fh35).trans dr8) | exact CmI_n cv_47_0 (fun z => by have q := cm8.mpr z; omega) ((my_up_self fh35).trans (by omega)) | assumption | omega) (by omega) (by omega)
        ·
          refine w_aload_n gz_217_30 rfl ?_
          refine w_iload_n gz_217_31 rfl ?_
          have agP : my_ag LmF h h7_0 := my_ag.fr gh_7_0 rfl
          have top8 : h7_0 177 (h7_0 151 32 - 1) = x1 := fc_7_0.2.2.2.1 (by omega)
          have t164 : h7_0 164 x1 = 1 := (my_fr.at gh_7_0 pis_164 rfl).trans tx
          refine w_inv (k := 1) (as := [(0, p7_0)]) (r := [(0, p7_0), (2, 195)]) (x := 151) (ls0 := [(2, 151), (0, p7_0), (9, 0)]) gz_217_32 gm_218 rfl is_151 rd_10 rfl rfl rfl rfl rfl (c_Model_fillOf5 (d := (d + 1)) (x1 := p7_0) (by omega) (by omega) (n_Mw_7_0) (c1_7_0) ((by rw [top8]; exact ⟨a1, b1, t164⟩)) ((by rw [top8]; exact Fc_hh agP fc_7_0)) (fun xp43 => ?_) (fun v44 w45 w46 w47 w48 xp49 => ?_))
          ·
            show wp l rho (d + 2) 217 35 [(2, 151), (0, x1), (0, p7_0), (9, 0)] [(0, 0), (0, p7_0), (2, 195)] h7_0 Q
            have fo := xp43
            rw [top8] at fo
            have fuA : 0 = mFu h x1 p7_0 := by
              unfold mFu
              rw [if_pos (by omega), fo]
              exact mFf_cg agP 6 x1
            refine w_goto (t := 39) gz_217_35 rfl ?_
            have fu8 : 0 = mFu h x1 p7_0 := by first | exact fuA | (unfold mFu; rw [if_neg (by omega)])
            refine w_iast gz_217_39 is_195 rd_94 (by omega) (by omega) (by omega) (by omega) (fun h50 fh50 => ?_)
            have gh50 : my_fr [(10, 27), (10, 32), (10, 33), (73, -1), (74, -1), (75, -1), (76, -1), (77, -1), (78, -1), (79, -1), (94, -1)] h h50 := my_fr.up gh_7_0 is_195 fh50 rfl
            have Mw_h50 : Mw h50 := Mw_ag (my_ag.up fh50 is_195 rfl) n_Mw_7_0
            refine w_aload_n gz_217_40 rfl ?_
            have ce51 : h50 151 27 = h7_0 151 27 := ((my_up_role fh50 is_151 is_195 rfl).trans (rfl : h7_0 151 27 = h7_0 151 27))
            have ce52 : h50 151 33 = v32 := ((my_up_role fh50 is_151 is_195 rfl).trans ev32.symm)
            have ce53 : h50 151 32 = h7_0 151 32 := ((my_up_role fh50 is_151 is_195 rfl).trans (rfl : h7_0 151 32 = h7_0 151 32))
            refine v_getI (j := 27) gz_217_41 rfl is_151 rd_10 rfl (fun v54 ev54 pv54 qv54 => ?_)
            have w27 : v54 = MWd h x1 := by
              have z := co_7_0.2
              show _ = zqW (h 157 (mBs h x1)) (mCW h x1)
              omega
            refine w_iconst gz_217_44 (by decide) ?_
            refine w_isub gz_217_45 ⟨by omega, by omega⟩ ?_
            refine w_istore_n (ls' := [(2, 151), (0, x1), (0, p7_0), (0, (v54 - 1))]) gz_217_46 gm_217 rfl rfl rfl ?_
            have ca : ∀ j : Int, h50 177 j = h7_0 177 j := fun j => ((my_up_role fh50 is_177 is_195 rfl).trans (rfl : h7_0 177 j = h7_0 177 j))
            have d174 : ∀ j : Int, h50 174 j = h7_0 174 j := fun j => ((my_up_role fh50 is_174 is_195 rfl).trans (rfl : h7_0 174 j = h7_0 174 j))
            have d175 : ∀ j : Int, h50 175 j = h7_0 175 j := fun j => ((my_up_role fh50 is_175 is_195 rfl).trans (rfl : h7_0 175 j = h7_0 175 j))
            have d176 : ∀ j : Int, h50 176 j = h7_0 176 j := fun j => ((my_up_role fh50 is_176 is_195 rfl).trans (rfl : h7_0 176 j = h7_0 176 j))
            have ce55 : h50 151 32 = h7_0 151 32 := ((my_up_role fh50 is_151 is_195 rfl).trans (rfl : h7_0 151 32 = h7_0 151 32))
            have ce56 : h50 151 33 = v32 := ((my_up_role fh50 is_151 is_195 rfl).trans ev32.symm)
            have ce57 : h50 151 27 = v54 := ev54.symm
            exact J47_0 9 ((v54 - 1)) (v54) (v32) h50 (gh50) (by omega) (by omega) (by omega) (by omega) (by omega) (by omega) (by omega) (by omega) (ev54.symm.trans (by omega)) (((my_up_role fh50 is_151 is_195 rfl).trans ev32.symm).trans (by omega)) Mw_h50 (by first | exact fc0 | exact fc_7_0 | exact fc_47_0 | (rw [show h50 151 32 = h47_0 151 32 by omega]; exact Fc_cg ca (by omega) fc_47_0) | (rw [show h50 151 32 = h7_0 151 32 by omega]; exact Fc_cg ca (by omega) fc_7_0) | assumption | omega) (by first | omega | assumption | omega) (by first | exact co0 | exact co_7_0 | exact co_47_0 | exact CoS_cg co_47_0 (by omega) d174 d175 d176 | exact CoS_cg co_7_0 (by omega) d174 d175 d176 | assumption | omega) (by first | exact b30 | omega | assumption | omega) (by first | exact st_0 | exact (fun i a b => (my_up_ne fh50 (by omega)).trans (cm_7_0 i a b)) | exact (fun i a b => (my_up_ne fh50 (by omega)).trans (cm_47_0 i a b)) | exact st_1 cm_47_0 (CmI_e cv_47_0 (by omega) (by omega) rfl) | assumption | omega) (by first | exact CmI_0 (by omega) ((my_up_self fh50).trans fu8) | exact CmI_y (by omega) (cm8.mp ⟨by omega, by omega⟩) ((my_up_self fh50).trans dr8) | exact CmI_n cv_47_0 (fun z => by have q := cm8.mpr z; omega) ((my_up_self fh50).trans (by omega)) | assumption | omega) (by omega) (by omega)
          ·
            show wp l rho (d + 2) 217 35 [(2, 151), (0, x1), (0, p7_0), (9, 0)] [(0, v44), (0, p7_0), (2, 195)] h7_0 Q
            have fo := xp49
            rw [top8] at fo
            have fuA : v44 = mFu h x1 p7_0 := by
              unfold mFu
              rw [if_pos (by omega), fo]
              exact mFf_cg agP 6 x1
            refine w_goto (t := 39) gz_217_35 rfl ?_
            have fu8 : v44 = mFu h x1 p7_0 := by first | exact fuA | (unfold mFu; rw [if_neg (by omega)])
            refine w_iast gz_217_39 is_195 rd_94 (by omega) (by omega) (by omega) (by omega) (fun h58 fh58 => ?_)
            have gh58 : my_fr [(10, 27), (10, 32), (10, 33), (73, -1), (74, -1), (75, -1), (76, -1), (77, -1), (78, -1), (79, -1), (94, -1)] h h58 := my_fr.up gh_7_0 is_195 fh58 rfl
            have Mw_h58 : Mw h58 := Mw_ag (my_ag.up fh58 is_195 rfl) n_Mw_7_0
            refine w_aload_n gz_217_40 rfl ?_
            have ce59 : h58 151 27 = h7_0 151 27 := ((my_up_role fh58 is_151 is_195 rfl).trans (rfl : h7_0 151 27 = h7_0 151 27))
            have ce60 : h58 151 33 = v32 := ((my_up_role fh58 is_151 is_195 rfl).trans ev32.symm)
            have ce61 : h58 151 32 = (h7_0 151 32) := ((my_up_role fh58 is_151 is_195 rfl).trans (rfl : h7_0 151 32 = h7_0 151 32))
            refine v_getI (j := 27) gz_217_41 rfl is_151 rd_10 rfl (fun v62 ev62 pv62 qv62 => ?_)
            have w27 : v62 = MWd h x1 := by
              have z := co_7_0.2
              show _ = zqW (h 157 (mBs h x1)) (mCW h x1)
              omega
            refine w_iconst gz_217_44 (by decide) ?_
            refine w_isub gz_217_45 ⟨by omega, by omega⟩ ?_
            refine w_istore_n (ls' := [(2, 151), (0, x1), (0, p7_0), (0, (v62 - 1))]) gz_217_46 gm_217 rfl rfl rfl ?_
            have ca : ∀ j : Int, h58 177 j = h7_0 177 j := fun j => ((my_up_role fh58 is_177 is_195 rfl).trans (rfl : h7_0 177 j = h7_0 177 j))
            have d174 : ∀ j : Int, h58 174 j = h7_0 174 j := fun j => ((my_up_role fh58 is_174 is_195 rfl).trans (rfl : h7_0 174 j = h7_0 174 j))
            have d175 : ∀ j : Int, h58 175 j = h7_0 175 j := fun j => ((my_up_role fh58 is_175 is_195 rfl).trans (rfl : h7_0 175 j = h7_0 175 j))
            have d176 : ∀ j : Int, h58 176 j = h7_0 176 j := fun j => ((my_up_role fh58 is_176 is_195 rfl).trans (rfl : h7_0 176 j = h7_0 176 j))
            have ce63 : h58 151 32 = (h7_0 151 32) := ((my_up_role fh58 is_151 is_195 rfl).trans (rfl : h7_0 151 32 = h7_0 151 32))
            have ce64 : h58 151 33 = v32 := ((my_up_role fh58 is_151 is_195 rfl).trans ev32.symm)
            have ce65 : h58 151 27 = v62 := ev62.symm
            exact J47_0 9 ((v62 - 1)) (v62) (v32) h58 (gh58) (by omega) (by omega) (by omega) (by omega) (by omega) (by omega) (by omega) (by omega) (ev62.symm.trans (by omega)) (((my_up_role fh58 is_151 is_195 rfl).trans ev32.symm).trans (by omega)) Mw_h58 (by first | exact fc0 | exact fc_7_0 | exact fc_47_0 | (rw [show h58 151 32 = h47_0 151 32 by omega]; exact Fc_cg ca (by omega) fc_47_0) | (rw [show h58 151 32 = h7_0 151 32 by omega]; exact Fc_cg ca (by omega) fc_7_0) | assumption | omega) (by first | omega | assumption | omega) (by first | exact co0 | exact co_7_0 | exact co_47_0 | exact CoS_cg co_47_0 (by omega) d174 d175 d176 | exact CoS_cg co_7_0 (by omega) d174 d175 d176 | assumption | omega) (by first | exact b30 | omega | assumption | omega) (by first | exact st_0 | exact (fun i a b => (my_up_ne fh58 (by omega)).trans (cm_7_0 i a b)) | exact (fun i a b => (my_up_ne fh58 (by omega)).trans (cm_47_0 i a b)) | exact st_1 cm_47_0 (CmI_e cv_47_0 (by omega) (by omega) rfl) | assumption | omega) (by first | exact CmI_0 (by omega) ((my_up_self fh58).trans fu8) | exact CmI_y (by omega) (cm8.mp ⟨by omega, by omega⟩) ((my_up_self fh58).trans dr8) | exact CmI_n cv_47_0 (fun z => by have q := cm8.mpr z; omega) ((my_up_self fh58).trans (by omega)) | assumption | omega) (by omega) (by omega)
  refine w_aload_n gz_217_0 rfl ?_
  refine w_iload_n gz_217_1 rfl ?_
  refine w_inv (k := 2) (as := [(0, x1)]) (r := []) (x := 151) (ls0 := [(2, 151), (0, x1), (9, 0), (9, 0)]) gz_217_2 gm_179 rfl is_151 rd_10 rfl rfl rfl rfl rfl (c_Model_findColumns5 (d := d) (x1 := x1) (by omega) (by omega) n_Mw (by first | assumption | exact no_such_saying | exact Fp_told (by omega) (by omega) | omega | (subst_vars; omega) | omega) (by first | assumption | exact no_such_saying | exact Fp_told (by omega) (by omega) | omega | (subst_vars; omega) | omega) (by first | assumption | exact no_such_saying | exact Fp_told (by omega) (by omega) | omega | (subst_vars; omega) | omega) (by first | assumption | exact no_such_saying | exact Fp_told (by omega) (by omega) | omega | (subst_vars; omega) | omega) (fun h66 frh66 xp67 xp68 xp69 xp70 xp71 => ?_))
  have gh66 : my_fr [(10, 27), (10, 32), (10, 33), (73, -1), (74, -1), (75, -1), (76, -1), (77, -1), (78, -1), (79, -1), (94, -1)] h h66 := my_fr.tr my_fr.rf (frh66.mo rfl)
  have Mw_h66 : Mw h66 := Mw_ag (my_ag.fr frh66 rfl) n_Mw
  show wp l rho (d + 2) 217 5 [(2, 151), (0, x1), (9, 0), (9, 0)] [] h66 Q
  have fc0 := xp68
  have c10 := xp69
  have co0 := xp70
  have b30 := xp71
  refine v_know (x := 151) (j := 32) (b := 32) rfl pis_151 rd_10 rfl (fun k32 ek32 pk32 qk32 => ?_)
  refine w_iconst gz_217_5 (by decide) ?_
  refine w_istore_n (ls' := [(2, 151), (0, x1), (0, 0), (9, 0)]) gz_217_6 gm_217 rfl rfl rfl ?_
  have ca : ∀ j : Int, h66 177 j = h66 177 j := fun j => rfl
  have d174 : ∀ j : Int, h66 174 j = h66 174 j := fun j => rfl
  have d175 : ∀ j : Int, h66 175 j = h66 175 j := fun j => rfl
  have d176 : ∀ j : Int, h66 176 j = h66 176 j := fun j => rfl
  exact J7_0 5 (0) h66 (gh66) (by omega) (by omega) Mw_h66 (by first | exact fc0 | exact fc_7_0 | exact fc_47_0 | (rw [show h66 151 32 = h47_0 151 32 by omega]; exact Fc_cg ca (by omega) fc_47_0) | (rw [show h66 151 32 = h7_0 151 32 by omega]; exact Fc_cg ca (by omega) fc_7_0) | assumption | omega) (by first | omega | assumption | omega) (by first | exact co0 | exact co_7_0 | exact co_47_0 | exact CoS_cg co_47_0 (by omega) d174 d175 d176 | exact CoS_cg co_7_0 (by omega) d174 d175 d176 | assumption | omega) (by first | exact b30 | omega | assumption | omega) (by first | exact st_0 | exact (fun i a b => (my_up_ne no_such_saying (by omega)).trans (cm_7_0 i a b)) | exact (fun i a b => (my_up_ne no_such_saying (by omega)).trans (cm_47_0 i a b)) | exact st_1 cm_47_0 (CmI_e cv_47_0 (by omega) (by omega) rfl) | assumption | omega) (by omega)
theorem c_Model_comes5 {l : Launch} {rho : Nat → Int32} {d : Nat} {h : my_H} {Q : my_H → my_V → Prop} {x1 x2 : Int} (a1 : 0 ≤ x1) (b1 : x1 ≤ 15) (a2 : 0 ≤ x2) (b2 : x2 ≤ 5) (n_Mw : Mw h) (n_Rws : Rws h) (hfp : Fp h x2) (hlm : LmW h) (k0 : ∀ (h' : my_H), my_fr [(10, 27), (10, 32), (10, 33), (61, -1), (62, -1), (73, -1), (74, -1), (75, -1), (76, -1), (77, -1), (78, -1), (79, -1), (94, -1)] h h' → ¬ CmOk h x1 x2 → ((∀ j : Int, h' 162 j = h 162 j) ∧ ∀ j : Int, h' 163 j = h 163 j) → Rws h' → Q h' (0, 0)) (k1 : ∀ (h' : my_H), my_fr [(10, 27), (10, 32), (10, 33), (61, -1), (62, -1), (73, -1), (74, -1), (75, -1), (76, -1), (77, -1), (78, -1), (79, -1), (94, -1)] h h' → CmOk h x1 x2 → LyP h h' (60 * x1 + 20 * mBs h x2 + cmM h x2 0) (cmM h x2 0) (cmM h x2 1) (cmM h x2 2) (cmM h x2 3) → 0 ≤ cmM h x2 0 ∧ cmM h x2 0 ≤ 19 → Rws h' → Q h' (0, 1)) : wp l rho (d + 3) 216 0 [(2, 151), (0, x1), (0, x2)] [] h Q := by
  have tx : h 164 x2 = 1 := hfp.1 (by omega)
  have lm0 := hlm _ a2 b2 tx
  refine w_aload_n gz_216_0 rfl ?_
  refine w_iload_n gz_216_1 rfl ?_
  refine w_inv (k := 2) (as := [(0, x2)]) (r := []) (x := 151) (ls0 := [(2, 151), (0, x2), (9, 0), (9, 0)]) gz_216_2 gm_217 rfl is_151 rd_10 rfl rfl rfl rfl rfl (c_Model_findComing5 (d := d) (x1 := x2) (by omega) (by omega) n_Mw (by first | assumption | exact no_such_saying | exact Fp_told (by omega) (by omega) | omega | (subst_vars; omega) | omega) (by first | assumption | exact no_such_saying | exact Fp_told (by omega) (by omega) | omega | (subst_vars; omega) | omega) (fun h1 frh1 xp2 xp3 => ?_))
  have gh1 : my_fr [(10, 27), (10, 32), (10, 33), (61, -1), (62, -1), (73, -1), (74, -1), (75, -1), (76, -1), (77, -1), (78, -1), (79, -1), (94, -1)] h h1 := my_fr.tr my_fr.rf (frh1.mo rfl)
  have Mw_h1 : Mw h1 := Mw_ag (my_ag.fr frh1 rfl) n_Mw
  have Rws_h1 : Rws h1 := Rws_ag (my_ag.fr frh1 rfl) n_Rws
  show wp l rho (d + 3) 216 5 [(2, 151), (0, x1), (0, x2)] [] h1 Q
  have cm := xp2
  have b3 := xp3
  refine v_knowA (x := 195) pis_195 rd_94 (fun kM => ?_)
  have km := kM 0 (by omega) (by omega)
  have cm0 := cm 0 (by omega) (by omega)
  have cm1 := cm 1 (by omega) (by omega)
  have cm2 := cm 2 (by omega) (by omega)
  have cm3 := cm 3 (by omega) (by omega)
  have e162 : ∀ j : Int, h1 162 j = h 162 j := fun j => my_fr.at frh1 pis_162 rfl
  have e163 : ∀ j : Int, h1 163 j = h 163 j := fun j => my_fr.at frh1 pis_163 rfl
  refine w_aload_n gz_216_5 rfl ?_
  refine w_getX (v := 162) gz_216_6 is_151 rd_10 rfl (by decide) rfl ?_
  refine w_iload_n gz_216_9 rfl ?_
  refine w_aload_n gz_216_10 rfl ?_
  refine v_getI (j := 33) gz_216_11 rfl is_151 rd_10 rfl (fun v5 ev5 pv5 qv5 => ?_)
  refine w_aload_n gz_216_14 rfl ?_
  refine w_getX (v := 195) gz_216_15 is_151 rd_10 rfl (by decide) rfl ?_
  refine w_iconst gz_216_18 (by decide) ?_
  refine w_iald gz_216_19 is_195 rd_94 (by omega) (by omega) (fun v7 ev7 pv7 qv7 => ?_)
  refine w_inS (k := 0) (as := [(0, v7), (0, v5), (0, x1)]) (r := [(2, 162)]) (ls0 := [(0, x1), (0, v5), (0, v7)]) gz_216_20 gm_150 rfl rfl rfl rfl rfl rfl ?_
  refine w_bipush gz_150_0 (by decide) ?_
  refine w_iload_n gz_150_2 rfl ?_
  refine w_imul gz_150_3 ⟨by omega, by omega⟩ ?_
  refine w_bipush gz_150_4 (by decide) ?_
  refine w_iload_n gz_150_6 rfl ?_
  refine w_imul gz_150_7 ⟨by omega, by omega⟩ ?_
  refine w_iadd gz_150_8 ⟨by omega, by omega⟩ ?_
  refine w_iload_n gz_150_9 rfl ?_
  refine w_iadd gz_150_10 ⟨by omega, by omega⟩ ?_
  refine w_iret gz_150_11 gm_150 ?_
  show wp l rho (d + 3) 216 23 [(2, 151), (0, x1), (0, x2)] [(0, (((60 * x1) + (20 * v5)) + v7)), (2, 162)] h1 Q
  refine w_bald gz_216_23 is_162 rd_61 (by omega) (by omega) (fun v8 ev8 pv8 qv8 => ?_)
  refine v_knowA (x := 162) pis_162 rd_61 (fun kT => ?_)
  refine v_knowA (x := 163) pis_163 rd_62 (fun kV => ?_)
  refine v_knowA (x := 160) pis_160 rd_59 (fun kN => ?_)
  refine v_knowA (x := 157) pis_157 rd_56 (fun kC => ?_)
  have T8 : MTy h := ⟨fun j a b => by rw [← e163]; exact kV j a b, fun j a b => by rw [← e162]; exact kT j a b, fun j a b => by rw [← my_fr.at (j := j) gh1 pis_160 rfl]; exact kN j a b, fun j a b => by rw [← my_fr.at (j := j) gh1 pis_157 rfl]; exact kC j a b⟩
  have it8 : v8 = h 162 (60 * x1 + 20 * (mBs h x2) + cmM h x2 0) := by
    rw [← e162, show 60 * x1 + 20 * (mBs h x2) + cmM h x2 0 = (((60 * x1) + (20 * v5)) + v7) by omega]
    omega
  have okI := CmOk_i (t := v8) (n := 0) T8 a1 b1 lm0.2.1 lm0.2.2.1 cm0 km.1 km.2 (by rw [cm0]; exact it8) (n_Rws x1 (mBs h x2) (by omega) (by omega) lm0.2.1 lm0.2.2.1)
  refine w_ifne (t := 41) gz_216_24 rfl (fun u9 => ?_) (fun u9 => ?_)
  ·
    refine w_iconst gz_216_41 (by decide) ?_
    have f162 : ∀ j : Int, h1 162 j = h 162 j := fun j => ((my_fr.at frh1 is_162 rfl).trans (rfl : h 162 j = h 162 j))
    have f163 : ∀ j : Int, h1 163 j = h 163 j := fun j => ((my_fr.at frh1 is_163 rfl).trans (rfl : h 163 j = h 163 j))
    exact w_bret gz_216_42 gm_216 (by omega) (by omega) (k0 h1 (gh1) (by first | exact okI.1 (by omega) | exact okI.2.1 (by omega) | exact ⟨e162, e163⟩ | exact okI.2.2 (by omega) (by omega) | exact ly | exact ⟨by omega, by omega⟩ | assumption | omega) (by first | exact okI.1 (by omega) | exact okI.2.1 (by omega) | exact ⟨e162, e163⟩ | exact okI.2.2 (by omega) (by omega) | exact ly | exact ⟨by omega, by omega⟩ | assumption | omega) Rws_h1)
  ·
    refine w_aload_n gz_216_27 rfl ?_
    refine w_iload_n gz_216_28 rfl ?_
    refine w_aload_n gz_216_29 rfl ?_
    refine v_getI (j := 33) gz_216_30 rfl is_151 rd_10 rfl (fun v10 ev10 pv10 qv10 => ?_)
    have zv10 := ev10.trans ev5.symm
    refine w_inv (k := 2) (as := [(0, v10), (0, x1)]) (r := []) (x := 151) (ls0 := [(2, 151), (0, x1), (0, v10), (9, 0), (9, 0)]) gz_216_33 gm_151 rfl is_151 rd_10 rfl rfl rfl rfl rfl (c_Model_rowsOf2 (d := (d + 1)) (x1 := x1) (x2 := v10) (by omega) (by omega) (by omega) (by omega) (fun v11 w12 w13 xp14 => ?_))
    show wp l rho (d + 3) 216 36 [(2, 151), (0, x1), (0, x2)] [(0, v11)] h1 Q
    have ry := xp14
    have rb := (Rws_h1) x1 v10 (by omega) (by omega) (by omega) (by omega)
    have rq : v11 ≠ 10 → ∀ w : Int, w = v10 → rc h1 (60 * x1 + 20 * w) 20 ≤ 9 := fun y w q => by rw [q]; omega
    have ry8 : v11 = rc h (60 * x1 + 20 * (mBs h x2)) 20 := by
      have q := xp14
      rw [show v10 = mBs h x2 by omega] at q
      rw [q]
      exact rc_cg9 e162 20
    refine w_bipush gz_216_36 (by decide) ?_
    refine w_icne (t := 43) gz_216_38 rfl (fun u15 => ?_) (fun u15 => ?_)
    ·
      refine w_aload_n gz_216_43 rfl ?_
      refine w_iload_n gz_216_44 rfl ?_
      refine w_aload_n gz_216_45 rfl ?_
      refine v_getI (j := 33) gz_216_46 rfl is_151 rd_10 rfl (fun v16 ev16 pv16 qv16 => ?_)
      have zv16 := ev16.trans ev10.symm
      refine w_aload_n gz_216_49 rfl ?_
      refine w_getX (v := 195) gz_216_50 is_151 rd_10 rfl (by decide) rfl ?_
      refine w_iconst gz_216_53 (by decide) ?_
      refine w_iald gz_216_54 is_195 rd_94 (by omega) (by omega) (fun v18 ev18 pv18 qv18 => ?_)
      have zv18 := ev18.trans ev7.symm
      refine w_aload_n gz_216_55 rfl ?_
      refine w_getX (v := 195) gz_216_56 is_151 rd_10 rfl (by decide) rfl ?_
      refine w_iconst gz_216_59 (by decide) ?_
      refine w_iald gz_216_60 is_195 rd_94 (by omega) (by omega) (fun v20 ev20 pv20 qv20 => ?_)
      refine w_aload_n gz_216_61 rfl ?_
      refine w_getX (v := 195) gz_216_62 is_151 rd_10 rfl (by decide) rfl ?_
      refine w_iconst gz_216_65 (by decide) ?_
      refine w_iald gz_216_66 is_195 rd_94 (by omega) (by omega) (fun v22 ev22 pv22 qv22 => ?_)
      refine w_aload_n gz_216_67 rfl ?_
      refine w_getX (v := 195) gz_216_68 is_151 rd_10 rfl (by decide) rfl ?_
      refine w_iconst gz_216_71 (by decide) ?_
      refine w_iald gz_216_72 is_195 rd_94 (by omega) (by omega) (fun v24 ev24 pv24 qv24 => ?_)
      refine w_inv (k := 1) (as := [(0, v24), (0, v22), (0, v20), (0, v18), (0, v16), (0, x1)]) (r := []) (x := 151) (ls0 := [(2, 151), (0, x1), (0, v16), (0, v18), (0, v20), (0, v22), (0, v24), (9, 0)]) gz_216_73 gm_153 rfl is_151 rd_10 rfl rfl rfl rfl rfl (c_Model_lays5 (d := (d + 1)) (x1 := x1) (x2 := v16) (x3 := v18) (x4 := v20) (x5 := v22) (x6 := v24) (by omega) (by omega) (by omega) (by omega) (by omega) (by omega) (by omega) (by omega) (by omega) (by omega) (by omega) (by omega) Rws_h1 (rq (by omega) _ (by omega)) (fun h25 frh25 xp26 Rws_h25t27 => ?_))
      have gh25 : my_fr [(10, 27), (10, 32), (10, 33), (61, -1), (62, -1), (73, -1), (74, -1), (75, -1), (76, -1), (77, -1), (78, -1), (79, -1), (94, -1)] h h25 := my_fr.tr gh1 (frh25.mo rfl)
      have Mw_h25 : Mw h25 := Mw_ag (my_ag.fr frh25 rfl) Mw_h1
      show wp l rho (d + 3) 216 76 [(2, 151), (0, x1), (0, x2)] [] h25 Q
      have ly := LyP_cg e162 e163 xp26
      rw [show v20 = cmM h x2 1 by omega, show v22 = cmM h x2 2 by omega, show v24 = cmM h x2 3 by omega, show v18 = cmM h x2 0 by omega, show v16 = mBs h x2 by omega] at ly
      refine w_iconst gz_216_76 (by decide) ?_
      have f162 : ∀ j : Int, h25 162 j = h25 162 j := fun j => rfl
      have f163 : ∀ j : Int, h25 163 j = h25 163 j := fun j => rfl
      exact w_bret gz_216_77 gm_216 (by omega) (by omega) (k1 h25 (gh25) (by first | exact okI.1 (by omega) | exact okI.2.1 (by omega) | exact ⟨e162, e163⟩ | exact okI.2.2 (by omega) (by omega) | exact ly | exact ⟨by omega, by omega⟩ | assumption | omega) (by first | exact okI.1 (by omega) | exact okI.2.1 (by omega) | exact ⟨e162, e163⟩ | exact okI.2.2 (by omega) (by omega) | exact ly | exact ⟨by omega, by omega⟩ | assumption | omega) (by first | exact okI.1 (by omega) | exact okI.2.1 (by omega) | exact ⟨e162, e163⟩ | exact okI.2.2 (by omega) (by omega) | exact ly | exact ⟨by omega, by omega⟩ | assumption | omega) Rws_h25t27)
    ·
      refine w_iconst gz_216_41 (by decide) ?_
      have f162 : ∀ j : Int, h1 162 j = h 162 j := fun j => ((my_fr.at frh1 is_162 rfl).trans (rfl : h 162 j = h 162 j))
      have f163 : ∀ j : Int, h1 163 j = h 163 j := fun j => ((my_fr.at frh1 is_163 rfl).trans (rfl : h 163 j = h 163 j))
      exact w_bret gz_216_42 gm_216 (by omega) (by omega) (k0 h1 (gh1) (by first | exact okI.1 (by omega) | exact okI.2.1 (by omega) | exact ⟨e162, e163⟩ | exact okI.2.2 (by omega) (by omega) | exact ly | exact ⟨by omega, by omega⟩ | assumption | omega) (by first | exact okI.1 (by omega) | exact okI.2.1 (by omega) | exact ⟨e162, e163⟩ | exact okI.2.2 (by omega) (by omega) | exact ly | exact ⟨by omega, by omega⟩ | assumption | omega) Rws_h1)
end MYNModel_findComing5
