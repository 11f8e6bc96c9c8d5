/-! contracts, printed by wip/gen/gy.py -/
section MYNReader_read9
theorem c_Reader_read9 {l : Launch} {rho : Nat → Int32} {d : Nat} {h : my_H} {Q : my_H → my_V → Prop} {x1 : Int} {wv : Int} (a1 : 0 ≤ x1) (b1 : x1 ≤ 5) (hwv : wv ≤ 5) (hwv0 : 0 ≤ wv) (n_Ln : Ln h) (n_Un : Un h wv) (hwx : wv = x1) (k0 : ∀ (h' : my_H) (y : Int), my_fr [(4, 0), (4, 1), (4, 2), (4, 3), (4, 4), (4, 5), (4, 6), (4, 7), (4, 8), (4, 9), (5, 2), (5, 4), (5, 5), (5, 6), (5, 7), (5, 8), (5, 9), (22, -1), (32, -1), (33, -1), (34, -1), (35, -1), (36, -1), (37, -1), (38, -1), (39, -1)] h h' → 1 ≤ y → y ≤ 16005 → h' 82 4 = 0 → 1 ≤ h' 82 9 → h' 82 9 ≤ 16005 → rdF h x1 y → Lo h h' → Ln h' → Q h' (0, y)) (k1 : ∀ (h' : my_H), my_fr [(4, 0), (4, 1), (4, 2), (4, 3), (4, 4), (4, 5), (4, 6), (4, 7), (4, 8), (4, 9), (5, 2), (5, 4), (5, 5), (5, 6), (5, 7), (5, 8), (5, 9), (22, -1), (32, -1), (33, -1), (34, -1), (35, -1), (36, -1), (37, -1), (38, -1), (39, -1)] h h' → h' 82 4 = 0 → h' 82 9 = 0 → (∃ c b o : Int, readR (cs h) (h 2) (cT h) (cW h) (cB h) x1 (tS (tp_of h) 0) 0 c b o ∧ NewL h h' x1 c b o) → Ln h' → Q h' (0, 0)) : wp l rho (d + 8) 36 0 [(2, 82), (0, x1), (9, 0)] [] h Q := by
  refine v_know (x := 82) (j := 4) (b := 4) rfl is_82 rd_5 rfl (fun k82_4 ek82_4 pk82_4 qk82_4 => ?_)
  have J21_0 : ∀ (n : Nat) (p21_0 p21_1 : Int) (h21_0 : my_H), my_fr [(4, 0), (4, 1), (4, 2), (4, 3), (4, 4), (4, 5), (4, 6), (4, 7), (4, 8), (4, 9), (5, 2), (5, 4), (5, 5), (5, 6), (5, 7), (5, 8), (5, 9), (22, -1), (32, -1), (33, -1), (34, -1), (35, -1), (36, -1), (37, -1), (38, -1), (39, -1)] h h21_0 → 0 ≤ p21_0 → p21_0 ≤ 1001 → 0 ≤ p21_1 → p21_1 ≤ 16005 → h21_0 82 4 = k82_4 → h21_0 82 9 = p21_1 → Ln h21_0 → Un h21_0 wv → Lo h h21_0 → (h21_0 82 9 = 0 → Sp h21_0 wv) → Al h21_0 → Cu h21_0 → h21_0 82 4 = h 82 4 → h21_0 82 2 = h 82 2 → (h21_0 82 9 = 0 → rdI h h21_0 x1) → (h21_0 82 9 ≠ 0 → rdF h x1 (h21_0 82 9)) → (h21_0 82 9 = 0 → p21_0 ≤ h21_0 82 7) → 1002 - p21_0 ≤ (n : Int) → wp l rho (d + 8) 36 21 [(2, 82), (0, x1), (0, p21_0)] [] h21_0 Q := by
    intro n
    induction n with
    | zero => intro p21_0 p21_1 h21_0 gh_21_0 q0_21_0 q1_21_0 q2_21_0 q3_21_0 c82_4_21_0 c82_9_21_0 n_Ln_21_0 n_Un_21_0 n_Lo_21_0 sp_21_0 al_21_0 cu_21_0 n4_21_0 e2_21_0 ok_21_0 no_21_0 pl_21_0 hm_21_0; exfalso; omega
    | succ n ih_21_0 =>
      intro p21_0 p21_1 h21_0 gh_21_0 q0_21_0 q1_21_0 q2_21_0 q3_21_0 c82_4_21_0 c82_9_21_0 n_Ln_21_0 n_Un_21_0 n_Lo_21_0 sp_21_0 al_21_0 cu_21_0 n4_21_0 e2_21_0 ok_21_0 no_21_0 pl_21_0 hm_21_0
      have Al_h21_0t1 : Al h21_0 := al_21_0
      have Cu_h21_0t2 : Cu h21_0 := cu_21_0
      have te : cs h21_0 = cs h := cs_eq (fun j => my_fr.at gh_21_0 is_92 rfl) n4_21_0
      have tp2 : tp_of h21_0 = tp_of h := tp_eq (fun j => my_fr.at gh_21_0 is_92 rfl) n4_21_0
      have vd : Vd (tp_of h) (h21_0 82 7) := by rw [← tp2]; exact Cu_vd cu_21_0
      have t2 : h21_0 2 = h 2 := funext (fun j => my_fr.at gh_21_0 is_2 rfl)
      have ck := Cu_s cu_21_0
      rw [te] at ck
      have cb := (cu_21_0).1.2.1
      refine w_iload_n gz_36_21 rfl ?_
      refine w_sipush gz_36_22 (by decide) ?_
      refine w_icgt (t := 52) gz_36_25 rfl (fun u3 => ?_) (fun u3 => ?_)
      ·
        refine w_aload_n gz_36_52 rfl ?_
        refine w_iconst gz_36_53 (by decide) ?_
        refine v_putI (j := 4) gz_36_54 rfl is_82 rd_5 rfl (by omega) (by omega) rfl (fun h4 fh4 => ?_)
        have gh4 : my_fr [(4, 0), (4, 1), (4, 2), (4, 3), (4, 4), (4, 5), (4, 6), (4, 7), (4, 8), (4, 9), (5, 2), (5, 4), (5, 5), (5, 6), (5, 7), (5, 8), (5, 9), (22, -1), (32, -1), (33, -1), (34, -1), (35, -1), (36, -1), (37, -1), (38, -1), (39, -1)] h h4 := my_fr.up gh_21_0 is_82 fh4 rfl
        have Ln_h4 : Ln h4 := Ln_ag (my_ag.up fh4 is_82 rfl) n_Ln_21_0
        have Un_h4 : Un h4 wv := Un_ag (my_ag.up fh4 is_82 rfl) n_Ln_21_0 n_Un_21_0
        have Lo_h4 : Lo h h4 := Lo_ag (my_ag.up fh4 is_82 rfl) n_Ln_21_0 n_Lo_21_0
        refine w_aload_n gz_36_57 rfl ?_
        refine v_getI (j := 9) gz_36_58 rfl is_82 rd_5 rfl (fun v5 ev5 pv5 qv5 => ?_)
        have zv5 := ev5.trans ((my_up_fld fh4 (by decide)).trans c82_9_21_0)
        refine w_ifne (t := 94) gz_36_61 rfl (fun u6 => ?_) (fun u6 => ?_)
        ·
          refine w_aload_n gz_36_94 rfl ?_
          refine v_getI (j := 9) gz_36_95 rfl is_82 rd_5 rfl (fun v7 ev7 pv7 qv7 => ?_)
          have zv7 := ev7.trans ev5.symm
          have psR : h4 82 7 = h21_0 82 7 := ((my_up_fld fh4 (by decide)).trans (rfl : h21_0 82 7 = h21_0 82 7))
          have npsR : cs h4 = cs h21_0 := cs_eq (fun j => ((my_up_role fh4 is_92 is_82 rfl).trans (rfl : h21_0 92 j = h21_0 92 j))) (((my_up_ne fh4 (by omega)).trans (rfl : h21_0 82 4 = h21_0 82 4)))
          have c8 := (my_up_self fh4)
          have c9 := ev7.symm
          exact w_iret gz_36_98 gm_36 (k0 h4 (v7) (gh4) (by omega) (by omega) (by omega) (by omega) (by omega) (by first | exact Lo_h4 | (have q := no_21_0 (by omega); rw [show v7 = h21_0 82 9 by omega]; exact q) | exact ⟨_, _, _, rdz_e (ok_21_0 (by omega)) (by omega), NewL_swap LoA LnA (by first | assumption | omega) (by omega) (by omega) no_such_saying no_such_saying fh4 (by first | (rw [gA]) | (rw [← gA]; congr 1; omega)) (by first | (rw [gA]) | omega) (by first | (rw [gA]) | omega)⟩ | omega) (by first | exact Lo_h4 | (have q := no_21_0 (by omega); rw [show v7 = h21_0 82 9 by omega]; exact q) | exact ⟨_, _, _, rdz_e (ok_21_0 (by omega)) (by omega), NewL_swap LoA LnA (by first | assumption | omega) (by omega) (by omega) no_such_saying no_such_saying fh4 (by first | (rw [gA]) | (rw [← gA]; congr 1; omega)) (by first | (rw [gA]) | omega) (by first | (rw [gA]) | omega)⟩ | omega) Ln_h4)
        ·
          have Sp_h4t10 : Sp h4 wv := Sp_ag (my_ag.up fh4 is_82 rfl) hwv n_Ln_21_0 (sp_21_0 (by omega))
          refine w_aload_n gz_36_64 rfl ?_
          refine w_getX (v := 27) gz_36_65 is_82 rd_5 rfl (by decide) rfl ?_
          refine w_iload_n gz_36_68 rfl ?_
          refine w_aald gz_36_69 is_27 rd_22 rfl (by omega) (by omega) (fun v12 ev12 tv12 => ?_)
          refine w_astore_n (ls' := [(2, 82), (0, x1), (2, v12)]) gz_36_70 gm_36 rfl rfl rfl ?_
          have LnA := Ln_h4
          have SpA := Sp_h4t10
          have UnA := Un_h4
          have LoA := Lo_h4
          have gA : ∀ f : Int, h4 (h 82 2) f = h21_0 (h 82 2) f := fun f => by
            have hf := ln_far n_Ln_21_0.2.2.2.1
            rw [e2_21_0] at hf
            exact my_up_ne fh4 (by omega)
          refine w_aload_n gz_36_71 rfl ?_
          refine v_getR (j := 2) gz_36_72 rfl is_82 rd_5 rfl (fun v13 ev13 tv13 => ?_)
          refine w_iconst gz_36_75 (by decide) ?_
          refine v_putB (j := 0) gz_36_76 rfl tv13 rd_4 rfl (by omega) (by omega) rfl (fun h14 fh14 => ?_)
          have gh14 : my_fr [(4, 0), (4, 1), (4, 2), (4, 3), (4, 4), (4, 5), (4, 6), (4, 7), (4, 8), (4, 9), (5, 2), (5, 4), (5, 5), (5, 6), (5, 7), (5, 8), (5, 9), (22, -1), (32, -1), (33, -1), (34, -1), (35, -1), (36, -1), (37, -1), (38, -1), (39, -1)] h h14 := my_fr.up gh4 tv13 fh14 rfl
          refine w_aload_n gz_36_79 rfl ?_
          refine w_getX (v := 27) gz_36_80 is_82 rd_5 rfl (by decide) rfl ?_
          refine w_iload_n gz_36_83 rfl ?_
          refine w_aload_n gz_36_84 rfl ?_
          refine v_getR (j := 2) gz_36_85 rfl is_82 rd_5 rfl (fun v16 ev16 tv16 => ?_)
          have zv16 : v13 = v16 := (ev16.trans ((my_up_role fh14 is_82 tv13 rfl).trans ev13.symm)).symm
          subst zv16
          refine w_aast gz_36_88 is_27 rd_22 rfl tv13 rd_4 rfl (by omega) (by omega) (fun h17 fh17 => ?_)
          have gh17 : my_fr [(4, 0), (4, 1), (4, 2), (4, 3), (4, 4), (4, 5), (4, 6), (4, 7), (4, 8), (4, 9), (5, 2), (5, 4), (5, 5), (5, 6), (5, 7), (5, 8), (5, 9), (22, -1), (32, -1), (33, -1), (34, -1), (35, -1), (36, -1), (37, -1), (38, -1), (39, -1)] h h17 := my_fr.up gh14 is_27 fh17 rfl
          refine w_aload_n gz_36_89 rfl ?_
          refine w_aload_n gz_36_90 rfl ?_
          refine v_putR (j := 2) gz_36_91 rfl is_82 rd_5 rfl tv12 rfl (fun h18 fh18 => ?_)
          have gh18 : my_fr [(4, 0), (4, 1), (4, 2), (4, 3), (4, 4), (4, 5), (4, 6), (4, 7), (4, 8), (4, 9), (5, 2), (5, 4), (5, 5), (5, 6), (5, 7), (5, 8), (5, 9), (22, -1), (32, -1), (33, -1), (34, -1), (35, -1), (36, -1), (37, -1), (38, -1), (39, -1)] h h18 := my_fr.up gh17 is_82 fh18 rfl
          have Ln_h18t19 : Ln h18 := Ln_swap LnA SpA (by omega) (by omega) (by have q := UnA; unfold Un at q; exact q) (by first | assumption | omega) (by first | assumption | omega | grind) fh14 (by rw [hwx]; exact fh17) fh18
          refine w_aload_n gz_36_94 rfl ?_
          refine v_getI (j := 9) gz_36_95 rfl is_82 rd_5 rfl (fun v20 ev20 pv20 qv20 => ?_)
          have zv20 := ev20.trans ((my_up_fld fh18 (by decide)).trans ((my_up_role fh17 is_82 is_27 rfl).trans ((my_up_role fh14 is_82 tv13 rfl).trans ev5.symm)))
          have psR : h18 82 7 = h21_0 82 7 := ((my_up_fld fh18 (by decide)).trans ((my_up_role fh17 is_82 is_27 rfl).trans ((my_up_role fh14 is_82 tv13 rfl).trans ((my_up_fld fh4 (by decide)).trans (rfl : h21_0 82 7 = h21_0 82 7)))))
          have npsR : cs h18 = cs h21_0 := cs_eq (fun j => ((my_up_role fh18 is_92 is_82 rfl).trans ((my_up_role fh17 is_92 is_27 rfl).trans ((my_up_role fh14 is_92 tv13 rfl).trans ((my_up_role fh4 is_92 is_82 rfl).trans (rfl : h21_0 92 j = h21_0 92 j)))))) (((my_up_fld fh18 (by decide)).trans ((my_up_role fh17 is_82 is_27 rfl).trans ((my_up_role fh14 is_82 tv13 rfl).trans ((my_up_ne fh4 (by omega)).trans (rfl : h21_0 82 4 = h21_0 82 4))))))
          have c21 := ((my_up_fld fh18 (by decide)).trans ((my_up_role fh17 is_82 is_27 rfl).trans ((my_up_role fh14 is_82 tv13 rfl).trans (my_up_self fh4))))
          have c22 := ev20.symm
          rw [show (v20 : Int) = 0 from by omega]
          exact w_iret gz_36_98 gm_36 (k1 h18 (gh18) (by omega) (by omega) (by first | exact no_such_saying | (have q := no_21_0 (by omega); rw [show v20 = h21_0 82 9 by omega]; exact q) | exact ⟨_, _, _, rdz_e (ok_21_0 (by omega)) (by omega), NewL_swap LoA LnA (by first | assumption | omega) (by omega) (by omega) fh14 fh17 fh18 (by first | (rw [gA]) | (rw [← gA]; congr 1; omega)) (by first | (rw [gA]) | omega) (by first | (rw [gA]) | omega)⟩ | omega) Ln_h18t19)
      ·
        refine w_aload_n gz_36_28 rfl ?_
        refine v_getI (j := 9) gz_36_29 rfl is_82 rd_5 rfl (fun v23 ev23 pv23 qv23 => ?_)
        have zv23 := ev23.trans c82_9_21_0
        refine w_ifne (t := 52) gz_36_32 rfl (fun u24 => ?_) (fun u24 => ?_)
        ·
          refine w_aload_n gz_36_52 rfl ?_
          refine w_iconst gz_36_53 (by decide) ?_
          refine v_putI (j := 4) gz_36_54 rfl is_82 rd_5 rfl (by omega) (by omega) rfl (fun h25 fh25 => ?_)
          have gh25 : my_fr [(4, 0), (4, 1), (4, 2), (4, 3), (4, 4), (4, 5), (4, 6), (4, 7), (4, 8), (4, 9), (5, 2), (5, 4), (5, 5), (5, 6), (5, 7), (5, 8), (5, 9), (22, -1), (32, -1), (33, -1), (34, -1), (35, -1), (36, -1), (37, -1), (38, -1), (39, -1)] h h25 := my_fr.up gh_21_0 is_82 fh25 rfl
          have Ln_h25 : Ln h25 := Ln_ag (my_ag.up fh25 is_82 rfl) n_Ln_21_0
          have Un_h25 : Un h25 wv := Un_ag (my_ag.up fh25 is_82 rfl) n_Ln_21_0 n_Un_21_0
          have Lo_h25 : Lo h h25 := Lo_ag (my_ag.up fh25 is_82 rfl) n_Ln_21_0 n_Lo_21_0
          refine w_aload_n gz_36_57 rfl ?_
          refine v_getI (j := 9) gz_36_58 rfl is_82 rd_5 rfl (fun v26 ev26 pv26 qv26 => ?_)
          have zv26 := ev26.trans ((my_up_fld fh25 (by decide)).trans ev23.symm)
          refine w_ifne (t := 94) gz_36_61 rfl (fun u27 => ?_) (fun u27 => by exfalso; omega)
          refine w_aload_n gz_36_94 rfl ?_
          refine v_getI (j := 9) gz_36_95 rfl is_82 rd_5 rfl (fun v28 ev28 pv28 qv28 => ?_)
          have zv28 := ev28.trans ev26.symm
          have psR : h25 82 7 = h21_0 82 7 := ((my_up_fld fh25 (by decide)).trans (rfl : h21_0 82 7 = h21_0 82 7))
          have npsR : cs h25 = cs h21_0 := cs_eq (fun j => ((my_up_role fh25 is_92 is_82 rfl).trans (rfl : h21_0 92 j = h21_0 92 j))) (((my_up_ne fh25 (by omega)).trans (rfl : h21_0 82 4 = h21_0 82 4)))
          have c29 := (my_up_self fh25)
          have c30 := ev28.symm
          exact w_iret gz_36_98 gm_36 (k0 h25 (v28) (gh25) (by omega) (by omega) (by omega) (by omega) (by omega) (by first | exact Lo_h25 | (have q := no_21_0 (by omega); rw [show v28 = h21_0 82 9 by omega]; exact q) | exact ⟨_, _, _, rdz_e (ok_21_0 (by omega)) (by omega), NewL_swap LoA LnA (by first | assumption | omega) (by omega) (by omega) no_such_saying no_such_saying fh25 (by first | (rw [gA]) | (rw [← gA]; congr 1; omega)) (by first | (rw [gA]) | omega) (by first | (rw [gA]) | omega)⟩ | omega) (by first | exact Lo_h25 | (have q := no_21_0 (by omega); rw [show v28 = h21_0 82 9 by omega]; exact q) | exact ⟨_, _, _, rdz_e (ok_21_0 (by omega)) (by omega), NewL_swap LoA LnA (by first | assumption | omega) (by omega) (by omega) no_such_saying no_such_saying fh25 (by first | (rw [gA]) | (rw [← gA]; congr 1; omega)) (by first | (rw [gA]) | omega) (by first | (rw [gA]) | omega)⟩ | omega) Ln_h25)
        ·
          refine w_aload_n gz_36_35 rfl ?_
          refine v_getI (j := 6) gz_36_36 rfl is_82 rd_5 rfl (fun v31 ev31 pv31 qv31 => ?_)
          refine w_ifeq (t := 52) gz_36_39 rfl (fun u32 => ?_) (fun u32 => ?_)
          ·
            refine w_aload_n gz_36_52 rfl ?_
            refine w_iconst gz_36_53 (by decide) ?_
            refine v_putI (j := 4) gz_36_54 rfl is_82 rd_5 rfl (by omega) (by omega) rfl (fun h33 fh33 => ?_)
            have gh33 : my_fr [(4, 0), (4, 1), (4, 2), (4, 3), (4, 4), (4, 5), (4, 6), (4, 7), (4, 8), (4, 9), (5, 2), (5, 4), (5, 5), (5, 6), (5, 7), (5, 8), (5, 9), (22, -1), (32, -1), (33, -1), (34, -1), (35, -1), (36, -1), (37, -1), (38, -1), (39, -1)] h h33 := my_fr.up gh_21_0 is_82 fh33 rfl
            have Ln_h33 : Ln h33 := Ln_ag (my_ag.up fh33 is_82 rfl) n_Ln_21_0
            have Un_h33 : Un h33 wv := Un_ag (my_ag.up fh33 is_82 rfl) n_Ln_21_0 n_Un_21_0
            have Lo_h33 : Lo h h33 := Lo_ag (my_ag.up fh33 is_82 rfl) n_Ln_21_0 n_Lo_21_0
            refine w_aload_n gz_36_57 rfl ?_
            refine v_getI (j := 9) gz_36_58 rfl is_82 rd_5 rfl (fun v34 ev34 pv34 qv34 => ?_)
            have zv34 := ev34.trans ((my_up_fld fh33 (by decide)).trans ev23.symm)
            refine w_ifne (t := 94) gz_36_61 rfl (fun u35 => by exfalso; omega) (fun u35 => ?_)
            have Sp_h33t36 : Sp h33 wv := Sp_ag (my_ag.up fh33 is_82 rfl) hwv n_Ln_21_0 (sp_21_0 (by omega))
            refine w_aload_n gz_36_64 rfl ?_
            refine w_getX (v := 27) gz_36_65 is_82 rd_5 rfl (by decide) rfl ?_
            refine w_iload_n gz_36_68 rfl ?_
            refine w_aald gz_36_69 is_27 rd_22 rfl (by omega) (by omega) (fun v38 ev38 tv38 => ?_)
            refine w_astore_n (ls' := [(2, 82), (0, x1), (2, v38)]) gz_36_70 gm_36 rfl rfl rfl ?_
            have LnA := Ln_h33
            have SpA := Sp_h33t36
            have UnA := Un_h33
            have LoA := Lo_h33
            have gA : ∀ f : Int, h33 (h 82 2) f = h21_0 (h 82 2) f := fun f => by
              have hf := ln_far n_Ln_21_0.2.2.2.1
              rw [e2_21_0] at hf
              exact my_up_ne fh33 (by omega)
            refine w_aload_n gz_36_71 rfl ?_
            refine v_getR (j := 2) gz_36_72 rfl is_82 rd_5 rfl (fun v39 ev39 tv39 => ?_)
            refine w_iconst gz_36_75 (by decide) ?_
            refine v_putB (j := 0) gz_36_76 rfl tv39 rd_4 rfl (by omega) (by omega) rfl (fun h40 fh40 => ?_)
            have gh40 : my_fr [(4, 0), (4, 1), (4, 2), (4, 3), (4, 4), (4, 5), (4, 6), (4, 7), (4, 8), (4, 9), (5, 2), (5, 4), (5, 5), (5, 6), (5, 7), (5, 8), (5, 9), (22, -1), (32, -1), (33, -1), (34, -1), (35, -1), (36, -1), (37, -1), (38, -1), (39, -1)] h h40 := my_fr.up gh33 tv39 fh40 rfl
            refine w_aload_n gz_36_79 rfl ?_
            refine w_getX (v := 27) gz_36_80 is_82 rd_5 rfl (by decide) rfl ?_
            refine w_iload_n gz_36_83 rfl ?_
            refine w_aload_n gz_36_84 rfl ?_
            refine v_getR (j := 2) gz_36_85 rfl is_82 rd_5 rfl (fun v42 ev42 tv42 => ?_)
            have zv42 : v39 = v42 := (ev42.trans ((my_up_role fh40 is_82 tv39 rfl).trans ev39.symm)).symm
            subst zv42
            refine w_aast gz_36_88 is_27 rd_22 rfl tv39 rd_4 rfl (by omega) (by omega) (fun h43 fh43 => ?_)
            have gh43 : my_fr [(4, 0), (4, 1), (4, 2), (4, 3), (4, 4), (4, 5), (4, 6), (4, 7), (4, 8), (4, 9), (5, 2), (5, 4), (5, 5), (5, 6), (5, 7), (5, 8), (5, 9), (22, -1), (32, -1), (33, -1), (34, -1), (35, -1), (36, -1), (37, -1), (38, -1), (39, -1)] h h43 := my_fr.up gh40 is_27 fh43 rfl
            refine w_aload_n gz_36_89 rfl ?_
            refine w_aload_n gz_36_90 rfl ?_
            refine v_putR (j := 2) gz_36_91 rfl is_82 rd_5 rfl tv38 rfl (fun h44 fh44 => ?_)
            have gh44 : my_fr [(4, 0), (4, 1), (4, 2), (4, 3), (4, 4), (4, 5), (4, 6), (4, 7), (4, 8), (4, 9), (5, 2), (5, 4), (5, 5), (5, 6), (5, 7), (5, 8), (5, 9), (22, -1), (32, -1), (33, -1), (34, -1), (35, -1), (36, -1), (37, -1), (38, -1), (39, -1)] h h44 := my_fr.up gh43 is_82 fh44 rfl
            have Ln_h44t45 : Ln h44 := Ln_swap LnA SpA (by omega) (by omega) (by have q := UnA; unfold Un at q; exact q) (by first | assumption | omega) (by first | assumption | omega | grind) fh40 (by rw [hwx]; exact fh43) fh44
            refine w_aload_n gz_36_94 rfl ?_
            refine v_getI (j := 9) gz_36_95 rfl is_82 rd_5 rfl (fun v46 ev46 pv46 qv46 => ?_)
            have zv46 := ev46.trans ((my_up_fld fh44 (by decide)).trans ((my_up_role fh43 is_82 is_27 rfl).trans ((my_up_role fh40 is_82 tv39 rfl).trans ev34.symm)))
            have psR : h44 82 7 = h21_0 82 7 := ((my_up_fld fh44 (by decide)).trans ((my_up_role fh43 is_82 is_27 rfl).trans ((my_up_role fh40 is_82 tv39 rfl).trans ((my_up_fld fh33 (by decide)).trans (rfl : h21_0 82 7 = h21_0 82 7)))))
            have npsR : cs h44 = cs h21_0 := cs_eq (fun j => ((my_up_role fh44 is_92 is_82 rfl).trans ((my_up_role fh43 is_92 is_27 rfl).trans ((my_up_role fh40 is_92 tv39 rfl).trans ((my_up_role fh33 is_92 is_82 rfl).trans (rfl : h21_0 92 j = h21_0 92 j)))))) (((my_up_fld fh44 (by decide)).trans ((my_up_role fh43 is_82 is_27 rfl).trans ((my_up_role fh40 is_82 tv39 rfl).trans ((my_up_ne fh33 (by omega)).trans (rfl : h21_0 82 4 = h21_0 82 4))))))
            have c47 := ((my_up_fld fh44 (by decide)).trans ((my_up_role fh43 is_82 is_27 rfl).trans ((my_up_role fh40 is_82 tv39 rfl).trans (my_up_self fh33))))
            have c48 := ev46.symm
            rw [show (v46 : Int) = 0 from by omega]
            exact w_iret gz_36_98 gm_36 (k1 h44 (gh44) (by omega) (by omega) (by first | exact no_such_saying | (have q := no_21_0 (by omega); rw [show v46 = h21_0 82 9 by omega]; exact q) | exact ⟨_, _, _, rdz_e (ok_21_0 (by omega)) (by omega), NewL_swap LoA LnA (by first | assumption | omega) (by omega) (by omega) fh40 fh43 fh44 (by first | (rw [gA]) | (rw [← gA]; congr 1; omega)) (by first | (rw [gA]) | omega) (by first | (rw [gA]) | omega)⟩ | omega) Ln_h44t45)
          ·
            have Sp_h21_0t49 : Sp h21_0 wv := sp_21_0 (by omega)
            refine w_aload_n gz_36_42 rfl ?_
            refine w_inv (k := 5) (as := []) (r := []) (x := 82) (ls0 := [(2, 82), (9, 0), (9, 0), (9, 0), (9, 0), (9, 0)]) gz_36_43 gm_49 rfl is_82 rd_5 rfl rfl rfl rfl rfl (c_Reader_readPane9_f0 (d := d)  (wv := wv) (ev23.symm.trans (by omega)) (by first | assumption | omega) (by first | assumption | omega) n_Ln_21_0 Sp_h21_0t49 Al_h21_0t1 Cu_h21_0t2 (fun h50 frh50 w51 w52 xp53 xp54 Ln_h50t55 Sp_h50t56 Al_h50t57 Cu_h50t58 => ?_) (fun h59 frh59 w60 xp61 xp62 xp63 Ln_h59t64 Sp_h59t65 Al_h59t66 Cu_h59t67 => ?_))
            ·
              have gh50 : my_fr [(4, 0), (4, 1), (4, 2), (4, 3), (4, 4), (4, 5), (4, 6), (4, 7), (4, 8), (4, 9), (5, 2), (5, 4), (5, 5), (5, 6), (5, 7), (5, 8), (5, 9), (22, -1), (32, -1), (33, -1), (34, -1), (35, -1), (36, -1), (37, -1), (38, -1), (39, -1)] h h50 := my_fr.tr gh_21_0 (frh50.mo rfl)
              have Un_h50 : Un h50 wv := Un_ag (my_ag.fr frh50 rfl) n_Ln_21_0 n_Un_21_0
              show wp l rho (d + 8) 36 46 [(2, 82), (0, x1), (0, p21_0)] [] h50 Q
              have pn := xp53
              rw [te, t2, e2_21_0] at pn
              have Lo_h50t68 : Lo h h50 := Lo_tr n_Lo_21_0 xp54
              refine w_iinc (ls' := [(2, 82), (0, x1), (0, (p21_0 + 1))]) gz_36_46 rfl gm_36 rfl rfl rfl ⟨by omega, by omega⟩ ?_
              refine w_goto (t := 21) gz_36_49 rfl ?_
              have psJ : h50 82 7 = h50 82 7 := (rfl : h50 82 7 = h50 82 7)
              have npsJ : cs h50 = cs h21_0 := cs_eq (fun j => ((my_fr.at frh50 is_92 rfl).trans (rfl : h21_0 92 j = h21_0 92 j))) (((my_fr.at frh50 is_82 rfl).trans (rfl : h21_0 82 4 = h21_0 82 4)))
              have ce69 : h50 82 2 = h21_0 82 2 := ((my_fr.at frh50 is_82 rfl).trans (rfl : h21_0 82 2 = h21_0 82 2))
              have ce70 : h50 82 4 = k82_4 := ((my_fr.at frh50 is_82 rfl).trans c82_4_21_0)
              exact ih_21_0 ((p21_0 + 1)) ((h50 82 9)) h50 (gh50) (by omega) (by omega) (by omega) (by omega) (((my_fr.at frh50 is_82 rfl).trans c82_4_21_0).trans (by omega)) ((rfl : h50 82 9 = h50 82 9).trans (by omega)) Ln_h50t55 Un_h50 Lo_h50t68 (by first | exact fun _ => Sp_h50t56 | (intro q; omega) | grind | omega) (Al_h50t57) (Cu_h50t58) (by omega) (by omega) (by first | exact (fun _ => rdz_0 ov (by omega) o9) | exact (fun _ => rdz_s (ok_21_0 (by omega)) (by omega) pn (by omega) pz.2.1 pz.2.2) | (intro q; exfalso; omega) | omega) (by first | exact (fun q => rdz_f ov q) | exact (fun q => rdz_x (ok_21_0 (by omega)) (by omega) pn q) | (intro q; exfalso; omega) | omega) (by first | omega | (intro q; omega) | omega) (by omega)
            ·
              have gh59 : my_fr [(4, 0), (4, 1), (4, 2), (4, 3), (4, 4), (4, 5), (4, 6), (4, 7), (4, 8), (4, 9), (5, 2), (5, 4), (5, 5), (5, 6), (5, 7), (5, 8), (5, 9), (22, -1), (32, -1), (33, -1), (34, -1), (35, -1), (36, -1), (37, -1), (38, -1), (39, -1)] h h59 := my_fr.tr gh_21_0 (frh59.mo rfl)
              have Un_h59 : Un h59 wv := Un_ag (my_ag.fr frh59 rfl) n_Ln_21_0 n_Un_21_0
              show wp l rho (d + 8) 36 46 [(2, 82), (0, x1), (0, p21_0)] [] h59 Q
              have pn := xp61
              rw [te, t2, e2_21_0] at pn
              have pz := xp62
              rw [e2_21_0] at pz
              have z0 : h59 82 9 = 0 := by omega
              have ad : h21_0 82 7 < h59 82 7 := pane_adv (h := h) vd (by have q := pn; rw [z0] at q; exact q)
              have Lo_h59t71 : Lo h h59 := Lo_tr n_Lo_21_0 xp63
              refine w_iinc (ls' := [(2, 82), (0, x1), (0, (p21_0 + 1))]) gz_36_46 rfl gm_36 rfl rfl rfl ⟨by omega, by omega⟩ ?_
              refine w_goto (t := 21) gz_36_49 rfl ?_
              have psJ : h59 82 7 = h59 82 7 := (rfl : h59 82 7 = h59 82 7)
              have npsJ : cs h59 = cs h21_0 := cs_eq (fun j => ((my_fr.at frh59 is_92 rfl).trans (rfl : h21_0 92 j = h21_0 92 j))) (((my_fr.at frh59 is_82 rfl).trans (rfl : h21_0 82 4 = h21_0 82 4)))
              have ce72 : h59 82 2 = h21_0 82 2 := ((my_fr.at frh59 is_82 rfl).trans (rfl : h21_0 82 2 = h21_0 82 2))
              have ce73 : h59 82 4 = k82_4 := ((my_fr.at frh59 is_82 rfl).trans c82_4_21_0)
              exact ih_21_0 ((p21_0 + 1)) (0) h59 (gh59) (by omega) (by omega) (by omega) (by omega) (((my_fr.at frh59 is_82 rfl).trans c82_4_21_0).trans (by omega)) (w60.trans (by omega)) Ln_h59t64 Un_h59 Lo_h59t71 (by first | exact fun _ => Sp_h59t65 | (intro q; omega) | grind | omega) (Al_h59t66) (Cu_h59t67) (by omega) (by omega) (by first | exact (fun _ => rdz_0 ov (by omega) o9) | exact (fun _ => rdz_s (ok_21_0 (by omega)) (by omega) pn (by omega) pz.2.1 pz.2.2) | (intro q; exfalso; omega) | omega) (by first | exact (fun q => rdz_f ov q) | exact (fun q => rdz_x (ok_21_0 (by omega)) (by omega) pn q) | (intro q; exfalso; omega) | omega) (by first | omega | (intro q; omega) | omega) (by omega)
  refine w_aload_n gz_36_0 rfl ?_
  refine w_iconst gz_36_1 (by decide) ?_
  refine v_putI (j := 5) gz_36_2 rfl is_82 rd_5 rfl (by omega) (by omega) rfl (fun h74 fh74 => ?_)
  have gh74 : my_fr [(4, 0), (4, 1), (4, 2), (4, 3), (4, 4), (4, 5), (4, 6), (4, 7), (4, 8), (4, 9), (5, 2), (5, 4), (5, 5), (5, 6), (5, 7), (5, 8), (5, 9), (22, -1), (32, -1), (33, -1), (34, -1), (35, -1), (36, -1), (37, -1), (38, -1), (39, -1)] h h74 := my_fr.up my_fr.rf is_82 fh74 rfl
  have Ln_h74 : Ln h74 := Ln_ag (my_ag.up fh74 is_82 rfl) n_Ln
  have Un_h74 : Un h74 wv := Un_ag (my_ag.up fh74 is_82 rfl) n_Ln n_Un
  have Lo_h74 : Lo h h74 := Lo_ag (my_ag.up fh74 is_82 rfl) n_Ln (Lo_rf)
  refine w_aload_n gz_36_5 rfl ?_
  refine w_iconst gz_36_6 (by decide) ?_
  refine v_putI (j := 9) gz_36_7 rfl is_82 rd_5 rfl (by omega) (by omega) rfl (fun h75 fh75 => ?_)
  have gh75 : my_fr [(4, 0), (4, 1), (4, 2), (4, 3), (4, 4), (4, 5), (4, 6), (4, 7), (4, 8), (4, 9), (5, 2), (5, 4), (5, 5), (5, 6), (5, 7), (5, 8), (5, 9), (22, -1), (32, -1), (33, -1), (34, -1), (35, -1), (36, -1), (37, -1), (38, -1), (39, -1)] h h75 := my_fr.up gh74 is_82 fh75 rfl
  have Ln_h75 : Ln h75 := Ln_ag (my_ag.up fh75 is_82 rfl) Ln_h74
  have Un_h75 : Un h75 wv := Un_ag (my_ag.up fh75 is_82 rfl) Ln_h74 Un_h74
  have Lo_h75 : Lo h h75 := Lo_ag (my_ag.up fh75 is_82 rfl) Ln_h74 Lo_h74
  refine w_aload_n gz_36_10 rfl ?_
  have a92 : ∀ j : Int, h75 92 j = h 92 j := fun j => ((my_up_role fh75 is_92 is_82 rfl).trans ((my_up_role fh74 is_92 is_82 rfl).trans (rfl : h 92 j = h 92 j)))
  have ce76 : h75 82 4 = k82_4 := ((my_up_fld fh75 (by decide)).trans ((my_up_fld fh74 (by decide)).trans ek82_4.symm))
  have ce77 : h75 82 5 = 0 := ((my_up_fld fh75 (by decide)).trans (my_up_self fh74))
  have tpe : tp_of h75 = tp_of h := tp_eq a92 (by omega)
  have z5 : h75 82 5 = 0 := by omega
  have Al_h75t78 : Al h75 := by unfold Al; omega
  refine w_inv (k := 2) (as := []) (r := []) (x := 82) (ls0 := [(2, 82), (9, 0), (9, 0)]) gz_36_11 gm_37 rfl is_82 rd_5 rfl rfl rfl rfl rfl (c_Reader_nextToken9_f0 (d := (d + 6))  ((my_up_self fh75).trans (by omega)) Al_h75t78 (fun h79 frh79 w80 w81 w82 xp83 xp84 Al_h79t85 Cu_h79t86 => ?_))
  have gh79 : my_fr [(4, 0), (4, 1), (4, 2), (4, 3), (4, 4), (4, 5), (4, 6), (4, 7), (4, 8), (4, 9), (5, 2), (5, 4), (5, 5), (5, 6), (5, 7), (5, 8), (5, 9), (22, -1), (32, -1), (33, -1), (34, -1), (35, -1), (36, -1), (37, -1), (38, -1), (39, -1)] h h79 := my_fr.tr gh75 (frh79.mo rfl)
  have Ln_h79 : Ln h79 := Ln_ag (my_ag.fr frh79 rfl) Ln_h75
  have Un_h79 : Un h79 wv := Un_ag (my_ag.fr frh79 rfl) Ln_h75 Un_h75
  have Lo_h79 : Lo h h79 := Lo_ag (my_ag.fr frh79 rfl) Ln_h75 Lo_h75
  show wp l rho (d + 8) 36 14 [(2, 82), (0, x1), (9, 0)] [] h79 Q
  have p0 : h79 82 7 = tS (tp_of h) 0 := by
    have q := xp84
    rw [tpe, z5] at q
    exact q
  refine w_aload_n gz_36_14 rfl ?_
  refine w_iload_n gz_36_15 rfl ?_
  have c27 : ∀ j : Int, h79 27 j = h 27 j := fun j => ((my_fr.at frh79 is_27 rfl).trans ((my_up_role fh75 is_27 is_82 rfl).trans ((my_up_role fh74 is_27 is_82 rfl).trans (rfl : h 27 j = h 27 j))))
  have l0 : ∀ k : Int, h79 k 0 = h k 0 := fun k => ((my_fr.fl frh79 rfl).trans ((my_up_fld fh75 (by decide)).trans ((my_up_fld fh74 (by decide)).trans (rfl : h k 0 = h k 0))))
  have l3 : ∀ k : Int, h79 k 3 = h k 3 := fun k => ((my_fr.fl frh79 rfl).trans ((my_up_fld fh75 (by decide)).trans ((my_up_fld fh74 (by decide)).trans (rfl : h k 3 = h k 3))))
  have l4 : ∀ k : Int, h79 k 4 = h k 4 := fun k => ((my_fr.fl frh79 rfl).trans ((my_up_fld fh75 (by decide)).trans ((my_up_fld fh74 (by decide)).trans (rfl : h k 4 = h k 4))))
  have c2 : ∀ j : Int, h79 2 j = h 2 j := fun j => ((my_fr.at frh79 is_2 rfl).trans ((my_up_role fh75 is_2 is_82 rfl).trans ((my_up_role fh74 is_2 is_82 rfl).trans (rfl : h 2 j = h 2 j))))
  have eT : cT h79 = cT h := funext (fun v => by unfold cT; rw [c27, l0])
  have eW : cW h79 = cW h := funext (fun v => by unfold cW; rw [c27, l4])
  have eB : cB h79 = cB h := funext (fun v => by unfold cB; rw [c27, l3])
  have e2f : h79 2 = h 2 := funext c2
  have ce87 : h79 82 2 = h 82 2 := ((my_fr.at frh79 is_82 rfl).trans ((my_up_fld fh75 (by decide)).trans ((my_up_fld fh74 (by decide)).trans (rfl : h 82 2 = h 82 2))))
  have z2 : h79 82 2 = h 82 2 := by omega
  refine w_inv (k := 1) (as := [(0, x1)]) (r := []) (x := 82) (ls0 := [(2, 82), (0, x1), (9, 0)]) gz_36_16 gm_39 rfl is_82 rd_5 rfl rfl rfl rfl rfl (c_Reader_readOver9_f0 (d := (d + 1)) (x1 := x1) (wv := wv) (by omega) (by omega) (((my_fr.at frh79 is_82 rfl).trans (my_up_self fh75)).trans (by omega)) (by first | assumption | omega) (by first | assumption | omega) Ln_h79 Un_h79 Al_h79t85 Cu_h79t86 (by first | assumption | exact no_such_saying | exact Fp_told (by omega) (by omega) | omega | (subst_vars; omega) | omega) (fun h88 frh88 w89 w90 xp91 xp92 Ln_h88t93 Un_h88t94 Al_h88t95 Cu_h88t96 => ?_) (fun h97 frh97 w98 xp99 xp100 xp101 xp102 xp103 Ln_h97t104 Un_h97t105 Al_h97t106 Cu_h97t107 => ?_))
  ·
    have gh88 : my_fr [(4, 0), (4, 1), (4, 2), (4, 3), (4, 4), (4, 5), (4, 6), (4, 7), (4, 8), (4, 9), (5, 2), (5, 4), (5, 5), (5, 6), (5, 7), (5, 8), (5, 9), (22, -1), (32, -1), (33, -1), (34, -1), (35, -1), (36, -1), (37, -1), (38, -1), (39, -1)] h h88 := my_fr.tr gh79 (frh88.mo rfl)
    show wp l rho (d + 8) 36 19 [(2, 82), (0, x1), (9, 0)] [] h88 Q
    have tE108 : cs h79 = cs h := cs_eq (fun j => ((my_fr.at frh79 is_92 rfl).trans ((my_up_role fh75 is_92 is_82 rfl).trans ((my_up_role fh74 is_92 is_82 rfl).trans (rfl : h 92 j = h 92 j))))) (((my_fr.at frh79 is_82 rfl).trans ((my_up_fld fh75 (by decide)).trans ((my_up_fld fh74 (by decide)).trans (rfl : h 82 4 = h 82 4)))))
    rw [tE108] at xp91
    have ov := xp91
    rw [eT, eW, eB, e2f, p0] at ov
    try rw [z2] at ov
    have Lo_h88t109 : Lo h h88 := Lo_tr Lo_h79 xp92
    have o2 : h88 82 2 = h 82 2 := (my_fr.at frh88 is_82 rfl).trans z2
    refine v_know (x := 82) (j := 7) (b := 7) rfl is_82 rd_5 rfl (fun kk7 ekk7 pkk7 qkk7 => ?_)
    refine w_iconst gz_36_19 (by decide) ?_
    refine w_istore_n (ls' := [(2, 82), (0, x1), (0, 0)]) gz_36_20 gm_36 rfl rfl rfl ?_
    have psJ : h88 82 7 = h88 82 7 := (rfl : h88 82 7 = h88 82 7)
    have npsJ : cs h88 = cs h := cs_eq (fun j => ((my_fr.at frh88 is_92 rfl).trans ((my_fr.at frh79 is_92 rfl).trans ((my_up_role fh75 is_92 is_82 rfl).trans ((my_up_role fh74 is_92 is_82 rfl).trans (rfl : h 92 j = h 92 j)))))) (((my_fr.at frh88 is_82 rfl).trans ((my_fr.at frh79 is_82 rfl).trans ((my_up_fld fh75 (by decide)).trans ((my_up_fld fh74 (by decide)).trans (rfl : h 82 4 = h 82 4))))))
    have ce110 : h88 82 2 = h 82 2 := ((my_fr.at frh88 is_82 rfl).trans ((my_fr.at frh79 is_82 rfl).trans ((my_up_fld fh75 (by decide)).trans ((my_up_fld fh74 (by decide)).trans (rfl : h 82 2 = h 82 2)))))
    have ce111 : h88 82 4 = k82_4 := ((my_fr.at frh88 is_82 rfl).trans ((my_fr.at frh79 is_82 rfl).trans ((my_up_fld fh75 (by decide)).trans ((my_up_fld fh74 (by decide)).trans ek82_4.symm))))
    exact J21_0 1002 (0) ((h88 82 9)) h88 (gh88) (by omega) (by omega) (by omega) (by omega) (((my_fr.at frh88 is_82 rfl).trans ((my_fr.at frh79 is_82 rfl).trans ((my_up_fld fh75 (by decide)).trans ((my_up_fld fh74 (by decide)).trans ek82_4.symm)))).trans (by omega)) ((rfl : h88 82 9 = h88 82 9).trans (by omega)) Ln_h88t93 Un_h88t94 Lo_h88t109 (by first | exact fun _ => no_such_saying | (intro q; omega) | grind | omega) (Al_h88t95) (Cu_h88t96) (by omega) (by omega) (by first | exact (fun _ => rdz_0 ov (by omega) o9) | exact (fun _ => rdz_s (ok_21_0 (by omega)) (by omega) pn (by omega) pz.2.1 pz.2.2) | (intro q; exfalso; omega) | omega) (by first | exact (fun q => rdz_f ov q) | exact (fun q => rdz_x (ok_21_0 (by omega)) (by omega) pn q) | (intro q; exfalso; omega) | omega) (by first | omega | (intro q; omega) | omega) (by omega)
  ·
    have gh97 : my_fr [(4, 0), (4, 1), (4, 2), (4, 3), (4, 4), (4, 5), (4, 6), (4, 7), (4, 8), (4, 9), (5, 2), (5, 4), (5, 5), (5, 6), (5, 7), (5, 8), (5, 9), (22, -1), (32, -1), (33, -1), (34, -1), (35, -1), (36, -1), (37, -1), (38, -1), (39, -1)] h h97 := my_fr.tr gh79 (frh97.mo rfl)
    show wp l rho (d + 8) 36 19 [(2, 82), (0, x1), (9, 0)] [] h97 Q
    have tE112 : cs h79 = cs h := cs_eq (fun j => ((my_fr.at frh79 is_92 rfl).trans ((my_up_role fh75 is_92 is_82 rfl).trans ((my_up_role fh74 is_92 is_82 rfl).trans (rfl : h 92 j = h 92 j))))) (((my_fr.at frh79 is_82 rfl).trans ((my_up_fld fh75 (by decide)).trans ((my_up_fld fh74 (by decide)).trans (rfl : h 82 4 = h 82 4)))))
    rw [tE112] at xp100
    have ov := xp100
    rw [eT, eW, eB, e2f, p0] at ov
    try rw [z2] at ov
    have Lo_h97t113 : Lo h h97 := Lo_tr Lo_h79 xp103
    have Sp_h97t114 : Sp h97 wv := xp99
    have o2 : h97 82 2 = h 82 2 := xp101.trans z2
    have o9 := xp102
    rw [z2] at o9
    refine v_know (x := 82) (j := 7) (b := 7) rfl is_82 rd_5 rfl (fun kk7 ekk7 pkk7 qkk7 => ?_)
    refine w_iconst gz_36_19 (by decide) ?_
    refine w_istore_n (ls' := [(2, 82), (0, x1), (0, 0)]) gz_36_20 gm_36 rfl rfl rfl ?_
    have psJ : h97 82 7 = h97 82 7 := (rfl : h97 82 7 = h97 82 7)
    have npsJ : cs h97 = cs h := cs_eq (fun j => ((my_fr.at frh97 is_92 rfl).trans ((my_fr.at frh79 is_92 rfl).trans ((my_up_role fh75 is_92 is_82 rfl).trans ((my_up_role fh74 is_92 is_82 rfl).trans (rfl : h 92 j = h 92 j)))))) (((my_fr.at frh97 is_82 rfl).trans ((my_fr.at frh79 is_82 rfl).trans ((my_up_fld fh75 (by decide)).trans ((my_up_fld fh74 (by decide)).trans (rfl : h 82 4 = h 82 4))))))
    have ce115 : h97 82 2 = h 82 2 := ((my_fr.at frh97 is_82 rfl).trans ((my_fr.at frh79 is_82 rfl).trans ((my_up_fld fh75 (by decide)).trans ((my_up_fld fh74 (by decide)).trans (rfl : h 82 2 = h 82 2)))))
    have ce116 : h97 82 4 = k82_4 := ((my_fr.at frh97 is_82 rfl).trans ((my_fr.at frh79 is_82 rfl).trans ((my_up_fld fh75 (by decide)).trans ((my_up_fld fh74 (by decide)).trans ek82_4.symm))))
    exact J21_0 1002 (0) (0) h97 (gh97) (by omega) (by omega) (by omega) (by omega) (((my_fr.at frh97 is_82 rfl).trans ((my_fr.at frh79 is_82 rfl).trans ((my_up_fld fh75 (by decide)).trans ((my_up_fld fh74 (by decide)).trans ek82_4.symm)))).trans (by omega)) (w98.trans (by omega)) Ln_h97t104 Un_h97t105 Lo_h97t113 (by first | exact fun _ => Sp_h97t114 | (intro q; omega) | grind | omega) (Al_h97t106) (Cu_h97t107) (by omega) (by omega) (by first | exact (fun _ => rdz_0 ov (by omega) o9) | exact (fun _ => rdz_s (ok_21_0 (by omega)) (by omega) pn (by omega) pz.2.1 pz.2.2) | (intro q; exfalso; omega) | omega) (by first | exact (fun q => rdz_f ov q) | exact (fun q => rdz_x (ok_21_0 (by omega)) (by omega) pn q) | (intro q; exfalso; omega) | omega) (by first | omega | (intro q; omega) | omega) (by omega)
theorem c_ThroughWindow_window9 {l : Launch} {rho : Nat → Int32} {d : Nat} {h : my_H} {Q : my_H → my_V → Prop} {x1 : Int} (n_Ln : Ln h) (k0 : ∀ (h' : my_H), my_fr [(4, 0), (4, 1), (4, 2), (4, 3), (4, 4), (4, 5), (4, 6), (4, 7), (4, 8), (4, 9), (5, 2), (5, 4), (5, 5), (5, 6), (5, 7), (5, 8), (5, 9), (22, -1), (32, -1), (33, -1), (34, -1), (35, -1), (36, -1), (37, -1), (38, -1), (39, -1)] h h' → (((x1 < 0 ∨ 5 < x1) ∨ ∃ v : Int, 0 ≤ v ∧ v ≤ 5 ∧ h (h 27 v) 0 = 1 ∧ h (h 27 v) 1 = x1)) → h' 82 4 = 0 → Lo h h' → Ln h' → Q h' (0, (-1))) (k1 : ∀ (h' : my_H), my_fr [(4, 0), (4, 1), (4, 2), (4, 3), (4, 4), (4, 5), (4, 6), (4, 7), (4, 8), (4, 9), (5, 2), (5, 4), (5, 5), (5, 6), (5, 7), (5, 8), (5, 9), (22, -1), (32, -1), (33, -1), (34, -1), (35, -1), (36, -1), (37, -1), (38, -1), (39, -1)] h h' → 0 ≤ x1 → x1 ≤ 5 → (∀ v : Int, 0 ≤ v → v ≤ 5 → h (h 27 v) 0 = 1 → h (h 27 v) 1 ≠ x1) → (∃ c b o : Int, readR (cs h) (h 2) (cT h) (cW h) (cB h) x1 (tS (tp_of h) 0) 0 c b o ∧ NewL h h' x1 c b o) → h' 82 4 = 0 → Ln h' → Q h' (0, 0)) (k2 : ∀ (h' : my_H) (y : Int), my_fr [(4, 0), (4, 1), (4, 2), (4, 3), (4, 4), (4, 5), (4, 6), (4, 7), (4, 8), (4, 9), (5, 2), (5, 4), (5, 5), (5, 6), (5, 7), (5, 8), (5, 9), (22, -1), (32, -1), (33, -1), (34, -1), (35, -1), (36, -1), (37, -1), (38, -1), (39, -1)] h h' → 1 ≤ y → y ≤ 16005 → 0 ≤ x1 → x1 ≤ 5 → (∀ v : Int, 0 ≤ v → v ≤ 5 → h (h 27 v) 0 = 1 → h (h 27 v) 1 ≠ x1) → rdF h x1 y → h' 82 4 = 0 → Lo h h' → Ln h' → Q h' (0, y)) : wp l rho (d + 9) 34 0 [(2, 0), (0, x1)] [] h Q := by
  refine w_iload_n gz_34_0 rfl ?_
  refine w_iflt (t := 18) gz_34_1 rfl (fun u1 => ?_) (fun u1 => ?_)
  ·
    refine w_aload_n gz_34_18 rfl ?_
    refine w_getX (v := 82) gz_34_19 is_0 rd_9 rfl (by decide) rfl ?_
    refine w_iconst gz_34_22 (by decide) ?_
    refine v_putI (j := 4) gz_34_23 rfl is_82 rd_5 rfl (by omega) (by omega) rfl (fun h3 fh3 => ?_)
    have gh3 : my_fr [(4, 0), (4, 1), (4, 2), (4, 3), (4, 4), (4, 5), (4, 6), (4, 7), (4, 8), (4, 9), (5, 2), (5, 4), (5, 5), (5, 6), (5, 7), (5, 8), (5, 9), (22, -1), (32, -1), (33, -1), (34, -1), (35, -1), (36, -1), (37, -1), (38, -1), (39, -1)] h h3 := my_fr.up my_fr.rf is_82 fh3 rfl
    have Ln_h3 : Ln h3 := Ln_ag (my_ag.up fh3 is_82 rfl) n_Ln
    have Lo_h3 : Lo h h3 := Lo_ag (my_ag.up fh3 is_82 rfl) n_Ln (Lo_rf)
    refine w_iconst gz_34_26 (by decide) ?_
    exact w_iret gz_34_27 gm_34 (k0 h3 (gh3) (by first | assumption | exact Lo_h3 | exact Or.inl (by omega) | exact Or.inr un | omega) (by first | assumption | exact Lo_h3 | exact Or.inl (by omega) | exact Or.inr un | omega) (by first | assumption | exact Lo_h3 | exact Or.inl (by omega) | exact Or.inr un | omega) Ln_h3)
  ·
    refine w_iload_n gz_34_4 rfl ?_
    refine w_bipush gz_34_5 (by decide) ?_
    refine w_icge (t := 18) gz_34_7 rfl (fun u4 => ?_) (fun u4 => ?_)
    ·
      refine w_aload_n gz_34_18 rfl ?_
      refine w_getX (v := 82) gz_34_19 is_0 rd_9 rfl (by decide) rfl ?_
      refine w_iconst gz_34_22 (by decide) ?_
      refine v_putI (j := 4) gz_34_23 rfl is_82 rd_5 rfl (by omega) (by omega) rfl (fun h6 fh6 => ?_)
      have gh6 : my_fr [(4, 0), (4, 1), (4, 2), (4, 3), (4, 4), (4, 5), (4, 6), (4, 7), (4, 8), (4, 9), (5, 2), (5, 4), (5, 5), (5, 6), (5, 7), (5, 8), (5, 9), (22, -1), (32, -1), (33, -1), (34, -1), (35, -1), (36, -1), (37, -1), (38, -1), (39, -1)] h h6 := my_fr.up my_fr.rf is_82 fh6 rfl
      have Ln_h6 : Ln h6 := Ln_ag (my_ag.up fh6 is_82 rfl) n_Ln
      have Lo_h6 : Lo h h6 := Lo_ag (my_ag.up fh6 is_82 rfl) n_Ln (Lo_rf)
      refine w_iconst gz_34_26 (by decide) ?_
      exact w_iret gz_34_27 gm_34 (k0 h6 (gh6) (by first | assumption | exact Lo_h6 | exact Or.inl (by omega) | exact Or.inr un | omega) (by first | assumption | exact Lo_h6 | exact Or.inl (by omega) | exact Or.inr un | omega) (by first | assumption | exact Lo_h6 | exact Or.inl (by omega) | exact Or.inr un | omega) Ln_h6)
    ·
      refine w_aload_n gz_34_10 rfl ?_
      refine w_iload_n gz_34_11 rfl ?_
      refine w_inv (k := 1) (as := [(0, x1)]) (r := []) (x := 0) (ls0 := [(2, 0), (0, x1), (9, 0)]) gz_34_12 gm_35 rfl is_0 rd_9 rfl rfl rfl rfl rfl (c_ThroughWindow_isUnderAnother9 (d := (d + 8)) (x1 := x1) (by omega) (by omega) (fun xp7 => ?_) (fun xp8 => ?_))
      ·
        show wp l rho (d + 9) 34 15 [(2, 0), (0, x1)] [(0, 0)] h Q
        have nu := xp7
        have Un_ht9 : Un h x1 := xp7
        refine w_ifeq (t := 28) gz_34_15 rfl (fun u10 => ?_) (fun u10 => by exfalso; omega)
        refine w_aload_n gz_34_28 rfl ?_
        refine w_getX (v := 82) gz_34_29 is_0 rd_9 rfl (by decide) rfl ?_
        refine w_iload_n gz_34_32 rfl ?_
        refine w_inv (k := 1) (as := [(0, x1)]) (r := []) (x := 82) (ls0 := [(2, 82), (0, x1), (9, 0)]) gz_34_33 gm_36 rfl is_82 rd_5 rfl rfl rfl rfl rfl (c_Reader_read9 (d := d) (x1 := x1) (wv := x1) (by omega) (by omega) (by first | assumption | omega) (by first | assumption | omega) n_Ln Un_ht9 (by first | assumption | exact no_such_saying | exact Fp_told (by omega) (by omega) | omega | (subst_vars; omega) | omega) (fun h12 v13 frh12 w14 w15 w16 w17 w18 xp19 xp20 Ln_h12t21 => ?_) (fun h22 frh22 w23 w24 xp25 Ln_h22t26 => ?_))
        ·
          have gh12 : my_fr [(4, 0), (4, 1), (4, 2), (4, 3), (4, 4), (4, 5), (4, 6), (4, 7), (4, 8), (4, 9), (5, 2), (5, 4), (5, 5), (5, 6), (5, 7), (5, 8), (5, 9), (22, -1), (32, -1), (33, -1), (34, -1), (35, -1), (36, -1), (37, -1), (38, -1), (39, -1)] h h12 := my_fr.tr my_fr.rf (frh12.mo rfl)
          show wp l rho (d + 9) 34 36 [(2, 0), (0, x1)] [(0, v13)] h12 Q
          exact w_iret gz_34_36 gm_34 (k2 h12 (v13) (gh12) (by omega) (by omega) (by omega) (by omega) (by first | assumption | exact no_such_saying | exact Or.inl (by omega) | exact Or.inr un | omega) (by first | assumption | exact no_such_saying | exact Or.inl (by omega) | exact Or.inr un | omega) (by first | assumption | exact no_such_saying | exact Or.inl (by omega) | exact Or.inr un | omega) (by first | assumption | exact no_such_saying | exact Or.inl (by omega) | exact Or.inr un | omega) Ln_h12t21)
        ·
          have gh22 : my_fr [(4, 0), (4, 1), (4, 2), (4, 3), (4, 4), (4, 5), (4, 6), (4, 7), (4, 8), (4, 9), (5, 2), (5, 4), (5, 5), (5, 6), (5, 7), (5, 8), (5, 9), (22, -1), (32, -1), (33, -1), (34, -1), (35, -1), (36, -1), (37, -1), (38, -1), (39, -1)] h h22 := my_fr.tr my_fr.rf (frh22.mo rfl)
          show wp l rho (d + 9) 34 36 [(2, 0), (0, x1)] [(0, 0)] h22 Q
          exact w_iret gz_34_36 gm_34 (k1 h22 (gh22) (by omega) (by omega) (by first | assumption | exact no_such_saying | exact Or.inl (by omega) | exact Or.inr un | omega) (by first | assumption | exact no_such_saying | exact Or.inl (by omega) | exact Or.inr un | omega) (by first | assumption | exact no_such_saying | exact Or.inl (by omega) | exact Or.inr un | omega) Ln_h22t26)
      ·
        show wp l rho (d + 9) 34 15 [(2, 0), (0, x1)] [(0, 1)] h Q
        have un := xp8
        refine w_ifeq (t := 28) gz_34_15 rfl (fun u27 => by exfalso; omega) (fun u27 => ?_)
        refine w_aload_n gz_34_18 rfl ?_
        refine w_getX (v := 82) gz_34_19 is_0 rd_9 rfl (by decide) rfl ?_
        refine w_iconst gz_34_22 (by decide) ?_
        refine v_putI (j := 4) gz_34_23 rfl is_82 rd_5 rfl (by omega) (by omega) rfl (fun h29 fh29 => ?_)
        have gh29 : my_fr [(4, 0), (4, 1), (4, 2), (4, 3), (4, 4), (4, 5), (4, 6), (4, 7), (4, 8), (4, 9), (5, 2), (5, 4), (5, 5), (5, 6), (5, 7), (5, 8), (5, 9), (22, -1), (32, -1), (33, -1), (34, -1), (35, -1), (36, -1), (37, -1), (38, -1), (39, -1)] h h29 := my_fr.up my_fr.rf is_82 fh29 rfl
        have Ln_h29 : Ln h29 := Ln_ag (my_ag.up fh29 is_82 rfl) n_Ln
        have Lo_h29 : Lo h h29 := Lo_ag (my_ag.up fh29 is_82 rfl) n_Ln (Lo_rf)
        refine w_iconst gz_34_26 (by decide) ?_
        exact w_iret gz_34_27 gm_34 (k0 h29 (gh29) (by first | assumption | exact Lo_h29 | exact Or.inl (by omega) | exact Or.inr un | omega) (by first | assumption | exact Lo_h29 | exact Or.inl (by omega) | exact Or.inr un | omega) (by first | assumption | exact Lo_h29 | exact Or.inl (by omega) | exact Or.inr un | omega) Ln_h29)
end MYNReader_read9
