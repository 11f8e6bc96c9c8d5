/-! contracts, printed by wip/gen/gy.py -/
section MYNModel_straight4
theorem c_Model_straight4 {l : Launch} {rho : Nat → Int32} {d : Nat} {h : my_H} {Q : my_H → my_V → Prop} {x1 x2 x3 x4 x5 : Int} (a1 : 0 ≤ x1) (b1 : x1 ≤ 5) (a2 : 0 ≤ x2) (b2 : x2 ≤ 2) (n_Mw : Mw h) (n_Rws : Rws h) (n_Fp : Fp h x1) (e0 : x2 = 0 → 0 ≤ x4 ∧ x4 < h 151 27 ∧ 0 ≤ x5 ∧ x5 ≤ 199) (e1 : x2 ≠ 2 → 0 ≤ x3 ∧ x3 < h 151 37) (fw : FwW h (h 151 27)) (hlm : LmW h) (k0 : ∀ (h' : my_H), my_fr [(10, 27), (10, 32), (10, 33), (61, -1), (62, -1), (73, -1), (74, -1), (75, -1), (76, -1), (77, -1), (78, -1), (79, -1), (94, -1)] h h' → Ot9 h h' → Rws h' → Q h' (0, 0)) (k1 : ∀ (h' : my_H), my_fr [(10, 27), (10, 32), (10, 33), (61, -1), (62, -1), (73, -1), (74, -1), (75, -1), (76, -1), (77, -1), (78, -1), (79, -1), (94, -1)] h h' → Ot9 h h' → Rws h' → Q h' (0, 1)) : wp l rho (d + 4) 225 0 [(2, 151), (0, x1), (0, x2), (0, x3), (0, x4), (0, x5), (9, 0), (9, 0)] [] h Q := by
  refine v_know (x := 151) (j := 27) (b := 27) rfl is_151 rd_10 rfl (fun k151_27 ek151_27 pk151_27 qk151_27 => ?_)
  refine v_know (x := 151) (j := 37) (b := 37) rfl is_151 rd_10 rfl (fun k151_37 ek151_37 pk151_37 qk151_37 => ?_)
  have t8 : h 164 x1 = 1 := n_Fp.1 (by omega)
  refine w_aload_n gz_225_0 rfl ?_
  refine w_iconst gz_225_1 (by decide) ?_
  refine w_iconst gz_225_2 (by decide) ?_
  refine w_inv (k := 1) (as := [(0, 5), (0, 0)]) (r := []) (x := 151) (ls0 := [(2, 151), (0, 0), (0, 5), (9, 0)]) gz_225_3 gm_152 rfl is_151 rd_10 rfl rfl rfl rfl rfl (c_Model_copies5 (d := (d + 3)) (x1 := 0) (x2 := 5) (by omega) (by omega) (by omega) (by omega) n_Rws (fun h1 frh1 xp2 xp3 Rws_h1t4 => ?_))
  have gh1 : my_fr [(10, 27), (10, 32), (10, 33), (61, -1), (62, -1), (73, -1), (74, -1), (75, -1), (76, -1), (77, -1), (78, -1), (79, -1), (94, -1)] h h1 := my_fr.tr my_fr.rf (frh1.mo rfl)
  have Mw_h1 : Mw h1 := Mw_ag (my_ag.fr frh1 rfl) n_Mw
  have Fp_h1 : Fp h1 x1 := Fp_ag (my_ag.fr frh1 rfl) n_Fp
  show wp l rho (d + 4) 225 6 [(2, 151), (0, x1), (0, x2), (0, x3), (0, x4), (0, x5), (9, 0), (9, 0)] [] h1 Q
  have o3 : Ot9 h h1 := Ot9_Cp xp2 xp3 (Or.inl rfl)
  refine w_iload_n gz_225_6 rfl ?_
  refine w_ifne (t := 82) gz_225_7 rfl (fun u5 => ?_) (fun u5 => ?_)
  ·
    refine w_iload_n gz_225_82 rfl ?_
    refine w_iconst gz_225_83 (by decide) ?_
    refine w_icne (t := 134) gz_225_84 rfl (fun u6 => ?_) (fun u6 => ?_)
    ·
      refine w_aload_n gz_225_134 rfl ?_
      refine w_iconst gz_225_135 (by decide) ?_
      refine w_iload_n gz_225_136 rfl ?_
      have ag137 : my_ag LmF h h1 := (my_ag.fr (F := LmF) gh1 rfl)
      have bb137 : 0 ≤ mBs h1 x1 ∧ mBs h1 x1 ≤ 2 := by
        rw [((Lm_e ag137).1 x1).2.1]
        have q := hlm x1 (by omega) (by omega) t8
        exact ⟨q.2.1, q.2.2.1⟩
      refine w_inv (k := 0) (as := [(0, x1), (0, 5)]) (r := []) (x := 151) (ls0 := [(2, 151), (0, 5), (0, x1)]) gz_225_137 gm_216 rfl is_151 rd_10 rfl rfl rfl rfl rfl (c_Model_comes6 (d := d) (x1 := 5) (x2 := x1) (by omega) (by omega) (by omega) (by omega) Mw_h1 Rws_h1t4 (by first | assumption | exact Fp_h1 | exact Fp_told (by omega) (by omega) | omega | (subst_vars; omega) | omega) (LmW_ag (my_ag.fr (F := LmF) gh1 rfl) hlm) (fun h7 frh7 xp8 xp9 Rws_h7t10 => ?_) (fun h11 frh11 xp12 xp13 xp14 xp15 Rws_h11t16 => ?_))
      ·
        have gh7 : my_fr [(10, 27), (10, 32), (10, 33), (61, -1), (62, -1), (73, -1), (74, -1), (75, -1), (76, -1), (77, -1), (78, -1), (79, -1), (94, -1)] h h7 := my_fr.tr gh1 (frh7.mo rfl)
        have Mw_h7 : Mw h7 := Mw_ag (my_ag.fr frh7 rfl) Mw_h1
        have Fp_h7 : Fp h7 x1 := Fp_ag (my_ag.fr frh7 rfl) Fp_h1
        show wp l rho (d + 4) 225 140 [(2, 151), (0, x1), (0, x2), (0, x3), (0, x4), (0, x5), (9, 0), (9, 0)] [(0, 0)] h7 Q
        have o137 := o3.tr (Ot9_e xp9.1 xp9.2)
        have r162 : ∀ j : Int, h7 162 j = h7 162 j := fun j => rfl
        have r163 : ∀ j : Int, h7 163 j = h7 163 j := fun j => rfl
        exact w_bret gz_225_140 gm_225 (by omega) (by omega) (k0 h7 (gh7) (by first | exact o130 | exact o78 | exact o137 | exact o3 | exact o3.tr (Ot9_e r162 r163) | assumption | omega) Rws_h7t10)
      ·
        have gh11 : my_fr [(10, 27), (10, 32), (10, 33), (61, -1), (62, -1), (73, -1), (74, -1), (75, -1), (76, -1), (77, -1), (78, -1), (79, -1), (94, -1)] h h11 := my_fr.tr gh1 (frh11.mo rfl)
        have Mw_h11 : Mw h11 := Mw_ag (my_ag.fr frh11 rfl) Mw_h1
        have Fp_h11 : Fp h11 x1 := Fp_ag (my_ag.fr frh11 rfl) Fp_h1
        show wp l rho (d + 4) 225 140 [(2, 151), (0, x1), (0, x2), (0, x3), (0, x4), (0, x5), (9, 0), (9, 0)] [(0, 1)] h11 Q
        have o137 := o3.tr (Ot9_Ly xp13 (by have q := xp14; have r := bb137; omega) (by have q := xp14; have r := bb137; omega))
        have r162 : ∀ j : Int, h11 162 j = h11 162 j := fun j => rfl
        have r163 : ∀ j : Int, h11 163 j = h11 163 j := fun j => rfl
        exact w_bret gz_225_140 gm_225 (by omega) (by omega) (k1 h11 (gh11) (by first | exact o130 | exact o78 | exact o137 | exact o3 | exact o3.tr (Ot9_e r162 r163) | assumption | omega) Rws_h11t16)
    ·
      refine w_aload_n gz_225_87 rfl ?_
      refine w_getX (v := 181) gz_225_88 is_151 rd_10 rfl (by decide) rfl ?_
      refine w_iload_n gz_225_91 rfl ?_
      have hi18 : 0 ≤ x3 := by omega
      have hi19 : x3 ≤ 9 := by omega
      refine w_iald gz_225_92 is_181 rd_80 (by omega) (by omega) (fun v20 ev20 pv20 qv20 => ?_)
      refine w_istore (ls' := [(2, 151), (0, x1), (0, x2), (0, x3), (0, x4), (0, x5), (0, v20), (9, 0)]) gz_225_93 gm_225 rfl rfl rfl ?_
      refine w_aload_n gz_225_95 rfl ?_
      refine w_iload_n gz_225_96 rfl ?_
      refine w_inv (k := 3) (as := [(0, x1)]) (r := []) (x := 151) (ls0 := [(2, 151), (0, x1), (9, 0), (9, 0), (9, 0)]) gz_225_97 gm_226 rfl is_151 rd_10 rfl rfl rfl rfl rfl (c_Model_hasSum (d := (d + 2)) (x1 := x1) (by omega) (by omega) Mw_h1 (by first | assumption | exact Fp_h1 | exact Fp_told (by omega) (by omega) | omega | (subst_vars; omega) | omega) (fun h21 v22 frh21 w23 w24 => ?_))
      have gh21 : my_fr [(10, 27), (10, 32), (10, 33), (61, -1), (62, -1), (73, -1), (74, -1), (75, -1), (76, -1), (77, -1), (78, -1), (79, -1), (94, -1)] h h21 := my_fr.tr gh1 (frh21.mo rfl)
      have Mw_h21 : Mw h21 := Mw_ag (my_ag.fr frh21 rfl) Mw_h1
      have Fp_h21 : Fp h21 x1 := Fp_ag (my_ag.fr frh21 rfl) Fp_h1
      have Rws_h21 : Rws h21 := Rws_ag (my_ag.fr frh21 rfl) Rws_h1t4
      show wp l rho (d + 4) 225 100 [(2, 151), (0, x1), (0, x2), (0, x3), (0, x4), (0, x5), (0, v20), (9, 0)] [(0, v22)] h21 Q
      refine w_ifne (t := 107) gz_225_100 rfl (fun u25 => ?_) (fun u25 => ?_)
      ·
        refine w_iconst gz_225_107 (by decide) ?_
        refine w_istore (ls' := [(2, 151), (0, x1), (0, x2), (0, x3), (0, x4), (0, x5), (0, v20), (0, 0)]) gz_225_108 gm_225 rfl rfl rfl ?_
        refine w_iload gz_225_110 rfl ?_
        refine w_ifeq (t := 131) gz_225_112 rfl (fun u26 => ?_) (fun u26 => by exfalso; omega)
        refine w_iload gz_225_131 rfl ?_
        have r162 : ∀ j : Int, h21 162 j = h1 162 j := fun j => ((my_fr.at frh21 is_162 rfl).trans (rfl : h1 162 j = h1 162 j))
        have r163 : ∀ j : Int, h21 163 j = h1 163 j := fun j => ((my_fr.at frh21 is_163 rfl).trans (rfl : h1 163 j = h1 163 j))
        exact w_bret gz_225_133 gm_225 (by omega) (by omega) (k0 h21 (gh21) (by first | exact o130 | exact o78 | exact o137 | exact o3 | exact o3.tr (Ot9_e r162 r163) | assumption | omega) Rws_h21)
      ·
        refine w_iconst gz_225_103 (by decide) ?_
        refine w_goto (t := 108) gz_225_104 rfl ?_
        refine w_istore (ls' := [(2, 151), (0, x1), (0, x2), (0, x3), (0, x4), (0, x5), (0, v20), (0, 1)]) gz_225_108 gm_225 rfl rfl rfl ?_
        refine w_iload gz_225_110 rfl ?_
        refine w_ifeq (t := 131) gz_225_112 rfl (fun u27 => by exfalso; omega) (fun u27 => ?_)
        refine w_aload_n gz_225_115 rfl ?_
        refine w_getX (v := 162) gz_225_116 is_151 rd_10 rfl (by decide) rfl ?_
        refine w_iconst gz_225_119 (by decide) ?_
        refine w_aload_n gz_225_120 rfl ?_
        refine v_getI (j := 33) gz_225_121 rfl is_151 rd_10 rfl (fun v29 ev29 pv29 qv29 => ?_)
        refine w_iload gz_225_124 rfl ?_
        refine w_inS (k := 0) (as := [(0, v20), (0, v29), (0, 5)]) (r := [(2, 162)]) (ls0 := [(0, 5), (0, v29), (0, v20)]) gz_225_126 gm_150 rfl rfl rfl rfl rfl rfl ?_
        refine w_bipush gz_150_0 (by decide) ?_
        refine w_iload_n gz_150_2 rfl ?_
        refine w_imul gz_150_3 ⟨by omega, by omega⟩ ?_
        refine w_bipush gz_150_4 (by decide) ?_
        refine w_iload_n gz_150_6 rfl ?_
        refine w_imul gz_150_7 ⟨by omega, by omega⟩ ?_
        refine w_iadd gz_150_8 ⟨by omega, by omega⟩ ?_
        refine w_iload_n gz_150_9 rfl ?_
        refine w_iadd gz_150_10 ⟨by omega, by omega⟩ ?_
        refine w_iret gz_150_11 gm_150 ?_
        show wp l rho (d + 4) 225 129 [(2, 151), (0, x1), (0, x2), (0, x3), (0, x4), (0, x5), (0, v20), (0, 1)] [(0, (((60 * 5) + (20 * v29)) + v20)), (2, 162)] h21 Q
        refine w_iconst gz_225_129 (by decide) ?_
        refine v_knowA (x := 162) is_162 rd_61 (fun kT2 => ?_)
        have q2 := (kT2 (((60 * 5) + (20 * v29)) + v20) (by omega) (by omega)).1
        have s162 : ∀ j : Int, h21 162 j = h1 162 j := fun j => ((my_fr.at frh21 is_162 rfl).trans (rfl : h1 162 j = h1 162 j))
        have s163 : ∀ j : Int, h21 163 j = h1 163 j := fun j => ((my_fr.at frh21 is_163 rfl).trans (rfl : h1 163 j = h1 163 j))
        have hi30 : 0 ≤ (((60 * 5) + (20 * v29)) + v20) := by omega
        have hi31 : (((60 * 5) + (20 * v29)) + v20) ≤ 959 := by omega
        refine w_bast gz_225_130 is_162 rd_61 (by omega) (by omega) (by omega) (by omega) (fun h32 fh32 => ?_)
        have gh32 : my_fr [(10, 27), (10, 32), (10, 33), (61, -1), (62, -1), (73, -1), (74, -1), (75, -1), (76, -1), (77, -1), (78, -1), (79, -1), (94, -1)] h h32 := my_fr.up gh21 is_162 fh32 rfl
        have Mw_h32 : Mw h32 := Mw_ag (my_ag.up fh32 is_162 rfl) Mw_h21
        have Fp_h32 : Fp h32 x1 := Fp_ag (my_ag.up fh32 is_162 rfl) Fp_h21
        have Rws_h32t33 : Rws h32 := Rws_off fh32 (by omega) Rws_h21
        have o130 : Ot9 h h32 := (o3.tr (Ot9_e s162 s163)).tr (Ot9_u2 fh32 (by omega) (by omega))
        refine w_iload gz_225_131 rfl ?_
        have r162 : ∀ j : Int, h32 162 j = h32 162 j := fun j => rfl
        have r163 : ∀ j : Int, h32 163 j = h1 163 j := fun j => ((my_up_role fh32 is_163 is_162 rfl).trans ((my_fr.at frh21 is_163 rfl).trans (rfl : h1 163 j = h1 163 j)))
        exact w_bret gz_225_133 gm_225 (by omega) (by omega) (k1 h32 (gh32) (by first | exact o130 | exact o78 | exact o137 | exact o3 | exact o3.tr (Ot9_e r162 r163) | assumption | omega) Rws_h32t33)
  ·
    refine w_aload_n gz_225_10 rfl ?_
    refine w_getX (v := 175) gz_225_11 is_151 rd_10 rfl (by decide) rfl ?_
    refine w_iload gz_225_14 rfl ?_
    have hi35 : 0 ≤ x4 := by omega
    have hi36 : x4 ≤ 7 := by omega
    refine w_iald gz_225_16 is_175 rd_74 (by omega) (by omega) (fun v37 ev37 pv37 qv37 => ?_)
    refine w_ifle (t := 31) gz_225_17 rfl (fun u38 => ?_) (fun u38 => ?_)
    ·
      refine w_iconst gz_225_31 (by decide) ?_
      refine w_istore (ls' := [(2, 151), (0, x1), (0, x2), (0, x3), (0, x4), (0, x5), (0, 0), (9, 0)]) gz_225_32 gm_225 rfl rfl rfl ?_
      refine w_iload gz_225_34 rfl ?_
      refine w_ifeq (t := 79) gz_225_36 rfl (fun u39 => ?_) (fun u39 => by exfalso; omega)
      refine w_iload gz_225_79 rfl ?_
      have r162 : ∀ j : Int, h1 162 j = h1 162 j := fun j => rfl
      have r163 : ∀ j : Int, h1 163 j = h1 163 j := fun j => rfl
      exact w_bret gz_225_81 gm_225 (by omega) (by omega) (k0 h1 (gh1) (by first | exact o130 | exact o78 | exact o137 | exact o3 | exact o3.tr (Ot9_e r162 r163) | assumption | omega) Rws_h1t4)
    ·
      refine w_iload gz_225_20 rfl ?_
      refine w_bipush gz_225_22 (by decide) ?_
      refine w_icge (t := 31) gz_225_24 rfl (fun u40 => ?_) (fun u40 => ?_)
      ·
        refine w_iconst gz_225_31 (by decide) ?_
        refine w_istore (ls' := [(2, 151), (0, x1), (0, x2), (0, x3), (0, x4), (0, x5), (0, 0), (9, 0)]) gz_225_32 gm_225 rfl rfl rfl ?_
        refine w_iload gz_225_34 rfl ?_
        refine w_ifeq (t := 79) gz_225_36 rfl (fun u41 => ?_) (fun u41 => by exfalso; omega)
        refine w_iload gz_225_79 rfl ?_
        have r162 : ∀ j : Int, h1 162 j = h1 162 j := fun j => rfl
        have r163 : ∀ j : Int, h1 163 j = h1 163 j := fun j => rfl
        exact w_bret gz_225_81 gm_225 (by omega) (by omega) (k0 h1 (gh1) (by first | exact o130 | exact o78 | exact o137 | exact o3 | exact o3.tr (Ot9_e r162 r163) | assumption | omega) Rws_h1t4)
      ·
        refine w_iconst gz_225_27 (by decide) ?_
        refine w_goto (t := 32) gz_225_28 rfl ?_
        refine w_istore (ls' := [(2, 151), (0, x1), (0, x2), (0, x3), (0, x4), (0, x5), (0, 1), (9, 0)]) gz_225_32 gm_225 rfl rfl rfl ?_
        refine w_iload gz_225_34 rfl ?_
        refine w_ifeq (t := 79) gz_225_36 rfl (fun u42 => by exfalso; omega) (fun u42 => ?_)
        have e174 : ∀ j : Int, h1 174 j = h 174 j := fun j => ((my_fr.at frh1 is_174 rfl).trans (rfl : h 174 j = h 174 j))
        have e175 : ∀ j : Int, h1 175 j = h 175 j := fun j => ((my_fr.at frh1 is_175 rfl).trans (rfl : h 175 j = h 175 j))
        have fz := fw x4 (by omega) (by omega)
        have z4 := e174 x4
        have z5 := e175 x4
        refine w_aload_n gz_225_39 rfl ?_
        refine w_getX (v := 163) gz_225_40 is_151 rd_10 rfl (by decide) rfl ?_
        refine w_iconst gz_225_43 (by decide) ?_
        refine w_iconst gz_225_44 (by decide) ?_
        refine w_aload_n gz_225_45 rfl ?_
        refine w_getX (v := 174) gz_225_46 is_151 rd_10 rfl (by decide) rfl ?_
        refine w_iload gz_225_49 rfl ?_
        have hi45 : 0 ≤ x4 := by omega
        have hi46 : x4 ≤ 7 := by omega
        refine w_iald gz_225_51 is_174 rd_73 (by omega) (by omega) (fun v47 ev47 pv47 qv47 => ?_)
        refine w_aload_n gz_225_52 rfl ?_
        refine w_getX (v := 183) gz_225_53 is_151 rd_10 rfl (by decide) rfl ?_
        refine w_bipush gz_225_56 (by decide) ?_
        refine w_iload_n gz_225_58 rfl ?_
        have hi49 : 0 ≤ x3 := by omega
        have hi50 : x3 ≤ 9 := by omega
        refine w_imul gz_225_59 ⟨by omega, by omega⟩ ?_
        refine w_iload gz_225_60 rfl ?_
        have hi51 : 0 ≤ x4 := by omega
        have hi52 : x4 ≤ 7 := by omega
        refine w_iadd gz_225_62 ⟨by omega, by omega⟩ ?_
        have hi53 : 0 ≤ ((8 * x3) + x4) := by omega
        have hi54 : ((8 * x3) + x4) ≤ 79 := by omega
        refine w_iald gz_225_63 is_183 rd_82 (by omega) (by omega) (fun v55 ev55 pv55 qv55 => ?_)
        refine w_inS (k := 0) (as := [(0, v55), (0, v47), (0, 5)]) (r := [(0, 4), (2, 163)]) (ls0 := [(0, 5), (0, v47), (0, v55)]) gz_225_64 gm_150 rfl rfl rfl rfl rfl rfl ?_
        refine w_bipush gz_150_0 (by decide) ?_
        refine w_iload_n gz_150_2 rfl ?_
        refine w_imul gz_150_3 ⟨by omega, by omega⟩ ?_
        refine w_bipush gz_150_4 (by decide) ?_
        refine w_iload_n gz_150_6 rfl ?_
        refine w_imul gz_150_7 ⟨by omega, by omega⟩ ?_
        refine w_iadd gz_150_8 ⟨by omega, by omega⟩ ?_
        refine w_iload_n gz_150_9 rfl ?_
        refine w_iadd gz_150_10 ⟨by omega, by omega⟩ ?_
        refine w_iret gz_150_11 gm_150 ?_
        show wp l rho (d + 4) 225 67 [(2, 151), (0, x1), (0, x2), (0, x3), (0, x4), (0, x5), (0, 1), (9, 0)] [(0, (((60 * 5) + (20 * v47)) + v55)), (0, 4), (2, 163)] h1 Q
        refine w_imul gz_225_67 ⟨by omega, by omega⟩ ?_
        refine w_aload_n gz_225_68 rfl ?_
        refine w_getX (v := 175) gz_225_69 is_151 rd_10 rfl (by decide) rfl ?_
        refine w_iload gz_225_72 rfl ?_
        have hi57 : 0 ≤ x4 := by omega
        have hi58 : x4 ≤ 7 := by omega
        refine w_iald gz_225_74 is_175 rd_74 (by omega) (by omega) (fun v59 ev59 pv59 qv59 => ?_)
        have zv59 := ev59.trans ev37.symm
        refine w_iadd gz_225_75 ⟨by omega, by omega⟩ ?_
        refine w_iload gz_225_76 rfl ?_
        have hi60 : 0 ≤ ((4 * (((60 * 5) + (20 * v47)) + v55)) + v59) := by omega
        have hi61 : ((4 * (((60 * 5) + (20 * v47)) + v55)) + v59) ≤ 3839 := by omega
        have hi62 : 0 ≤ x5 := by omega
        have hi63 : x5 ≤ 19 := by omega
        refine w_iast gz_225_78 is_163 rd_62 (by omega) (by omega) (by omega) (by omega) (fun h64 fh64 => ?_)
        have gh64 : my_fr [(10, 27), (10, 32), (10, 33), (61, -1), (62, -1), (73, -1), (74, -1), (75, -1), (76, -1), (77, -1), (78, -1), (79, -1), (94, -1)] h h64 := my_fr.up gh1 is_163 fh64 rfl
        have Mw_h64 : Mw h64 := Mw_ag (my_ag.up fh64 is_163 rfl) Mw_h1
        have Fp_h64 : Fp h64 x1 := Fp_ag (my_ag.up fh64 is_163 rfl) Fp_h1
        have Rws_h64 : Rws h64 := Rws_ag (my_ag.up fh64 is_163 rfl) Rws_h1t4
        have o78 : Ot9 h h64 := o3.tr (Ot9_u3 fh64 (by omega) (by omega))
        refine w_iload gz_225_79 rfl ?_
        have r162 : ∀ j : Int, h64 162 j = h1 162 j := fun j => ((my_up_role fh64 is_162 is_163 rfl).trans (rfl : h1 162 j = h1 162 j))
        have r163 : ∀ j : Int, h64 163 j = h64 163 j := fun j => rfl
        exact w_bret gz_225_81 gm_225 (by omega) (by omega) (k1 h64 (gh64) (by first | exact o130 | exact o78 | exact o137 | exact o3 | exact o3.tr (Ot9_e r162 r163) | assumption | omega) Rws_h64)
theorem c_Model_why4 {l : Launch} {rho : Nat → Int32} {d : Nat} {h : my_H} {Q : my_H → my_V → Prop} {x1 x2 x3 x4 x5 : Int} (n_Mw : Mw h) (n_Mw3 : Mw3 h) (n_Rws : Rws h) (hlm : LmW h) (k0 : ∀ (h' : my_H), my_fr [(10, 0), (10, 27), (10, 32), (10, 33), (10, 37), (10, 46), (61, -1), (62, -1), (73, -1), (74, -1), (75, -1), (76, -1), (77, -1), (78, -1), (79, -1), (80, -1), (81, -1), (82, -1), (83, -1), (84, -1), (85, -1), (86, -1), (88, -1), (94, -1)] h h' → h' 151 0 = 0 → Ot9 h h' → Rws h' → Q h' (0, (-1))) (k1 : ∀ (h' : my_H), my_fr [(10, 0), (10, 27), (10, 32), (10, 33), (10, 37), (10, 46), (61, -1), (62, -1), (73, -1), (74, -1), (75, -1), (76, -1), (77, -1), (78, -1), (79, -1), (80, -1), (81, -1), (82, -1), (83, -1), (84, -1), (85, -1), (86, -1), (88, -1), (94, -1)] h h' → 0 ≤ x1 → x1 ≤ 5 → 0 ≤ x2 → x2 ≤ 2 → h' 151 0 = 0 → Ot9 h h' → Rws h' → Q h' (0, 0)) (k2 : ∀ (h' : my_H), my_fr [(10, 0), (10, 27), (10, 32), (10, 33), (10, 37), (10, 46), (61, -1), (62, -1), (73, -1), (74, -1), (75, -1), (76, -1), (77, -1), (78, -1), (79, -1), (80, -1), (81, -1), (82, -1), (83, -1), (84, -1), (85, -1), (86, -1), (88, -1), (94, -1)] h h' → 0 ≤ x1 → x1 ≤ 5 → 0 ≤ x2 → x2 ≤ 2 → h' 151 0 = 0 → Ot9 h h' → Rws h' → Q h' (0, 1)) (k3 : ∀ (h' : my_H) (y : Int), my_fr [(10, 0), (10, 27), (10, 32), (10, 33), (10, 37), (10, 46), (61, -1), (62, -1), (73, -1), (74, -1), (75, -1), (76, -1), (77, -1), (78, -1), (79, -1), (80, -1), (81, -1), (82, -1), (83, -1), (84, -1), (85, -1), (86, -1), (88, -1), (94, -1)] h h' → 2 ≤ y → y ≤ 5 → 0 ≤ x1 → x1 ≤ 5 → 0 ≤ x2 → x2 ≤ 2 → h' 151 0 = 0 → Ot9 h h' → Rws h' → Q h' (0, y)) : wp l rho (d + 5) 228 0 [(2, 151), (0, x1), (0, x2), (0, x3), (0, x4), (0, x5), (9, 0)] [] h Q := by
  refine w_aload_n gz_228_0 rfl ?_
  refine w_iconst gz_228_1 (by decide) ?_
  refine v_putI (j := 0) gz_228_2 rfl is_151 rd_10 rfl (by omega) (by omega) rfl (fun h1 fh1 => ?_)
  have gh1 : my_fr [(10, 0), (10, 27), (10, 32), (10, 33), (10, 37), (10, 46), (61, -1), (62, -1), (73, -1), (74, -1), (75, -1), (76, -1), (77, -1), (78, -1), (79, -1), (80, -1), (81, -1), (82, -1), (83, -1), (84, -1), (85, -1), (86, -1), (88, -1), (94, -1)] h h1 := my_fr.up my_fr.rf is_151 fh1 rfl
  have Mw_h1 : Mw h1 := Mw_ag (my_ag.up fh1 is_151 rfl) n_Mw
  have Mw3_h1 : Mw3 h1 := Mw3_ag (my_ag.up fh1 is_151 rfl) n_Mw3
  have Rws_h1 : Rws h1 := Rws_ag (my_ag.up fh1 is_151 rfl) n_Rws
  refine w_aload_n gz_228_5 rfl ?_
  refine w_iconst gz_228_6 (by decide) ?_
  refine w_iload_n gz_228_7 rfl ?_
  refine w_iload_n gz_228_8 rfl ?_
  refine w_iload_n gz_228_9 rfl ?_
  refine w_iload gz_228_10 rfl ?_
  refine w_iload gz_228_12 rfl ?_
  refine w_inv (k := 1) (as := [(0, x5), (0, x4), (0, x3), (0, x2), (0, x1), (0, 0)]) (r := []) (x := 151) (ls0 := [(2, 151), (0, 0), (0, x1), (0, x2), (0, x3), (0, x4), (0, x5), (9, 0)]) gz_228_14 gm_208 rfl is_151 rd_10 rfl rfl rfl rfl rfl (c_Model_isEdit5 (d := d) (x1 := 0) (x2 := x1) (x3 := x2) (x4 := x3) (x5 := x4) (x6 := x5) (by omega) (by omega) Mw_h1 Mw3_h1 Rws_h1 (fun h2 frh2 xp3 => ?_) (fun h4 frh4 w5 w6 w7 w8 xp9 xp10 xp11 xp12 xp13 xp14 xp15 xp16 xp17 xp18 xp19 xp20 => ?_))
  ·
    have gh2 : my_fr [(10, 0), (10, 27), (10, 32), (10, 33), (10, 37), (10, 46), (61, -1), (62, -1), (73, -1), (74, -1), (75, -1), (76, -1), (77, -1), (78, -1), (79, -1), (80, -1), (81, -1), (82, -1), (83, -1), (84, -1), (85, -1), (86, -1), (88, -1), (94, -1)] h h2 := my_fr.tr gh1 (frh2.mo rfl)
    have Mw_h2 : Mw h2 := Mw_ag (my_ag.fr frh2 rfl) Mw_h1
    have Mw3_h2 : Mw3 h2 := Mw3_ag (my_ag.fr frh2 rfl) Mw3_h1
    have Rws_h2 : Rws h2 := Rws_ag (my_ag.fr frh2 rfl) Rws_h1
    show wp l rho (d + 5) 228 17 [(2, 151), (0, x1), (0, x2), (0, x3), (0, x4), (0, x5), (9, 0)] [(0, 0)] h2 Q
    refine w_ifne (t := 22) gz_228_17 rfl (fun u21 => by exfalso; omega) (fun u21 => ?_)
    refine w_iconst gz_228_20 (by decide) ?_
    have r162 : ∀ j : Int, h2 162 j = h 162 j := fun j => ((my_fr.at frh2 is_162 rfl).trans ((my_up_role fh1 is_162 is_151 rfl).trans (rfl : h 162 j = h 162 j)))
    have r163 : ∀ j : Int, h2 163 j = h 163 j := fun j => ((my_fr.at frh2 is_163 rfl).trans ((my_up_role fh1 is_163 is_151 rfl).trans (rfl : h 163 j = h 163 j)))
    have c22 := ((my_fr.at frh2 is_151 rfl).trans (my_up_self fh1))
    exact w_iret gz_228_21 gm_228 (k0 h2 (gh2) (by omega) (by first | exact o40 | exact Ot9_e r162 r163 | exact o40.tr (Ot9_e r162 r163) | assumption | omega) Rws_h2)
  ·
    have gh4 : my_fr [(10, 0), (10, 27), (10, 32), (10, 33), (10, 37), (10, 46), (61, -1), (62, -1), (73, -1), (74, -1), (75, -1), (76, -1), (77, -1), (78, -1), (79, -1), (80, -1), (81, -1), (82, -1), (83, -1), (84, -1), (85, -1), (86, -1), (88, -1), (94, -1)] h h4 := my_fr.tr gh1 (frh4.mo rfl)
    have Mw_h4 : Mw h4 := Mw_ag (my_ag.fr frh4 rfl) Mw_h1
    have Mw3_h4 : Mw3 h4 := Mw3_ag (my_ag.fr frh4 rfl) Mw3_h1
    have Rws_h4 : Rws h4 := Rws_ag (my_ag.fr frh4 rfl) Rws_h1
    show wp l rho (d + 5) 228 17 [(2, 151), (0, x1), (0, x2), (0, x3), (0, x4), (0, x5), (9, 0)] [(0, 1)] h4 Q
    have Fp_h4t23 : Fp h4 x1 := xp11
    have e5 := xp14
    have e6 := xp15
    have e7 := xp16
    refine w_ifne (t := 22) gz_228_17 rfl (fun u24 => ?_) (fun u24 => by exfalso; omega)
    refine w_aload_n gz_228_22 rfl ?_
    refine w_iload_n gz_228_23 rfl ?_
    refine w_iload_n gz_228_24 rfl ?_
    refine w_iload gz_228_25 rfl ?_
    refine w_iload gz_228_27 rfl ?_
    refine w_inv (k := 2) (as := [(0, x5), (0, x4), (0, x3), (0, x2)]) (r := []) (x := 151) (ls0 := [(2, 151), (0, x2), (0, x3), (0, x4), (0, x5), (9, 0), (9, 0)]) gz_228_29 gm_210 rfl is_151 rd_10 rfl rfl rfl rfl rfl (c_Model_findWanted (d := (d + 3)) (x1 := x2) (x2 := x3) (x3 := x4) (x4 := x5) (by omega) (by omega) (by first | assumption | exact Fp_h4t23 | exact Fp_told (by omega) (by omega) | omega | (subst_vars; omega) | omega) (fun h25 frh25 => ?_))
    have gh25 : my_fr [(10, 0), (10, 27), (10, 32), (10, 33), (10, 37), (10, 46), (61, -1), (62, -1), (73, -1), (74, -1), (75, -1), (76, -1), (77, -1), (78, -1), (79, -1), (80, -1), (81, -1), (82, -1), (83, -1), (84, -1), (85, -1), (86, -1), (88, -1), (94, -1)] h h25 := my_fr.tr gh4 (frh25.mo rfl)
    have Mw_h25 : Mw h25 := Mw_ag (my_ag.fr frh25 rfl) Mw_h4
    have Mw3_h25 : Mw3 h25 := Mw3_ag (my_ag.fr frh25 rfl) Mw3_h4
    have Rws_h25 : Rws h25 := Rws_ag (my_ag.fr frh25 rfl) Rws_h4
    have Fp_h25 : Fp h25 x1 := Fp_ag (my_ag.fr frh25 rfl) Fp_h4t23
    show wp l rho (d + 5) 228 32 [(2, 151), (0, x1), (0, x2), (0, x3), (0, x4), (0, x5), (9, 0)] [] h25 Q
    refine w_aload_n gz_228_32 rfl ?_
    refine w_iload_n gz_228_33 rfl ?_
    refine w_iload_n gz_228_34 rfl ?_
    refine w_iload_n gz_228_35 rfl ?_
    refine w_iload gz_228_36 rfl ?_
    refine w_iload gz_228_38 rfl ?_
    have ce26 : h25 151 27 = h4 151 27 := ((my_fr.at frh25 is_151 rfl).trans (rfl : h4 151 27 = h4 151 27))
    have ce27 : h25 151 37 = h4 151 37 := ((my_fr.at frh25 is_151 rfl).trans (rfl : h4 151 37 = h4 151 37))
    have k174 : ∀ j : Int, h25 174 j = h4 174 j := fun j => ((my_fr.at frh25 is_174 rfl).trans (rfl : h4 174 j = h4 174 j))
    have k175 : ∀ j : Int, h25 175 j = h4 175 j := fun j => ((my_fr.at frh25 is_175 rfl).trans (rfl : h4 175 j = h4 175 j))
    have b162 : ∀ j : Int, h25 162 j = h 162 j := fun j => ((my_fr.at frh25 is_162 rfl).trans ((my_fr.at frh4 is_162 rfl).trans ((my_up_role fh1 is_162 is_151 rfl).trans (rfl : h 162 j = h 162 j))))
    have b163 : ∀ j : Int, h25 163 j = h 163 j := fun j => ((my_fr.at frh25 is_163 rfl).trans ((my_fr.at frh4 is_163 rfl).trans ((my_up_role fh1 is_163 is_151 rfl).trans (rfl : h 163 j = h 163 j))))
    refine w_inv (k := 2) (as := [(0, x5), (0, x4), (0, x3), (0, x2), (0, x1)]) (r := []) (x := 151) (ls0 := [(2, 151), (0, x1), (0, x2), (0, x3), (0, x4), (0, x5), (9, 0), (9, 0)]) gz_228_40 gm_225 rfl is_151 rd_10 rfl rfl rfl rfl rfl (c_Model_straight4 (d := d) (x1 := x1) (x2 := x2) (x3 := x3) (x4 := x4) (x5 := x5) (by omega) (by omega) (by omega) (by omega) Mw_h25 Rws_h25 Fp_h25 (by first | assumption | exact Fp_h25 | exact Fp_told (by omega) (by omega) | omega | (subst_vars; omega) | omega) (by first | assumption | exact Fp_h25 | exact Fp_told (by omega) (by omega) | omega | (subst_vars; omega) | omega) (FwW_w (FwW_eq k174 k175 e7) (by omega)) (LmW_ag (my_ag.fr (F := LmF) gh25 rfl) hlm) (fun h28 frh28 xp29 Rws_h28t30 => ?_) (fun h31 frh31 xp32 Rws_h31t33 => ?_))
    ·
      have gh28 : my_fr [(10, 0), (10, 27), (10, 32), (10, 33), (10, 37), (10, 46), (61, -1), (62, -1), (73, -1), (74, -1), (75, -1), (76, -1), (77, -1), (78, -1), (79, -1), (80, -1), (81, -1), (82, -1), (83, -1), (84, -1), (85, -1), (86, -1), (88, -1), (94, -1)] h h28 := my_fr.tr gh25 (frh28.mo rfl)
      have Mw_h28 : Mw h28 := Mw_ag (my_ag.fr frh28 rfl) Mw_h25
      have Mw3_h28 : Mw3 h28 := Mw3_ag (my_ag.fr frh28 rfl) Mw3_h25
      have Fp_h28 : Fp h28 x1 := Fp_ag (my_ag.fr frh28 rfl) Fp_h25
      show wp l rho (d + 5) 228 43 [(2, 151), (0, x1), (0, x2), (0, x3), (0, x4), (0, x5), (9, 0)] [(0, 0)] h28 Q
      have o40 : Ot9 h h28 := (Ot9_e b162 b163).tr xp29
      refine w_ifne (t := 48) gz_228_43 rfl (fun u34 => by exfalso; omega) (fun u34 => ?_)
      refine w_iconst gz_228_46 (by decide) ?_
      have r162 : ∀ j : Int, h28 162 j = h28 162 j := fun j => rfl
      have r163 : ∀ j : Int, h28 163 j = h28 163 j := fun j => rfl
      have c35 := ((my_fr.at frh28 is_151 rfl).trans ((my_fr.at frh25 is_151 rfl).trans ((my_fr.at frh4 is_151 rfl).trans (my_up_self fh1))))
      exact w_iret gz_228_47 gm_228 (k2 h28 (gh28) (by omega) (by omega) (by omega) (by omega) (by omega) (by first | exact o40 | exact Ot9_e r162 r163 | exact o40.tr (Ot9_e r162 r163) | assumption | omega) Rws_h28t30)
    ·
      have gh31 : my_fr [(10, 0), (10, 27), (10, 32), (10, 33), (10, 37), (10, 46), (61, -1), (62, -1), (73, -1), (74, -1), (75, -1), (76, -1), (77, -1), (78, -1), (79, -1), (80, -1), (81, -1), (82, -1), (83, -1), (84, -1), (85, -1), (86, -1), (88, -1), (94, -1)] h h31 := my_fr.tr gh25 (frh31.mo rfl)
      have Mw_h31 : Mw h31 := Mw_ag (my_ag.fr frh31 rfl) Mw_h25
      have Mw3_h31 : Mw3 h31 := Mw3_ag (my_ag.fr frh31 rfl) Mw3_h25
      have Fp_h31 : Fp h31 x1 := Fp_ag (my_ag.fr frh31 rfl) Fp_h25
      show wp l rho (d + 5) 228 43 [(2, 151), (0, x1), (0, x2), (0, x3), (0, x4), (0, x5), (9, 0)] [(0, 1)] h31 Q
      have o40 : Ot9 h h31 := (Ot9_e b162 b163).tr xp32
      refine w_ifne (t := 48) gz_228_43 rfl (fun u36 => ?_) (fun u36 => by exfalso; omega)
      refine w_aload_n gz_228_48 rfl ?_
      refine w_iconst gz_228_49 (by decide) ?_
      refine w_iload_n gz_228_50 rfl ?_
      refine w_inv (k := 3) (as := [(0, x1), (0, 5)]) (r := []) (x := 151) (ls0 := [(2, 151), (0, 5), (0, x1), (9, 0), (9, 0), (9, 0)]) gz_228_51 gm_213 rfl is_151 rd_10 rfl rfl rfl rfl rfl (c_Model_isWanted (d := d) (x1 := 5) (x2 := x1) (by omega) (by omega) (by omega) (by omega) Mw_h31 Mw3_h31 Rws_h31t33 Fp_h31 (fun h37 v38 frh37 w39 w40 => ?_))
      have gh37 : my_fr [(10, 0), (10, 27), (10, 32), (10, 33), (10, 37), (10, 46), (61, -1), (62, -1), (73, -1), (74, -1), (75, -1), (76, -1), (77, -1), (78, -1), (79, -1), (80, -1), (81, -1), (82, -1), (83, -1), (84, -1), (85, -1), (86, -1), (88, -1), (94, -1)] h h37 := my_fr.tr gh31 (frh37.mo rfl)
      have Mw_h37 : Mw h37 := Mw_ag (my_ag.fr frh37 rfl) Mw_h31
      have Mw3_h37 : Mw3 h37 := Mw3_ag (my_ag.fr frh37 rfl) Mw3_h31
      have Fp_h37 : Fp h37 x1 := Fp_ag (my_ag.fr frh37 rfl) Fp_h31
      have Rws_h37 : Rws h37 := Rws_ag (my_ag.fr frh37 rfl) Rws_h31t33
      show wp l rho (d + 5) 228 54 [(2, 151), (0, x1), (0, x2), (0, x3), (0, x4), (0, x5), (9, 0)] [(0, v38)] h37 Q
      refine w_istore (ls' := [(2, 151), (0, x1), (0, x2), (0, x3), (0, x4), (0, x5), (0, v38)]) gz_228_54 gm_228 rfl rfl rfl ?_
      refine w_aload_n gz_228_56 rfl ?_
      refine w_iconst gz_228_57 (by decide) ?_
      refine w_inv (k := 2) (as := [(0, 5)]) (r := []) (x := 151) (ls0 := [(2, 151), (0, 5), (9, 0), (9, 0)]) gz_228_58 gm_155 rfl is_151 rd_10 rfl rfl rfl rfl rfl (c_Model_isLawful5 (d := (d + 1)) (x1 := 5) (by omega) (by omega) (fun xp41 => ?_) (fun xp42 => ?_))
      ·
        show wp l rho (d + 5) 228 61 [(2, 151), (0, x1), (0, x2), (0, x3), (0, x4), (0, x5), (0, v38)] [(0, 0)] h37 Q
        refine w_ifeq (t := 68) gz_228_61 rfl (fun u43 => ?_) (fun u43 => by exfalso; omega)
        refine w_iconst gz_228_68 (by decide) ?_
        refine w_iload gz_228_69 rfl ?_
        refine w_ifeq (t := 78) gz_228_71 rfl (fun u44 => ?_) (fun u44 => ?_)
        ·
          refine w_aload_n gz_228_78 rfl ?_
          refine v_getI (j := 37) gz_228_79 rfl is_151 rd_10 rfl (fun v45 ev45 pv45 qv45 => ?_)
          refine w_aload_n gz_228_82 rfl ?_
          refine v_getI (j := 46) gz_228_83 rfl is_151 rd_10 rfl (fun v46 ev46 pv46 qv46 => ?_)
          refine w_iceq (t := 93) gz_228_86 rfl (fun u47 => ?_) (fun u47 => ?_)
          ·
            refine w_iconst gz_228_93 (by decide) ?_
            refine w_iadd gz_228_94 ⟨by omega, by omega⟩ ?_
            have r162 : ∀ j : Int, h37 162 j = h31 162 j := fun j => ((my_fr.at frh37 is_162 rfl).trans (rfl : h31 162 j = h31 162 j))
            have r163 : ∀ j : Int, h37 163 j = h31 163 j := fun j => ((my_fr.at frh37 is_163 rfl).trans (rfl : h31 163 j = h31 163 j))
            have c48 := ((my_fr.at frh37 is_151 rfl).trans ((my_fr.at frh31 is_151 rfl).trans ((my_fr.at frh25 is_151 rfl).trans ((my_fr.at frh4 is_151 rfl).trans (my_up_self fh1)))))
            exact w_iret gz_228_95 gm_228 (k3 h37 ((1 + 4)) (gh37) (by omega) (by omega) (by omega) (by omega) (by omega) (by omega) (by omega) (by first | exact o40 | exact Ot9_e r162 r163 | exact o40.tr (Ot9_e r162 r163) | assumption | omega) Rws_h37)
          ·
            refine w_iconst gz_228_89 (by decide) ?_
            refine w_goto (t := 94) gz_228_90 rfl ?_
            refine w_iadd gz_228_94 ⟨by omega, by omega⟩ ?_
            have r162 : ∀ j : Int, h37 162 j = h31 162 j := fun j => ((my_fr.at frh37 is_162 rfl).trans (rfl : h31 162 j = h31 162 j))
            have r163 : ∀ j : Int, h37 163 j = h31 163 j := fun j => ((my_fr.at frh37 is_163 rfl).trans (rfl : h31 163 j = h31 163 j))
            have c49 := ((my_fr.at frh37 is_151 rfl).trans ((my_fr.at frh31 is_151 rfl).trans ((my_fr.at frh25 is_151 rfl).trans ((my_fr.at frh4 is_151 rfl).trans (my_up_self fh1)))))
            exact w_iret gz_228_95 gm_228 (k3 h37 ((1 + 2)) (gh37) (by omega) (by omega) (by omega) (by omega) (by omega) (by omega) (by omega) (by first | exact o40 | exact Ot9_e r162 r163 | exact o40.tr (Ot9_e r162 r163) | assumption | omega) Rws_h37)
        ·
          refine w_iconst gz_228_74 (by decide) ?_
          refine w_goto (t := 94) gz_228_75 rfl ?_
          refine w_iadd gz_228_94 ⟨by omega, by omega⟩ ?_
          have r162 : ∀ j : Int, h37 162 j = h31 162 j := fun j => ((my_fr.at frh37 is_162 rfl).trans (rfl : h31 162 j = h31 162 j))
          have r163 : ∀ j : Int, h37 163 j = h31 163 j := fun j => ((my_fr.at frh37 is_163 rfl).trans (rfl : h31 163 j = h31 163 j))
          have c50 := ((my_fr.at frh37 is_151 rfl).trans ((my_fr.at frh31 is_151 rfl).trans ((my_fr.at frh25 is_151 rfl).trans ((my_fr.at frh4 is_151 rfl).trans (my_up_self fh1)))))
          rw [show ((1 + 0) : Int) = 1 from by omega]
          exact w_iret gz_228_95 gm_228 (k2 h37 (gh37) (by omega) (by omega) (by omega) (by omega) (by omega) (by first | exact o40 | exact Ot9_e r162 r163 | exact o40.tr (Ot9_e r162 r163) | assumption | omega) Rws_h37)
      ·
        show wp l rho (d + 5) 228 61 [(2, 151), (0, x1), (0, x2), (0, x3), (0, x4), (0, x5), (0, v38)] [(0, 1)] h37 Q
        refine w_ifeq (t := 68) gz_228_61 rfl (fun u51 => by exfalso; omega) (fun u51 => ?_)
        refine w_iconst gz_228_64 (by decide) ?_
        refine w_goto (t := 69) gz_228_65 rfl ?_
        refine w_iload gz_228_69 rfl ?_
        refine w_ifeq (t := 78) gz_228_71 rfl (fun u52 => ?_) (fun u52 => ?_)
        ·
          refine w_aload_n gz_228_78 rfl ?_
          refine v_getI (j := 37) gz_228_79 rfl is_151 rd_10 rfl (fun v53 ev53 pv53 qv53 => ?_)
          refine w_aload_n gz_228_82 rfl ?_
          refine v_getI (j := 46) gz_228_83 rfl is_151 rd_10 rfl (fun v54 ev54 pv54 qv54 => ?_)
          refine w_iceq (t := 93) gz_228_86 rfl (fun u55 => ?_) (fun u55 => ?_)
          ·
            refine w_iconst gz_228_93 (by decide) ?_
            refine w_iadd gz_228_94 ⟨by omega, by omega⟩ ?_
            have r162 : ∀ j : Int, h37 162 j = h31 162 j := fun j => ((my_fr.at frh37 is_162 rfl).trans (rfl : h31 162 j = h31 162 j))
            have r163 : ∀ j : Int, h37 163 j = h31 163 j := fun j => ((my_fr.at frh37 is_163 rfl).trans (rfl : h31 163 j = h31 163 j))
            have c56 := ((my_fr.at frh37 is_151 rfl).trans ((my_fr.at frh31 is_151 rfl).trans ((my_fr.at frh25 is_151 rfl).trans ((my_fr.at frh4 is_151 rfl).trans (my_up_self fh1)))))
            exact w_iret gz_228_95 gm_228 (k3 h37 ((0 + 4)) (gh37) (by omega) (by omega) (by omega) (by omega) (by omega) (by omega) (by omega) (by first | exact o40 | exact Ot9_e r162 r163 | exact o40.tr (Ot9_e r162 r163) | assumption | omega) Rws_h37)
          ·
            refine w_iconst gz_228_89 (by decide) ?_
            refine w_goto (t := 94) gz_228_90 rfl ?_
            refine w_iadd gz_228_94 ⟨by omega, by omega⟩ ?_
            have r162 : ∀ j : Int, h37 162 j = h31 162 j := fun j => ((my_fr.at frh37 is_162 rfl).trans (rfl : h31 162 j = h31 162 j))
            have r163 : ∀ j : Int, h37 163 j = h31 163 j := fun j => ((my_fr.at frh37 is_163 rfl).trans (rfl : h31 163 j = h31 163 j))
            have c57 := ((my_fr.at frh37 is_151 rfl).trans ((my_fr.at frh31 is_151 rfl).trans ((my_fr.at frh25 is_151 rfl).trans ((my_fr.at frh4 is_151 rfl).trans (my_up_self fh1)))))
            exact w_iret gz_228_95 gm_228 (k3 h37 ((0 + 2)) (gh37) (by omega) (by omega) (by omega) (by omega) (by omega) (by omega) (by omega) (by first | exact o40 | exact Ot9_e r162 r163 | exact o40.tr (Ot9_e r162 r163) | assumption | omega) Rws_h37)
        ·
          refine w_iconst gz_228_74 (by decide) ?_
          refine w_goto (t := 94) gz_228_75 rfl ?_
          refine w_iadd gz_228_94 ⟨by omega, by omega⟩ ?_
          have r162 : ∀ j : Int, h37 162 j = h31 162 j := fun j => ((my_fr.at frh37 is_162 rfl).trans (rfl : h31 162 j = h31 162 j))
          have r163 : ∀ j : Int, h37 163 j = h31 163 j := fun j => ((my_fr.at frh37 is_163 rfl).trans (rfl : h31 163 j = h31 163 j))
          have c58 := ((my_fr.at frh37 is_151 rfl).trans ((my_fr.at frh31 is_151 rfl).trans ((my_fr.at frh25 is_151 rfl).trans ((my_fr.at frh4 is_151 rfl).trans (my_up_self fh1)))))
          rw [show ((0 + 0) : Int) = 0 from by omega]
          exact w_iret gz_228_95 gm_228 (k1 h37 (gh37) (by omega) (by omega) (by omega) (by omega) (by omega) (by first | exact o40 | exact Ot9_e r162 r163 | exact o40.tr (Ot9_e r162 r163) | assumption | omega) Rws_h37)
end MYNModel_straight4
