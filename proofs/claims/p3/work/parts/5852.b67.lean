/-! contracts, printed by wip/gen/gy.py -/
section MYNModel_put5
theorem c_Model_put5 {l : Launch} {rho : Nat → Int32} {d : Nat} {h : my_H} {Q : my_H → my_V → Prop} {x1 x2 x3 x4 x5 : Int} (n_Mw : Mw h) (n_Mw3 : Mw3 h) (n_Rws : Rws h) (hlm : LmW h) (hwo : zqWo (zqMA h) (zqMS h 0)) (k0 : ∀ (h' : my_H), my_fr [(10, 0), (10, 27), (10, 32), (10, 33), (10, 37), (10, 46), (10, 48), (10, 55), (61, -1), (62, -1), (73, -1), (74, -1), (75, -1), (76, -1), (77, -1), (78, -1), (79, -1), (80, -1), (81, -1), (82, -1), (83, -1), (84, -1), (85, -1), (86, -1), (88, -1), (89, -1), (90, -1), (91, -1), (92, -1), (93, -1), (94, -1)] h h' → h' 151 0 = 0 → ((¬ mOk h (zqMS h 0) x1 x2 x3 x4 x5 ∨ (mOk h (zqMS h 0) x1 x2 x3 x4 x5 ∧ ∃ S : Int → Int, mPR h (zqMS h 0) x1 x2 x3 x4 x5 (-1) S))) → OtT h h' 5 5 5 → Rws h' → Q h' (0, (-1))) (k1 : ∀ (h' : my_H) (y : Int), my_fr [(10, 0), (10, 27), (10, 32), (10, 33), (10, 37), (10, 46), (10, 48), (10, 55), (61, -1), (62, -1), (73, -1), (74, -1), (75, -1), (76, -1), (77, -1), (78, -1), (79, -1), (80, -1), (81, -1), (82, -1), (83, -1), (84, -1), (85, -1), (86, -1), (88, -1), (89, -1), (90, -1), (91, -1), (92, -1), (93, -1), (94, -1)] h h' → 0 ≤ y → y ≤ 4 → 0 ≤ x1 → x1 ≤ 5 → 0 ≤ x2 → x2 ≤ 2 → h' 151 0 = 0 → h' 151 55 = 1 → mOk h (zqMS h 0) x1 x2 x3 x4 x5 ∧ mPR h (zqMS h 0) x1 x2 x3 x4 x5 y (zqMS h' 0) → zqAg (zqMS h 0) (zqMS h' 9) ∧ OtT h h' 0 5 9 → Rws h' → Q h' (0, y)) : wp l rho (d + 8) 222 0 [(2, 151), (0, x1), (0, x2), (0, x3), (0, x4), (0, x5), (9, 0)] [] h Q := by
  refine v_knowA (x := 162) pis_162 rd_61 (fun kT0 => ?_)
  refine v_knowA (x := 163) pis_163 rd_62 (fun kV0 => ?_)
  refine v_knowA (x := 160) pis_160 rd_59 (fun kN0 => ?_)
  refine v_knowA (x := 157) pis_157 rd_56 (fun kC0 => ?_)
  have T0 : MTy h := ⟨kV0, kT0, kN0, kC0⟩
  refine v_knowA (x := 164) pis_164 rd_63 (fun kB0 => ?_)
  refine v_knowA (x := 188) pis_188 rd_87 (fun kD0 => ?_)
  refine v_knowA (x := 173) pis_173 rd_72 (fun kF0 => ?_)
  refine v_knowA (x := 166) pis_166 rd_65 (fun kP0 => ?_)
  have cbf : 0 ≤ x1 → x1 ≤ 5 → h 164 x1 = 1 → 0 ≤ cmM h x1 0 ∧ cmM h x1 0 ≤ 19 := fun w0 w5 t => cmM_bd w0 w5 hlm t (fun j a b => kD0 j a (by omega)) (fun j a b => (kF0 j a (by omega)).2) (fun j a b => by have q := kP0 j a (by omega); omega) (by omega) (by omega)
  refine w_aload_n gz_222_0 rfl ?_
  refine w_iconst gz_222_1 (by decide) ?_
  refine v_putI (j := 0) gz_222_2 rfl is_151 rd_10 rfl (by omega) (by omega) rfl (fun h1 fh1 => ?_)
  have gh1 : my_fr [(10, 0), (10, 27), (10, 32), (10, 33), (10, 37), (10, 46), (10, 48), (10, 55), (61, -1), (62, -1), (73, -1), (74, -1), (75, -1), (76, -1), (77, -1), (78, -1), (79, -1), (80, -1), (81, -1), (82, -1), (83, -1), (84, -1), (85, -1), (86, -1), (88, -1), (89, -1), (90, -1), (91, -1), (92, -1), (93, -1), (94, -1)] h h1 := my_fr.up my_fr.rf is_151 fh1 rfl
  have Mw_h1 : Mw h1 := Mw_ag (my_ag.up fh1 is_151 rfl) n_Mw
  have Mw3_h1 : Mw3 h1 := Mw3_ag (my_ag.up fh1 is_151 rfl) n_Mw3
  have Rws_h1 : Rws h1 := Rws_ag (my_ag.up fh1 is_151 rfl) n_Rws
  refine w_aload_n gz_222_5 rfl ?_
  refine w_iconst gz_222_6 (by decide) ?_
  refine w_iconst gz_222_7 (by decide) ?_
  have b162 : ∀ j : Int, h1 162 j = h 162 j := fun j => ((my_up_role fh1 is_162 is_151 rfl).trans (rfl : h 162 j = h 162 j))
  have b163 : ∀ j : Int, h1 163 j = h 163 j := fun j => ((my_up_role fh1 is_163 is_151 rfl).trans (rfl : h 163 j = h 163 j))
  refine w_inv (k := 1) (as := [(0, 5), (0, 0)]) (r := []) (x := 151) (ls0 := [(2, 151), (0, 0), (0, 5), (9, 0)]) gz_222_8 gm_152 rfl is_151 rd_10 rfl rfl rfl rfl rfl (c_Model_copies5 (d := (d + 7)) (x1 := 0) (x2 := 5) (by omega) (by omega) (by omega) (by omega) Rws_h1 (fun h2 frh2 xp3 xp4 Rws_h2t5 => ?_))
  have gh2 : my_fr [(10, 0), (10, 27), (10, 32), (10, 33), (10, 37), (10, 46), (10, 48), (10, 55), (61, -1), (62, -1), (73, -1), (74, -1), (75, -1), (76, -1), (77, -1), (78, -1), (79, -1), (80, -1), (81, -1), (82, -1), (83, -1), (84, -1), (85, -1), (86, -1), (88, -1), (89, -1), (90, -1), (91, -1), (92, -1), (93, -1), (94, -1)] h h2 := my_fr.tr gh1 (frh2.mo rfl)
  have Mw_h2 : Mw h2 := Mw_ag (my_ag.fr frh2 rfl) Mw_h1
  have Mw3_h2 : Mw3 h2 := Mw3_ag (my_ag.fr frh2 rfl) Mw3_h1
  show wp l rho (d + 8) 222 11 [(2, 151), (0, x1), (0, x2), (0, x3), (0, x4), (0, x5), (9, 0)] [] h2 Q
  have cp8 := xp3
  have cq8 := xp4
  have ag25 := Cp_ag5 cp8 cq8 b162 b163
  have cpot : OtT h h2 5 5 5 := OtT_Cp (OtT_0 b162 b163) cp8 cq8 (by omega)
  refine w_aload_n gz_222_11 rfl ?_
  refine w_iconst gz_222_12 (by decide) ?_
  refine w_iload_n gz_222_13 rfl ?_
  refine w_iload_n gz_222_14 rfl ?_
  refine w_iload_n gz_222_15 rfl ?_
  refine w_iload gz_222_16 rfl ?_
  refine w_iload gz_222_18 rfl ?_
  have ag20 : my_ag LmF h h2 := (my_ag.fr (F := LmF) gh2 rfl)
  have ma20 : zqMA h2 = zqMA h := zqMA_e (fun j => my_fr.at gh2 pis_157 rfl) (fun j => my_fr.at gh2 pis_158 rfl) (fun j => my_fr.at gh2 pis_159 rfl) (fun j => my_fr.at gh2 pis_160 rfl) (fun j => my_fr.at gh2 pis_161 rfl)
  have e188w : ∀ j : Int, h2 188 j = h 188 j := fun j => my_fr.at gh2 pis_188 rfl
  refine w_inv (k := 2) (as := [(0, x5), (0, x4), (0, x3), (0, x2), (0, x1), (0, 5)]) (r := []) (x := 151) (ls0 := [(2, 151), (0, 5), (0, x1), (0, x2), (0, x3), (0, x4), (0, x5), (9, 0), (9, 0)]) gz_222_20 gm_223 rfl is_151 rd_10 rfl rfl rfl rfl rfl (c_Model_puts5 (d := d) (x1 := 5) (x2 := x1) (x3 := x2) (x4 := x3) (x5 := x4) (x6 := x5) (by omega) (by omega) Mw_h2 Mw3_h2 Rws_h2t5 (by first | assumption | exact no_such_saying | exact Fp_told (by omega) (by omega) | omega | (subst_vars; omega) | omega) (LmW_ag (my_ag.fr (F := LmF) gh2 rfl) hlm) ((by rw [ma20]; exact zqWo_c ag25 (fun u a b => (T0.2.2.2 u a (by omega)).2) (fun p a b => T0.2.2.1 p a (by omega)) hwo)) (fun h6 frh6 xp7 xp8 Rws_h6t9 => ?_) (fun h10 v11 frh10 w12 w13 w14 w15 w16 w17 xp18 xp19 xp20 Rws_h10t21 => ?_))
  ·
    have gh6 : my_fr [(10, 0), (10, 27), (10, 32), (10, 33), (10, 37), (10, 46), (10, 48), (10, 55), (61, -1), (62, -1), (73, -1), (74, -1), (75, -1), (76, -1), (77, -1), (78, -1), (79, -1), (80, -1), (81, -1), (82, -1), (83, -1), (84, -1), (85, -1), (86, -1), (88, -1), (89, -1), (90, -1), (91, -1), (92, -1), (93, -1), (94, -1)] h h6 := my_fr.tr gh2 (frh6.mo rfl)
    have Mw_h6 : Mw h6 := Mw_ag (my_ag.fr frh6 rfl) Mw_h2
    have Mw3_h6 : Mw3 h6 := Mw3_ag (my_ag.fr frh6 rfl) Mw3_h2
    show wp l rho (d + 8) 222 23 [(2, 151), (0, x1), (0, x2), (0, x3), (0, x4), (0, x5), (9, 0)] [(0, (-1))] h6 Q
    have pu := xp7
    have ots := xp8
    refine w_istore (ls' := [(2, 151), (0, x1), (0, x2), (0, x3), (0, x4), (0, x5), (0, (-1))]) gz_222_23 gm_222 rfl rfl rfl ?_
    refine w_iload gz_222_25 rfl ?_
    refine w_iflt (t := 48) gz_222_27 rfl (fun u22 => ?_) (fun u22 => by exfalso; omega)
    refine w_iload gz_222_48 rfl ?_
    have c23 := ((my_fr.at frh6 is_151 rfl).trans ((my_fr.at frh2 is_151 rfl).trans (my_up_self fh1)))
    exact w_iret gz_222_50 gm_222 (k0 h6 (gh6) (by omega) (by first | exact Mput_n ag20 ma20 e188w hlm T0 kB0 cbf ag25 pu | exact OtT_S cpot ots (by omega) | exact (Mput_y ag20 ma20 e188w hlm T0 kB0 cbf ag25 pu ots (OtT_S cpot ots2 (by omega)) cp34 cq34 cp40 cq40 (fun j => my_up_ne fh1 (by omega)) (fun j => my_up_ne fh1 (by omega))).1 | exact (Mput_y ag20 ma20 e188w hlm T0 kB0 cbf ag25 pu ots (OtT_S cpot ots2 (by omega)) cp34 cq34 cp40 cq40 (fun j => my_up_ne fh1 (by omega)) (fun j => my_up_ne fh1 (by omega))).2 | assumption | omega) (by first | exact Mput_n ag20 ma20 e188w hlm T0 kB0 cbf ag25 pu | exact OtT_S cpot ots (by omega) | exact (Mput_y ag20 ma20 e188w hlm T0 kB0 cbf ag25 pu ots (OtT_S cpot ots2 (by omega)) cp34 cq34 cp40 cq40 (fun j => my_up_ne fh1 (by omega)) (fun j => my_up_ne fh1 (by omega))).1 | exact (Mput_y ag20 ma20 e188w hlm T0 kB0 cbf ag25 pu ots (OtT_S cpot ots2 (by omega)) cp34 cq34 cp40 cq40 (fun j => my_up_ne fh1 (by omega)) (fun j => my_up_ne fh1 (by omega))).2 | assumption | omega) Rws_h6t9)
  ·
    have gh10 : my_fr [(10, 0), (10, 27), (10, 32), (10, 33), (10, 37), (10, 46), (10, 48), (10, 55), (61, -1), (62, -1), (73, -1), (74, -1), (75, -1), (76, -1), (77, -1), (78, -1), (79, -1), (80, -1), (81, -1), (82, -1), (83, -1), (84, -1), (85, -1), (86, -1), (88, -1), (89, -1), (90, -1), (91, -1), (92, -1), (93, -1), (94, -1)] h h10 := my_fr.tr gh2 (frh10.mo rfl)
    have Mw_h10 : Mw h10 := Mw_ag (my_ag.fr frh10 rfl) Mw_h2
    have Mw3_h10 : Mw3 h10 := Mw3_ag (my_ag.fr frh10 rfl) Mw3_h2
    show wp l rho (d + 8) 222 23 [(2, 151), (0, x1), (0, x2), (0, x3), (0, x4), (0, x5), (9, 0)] [(0, v11)] h10 Q
    have pu := xp18
    have ots := xp19
    have ots2 := xp20
    refine w_istore (ls' := [(2, 151), (0, x1), (0, x2), (0, x3), (0, x4), (0, x5), (0, v11)]) gz_222_23 gm_222 rfl rfl rfl ?_
    refine w_iload gz_222_25 rfl ?_
    refine w_iflt (t := 48) gz_222_27 rfl (fun u24 => by exfalso; omega) (fun u24 => ?_)
    refine w_aload_n gz_222_30 rfl ?_
    refine w_iconst gz_222_31 (by decide) ?_
    refine w_bipush gz_222_32 (by decide) ?_
    refine w_inv (k := 1) (as := [(0, 9), (0, 0)]) (r := []) (x := 151) (ls0 := [(2, 151), (0, 0), (0, 9), (9, 0)]) gz_222_34 gm_152 rfl is_151 rd_10 rfl rfl rfl rfl rfl (c_Model_copies5 (d := (d + 7)) (x1 := 0) (x2 := 9) (by omega) (by omega) (by omega) (by omega) Rws_h10t21 (fun h25 frh25 xp26 xp27 Rws_h25t28 => ?_))
    have gh25 : my_fr [(10, 0), (10, 27), (10, 32), (10, 33), (10, 37), (10, 46), (10, 48), (10, 55), (61, -1), (62, -1), (73, -1), (74, -1), (75, -1), (76, -1), (77, -1), (78, -1), (79, -1), (80, -1), (81, -1), (82, -1), (83, -1), (84, -1), (85, -1), (86, -1), (88, -1), (89, -1), (90, -1), (91, -1), (92, -1), (93, -1), (94, -1)] h h25 := my_fr.tr gh10 (frh25.mo rfl)
    have Mw_h25 : Mw h25 := Mw_ag (my_ag.fr frh25 rfl) Mw_h10
    have Mw3_h25 : Mw3 h25 := Mw3_ag (my_ag.fr frh25 rfl) Mw3_h10
    show wp l rho (d + 8) 222 37 [(2, 151), (0, x1), (0, x2), (0, x3), (0, x4), (0, x5), (0, v11)] [] h25 Q
    have cp34 := xp26
    have cq34 := xp27
    refine w_aload_n gz_222_37 rfl ?_
    refine w_iconst gz_222_38 (by decide) ?_
    refine w_iconst gz_222_39 (by decide) ?_
    refine w_inv (k := 1) (as := [(0, 0), (0, 5)]) (r := []) (x := 151) (ls0 := [(2, 151), (0, 5), (0, 0), (9, 0)]) gz_222_40 gm_152 rfl is_151 rd_10 rfl rfl rfl rfl rfl (c_Model_copies5 (d := (d + 7)) (x1 := 5) (x2 := 0) (by omega) (by omega) (by omega) (by omega) Rws_h25t28 (fun h29 frh29 xp30 xp31 Rws_h29t32 => ?_))
    have gh29 : my_fr [(10, 0), (10, 27), (10, 32), (10, 33), (10, 37), (10, 46), (10, 48), (10, 55), (61, -1), (62, -1), (73, -1), (74, -1), (75, -1), (76, -1), (77, -1), (78, -1), (79, -1), (80, -1), (81, -1), (82, -1), (83, -1), (84, -1), (85, -1), (86, -1), (88, -1), (89, -1), (90, -1), (91, -1), (92, -1), (93, -1), (94, -1)] h h29 := my_fr.tr gh25 (frh29.mo rfl)
    have Mw_h29 : Mw h29 := Mw_ag (my_ag.fr frh29 rfl) Mw_h25
    have Mw3_h29 : Mw3 h29 := Mw3_ag (my_ag.fr frh29 rfl) Mw3_h25
    show wp l rho (d + 8) 222 43 [(2, 151), (0, x1), (0, x2), (0, x3), (0, x4), (0, x5), (0, v11)] [] h29 Q
    have cp40 := xp30
    have cq40 := xp31
    refine w_aload_n gz_222_43 rfl ?_
    refine w_iconst gz_222_44 (by decide) ?_
    refine v_putB (j := 55) gz_222_45 rfl is_151 rd_10 rfl (by omega) (by omega) rfl (fun h33 fh33 => ?_)
    have gh33 : my_fr [(10, 0), (10, 27), (10, 32), (10, 33), (10, 37), (10, 46), (10, 48), (10, 55), (61, -1), (62, -1), (73, -1), (74, -1), (75, -1), (76, -1), (77, -1), (78, -1), (79, -1), (80, -1), (81, -1), (82, -1), (83, -1), (84, -1), (85, -1), (86, -1), (88, -1), (89, -1), (90, -1), (91, -1), (92, -1), (93, -1), (94, -1)] h h33 := my_fr.up gh29 is_151 fh33 rfl
    have Mw_h33 : Mw h33 := Mw_ag (my_ag.up fh33 is_151 rfl) Mw_h29
    have Mw3_h33 : Mw3 h33 := Mw3_ag (my_ag.up fh33 is_151 rfl) Mw3_h29
    have Rws_h33 : Rws h33 := Rws_ag (my_ag.up fh33 is_151 rfl) Rws_h29t32
    refine w_iload gz_222_48 rfl ?_
    have c34 := ((my_up_fld fh33 (by decide)).trans ((my_fr.at frh29 is_151 rfl).trans ((my_fr.at frh25 is_151 rfl).trans ((my_fr.at frh10 is_151 rfl).trans ((my_fr.at frh2 is_151 rfl).trans (my_up_self fh1))))))
    have c35 := (my_up_self fh33)
    exact w_iret gz_222_50 gm_222 (k1 h33 (v11) (gh33) (by omega) (by omega) (by omega) (by omega) (by omega) (by omega) (by omega) (by omega) (by first | exact Mput_n ag20 ma20 e188w hlm T0 kB0 cbf ag25 pu | exact OtT_S cpot ots (by omega) | exact (Mput_y ag20 ma20 e188w hlm T0 kB0 cbf ag25 pu ots (OtT_S cpot ots2 (by omega)) cp34 cq34 cp40 cq40 (fun j => my_up_ne fh33 (by omega)) (fun j => my_up_ne fh33 (by omega))).1 | exact (Mput_y ag20 ma20 e188w hlm T0 kB0 cbf ag25 pu ots (OtT_S cpot ots2 (by omega)) cp34 cq34 cp40 cq40 (fun j => my_up_ne fh33 (by omega)) (fun j => my_up_ne fh33 (by omega))).2 | assumption | omega) (by first | exact Mput_n ag20 ma20 e188w hlm T0 kB0 cbf ag25 pu | exact OtT_S cpot ots (by omega) | exact (Mput_y ag20 ma20 e188w hlm T0 kB0 cbf ag25 pu ots (OtT_S cpot ots2 (by omega)) cp34 cq34 cp40 cq40 (fun j => my_up_ne fh33 (by omega)) (fun j => my_up_ne fh33 (by omega))).1 | exact (Mput_y ag20 ma20 e188w hlm T0 kB0 cbf ag25 pu ots (OtT_S cpot ots2 (by omega)) cp34 cq34 cp40 cq40 (fun j => my_up_ne fh33 (by omega)) (fun j => my_up_ne fh33 (by omega))).2 | assumption | omega) Rws_h33)
end MYNModel_put5
