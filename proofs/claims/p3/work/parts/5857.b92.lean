/-! contracts, printed by wip/gen/gy.py -/
section MYNModel_both4
theorem c_Model_both4 {l : Launch} {rho : Nat → Int32} {d : Nat} {h : my_H} {Q : my_H → my_V → Prop} {x1 x2 x3 x4 x5 x6 x7 : Int} (a1 : 0 ≤ x1) (b1 : x1 ≤ 15) (a2 : 0 ≤ x2) (b2 : x2 ≤ 5) (a3 : 0 ≤ x3) (a5 : 0 ≤ x5) (b5 : x5 ≤ 5) (a6 : 0 ≤ x6) (n_Mw : Mw h) (n_Mw3 : Mw3 h) (n_Rws : Rws h) (s8 : x1 ≠ 8) (hlm : LmW h) (hwo : zqWo (zqMA h) (zqMS h 0)) (h56 : x1 = 5 ∨ x1 = 6) (k0 : ∀ (h' : my_H), my_fr [(10, 27), (10, 32), (10, 33), (10, 37), (10, 46), (10, 48), (61, -1), (62, -1), (73, -1), (74, -1), (75, -1), (76, -1), (77, -1), (78, -1), (79, -1), (80, -1), (81, -1), (82, -1), (83, -1), (84, -1), (85, -1), (86, -1), (88, -1), (89, -1), (90, -1), (91, -1), (92, -1), (93, -1), (94, -1)] h h' → Ot9 h h' → Rws h' → Q h' (0, 0)) (k1 : ∀ (h' : my_H), my_fr [(10, 27), (10, 32), (10, 33), (10, 37), (10, 46), (10, 48), (61, -1), (62, -1), (73, -1), (74, -1), (75, -1), (76, -1), (77, -1), (78, -1), (79, -1), (80, -1), (81, -1), (82, -1), (83, -1), (84, -1), (85, -1), (86, -1), (88, -1), (89, -1), (90, -1), (91, -1), (92, -1), (93, -1), (94, -1)] h h' → Ot9 h h' → Rws h' → Q h' (0, 1)) : wp l rho (d + 8) 233 0 [(2, 151), (0, x1), (0, x2), (0, x3), (0, x4), (0, x5), (0, x6), (0, x7)] [] h Q := by
  refine v_knowA (x := 162) pis_162 rd_61 (fun kT0 => ?_)
  refine v_knowA (x := 163) pis_163 rd_62 (fun kV0 => ?_)
  refine v_knowA (x := 160) pis_160 rd_59 (fun kN0 => ?_)
  refine v_knowA (x := 157) pis_157 rd_56 (fun kC0 => ?_)
  have T0 : MTy h := ⟨kV0, kT0, kN0, kC0⟩
  refine v_knowA (x := 164) pis_164 rd_63 (fun kB0 => ?_)
  refine v_knowA (x := 188) pis_188 rd_87 (fun kD0 => ?_)
  refine v_knowA (x := 173) pis_173 rd_72 (fun kF0 => ?_)
  refine v_knowA (x := 166) pis_166 rd_65 (fun kP0 => ?_)
  refine w_aload_n gz_233_0 rfl ?_
  refine w_iconst gz_233_1 (by decide) ?_
  refine w_iload_n gz_233_2 rfl ?_
  refine w_inv (k := 1) (as := [(0, x1), (0, 0)]) (r := []) (x := 151) (ls0 := [(2, 151), (0, 0), (0, x1), (9, 0)]) gz_233_3 gm_152 rfl is_151 rd_10 rfl rfl rfl rfl rfl (c_Model_copies5 (d := (d + 7)) (x1 := 0) (x2 := x1) (by omega) (by omega) (by omega) (by omega) n_Rws (fun h1 frh1 xp2 xp3 Rws_h1t4 => ?_))
  have gh1 : my_fr [(10, 27), (10, 32), (10, 33), (10, 37), (10, 46), (10, 48), (61, -1), (62, -1), (73, -1), (74, -1), (75, -1), (76, -1), (77, -1), (78, -1), (79, -1), (80, -1), (81, -1), (82, -1), (83, -1), (84, -1), (85, -1), (86, -1), (88, -1), (89, -1), (90, -1), (91, -1), (92, -1), (93, -1), (94, -1)] h h1 := my_fr.tr my_fr.rf (frh1.mo rfl)
  have Mw_h1 : Mw h1 := Mw_ag (my_ag.fr frh1 rfl) n_Mw
  have Mw3_h1 : Mw3 h1 := Mw3_ag (my_ag.fr frh1 rfl) n_Mw3
  show wp l rho (d + 8) 233 6 [(2, 151), (0, x1), (0, x2), (0, x3), (0, x4), (0, x5), (0, x6), (0, x7)] [] h1 Q
  have o3 : Ot9 h h1 := Ot9_Cp xp2 xp3 (by omega)
  have ag5 := Cp_ag5 (h := h) xp2 xp3 (fun _ => rfl) (fun _ => rfl)
  refine w_aload_n gz_233_6 rfl ?_
  refine w_iload_n gz_233_7 rfl ?_
  refine w_iload_n gz_233_8 rfl ?_
  refine w_iconst gz_233_9 (by decide) ?_
  refine w_iload_n gz_233_10 rfl ?_
  refine w_bipush gz_233_11 (by decide) ?_
  refine w_idiv gz_233_13 (by omega) (by decide) ?_
  refine w_iload_n gz_233_14 rfl ?_
  refine w_bipush gz_233_15 (by decide) ?_
  refine w_irem gz_233_17 (by omega) (by decide) ?_
  refine w_iload gz_233_18 rfl ?_
  have agB : my_ag LmF h h1 := (my_ag.fr (F := LmF) gh1 rfl)
  have maB : zqMA h1 = zqMA h := zqMA_e (fun j => my_fr.at gh1 pis_157 rfl) (fun j => my_fr.at gh1 pis_158 rfl) (fun j => my_fr.at gh1 pis_159 rfl) (fun j => my_fr.at gh1 pis_160 rfl) (fun j => my_fr.at gh1 pis_161 rfl)
  have e188B : ∀ j : Int, h1 188 j = h 188 j := fun j => my_fr.at gh1 pis_188 rfl
  have e164B : ∀ j : Int, h1 164 j = h 164 j := fun j => my_fr.at gh1 pis_164 rfl
  have woB : zqWo (zqMA h) (zqMS h1 x1) := zqWo_c ag5 (fun u a b => (T0.2.2.2 u a (by omega)).2) (fun p a b => T0.2.2.1 p a (by omega)) hwo
  refine w_inv (k := 2) (as := [(0, x4), (0, (x3 % 8)), (0, (x3 / 8)), (0, 0), (0, x2), (0, x1)]) (r := []) (x := 151) (ls0 := [(2, 151), (0, x1), (0, x2), (0, 0), (0, (x3 / 8)), (0, (x3 % 8)), (0, x4), (9, 0), (9, 0)]) gz_233_20 gm_223 rfl is_151 rd_10 rfl rfl rfl rfl rfl (c_Model_puts5 (d := d) (x1 := x1) (x2 := x2) (x3 := 0) (x4 := (x3 / 8)) (x5 := (x3 % 8)) (x6 := x4) (by omega) (by omega) Mw_h1 Mw3_h1 Rws_h1t4 (by first | assumption | exact no_such_saying | exact Fp_told (by omega) (by omega) | omega | (subst_vars; omega) | omega) (LmW_ag agB hlm) ((by rw [maB]; exact woB)) (fun h5 frh5 xp6 xp7 Rws_h5t8 => ?_) (fun h9 v10 frh9 w11 w12 w13 w14 w15 w16 xp17 xp18 xp19 Rws_h9t20 => ?_))
  ·
    have gh5 : my_fr [(10, 27), (10, 32), (10, 33), (10, 37), (10, 46), (10, 48), (61, -1), (62, -1), (73, -1), (74, -1), (75, -1), (76, -1), (77, -1), (78, -1), (79, -1), (80, -1), (81, -1), (82, -1), (83, -1), (84, -1), (85, -1), (86, -1), (88, -1), (89, -1), (90, -1), (91, -1), (92, -1), (93, -1), (94, -1)] h h5 := my_fr.tr gh1 (frh5.mo rfl)
    have Mw_h5 : Mw h5 := Mw_ag (my_ag.fr frh5 rfl) Mw_h1
    have Mw3_h5 : Mw3 h5 := Mw3_ag (my_ag.fr frh5 rfl) Mw3_h1
    show wp l rho (d + 8) 233 23 [(2, 151), (0, x1), (0, x2), (0, x3), (0, x4), (0, x5), (0, x6), (0, x7)] [(0, (-1))] h5 Q
    have o20 : Ot9 h h5 := o3.tr (Ot9_S xp7 h56)
    have wo20 : zqWo (zqMA h) (zqMS h5 x1) := Mneg_wo hlm T0 kB0 (fun j a b => kD0 j a (by omega)) (fun j a b => (kF0 j a (by omega)).2) (fun j a b => by have q := kP0 j a (by omega); omega) agB maB e188B e164B woB xp6
    refine w_iflt (t := 53) gz_233_23 rfl (fun u21 => ?_) (fun u21 => by exfalso; omega)
    refine w_iconst gz_233_53 (by decide) ?_
    exact w_bret gz_233_54 gm_233 (by omega) (by omega) (k0 h5 (gh5) (by first | exact o43 | exact o20 | assumption | omega) Rws_h5t8)
  ·
    have gh9 : my_fr [(10, 27), (10, 32), (10, 33), (10, 37), (10, 46), (10, 48), (61, -1), (62, -1), (73, -1), (74, -1), (75, -1), (76, -1), (77, -1), (78, -1), (79, -1), (80, -1), (81, -1), (82, -1), (83, -1), (84, -1), (85, -1), (86, -1), (88, -1), (89, -1), (90, -1), (91, -1), (92, -1), (93, -1), (94, -1)] h h9 := my_fr.tr gh1 (frh9.mo rfl)
    have Mw_h9 : Mw h9 := Mw_ag (my_ag.fr frh9 rfl) Mw_h1
    have Mw3_h9 : Mw3 h9 := Mw3_ag (my_ag.fr frh9 rfl) Mw3_h1
    show wp l rho (d + 8) 233 23 [(2, 151), (0, x1), (0, x2), (0, x3), (0, x4), (0, x5), (0, x6), (0, x7)] [(0, v10)] h9 Q
    have o20 : Ot9 h h9 := o3.tr (Ot9_S xp19 h56)
    have wo20 : zqWo (zqMA h) (zqMS h9 x1) := mPut_wo hlm T0 kB0 (fun j a b => kD0 j a (by omega)) (fun j a b => (kF0 j a (by omega)).2) (fun j a b => by have q := kP0 j a (by omega); omega) agB maB e188B e164B woB xp17 xp18
    refine w_iflt (t := 53) gz_233_23 rfl (fun u22 => by exfalso; omega) (fun u22 => ?_)
    refine w_aload_n gz_233_26 rfl ?_
    refine w_iload_n gz_233_27 rfl ?_
    refine w_iload gz_233_28 rfl ?_
    refine w_iconst gz_233_30 (by decide) ?_
    refine w_iload gz_233_31 rfl ?_
    refine w_bipush gz_233_33 (by decide) ?_
    refine w_idiv gz_233_35 (by omega) (by decide) ?_
    refine w_iload gz_233_36 rfl ?_
    refine w_bipush gz_233_38 (by decide) ?_
    refine w_irem gz_233_40 (by omega) (by decide) ?_
    refine w_iload gz_233_41 rfl ?_
    have agB : my_ag LmF h h9 := (my_ag.fr (F := LmF) gh9 rfl)
    have maB : zqMA h9 = zqMA h := zqMA_e (fun j => my_fr.at gh9 pis_157 rfl) (fun j => my_fr.at gh9 pis_158 rfl) (fun j => my_fr.at gh9 pis_159 rfl) (fun j => my_fr.at gh9 pis_160 rfl) (fun j => my_fr.at gh9 pis_161 rfl)
    have e188B : ∀ j : Int, h9 188 j = h 188 j := fun j => my_fr.at gh9 pis_188 rfl
    have e164B : ∀ j : Int, h9 164 j = h 164 j := fun j => my_fr.at gh9 pis_164 rfl
    have woB : zqWo (zqMA h) (zqMS h9 x1) := wo20
    refine w_inv (k := 2) (as := [(0, x7), (0, (x6 % 8)), (0, (x6 / 8)), (0, 0), (0, x5), (0, x1)]) (r := []) (x := 151) (ls0 := [(2, 151), (0, x1), (0, x5), (0, 0), (0, (x6 / 8)), (0, (x6 % 8)), (0, x7), (9, 0), (9, 0)]) gz_233_43 gm_223 rfl is_151 rd_10 rfl rfl rfl rfl rfl (c_Model_puts5 (d := d) (x1 := x1) (x2 := x5) (x3 := 0) (x4 := (x6 / 8)) (x5 := (x6 % 8)) (x6 := x7) (by omega) (by omega) Mw_h9 Mw3_h9 Rws_h9t20 (by first | assumption | exact no_such_saying | exact Fp_told (by omega) (by omega) | omega | (subst_vars; omega) | omega) (LmW_ag agB hlm) ((by rw [maB]; exact woB)) (fun h23 frh23 xp24 xp25 Rws_h23t26 => ?_) (fun h27 v28 frh27 w29 w30 w31 w32 w33 w34 xp35 xp36 xp37 Rws_h27t38 => ?_))
    ·
      have gh23 : my_fr [(10, 27), (10, 32), (10, 33), (10, 37), (10, 46), (10, 48), (61, -1), (62, -1), (73, -1), (74, -1), (75, -1), (76, -1), (77, -1), (78, -1), (79, -1), (80, -1), (81, -1), (82, -1), (83, -1), (84, -1), (85, -1), (86, -1), (88, -1), (89, -1), (90, -1), (91, -1), (92, -1), (93, -1), (94, -1)] h h23 := my_fr.tr gh9 (frh23.mo rfl)
      have Mw_h23 : Mw h23 := Mw_ag (my_ag.fr frh23 rfl) Mw_h9
      have Mw3_h23 : Mw3 h23 := Mw3_ag (my_ag.fr frh23 rfl) Mw3_h9
      show wp l rho (d + 8) 233 46 [(2, 151), (0, x1), (0, x2), (0, x3), (0, x4), (0, x5), (0, x6), (0, x7)] [(0, (-1))] h23 Q
      have o43 : Ot9 h h23 := o20.tr (Ot9_S xp25 h56)
      have wo43 : zqWo (zqMA h) (zqMS h23 x1) := Mneg_wo hlm T0 kB0 (fun j a b => kD0 j a (by omega)) (fun j a b => (kF0 j a (by omega)).2) (fun j a b => by have q := kP0 j a (by omega); omega) agB maB e188B e164B woB xp24
      refine w_iflt (t := 53) gz_233_46 rfl (fun u39 => ?_) (fun u39 => by exfalso; omega)
      refine w_iconst gz_233_53 (by decide) ?_
      exact w_bret gz_233_54 gm_233 (by omega) (by omega) (k0 h23 (gh23) (by first | exact o43 | exact o20 | assumption | omega) Rws_h23t26)
    ·
      have gh27 : my_fr [(10, 27), (10, 32), (10, 33), (10, 37), (10, 46), (10, 48), (61, -1), (62, -1), (73, -1), (74, -1), (75, -1), (76, -1), (77, -1), (78, -1), (79, -1), (80, -1), (81, -1), (82, -1), (83, -1), (84, -1), (85, -1), (86, -1), (88, -1), (89, -1), (90, -1), (91, -1), (92, -1), (93, -1), (94, -1)] h h27 := my_fr.tr gh9 (frh27.mo rfl)
      have Mw_h27 : Mw h27 := Mw_ag (my_ag.fr frh27 rfl) Mw_h9
      have Mw3_h27 : Mw3 h27 := Mw3_ag (my_ag.fr frh27 rfl) Mw3_h9
      show wp l rho (d + 8) 233 46 [(2, 151), (0, x1), (0, x2), (0, x3), (0, x4), (0, x5), (0, x6), (0, x7)] [(0, v28)] h27 Q
      have o43 : Ot9 h h27 := o20.tr (Ot9_S xp37 h56)
      have wo43 : zqWo (zqMA h) (zqMS h27 x1) := mPut_wo hlm T0 kB0 (fun j a b => kD0 j a (by omega)) (fun j a b => (kF0 j a (by omega)).2) (fun j a b => by have q := kP0 j a (by omega); omega) agB maB e188B e164B woB xp35 xp36
      refine w_iflt (t := 53) gz_233_46 rfl (fun u40 => by exfalso; omega) (fun u40 => ?_)
      refine w_iconst gz_233_49 (by decide) ?_
      refine w_goto (t := 54) gz_233_50 rfl ?_
      exact w_bret gz_233_54 gm_233 (by omega) (by omega) (k1 h27 (gh27) (by first | exact o43 | exact o20 | assumption | omega) Rws_h27t38)
theorem c_Model_ordered4 {l : Launch} {rho : Nat → Int32} {d : Nat} {h : my_H} {Q : my_H → my_V → Prop} {x1 x2 x3 : Int} (a1 : (-1) ≤ x1) (b1 : x1 ≤ 2) (a2 : (-1) ≤ x2) (b2 : x2 ≤ 2) (a3 : (-1) ≤ x3) (b3 : x3 ≤ 2) (n_Mw : Mw h) (n_Mw3 : Mw3 h) (n_Rws : Rws h) (he : h 151 63 ≤ 5) (hlm : LmW h) (hwo : zqWo (zqMA h) (zqMS h 0)) (k0 : ∀ (h' : my_H), my_fr [(10, 27), (10, 32), (10, 33), (10, 37), (10, 46), (10, 48), (10, 62), (10, 63), (10, 64), (10, 65), (61, -1), (62, -1), (73, -1), (74, -1), (75, -1), (76, -1), (77, -1), (78, -1), (79, -1), (80, -1), (81, -1), (82, -1), (83, -1), (84, -1), (85, -1), (86, -1), (88, -1), (89, -1), (90, -1), (91, -1), (92, -1), (93, -1), (94, -1)] h h' → 0 ≤ h' 151 64 → h' 151 63 ≤ h 151 63 + 1 → Ot9 h h' → Rws h' → Q h' (9, 0)) : wp l rho (d + 8) 245 0 [(2, 151), (0, x1), (0, x2), (0, x3), (9, 0), (9, 0), (9, 0), (9, 0)] [] h Q := by
  refine v_know (x := 151) (j := 63) (b := 63) rfl is_151 rd_10 rfl (fun k151_63 ek151_63 pk151_63 qk151_63 => ?_)
  refine v_knowA (x := 162) pis_162 rd_61 (fun kT0 => ?_)
  refine v_knowA (x := 163) pis_163 rd_62 (fun kV0 => ?_)
  refine v_knowA (x := 160) pis_160 rd_59 (fun kN0 => ?_)
  refine v_knowA (x := 157) pis_157 rd_56 (fun kC0 => ?_)
  have T0 : MTy h := ⟨kV0, kT0, kN0, kC0⟩
  refine v_knowA (x := 164) pis_164 rd_63 (fun kB0 => ?_)
  refine v_knowA (x := 188) pis_188 rd_87 (fun kD0 => ?_)
  refine v_knowA (x := 173) pis_173 rd_72 (fun kF0 => ?_)
  refine v_knowA (x := 166) pis_166 rd_65 (fun kP0 => ?_)
  have J167_0 : ∀ (n : Nat) (p167_0 p167_1 p167_2 p167_3 p167_4 p167_5 p167_6 p167_7 : Int) (h167_0 : my_H), my_fr [(10, 27), (10, 32), (10, 33), (10, 37), (10, 46), (10, 48), (10, 62), (10, 63), (10, 64), (10, 65), (61, -1), (62, -1), (73, -1), (74, -1), (75, -1), (76, -1), (77, -1), (78, -1), (79, -1), (80, -1), (81, -1), (82, -1), (83, -1), (84, -1), (85, -1), (86, -1), (88, -1), (89, -1), (90, -1), (91, -1), (92, -1), (93, -1), (94, -1)] h h167_0 → (-1) ≤ p167_0 → p167_0 ≤ 2 → 0 ≤ p167_1 → p167_1 ≤ 3 → 0 ≤ p167_2 → p167_2 ≤ 3 → 0 ≤ p167_3 → p167_3 ≤ 1 → 0 ≤ p167_4 → p167_4 ≤ 6 → 0 ≤ p167_6 → p167_0 ≤ x1 → p167_1 ≤ p167_2 → p167_1 ≤ p167_6 → p167_2 ≤ p167_1 → p167_2 ≤ p167_6 → p167_3 ≤ p167_4 → p167_3 ≤ k151_63 → p167_4 ≤ k151_63 → x1 ≤ p167_0 → h167_0 151 62 = p167_5 → h167_0 151 63 = k151_63 → h167_0 151 64 = p167_6 → h167_0 151 65 = p167_7 → Mw h167_0 → Mw3 h167_0 → Rws h167_0 → h167_0 151 63 = h 151 63 → Ot9 h h167_0 → 7 - p167_4 ≤ (n : Int) → wp l rho (d + 8) 245 167 [(2, 151), (0, p167_0), (0, x2), (0, x3), (0, p167_1), (0, p167_2), (0, p167_3), (0, p167_4)] [] h167_0 Q := by
    intro n
    induction n with
    | zero => intro p167_0 p167_1 p167_2 p167_3 p167_4 p167_5 p167_6 p167_7 h167_0 gh_167_0 q0_167_0 q1_167_0 q2_167_0 q3_167_0 q4_167_0 q5_167_0 q6_167_0 q7_167_0 q8_167_0 q9_167_0 q10_167_0 q11_167_0 q12_167_0 q13_167_0 q14_167_0 q15_167_0 q16_167_0 q17_167_0 q18_167_0 q19_167_0 c151_62_167_0 c151_63_167_0 c151_64_167_0 c151_65_167_0 n_Mw_167_0 n_Mw3_167_0 n_Rws_167_0 ee_167_0 o9_167_0 hm_167_0; exfalso; omega
    | succ n ih_167_0 =>
      intro p167_0 p167_1 p167_2 p167_3 p167_4 p167_5 p167_6 p167_7 h167_0 gh_167_0 q0_167_0 q1_167_0 q2_167_0 q3_167_0 q4_167_0 q5_167_0 q6_167_0 q7_167_0 q8_167_0 q9_167_0 q10_167_0 q11_167_0 q12_167_0 q13_167_0 q14_167_0 q15_167_0 q16_167_0 q17_167_0 q18_167_0 q19_167_0 c151_62_167_0 c151_63_167_0 c151_64_167_0 c151_65_167_0 n_Mw_167_0 n_Mw3_167_0 n_Rws_167_0 ee_167_0 o9_167_0 hm_167_0
      have J195_0 : ∀ (p195_0 : Int) (h195_0 : my_H), my_fr [(10, 27), (10, 32), (10, 33), (10, 37), (10, 46), (10, 48), (10, 62), (10, 63), (10, 64), (10, 65), (61, -1), (62, -1), (73, -1), (74, -1), (75, -1), (76, -1), (77, -1), (78, -1), (79, -1), (80, -1), (81, -1), (82, -1), (83, -1), (84, -1), (85, -1), (86, -1), (88, -1), (89, -1), (90, -1), (91, -1), (92, -1), (93, -1), (94, -1)] h h195_0 → 0 ≤ p195_0 → p195_0 ≤ 1 → p167_4 ≤ 5 → 1 ≤ k151_63 → p195_0 ≤ p167_4 → p195_0 ≤ (k151_63 - 1) → p195_0 ≤ p167_3 → p167_0 ≤ x1 → p167_1 ≤ p167_2 → p167_1 ≤ p167_6 → p167_2 ≤ p167_1 → p167_2 ≤ p167_6 → p167_4 ≤ (k151_63 - 1) → p167_3 ≤ p195_0 → p167_3 ≤ p167_4 → p167_3 ≤ (k151_63 - 1) → x1 ≤ p167_0 → h195_0 151 62 = p167_5 → h195_0 151 63 = k151_63 → h195_0 151 64 = p167_6 → h195_0 151 65 = p167_7 → Mw h195_0 → Mw3 h195_0 → Rws h195_0 → Ot9 h h195_0 → wp l rho (d + 8) 245 195 [(2, 151), (0, p167_0), (0, x2), (0, x3), (0, p167_1), (0, p167_2), (0, p195_0), (0, p167_4)] [] h195_0 Q := by
        intro p195_0 h195_0 gh_195_0 q0_195_0 q1_195_0 q2_195_0 q3_195_0 q4_195_0 q5_195_0 q6_195_0 q7_195_0 q8_195_0 q9_195_0 q10_195_0 q11_195_0 q12_195_0 q13_195_0 q14_195_0 q15_195_0 q16_195_0 c151_62_195_0 c151_63_195_0 c151_64_195_0 c151_65_195_0 n_Mw_195_0 n_Mw3_195_0 n_Rws_195_0 o9_195_0
        refine w_iconst gz_245_195 (by decide) ?_
        refine w_goto (t := 200) gz_245_196 rfl ?_
        refine w_istore (ls' := [(2, 151), (0, p167_0), (0, x2), (0, x3), (0, p167_1), (0, p167_2), (0, 1), (0, p167_4)]) gz_245_200 gm_245 rfl rfl rfl ?_
        refine w_iinc (ls' := [(2, 151), (0, p167_0), (0, x2), (0, x3), (0, p167_1), (0, p167_2), (0, 1), (0, (p167_4 + 1))]) gz_245_202 rfl gm_245 rfl rfl rfl ⟨by omega, by omega⟩ ?_
        refine w_goto (t := 167) gz_245_205 rfl ?_
        have ce1 : h195_0 151 63 = k151_63 := c151_63_195_0
        have j162 : ∀ j : Int, h195_0 162 j = h195_0 162 j := fun _ => rfl
        have j163 : ∀ j : Int, h195_0 163 j = h195_0 163 j := fun _ => rfl
        exact ih_167_0 (p167_0) (p167_1) (p167_2) (1) ((p167_4 + 1)) (p167_5) (p167_6) (p167_7) h195_0 (gh_195_0) (by omega) (by omega) (by omega) (by omega) (by omega) (by omega) (by omega) (by omega) (by omega) (by omega) (by omega) (by omega) (by omega) (by omega) (by omega) (by omega) (by omega) (by omega) (by omega) (by omega) (c151_62_195_0.trans (by omega)) (c151_63_195_0.trans (by omega)) (c151_64_195_0.trans (by omega)) (c151_65_195_0.trans (by omega)) n_Mw_195_0 n_Mw3_195_0 n_Rws_195_0 (by first | assumption | omega | (subst_vars; omega) | omega) (by first | exact o9_16_0.tr (Ot9_e j162 j163) | exact o9_42_0.tr (Ot9_e j162 j163) | exact o9_106_0.tr (Ot9_e j162 j163) | exact o9_141_0.tr (Ot9_e j162 j163) | exact o9_167_0.tr (Ot9_e j162 j163) | exact o9_195_0.tr (Ot9_e j162 j163) | exact o92.tr (Ot9_e j162 j163) | exact o92 | exact o4.tr (Ot9_e j162 j163) | assumption | omega) (by omega)
      refine w_iload gz_245_167 rfl ?_
      refine w_aload_n gz_245_169 rfl ?_
      refine v_getI (j := 63) gz_245_170 rfl is_151 rd_10 rfl (fun v2 ev2 pv2 qv2 => ?_)
      have zv2 := ev2.trans c151_63_167_0
      refine w_icge (t := 208) gz_245_173 rfl (fun u3 => ?_) (fun u3 => ?_)
      ·
        refine w_iload gz_245_208 rfl ?_
        refine w_ifne (t := 236) gz_245_210 rfl (fun u4 => ?_) (fun u4 => ?_)
        ·
          have ce5 : h167_0 151 63 = v2 := ev2.symm
          have r162 : ∀ j : Int, h167_0 162 j = h167_0 162 j := fun _ => rfl
          have r163 : ∀ j : Int, h167_0 163 j = h167_0 163 j := fun _ => rfl
          have c6 := c151_64_167_0
          exact w_vret gz_245_236 gm_245 (k0 h167_0 (gh_167_0) (by omega) (by first | exact o223.tr (Ot9_e r162 r163) | exact o9_167_0.tr (Ot9_e r162 r163) | exact o9_141_0.tr (Ot9_e r162 r163) | assumption | omega) (by first | exact o223.tr (Ot9_e r162 r163) | exact o9_167_0.tr (Ot9_e r162 r163) | exact o9_141_0.tr (Ot9_e r162 r163) | assumption | omega) n_Rws_167_0)
        ·
          refine w_aload_n gz_245_213 rfl ?_
          refine w_bipush gz_245_214 (by decide) ?_
          refine w_bipush gz_245_216 (by decide) ?_
          refine w_aload_n gz_245_218 rfl ?_
          refine v_getI (j := 63) gz_245_219 rfl is_151 rd_10 rfl (fun v7 ev7 pv7 qv7 => ?_)
          have zv7 := ev7.trans ev2.symm
          refine w_iadd gz_245_222 ⟨by omega, by omega⟩ ?_
          have ce8 : h167_0 151 63 = v7 := ev7.symm
          have q162 : ∀ j : Int, h167_0 162 j = h167_0 162 j := fun _ => rfl
          have q163 : ∀ j : Int, h167_0 163 j = h167_0 163 j := fun _ => rfl
          have hi9 : 10 ≤ (10 + v7) := by omega
          have hi10 : (10 + v7) ≤ 15 := by omega
          refine w_inv (k := 1) (as := [(0, (10 + v7)), (0, 6)]) (r := []) (x := 151) (ls0 := [(2, 151), (0, 6), (0, (10 + v7)), (9, 0)]) gz_245_223 gm_152 rfl is_151 rd_10 rfl rfl rfl rfl rfl (c_Model_copies5 (d := (d + 7)) (x1 := 6) (x2 := (10 + v7)) (by omega) (by omega) (by omega) (by omega) n_Rws_167_0 (fun h11 frh11 xp12 xp13 Rws_h11t14 => ?_))
          have gh11 : my_fr [(10, 27), (10, 32), (10, 33), (10, 37), (10, 46), (10, 48), (10, 62), (10, 63), (10, 64), (10, 65), (61, -1), (62, -1), (73, -1), (74, -1), (75, -1), (76, -1), (77, -1), (78, -1), (79, -1), (80, -1), (81, -1), (82, -1), (83, -1), (84, -1), (85, -1), (86, -1), (88, -1), (89, -1), (90, -1), (91, -1), (92, -1), (93, -1), (94, -1)] h h11 := my_fr.tr gh_167_0 (frh11.mo rfl)
          have Mw_h11 : Mw h11 := Mw_ag (my_ag.fr frh11 rfl) n_Mw_167_0
          have Mw3_h11 : Mw3 h11 := Mw3_ag (my_ag.fr frh11 rfl) n_Mw3_167_0
          show wp l rho (d + 8) 245 226 [(2, 151), (0, p167_0), (0, x2), (0, x3), (0, p167_1), (0, p167_2), (0, p167_3), (0, p167_4)] [] h11 Q
          have o223 : Ot9 h h11 := (o9_167_0.tr (Ot9_e q162 q163)).tr (Ot9_Cp xp12 xp13 (by omega))
          refine w_aload_n gz_245_226 rfl ?_
          refine w_dup gz_245_227 rfl ?_
          refine v_getI (j := 63) gz_245_228 rfl is_151 rd_10 rfl (fun v15 ev15 pv15 qv15 => ?_)
          have zv15 := ev15.trans ((my_fr.at frh11 is_151 rfl).trans ev7.symm)
          refine w_iconst gz_245_231 (by decide) ?_
          refine w_iadd gz_245_232 ⟨by omega, by omega⟩ ?_
          have hi16 : 0 ≤ (v15 + 1) := by omega
          have hi17 : (v15 + 1) ≤ 6 := by omega
          refine v_putI (j := 63) gz_245_233 rfl is_151 rd_10 rfl (by omega) (by omega) rfl (fun h18 fh18 => ?_)
          have gh18 : my_fr [(10, 27), (10, 32), (10, 33), (10, 37), (10, 46), (10, 48), (10, 62), (10, 63), (10, 64), (10, 65), (61, -1), (62, -1), (73, -1), (74, -1), (75, -1), (76, -1), (77, -1), (78, -1), (79, -1), (80, -1), (81, -1), (82, -1), (83, -1), (84, -1), (85, -1), (86, -1), (88, -1), (89, -1), (90, -1), (91, -1), (92, -1), (93, -1), (94, -1)] h h18 := my_fr.up gh11 is_151 fh18 rfl
          have Mw_h18 : Mw h18 := Mw_ag (my_ag.up fh18 is_151 rfl) Mw_h11
          have Mw3_h18 : Mw3 h18 := Mw3_ag (my_ag.up fh18 is_151 rfl) Mw3_h11
          have Rws_h18 : Rws h18 := Rws_ag (my_ag.up fh18 is_151 rfl) Rws_h11t14
          have ce19 : h18 151 63 = (v15 + 1) := (my_up_self fh18)
          have r162 : ∀ j : Int, h18 162 j = h11 162 j := fun j => ((my_up_role fh18 is_162 is_151 rfl).trans (rfl : h11 162 j = h11 162 j))
          have r163 : ∀ j : Int, h18 163 j = h11 163 j := fun j => ((my_up_role fh18 is_163 is_151 rfl).trans (rfl : h11 163 j = h11 163 j))
          have c20 := ((my_up_fld fh18 (by decide)).trans ((my_fr.at frh11 is_151 rfl).trans c151_64_167_0))
          exact w_vret gz_245_236 gm_245 (k0 h18 (gh18) (by omega) (by first | exact o223.tr (Ot9_e r162 r163) | exact o9_167_0.tr (Ot9_e r162 r163) | exact o9_141_0.tr (Ot9_e r162 r163) | assumption | omega) (by first | exact o223.tr (Ot9_e r162 r163) | exact o9_167_0.tr (Ot9_e r162 r163) | exact o9_141_0.tr (Ot9_e r162 r163) | assumption | omega) Rws_h18)
      ·
        refine w_iload gz_245_176 rfl ?_
        refine w_ifne (t := 195) gz_245_178 rfl (fun u21 => ?_) (fun u21 => ?_)
        ·
          have j162 : ∀ j : Int, h167_0 162 j = h167_0 162 j := fun _ => rfl
          have j163 : ∀ j : Int, h167_0 163 j = h167_0 163 j := fun _ => rfl
          exact J195_0 (p167_3) h167_0 (gh_167_0) (by omega) (by omega) (by omega) (by omega) (by omega) (by omega) (by omega) (by omega) (by omega) (by omega) (by omega) (by omega) (by omega) (by omega) (by omega) (by omega) (by omega) (c151_62_167_0.trans (by omega)) (ev2.symm.trans (by omega)) (c151_64_167_0.trans (by omega)) (c151_65_167_0.trans (by omega)) n_Mw_167_0 n_Mw3_167_0 n_Rws_167_0 (by first | exact o9_16_0.tr (Ot9_e j162 j163) | exact o9_42_0.tr (Ot9_e j162 j163) | exact o9_106_0.tr (Ot9_e j162 j163) | exact o9_141_0.tr (Ot9_e j162 j163) | exact o9_167_0.tr (Ot9_e j162 j163) | exact o9_195_0.tr (Ot9_e j162 j163) | exact o92.tr (Ot9_e j162 j163) | exact o92 | exact o4.tr (Ot9_e j162 j163) | assumption | omega)
        ·
          refine w_aload_n gz_245_181 rfl ?_
          refine w_bipush gz_245_182 (by decide) ?_
          refine w_bipush gz_245_184 (by decide) ?_
          refine w_iload gz_245_186 rfl ?_
          refine w_iadd gz_245_188 ⟨by omega, by omega⟩ ?_
          refine w_inv (k := 3) (as := [(0, (10 + p167_4)), (0, 6)]) (r := []) (x := 151) (ls0 := [(2, 151), (0, 6), (0, (10 + p167_4)), (9, 0), (9, 0), (9, 0)]) gz_245_189 gm_230 rfl is_151 rd_10 rfl rfl rfl rfl rfl (c_Model_areAlike5 (d := (d + 7)) (x1 := 6) (x2 := (10 + p167_4)) (by omega) (by omega) (by omega) (by omega) (fun v22 w23 w24 xp25 => ?_))
          show wp l rho (d + 8) 245 192 [(2, 151), (0, p167_0), (0, x2), (0, x3), (0, p167_1), (0, p167_2), (0, p167_3), (0, p167_4)] [(0, v22)] h167_0 Q
          refine w_ifeq (t := 199) gz_245_192 rfl (fun u26 => ?_) (fun u26 => ?_)
          ·
            refine w_iconst gz_245_199 (by decide) ?_
            refine w_istore (ls' := [(2, 151), (0, p167_0), (0, x2), (0, x3), (0, p167_1), (0, p167_2), (0, 0), (0, p167_4)]) gz_245_200 gm_245 rfl rfl rfl ?_
            refine w_iinc (ls' := [(2, 151), (0, p167_0), (0, x2), (0, x3), (0, p167_1), (0, p167_2), (0, 0), (0, (p167_4 + 1))]) gz_245_202 rfl gm_245 rfl rfl rfl ⟨by omega, by omega⟩ ?_
            refine w_goto (t := 167) gz_245_205 rfl ?_
            have ce27 : h167_0 151 63 = v2 := ev2.symm
            have j162 : ∀ j : Int, h167_0 162 j = h167_0 162 j := fun _ => rfl
            have j163 : ∀ j : Int, h167_0 163 j = h167_0 163 j := fun _ => rfl
            exact ih_167_0 (p167_0) (p167_1) (p167_2) (0) ((p167_4 + 1)) (p167_5) (p167_6) (p167_7) h167_0 (gh_167_0) (by omega) (by omega) (by omega) (by omega) (by omega) (by omega) (by omega) (by omega) (by omega) (by omega) (by omega) (by omega) (by omega) (by omega) (by omega) (by omega) (by omega) (by omega) (by omega) (by omega) (c151_62_167_0.trans (by omega)) (ev2.symm.trans (by omega)) (c151_64_167_0.trans (by omega)) (c151_65_167_0.trans (by omega)) n_Mw_167_0 n_Mw3_167_0 n_Rws_167_0 (by first | assumption | omega | (subst_vars; omega) | omega) (by first | exact o9_16_0.tr (Ot9_e j162 j163) | exact o9_42_0.tr (Ot9_e j162 j163) | exact o9_106_0.tr (Ot9_e j162 j163) | exact o9_141_0.tr (Ot9_e j162 j163) | exact o9_167_0.tr (Ot9_e j162 j163) | exact o9_195_0.tr (Ot9_e j162 j163) | exact o92.tr (Ot9_e j162 j163) | exact o92 | exact o4.tr (Ot9_e j162 j163) | assumption | omega) (by omega)
          ·
            have j162 : ∀ j : Int, h167_0 162 j = h167_0 162 j := fun _ => rfl
            have j163 : ∀ j : Int, h167_0 163 j = h167_0 163 j := fun _ => rfl
            exact J195_0 (p167_3) h167_0 (gh_167_0) (by omega) (by omega) (by omega) (by omega) (by omega) (by omega) (by omega) (by omega) (by omega) (by omega) (by omega) (by omega) (by omega) (by omega) (by omega) (by omega) (by omega) (c151_62_167_0.trans (by omega)) (ev2.symm.trans (by omega)) (c151_64_167_0.trans (by omega)) (c151_65_167_0.trans (by omega)) n_Mw_167_0 n_Mw3_167_0 n_Rws_167_0 (by first | exact o9_16_0.tr (Ot9_e j162 j163) | exact o9_42_0.tr (Ot9_e j162 j163) | exact o9_106_0.tr (Ot9_e j162 j163) | exact o9_141_0.tr (Ot9_e j162 j163) | exact o9_167_0.tr (Ot9_e j162 j163) | exact o9_195_0.tr (Ot9_e j162 j163) | exact o92.tr (Ot9_e j162 j163) | exact o92 | exact o4.tr (Ot9_e j162 j163) | assumption | omega)
  have J141_0 : ∀ (p141_0 p141_1 p141_2 p141_3 p141_4 p141_5 : Int) (h141_0 : my_H), my_fr [(10, 27), (10, 32), (10, 33), (10, 37), (10, 46), (10, 48), (10, 62), (10, 63), (10, 64), (10, 65), (61, -1), (62, -1), (73, -1), (74, -1), (75, -1), (76, -1), (77, -1), (78, -1), (79, -1), (80, -1), (81, -1), (82, -1), (83, -1), (84, -1), (85, -1), (86, -1), (88, -1), (89, -1), (90, -1), (91, -1), (92, -1), (93, -1), (94, -1)] h h141_0 → (-1) ≤ p141_0 → p141_0 ≤ 2 → 0 ≤ p141_1 → p141_1 ≤ 3 → 0 ≤ p141_2 → p141_2 ≤ 3 → 0 ≤ p141_3 → p141_0 ≤ x1 → p141_1 ≤ p141_2 → p141_1 ≤ p141_3 → p141_4 ≤ p141_3 → x1 ≤ p141_0 → h141_0 151 63 = k151_63 → h141_0 151 64 = p141_4 → h141_0 151 65 = p141_5 → Mw h141_0 → Mw3 h141_0 → Rws h141_0 → Ot9 h h141_0 → wp l rho (d + 8) 245 141 [(2, 151), (0, p141_0), (0, x2), (0, x3), (0, p141_1), (0, p141_2), (0, 3), (9, 0)] [(0, p141_3), (2, 151)] h141_0 Q := by
    intro p141_0 p141_1 p141_2 p141_3 p141_4 p141_5 h141_0 gh_141_0 q0_141_0 q1_141_0 q2_141_0 q3_141_0 q4_141_0 q5_141_0 q6_141_0 q7_141_0 q8_141_0 q9_141_0 q10_141_0 q11_141_0 c151_63_141_0 c151_64_141_0 c151_65_141_0 n_Mw_141_0 n_Mw3_141_0 n_Rws_141_0 o9_141_0
    refine v_putA (j := 64) gz_245_141 rfl is_151 rd_10 rfl rfl (fun h28 fh28 => ?_)
    have gh28 : my_fr [(10, 27), (10, 32), (10, 33), (10, 37), (10, 46), (10, 48), (10, 62), (10, 63), (10, 64), (10, 65), (61, -1), (62, -1), (73, -1), (74, -1), (75, -1), (76, -1), (77, -1), (78, -1), (79, -1), (80, -1), (81, -1), (82, -1), (83, -1), (84, -1), (85, -1), (86, -1), (88, -1), (89, -1), (90, -1), (91, -1), (92, -1), (93, -1), (94, -1)] h h28 := my_fr.up gh_141_0 is_151 fh28 rfl
    have Mw_h28 : Mw h28 := Mw_ag (my_ag.up fh28 is_151 rfl) n_Mw_141_0
    have Mw3_h28 : Mw3 h28 := Mw3_ag (my_ag.up fh28 is_151 rfl) n_Mw3_141_0
    have Rws_h28 : Rws h28 := Rws_ag (my_ag.up fh28 is_151 rfl) n_Rws_141_0
    refine w_iload gz_245_144 rfl ?_
    refine w_iload gz_245_146 rfl ?_
    refine w_icne (t := 236) gz_245_148 rfl (fun u29 => ?_) (fun u29 => ?_)
    ·
      have ce30 : h28 151 63 = k151_63 := ((my_up_fld fh28 (by decide)).trans c151_63_141_0)
      have r162 : ∀ j : Int, h28 162 j = h141_0 162 j := fun j => ((my_up_role fh28 is_162 is_151 rfl).trans (rfl : h141_0 162 j = h141_0 162 j))
      have r163 : ∀ j : Int, h28 163 j = h141_0 163 j := fun j => ((my_up_role fh28 is_163 is_151 rfl).trans (rfl : h141_0 163 j = h141_0 163 j))
      have c31 := (my_up_self fh28)
      exact w_vret gz_245_236 gm_245 (k0 h28 (gh28) (by omega) (by first | exact o223.tr (Ot9_e r162 r163) | exact o9_167_0.tr (Ot9_e r162 r163) | exact o9_141_0.tr (Ot9_e r162 r163) | assumption | omega) (by first | exact o223.tr (Ot9_e r162 r163) | exact o9_167_0.tr (Ot9_e r162 r163) | exact o9_141_0.tr (Ot9_e r162 r163) | assumption | omega) Rws_h28)
    ·
      refine w_aload_n gz_245_151 rfl ?_
      refine w_dup gz_245_152 rfl ?_
      refine v_getI (j := 62) gz_245_153 rfl is_151 rd_10 rfl (fun v32 ev32 pv32 qv32 => ?_)
      refine w_iconst gz_245_156 (by decide) ?_
      refine w_ianyA gz_245_157 (fun v33 pv33 qv33 => ?_)
      refine v_putA (j := 62) gz_245_158 rfl is_151 rd_10 rfl rfl (fun h34 fh34 => ?_)
      have gh34 : my_fr [(10, 27), (10, 32), (10, 33), (10, 37), (10, 46), (10, 48), (10, 62), (10, 63), (10, 64), (10, 65), (61, -1), (62, -1), (73, -1), (74, -1), (75, -1), (76, -1), (77, -1), (78, -1), (79, -1), (80, -1), (81, -1), (82, -1), (83, -1), (84, -1), (85, -1), (86, -1), (88, -1), (89, -1), (90, -1), (91, -1), (92, -1), (93, -1), (94, -1)] h h34 := my_fr.up gh28 is_151 fh34 rfl
      have Mw_h34 : Mw h34 := Mw_ag (my_ag.up fh34 is_151 rfl) Mw_h28
      have Mw3_h34 : Mw3 h34 := Mw3_ag (my_ag.up fh34 is_151 rfl) Mw3_h28
      have Rws_h34 : Rws h34 := Rws_ag (my_ag.up fh34 is_151 rfl) Rws_h28
      refine w_iconst gz_245_161 (by decide) ?_
      refine w_istore (ls' := [(2, 151), (0, p141_0), (0, x2), (0, x3), (0, p141_1), (0, p141_2), (0, 0), (9, 0)]) gz_245_162 gm_245 rfl rfl rfl ?_
      refine w_iconst gz_245_164 (by decide) ?_
      refine w_istore (ls' := [(2, 151), (0, p141_0), (0, x2), (0, x3), (0, p141_1), (0, p141_2), (0, 0), (0, 0)]) gz_245_165 gm_245 rfl rfl rfl ?_
      have ce35 : h34 151 63 = k151_63 := ((my_up_fld fh34 (by decide)).trans ((my_up_fld fh28 (by decide)).trans c151_63_141_0))
      have j162 : ∀ j : Int, h34 162 j = h141_0 162 j := fun j => ((my_up_role fh34 is_162 is_151 rfl).trans ((my_up_role fh28 is_162 is_151 rfl).trans (rfl : h141_0 162 j = h141_0 162 j)))
      have j163 : ∀ j : Int, h34 163 j = h141_0 163 j := fun j => ((my_up_role fh34 is_163 is_151 rfl).trans ((my_up_role fh28 is_163 is_151 rfl).trans (rfl : h141_0 163 j = h141_0 163 j)))
      exact J167_0 7 (p141_0) (p141_1) (p141_2) (0) (0) (v33) (p141_3) (p141_5) h34 (gh34) (by omega) (by omega) (by omega) (by omega) (by omega) (by omega) (by omega) (by omega) (by omega) (by omega) (by omega) (by omega) (by omega) (by omega) (by omega) (by omega) (by omega) (by omega) (by omega) (by omega) ((my_up_self fh34).trans (by omega)) (((my_up_fld fh34 (by decide)).trans ((my_up_fld fh28 (by decide)).trans c151_63_141_0)).trans (by omega)) (((my_up_fld fh34 (by decide)).trans (my_up_self fh28)).trans (by omega)) (((my_up_fld fh34 (by decide)).trans ((my_up_fld fh28 (by decide)).trans c151_65_141_0)).trans (by omega)) Mw_h34 Mw3_h34 Rws_h34 (by first | assumption | omega | (subst_vars; omega) | omega) (by first | exact o9_16_0.tr (Ot9_e j162 j163) | exact o9_42_0.tr (Ot9_e j162 j163) | exact o9_106_0.tr (Ot9_e j162 j163) | exact o9_141_0.tr (Ot9_e j162 j163) | exact o9_167_0.tr (Ot9_e j162 j163) | exact o9_195_0.tr (Ot9_e j162 j163) | exact o92.tr (Ot9_e j162 j163) | exact o92 | exact o4.tr (Ot9_e j162 j163) | assumption | omega) (by omega)
  have J16_0 : ∀ (n : Nat) (p16_0 p16_1 p16_2 p16_3 : Int) (h16_0 : my_H), my_fr [(10, 27), (10, 32), (10, 33), (10, 37), (10, 46), (10, 48), (10, 62), (10, 63), (10, 64), (10, 65), (61, -1), (62, -1), (73, -1), (74, -1), (75, -1), (76, -1), (77, -1), (78, -1), (79, -1), (80, -1), (81, -1), (82, -1), (83, -1), (84, -1), (85, -1), (86, -1), (88, -1), (89, -1), (90, -1), (91, -1), (92, -1), (93, -1), (94, -1)] h h16_0 → (-1) ≤ p16_0 → p16_0 ≤ 2 → 0 ≤ p16_1 → p16_1 ≤ 3 → 0 ≤ p16_2 → p16_2 ≤ 3 → 0 ≤ p16_3 → p16_3 ≤ 3 → p16_0 ≤ x1 → p16_1 ≤ p16_2 → p16_1 ≤ p16_3 → p16_2 ≤ p16_3 → x1 ≤ p16_0 → h16_0 151 63 = k151_63 → Mw h16_0 → Mw3 h16_0 → Rws h16_0 → h16_0 151 63 = h 151 63 → Ot9 h h16_0 → zqWo (zqMA h) (zqMS h16_0 6) → 4 - p16_3 ≤ (n : Int) → wp l rho (d + 8) 245 16 [(2, 151), (0, p16_0), (0, x2), (0, x3), (0, p16_1), (0, p16_2), (0, p16_3), (9, 0)] [] h16_0 Q := by
    intro n
    induction n with
    | zero => intro p16_0 p16_1 p16_2 p16_3 h16_0 gh_16_0 q0_16_0 q1_16_0 q2_16_0 q3_16_0 q4_16_0 q5_16_0 q6_16_0 q7_16_0 q8_16_0 q9_16_0 q10_16_0 q11_16_0 q12_16_0 c151_63_16_0 n_Mw_16_0 n_Mw3_16_0 n_Rws_16_0 ee_16_0 o9_16_0 wo6_16_0 hm_16_0; exfalso; omega
    | succ n ih_16_0 =>
      intro p16_0 p16_1 p16_2 p16_3 h16_0 gh_16_0 q0_16_0 q1_16_0 q2_16_0 q3_16_0 q4_16_0 q5_16_0 q6_16_0 q7_16_0 q8_16_0 q9_16_0 q10_16_0 q11_16_0 q12_16_0 c151_63_16_0 n_Mw_16_0 n_Mw3_16_0 n_Rws_16_0 ee_16_0 o9_16_0 wo6_16_0 hm_16_0
      have J106_0 : ∀ (p106_0 p106_1 p106_2 p106_3 : Int) (h106_0 : my_H), my_fr [(10, 27), (10, 32), (10, 33), (10, 37), (10, 46), (10, 48), (10, 62), (10, 63), (10, 64), (10, 65), (61, -1), (62, -1), (73, -1), (74, -1), (75, -1), (76, -1), (77, -1), (78, -1), (79, -1), (80, -1), (81, -1), (82, -1), (83, -1), (84, -1), (85, -1), (86, -1), (88, -1), (89, -1), (90, -1), (91, -1), (92, -1), (93, -1), (94, -1)] h h106_0 → 0 ≤ p106_0 → p106_0 ≤ 3 → 0 ≤ p106_1 → p106_1 ≤ 3 → 0 ≤ p106_2 → p106_2 ≤ 2 → (-1) ≤ p106_3 → p106_3 ≤ 2 → p16_1 ≤ 2 → p16_2 ≤ 2 → p16_3 ≤ 2 → p106_0 ≤ p106_1 → p106_0 ≤ (p106_2 + 1) → p106_0 ≤ (p106_3 + 3) → p106_0 ≤ (p16_1 + 1) → p106_0 ≤ (p16_2 + 1) → p106_0 ≤ (p16_3 + 1) → p106_1 ≤ (p106_2 + 1) → p106_1 ≤ (p106_3 + 3) → p106_1 ≤ (p16_2 + 1) → p106_1 ≤ (p16_3 + 1) → p106_2 ≤ p16_3 → p106_3 ≤ (p106_1 + 1) → p16_0 ≤ x1 → p16_1 ≤ p106_0 → p16_1 ≤ p106_1 → p16_1 ≤ p106_2 → p16_1 ≤ p16_2 → p16_1 ≤ p16_3 → p16_2 ≤ p106_1 → p16_2 ≤ p106_2 → p16_2 ≤ p16_3 → p16_3 ≤ p106_2 → x1 ≤ p16_0 → h106_0 151 63 = k151_63 → Mw h106_0 → Mw3 h106_0 → Rws h106_0 → Ot9 h h106_0 → zqWo (zqMA h) (zqMS h106_0 6) → wp l rho (d + 8) 245 106 [(2, 151), (0, p16_0), (0, x2), (0, x3), (0, p106_0), (0, p106_1), (0, p106_2), (0, p106_3)] [] h106_0 Q := by
        intro p106_0 p106_1 p106_2 p106_3 h106_0 gh_106_0 q0_106_0 q1_106_0 q2_106_0 q3_106_0 q4_106_0 q5_106_0 q6_106_0 q7_106_0 q8_106_0 q9_106_0 q10_106_0 q11_106_0 q12_106_0 q13_106_0 q14_106_0 q15_106_0 q16_106_0 q17_106_0 q18_106_0 q19_106_0 q20_106_0 q21_106_0 q22_106_0 q23_106_0 q24_106_0 q25_106_0 q26_106_0 q27_106_0 q28_106_0 q29_106_0 q30_106_0 q31_106_0 q32_106_0 q33_106_0 c151_63_106_0 n_Mw_106_0 n_Mw3_106_0 n_Rws_106_0 o9_106_0 wo6_106_0
        refine w_iinc (ls' := [(2, 151), (0, p16_0), (0, x2), (0, x3), (0, p106_0), (0, p106_1), (0, (p106_2 + 1)), (0, p106_3)]) gz_245_106 rfl gm_245 rfl rfl rfl ⟨by omega, by omega⟩ ?_
        refine w_goto (t := 16) gz_245_109 rfl ?_
        have ce36 : h106_0 151 63 = k151_63 := c151_63_106_0
        have j162 : ∀ j : Int, h106_0 162 j = h106_0 162 j := fun _ => rfl
        have j163 : ∀ j : Int, h106_0 163 j = h106_0 163 j := fun _ => rfl
        refine w_weak (ls' := [(2, 151), (0, p16_0), (0, x2), (0, x3), (0, p106_0), (0, p106_1), (0, (p106_2 + 1)), (9, 0)]) (wk_e (wk_e (wk_e (wk_e (wk_e (wk_e (wk_e (wk_9 wk_n)))))))) ?_
        exact ih_16_0 (p16_0) (p106_0) (p106_1) ((p106_2 + 1)) h106_0 (gh_106_0) (by omega) (by omega) (by omega) (by omega) (by omega) (by omega) (by omega) (by omega) (by omega) (by omega) (by omega) (by omega) (by omega) (c151_63_106_0.trans (by omega)) n_Mw_106_0 n_Mw3_106_0 n_Rws_106_0 (by first | assumption | omega | (subst_vars; omega) | omega) (by first | exact o9_16_0.tr (Ot9_e j162 j163) | exact o9_42_0.tr (Ot9_e j162 j163) | exact o9_106_0.tr (Ot9_e j162 j163) | exact o9_141_0.tr (Ot9_e j162 j163) | exact o9_167_0.tr (Ot9_e j162 j163) | exact o9_195_0.tr (Ot9_e j162 j163) | exact o92.tr (Ot9_e j162 j163) | exact o92 | exact o4.tr (Ot9_e j162 j163) | assumption | omega) (by first | exact wo92 | exact wo6_42_0 | exact wo6_16_0 | exact wo6_106_0 | exact wo4 | assumption | omega) (by omega)
      have J42_0 : ∀ (p42_0 p42_1 p42_2 p42_3 : Int) (h42_0 : my_H), my_fr [(10, 27), (10, 32), (10, 33), (10, 37), (10, 46), (10, 48), (10, 62), (10, 63), (10, 64), (10, 65), (61, -1), (62, -1), (73, -1), (74, -1), (75, -1), (76, -1), (77, -1), (78, -1), (79, -1), (80, -1), (81, -1), (82, -1), (83, -1), (84, -1), (85, -1), (86, -1), (88, -1), (89, -1), (90, -1), (91, -1), (92, -1), (93, -1), (94, -1)] h h42_0 → 0 ≤ p42_0 → p42_0 ≤ 2 → 0 ≤ p42_1 → p42_1 ≤ 2 → 0 ≤ p42_2 → p42_2 ≤ 2 → (-1) ≤ p42_3 → p42_3 ≤ 2 → p16_1 ≤ 2 → p16_2 ≤ 2 → p16_3 ≤ 2 → p42_0 ≤ p42_1 → p42_0 ≤ p42_2 → p42_0 ≤ p16_1 → p42_0 ≤ p16_2 → p42_0 ≤ p16_3 → p42_1 ≤ p42_2 → p42_1 ≤ p16_2 → p42_1 ≤ p16_3 → p42_2 ≤ p16_3 → p16_0 ≤ x1 → p16_1 ≤ p42_0 → p16_1 ≤ p42_1 → p16_1 ≤ p42_2 → p16_1 ≤ p16_2 → p16_1 ≤ p16_3 → p16_2 ≤ p42_1 → p16_2 ≤ p42_2 → p16_2 ≤ p16_3 → p16_3 ≤ p42_2 → x1 ≤ p16_0 → h42_0 151 63 = k151_63 → Mw h42_0 → Mw3 h42_0 → Rws h42_0 → Ot9 h h42_0 → zqWo (zqMA h) (zqMS h42_0 6) → wp l rho (d + 8) 245 42 [(2, 151), (0, p16_0), (0, x2), (0, x3), (0, p42_0), (0, p42_1), (0, p42_2), (9, 0)] [(0, p42_3)] h42_0 Q := by
        intro p42_0 p42_1 p42_2 p42_3 h42_0 gh_42_0 q0_42_0 q1_42_0 q2_42_0 q3_42_0 q4_42_0 q5_42_0 q6_42_0 q7_42_0 q8_42_0 q9_42_0 q10_42_0 q11_42_0 q12_42_0 q13_42_0 q14_42_0 q15_42_0 q16_42_0 q17_42_0 q18_42_0 q19_42_0 q20_42_0 q21_42_0 q22_42_0 q23_42_0 q24_42_0 q25_42_0 q26_42_0 q27_42_0 q28_42_0 q29_42_0 q30_42_0 c151_63_42_0 n_Mw_42_0 n_Mw3_42_0 n_Rws_42_0 o9_42_0 wo6_42_0
        refine w_istore (ls' := [(2, 151), (0, p16_0), (0, x2), (0, x3), (0, p42_0), (0, p42_1), (0, p42_2), (0, p42_3)]) gz_245_42 gm_245 rfl rfl rfl ?_
        refine w_iload gz_245_44 rfl ?_
        refine w_iflt (t := 106) gz_245_46 rfl (fun u37 => ?_) (fun u37 => ?_)
        ·
          have j162 : ∀ j : Int, h42_0 162 j = h42_0 162 j := fun _ => rfl
          have j163 : ∀ j : Int, h42_0 163 j = h42_0 163 j := fun _ => rfl
          exact J106_0 (p42_0) (p42_1) (p42_2) (p42_3) h42_0 (gh_42_0) (by omega) (by omega) (by omega) (by omega) (by omega) (by omega) (by omega) (by omega) (by omega) (by omega) (by omega) (by omega) (by omega) (by omega) (by omega) (by omega) (by omega) (by omega) (by omega) (by omega) (by omega) (by omega) (by omega) (by omega) (by omega) (by omega) (by omega) (by omega) (by omega) (by omega) (by omega) (by omega) (by omega) (by omega) (c151_63_42_0.trans (by omega)) n_Mw_42_0 n_Mw3_42_0 n_Rws_42_0 (by first | exact o9_16_0.tr (Ot9_e j162 j163) | exact o9_42_0.tr (Ot9_e j162 j163) | exact o9_106_0.tr (Ot9_e j162 j163) | exact o9_141_0.tr (Ot9_e j162 j163) | exact o9_167_0.tr (Ot9_e j162 j163) | exact o9_195_0.tr (Ot9_e j162 j163) | exact o92.tr (Ot9_e j162 j163) | exact o92 | exact o4.tr (Ot9_e j162 j163) | assumption | omega) (by first | exact wo92 | exact wo6_42_0 | exact wo6_16_0 | exact wo6_106_0 | exact wo4 | assumption | omega)
        ·
          refine w_iinc (ls' := [(2, 151), (0, p16_0), (0, x2), (0, x3), (0, p42_0), (0, (p42_1 + 1)), (0, p42_2), (0, p42_3)]) gz_245_49 rfl gm_245 rfl rfl rfl ⟨by omega, by omega⟩ ?_
          refine w_iload gz_245_52 rfl ?_
          refine w_aload_n gz_245_54 rfl ?_
          refine w_bipush gz_245_55 (by decide) ?_
          refine w_aload_n gz_245_57 rfl ?_
          refine w_getX (v := 199) gz_245_58 is_151 rd_10 rfl (by decide) rfl ?_
          refine w_iload gz_245_61 rfl ?_
          refine w_iald gz_245_63 is_199 rd_98 (by omega) (by omega) (fun v39 ev39 pv39 qv39 => ?_)
          refine w_iconst gz_245_64 (by decide) ?_
          refine w_aload_n gz_245_65 rfl ?_
          refine w_getX (v := 200) gz_245_66 is_151 rd_10 rfl (by decide) rfl ?_
          refine w_iload gz_245_69 rfl ?_
          refine w_iald gz_245_71 is_200 rd_99 (by omega) (by omega) (fun v41 ev41 pv41 qv41 => ?_)
          refine w_bipush gz_245_72 (by decide) ?_
          refine w_ianyD gz_245_74 (by decide) (fun v42 pv42 qv42 => ?_)
          refine w_aload_n gz_245_75 rfl ?_
          refine w_getX (v := 200) gz_245_76 is_151 rd_10 rfl (by decide) rfl ?_
          refine w_iload gz_245_79 rfl ?_
          refine w_iald gz_245_81 is_200 rd_99 (by omega) (by omega) (fun v44 ev44 pv44 qv44 => ?_)
          have zv44 := ev44.trans ev41.symm
          refine w_bipush gz_245_82 (by decide) ?_
          refine w_ianyQ gz_245_84 (by decide) (fun v45 pv45 qv45 => ?_)
          refine w_aload_n gz_245_85 rfl ?_
          refine w_getX (v := 201) gz_245_86 is_151 rd_10 rfl (by decide) rfl ?_
          refine w_iload gz_245_89 rfl ?_
          refine w_iald gz_245_91 is_201 rd_100 (by omega) (by omega) (fun v47 ev47 pv47 qv47 => ?_)
          have agB : my_ag LmF h h42_0 := (my_ag.fr (F := LmF) gh_42_0 rfl)
          have maB : zqMA h42_0 = zqMA h := zqMA_e (fun j => my_fr.at gh_42_0 pis_157 rfl) (fun j => my_fr.at gh_42_0 pis_158 rfl) (fun j => my_fr.at gh_42_0 pis_159 rfl) (fun j => my_fr.at gh_42_0 pis_160 rfl) (fun j => my_fr.at gh_42_0 pis_161 rfl)
          have e188B : ∀ j : Int, h42_0 188 j = h 188 j := fun j => my_fr.at gh_42_0 pis_188 rfl
          have e164B : ∀ j : Int, h42_0 164 j = h 164 j := fun j => my_fr.at gh_42_0 pis_164 rfl
          have woB : zqWo (zqMA h) (zqMS h42_0 6) := (by first | exact wo6_42_0 | exact wo6_16_0)
          have o9B : Ot9 h h42_0 := by first | exact o9_42_0 | exact o9_16_0
          refine w_inv (k := 2) (as := [(0, v47), (0, v45), (0, v42), (0, 0), (0, v39), (0, 6)]) (r := [(0, p42_0)]) (x := 151) (ls0 := [(2, 151), (0, 6), (0, v39), (0, 0), (0, v42), (0, v45), (0, v47), (9, 0), (9, 0)]) gz_245_92 gm_223 rfl is_151 rd_10 rfl rfl rfl rfl rfl (c_Model_puts5 (d := d) (x1 := 6) (x2 := v39) (x3 := 0) (x4 := v42) (x5 := v45) (x6 := v47) (by omega) (by omega) n_Mw_42_0 n_Mw3_42_0 n_Rws_42_0 (by first | assumption | exact no_such_saying | exact Fp_told (by omega) (by omega) | omega | (subst_vars; omega) | omega) (LmW_ag agB hlm) ((by rw [maB]; exact woB)) (fun h48 frh48 xp49 xp50 Rws_h48t51 => ?_) (fun h52 v53 frh52 w54 w55 w56 w57 w58 w59 xp60 xp61 xp62 Rws_h52t63 => ?_))
          ·
            have gh48 : my_fr [(10, 27), (10, 32), (10, 33), (10, 37), (10, 46), (10, 48), (10, 62), (10, 63), (10, 64), (10, 65), (61, -1), (62, -1), (73, -1), (74, -1), (75, -1), (76, -1), (77, -1), (78, -1), (79, -1), (80, -1), (81, -1), (82, -1), (83, -1), (84, -1), (85, -1), (86, -1), (88, -1), (89, -1), (90, -1), (91, -1), (92, -1), (93, -1), (94, -1)] h h48 := my_fr.tr gh_42_0 (frh48.mo rfl)
            have Mw_h48 : Mw h48 := Mw_ag (my_ag.fr frh48 rfl) n_Mw_42_0
            have Mw3_h48 : Mw3 h48 := Mw3_ag (my_ag.fr frh48 rfl) n_Mw3_42_0
            show wp l rho (d + 8) 245 95 [(2, 151), (0, p16_0), (0, x2), (0, x3), (0, p42_0), (0, (p42_1 + 1)), (0, p42_2), (0, p42_3)] [(0, (-1)), (0, p42_0)] h48 Q
            have o92 : Ot9 h h48 := o9B.tr (Ot9_S xp50 (Or.inr rfl))
            have wo92 : zqWo (zqMA h) (zqMS h48 6) := Mneg_wo hlm T0 kB0 (fun j a b => kD0 j a (by omega)) (fun j a b => (kF0 j a (by omega)).2) (fun j a b => by have q := kP0 j a (by omega); omega) agB maB e188B e164B woB xp49
            refine w_iflt (t := 102) gz_245_95 rfl (fun u64 => ?_) (fun u64 => by exfalso; omega)
            refine w_iconst gz_245_102 (by decide) ?_
            refine w_iadd gz_245_103 ⟨by omega, by omega⟩ ?_
            refine w_istore (ls' := [(2, 151), (0, p16_0), (0, x2), (0, x3), (0, (p42_0 + 0)), (0, (p42_1 + 1)), (0, p42_2), (0, p42_3)]) gz_245_104 gm_245 rfl rfl rfl ?_
            have j162 : ∀ j : Int, h48 162 j = h48 162 j := fun j => rfl
            have j163 : ∀ j : Int, h48 163 j = h48 163 j := fun j => rfl
            exact J106_0 ((p42_0 + 0)) ((p42_1 + 1)) (p42_2) (p42_3) h48 (gh48) (by omega) (by omega) (by omega) (by omega) (by omega) (by omega) (by omega) (by omega) (by omega) (by omega) (by omega) (by omega) (by omega) (by omega) (by omega) (by omega) (by omega) (by omega) (by omega) (by omega) (by omega) (by omega) (by omega) (by omega) (by omega) (by omega) (by omega) (by omega) (by omega) (by omega) (by omega) (by omega) (by omega) (by omega) (((my_fr.at frh48 is_151 rfl).trans c151_63_42_0).trans (by omega)) Mw_h48 Mw3_h48 Rws_h48t51 (by first | exact o9_16_0.tr (Ot9_e j162 j163) | exact o9_42_0.tr (Ot9_e j162 j163) | exact o9_106_0.tr (Ot9_e j162 j163) | exact o9_141_0.tr (Ot9_e j162 j163) | exact o9_167_0.tr (Ot9_e j162 j163) | exact o9_195_0.tr (Ot9_e j162 j163) | exact o92.tr (Ot9_e j162 j163) | exact o92 | exact o4.tr (Ot9_e j162 j163) | assumption | omega) (by first | exact wo92 | exact wo6_42_0 | exact wo6_16_0 | exact wo6_106_0 | exact wo4 | assumption | omega)
          ·
            have gh52 : my_fr [(10, 27), (10, 32), (10, 33), (10, 37), (10, 46), (10, 48), (10, 62), (10, 63), (10, 64), (10, 65), (61, -1), (62, -1), (73, -1), (74, -1), (75, -1), (76, -1), (77, -1), (78, -1), (79, -1), (80, -1), (81, -1), (82, -1), (83, -1), (84, -1), (85, -1), (86, -1), (88, -1), (89, -1), (90, -1), (91, -1), (92, -1), (93, -1), (94, -1)] h h52 := my_fr.tr gh_42_0 (frh52.mo rfl)
            have Mw_h52 : Mw h52 := Mw_ag (my_ag.fr frh52 rfl) n_Mw_42_0
            have Mw3_h52 : Mw3 h52 := Mw3_ag (my_ag.fr frh52 rfl) n_Mw3_42_0
            show wp l rho (d + 8) 245 95 [(2, 151), (0, p16_0), (0, x2), (0, x3), (0, p42_0), (0, (p42_1 + 1)), (0, p42_2), (0, p42_3)] [(0, v53), (0, p42_0)] h52 Q
            have o92 : Ot9 h h52 := o9B.tr (Ot9_S xp62 (Or.inr rfl))
            have wo92 : zqWo (zqMA h) (zqMS h52 6) := mPut_wo hlm T0 kB0 (fun j a b => kD0 j a (by omega)) (fun j a b => (kF0 j a (by omega)).2) (fun j a b => by have q := kP0 j a (by omega); omega) agB maB e188B e164B woB xp60 xp61
            refine w_iflt (t := 102) gz_245_95 rfl (fun u65 => by exfalso; omega) (fun u65 => ?_)
            refine w_iconst gz_245_98 (by decide) ?_
            refine w_goto (t := 103) gz_245_99 rfl ?_
            refine w_iadd gz_245_103 ⟨by omega, by omega⟩ ?_
            refine w_istore (ls' := [(2, 151), (0, p16_0), (0, x2), (0, x3), (0, (p42_0 + 1)), (0, (p42_1 + 1)), (0, p42_2), (0, p42_3)]) gz_245_104 gm_245 rfl rfl rfl ?_
            have j162 : ∀ j : Int, h52 162 j = h52 162 j := fun j => rfl
            have j163 : ∀ j : Int, h52 163 j = h52 163 j := fun j => rfl
            exact J106_0 ((p42_0 + 1)) ((p42_1 + 1)) (p42_2) (p42_3) h52 (gh52) (by omega) (by omega) (by omega) (by omega) (by omega) (by omega) (by omega) (by omega) (by omega) (by omega) (by omega) (by omega) (by omega) (by omega) (by omega) (by omega) (by omega) (by omega) (by omega) (by omega) (by omega) (by omega) (by omega) (by omega) (by omega) (by omega) (by omega) (by omega) (by omega) (by omega) (by omega) (by omega) (by omega) (by omega) (((my_fr.at frh52 is_151 rfl).trans c151_63_42_0).trans (by omega)) Mw_h52 Mw3_h52 Rws_h52t63 (by first | exact o9_16_0.tr (Ot9_e j162 j163) | exact o9_42_0.tr (Ot9_e j162 j163) | exact o9_106_0.tr (Ot9_e j162 j163) | exact o9_141_0.tr (Ot9_e j162 j163) | exact o9_167_0.tr (Ot9_e j162 j163) | exact o9_195_0.tr (Ot9_e j162 j163) | exact o92.tr (Ot9_e j162 j163) | exact o92 | exact o4.tr (Ot9_e j162 j163) | assumption | omega) (by first | exact wo92 | exact wo6_42_0 | exact wo6_16_0 | exact wo6_106_0 | exact wo4 | assumption | omega)
      refine w_iload gz_245_16 rfl ?_
      refine w_iconst gz_245_18 (by decide) ?_
      refine w_icge (t := 112) gz_245_19 rfl (fun u66 => ?_) (fun u66 => ?_)
      ·
        refine w_aload_n gz_245_112 rfl ?_
        refine w_dup gz_245_113 rfl ?_
        refine v_getI (j := 65) gz_245_114 rfl is_151 rd_10 rfl (fun v67 ev67 pv67 qv67 => ?_)
        refine w_iconst gz_245_117 (by decide) ?_
        refine w_ianyA gz_245_118 (fun v68 pv68 qv68 => ?_)
        refine v_putA (j := 65) gz_245_119 rfl is_151 rd_10 rfl rfl (fun h69 fh69 => ?_)
        have gh69 : my_fr [(10, 27), (10, 32), (10, 33), (10, 37), (10, 46), (10, 48), (10, 62), (10, 63), (10, 64), (10, 65), (61, -1), (62, -1), (73, -1), (74, -1), (75, -1), (76, -1), (77, -1), (78, -1), (79, -1), (80, -1), (81, -1), (82, -1), (83, -1), (84, -1), (85, -1), (86, -1), (88, -1), (89, -1), (90, -1), (91, -1), (92, -1), (93, -1), (94, -1)] h h69 := my_fr.up gh_16_0 is_151 fh69 rfl
        have Mw_h69 : Mw h69 := Mw_ag (my_ag.up fh69 is_151 rfl) n_Mw_16_0
        have Mw3_h69 : Mw3 h69 := Mw3_ag (my_ag.up fh69 is_151 rfl) n_Mw3_16_0
        have Rws_h69 : Rws h69 := Rws_ag (my_ag.up fh69 is_151 rfl) n_Rws_16_0
        refine w_aload_n gz_245_122 rfl ?_
        refine w_iload gz_245_123 rfl ?_
        refine w_aload_n gz_245_125 rfl ?_
        refine v_getI (j := 64) gz_245_126 rfl is_151 rd_10 rfl (fun v70 ev70 pv70 qv70 => ?_)
        refine w_icle (t := 137) gz_245_129 rfl (fun u71 => ?_) (fun u71 => ?_)
        ·
          refine w_aload_n gz_245_137 rfl ?_
          refine v_getI (j := 64) gz_245_138 rfl is_151 rd_10 rfl (fun v72 ev72 pv72 qv72 => ?_)
          have zv72 := ev72.trans ev70.symm
          have j162 : ∀ j : Int, h69 162 j = h16_0 162 j := fun j => ((my_up_role fh69 is_162 is_151 rfl).trans (rfl : h16_0 162 j = h16_0 162 j))
          have j163 : ∀ j : Int, h69 163 j = h16_0 163 j := fun j => ((my_up_role fh69 is_163 is_151 rfl).trans (rfl : h16_0 163 j = h16_0 163 j))
          rw [show (p16_3 : Int) = 3 from by omega]
          exact J141_0 (p16_0) (p16_1) (p16_2) (v72) (v72) (v68) h69 (gh69) (by omega) (by omega) (by omega) (by omega) (by omega) (by omega) (by omega) (by omega) (by omega) (by omega) (by omega) (by omega) (((my_up_fld fh69 (by decide)).trans c151_63_16_0).trans (by omega)) (ev72.symm.trans (by omega)) ((my_up_self fh69).trans (by omega)) Mw_h69 Mw3_h69 Rws_h69 (by first | exact o9_16_0.tr (Ot9_e j162 j163) | exact o9_42_0.tr (Ot9_e j162 j163) | exact o9_106_0.tr (Ot9_e j162 j163) | exact o9_141_0.tr (Ot9_e j162 j163) | exact o9_167_0.tr (Ot9_e j162 j163) | exact o9_195_0.tr (Ot9_e j162 j163) | exact o92.tr (Ot9_e j162 j163) | exact o92 | exact o4.tr (Ot9_e j162 j163) | assumption | omega)
        ·
          refine w_iload gz_245_132 rfl ?_
          refine w_goto (t := 141) gz_245_134 rfl ?_
          have j162 : ∀ j : Int, h69 162 j = h16_0 162 j := fun j => ((my_up_role fh69 is_162 is_151 rfl).trans (rfl : h16_0 162 j = h16_0 162 j))
          have j163 : ∀ j : Int, h69 163 j = h16_0 163 j := fun j => ((my_up_role fh69 is_163 is_151 rfl).trans (rfl : h16_0 163 j = h16_0 163 j))
          rw [show (p16_3 : Int) = 3 from by omega]
          exact J141_0 (p16_0) (p16_1) (p16_2) (p16_1) (v70) (v68) h69 (gh69) (by omega) (by omega) (by omega) (by omega) (by omega) (by omega) (by omega) (by omega) (by omega) (by omega) (by omega) (by omega) (((my_up_fld fh69 (by decide)).trans c151_63_16_0).trans (by omega)) (ev70.symm.trans (by omega)) ((my_up_self fh69).trans (by omega)) Mw_h69 Mw3_h69 Rws_h69 (by first | exact o9_16_0.tr (Ot9_e j162 j163) | exact o9_42_0.tr (Ot9_e j162 j163) | exact o9_106_0.tr (Ot9_e j162 j163) | exact o9_141_0.tr (Ot9_e j162 j163) | exact o9_167_0.tr (Ot9_e j162 j163) | exact o9_195_0.tr (Ot9_e j162 j163) | exact o92.tr (Ot9_e j162 j163) | exact o92 | exact o4.tr (Ot9_e j162 j163) | assumption | omega)
      ·
        refine w_iload gz_245_22 rfl ?_
        refine w_ifne (t := 31) gz_245_24 rfl (fun u73 => ?_) (fun u73 => ?_)
        ·
          refine w_iload gz_245_31 rfl ?_
          refine w_iconst gz_245_33 (by decide) ?_
          refine w_icne (t := 41) gz_245_34 rfl (fun u74 => ?_) (fun u74 => ?_)
          ·
            refine w_iload_n gz_245_41 rfl ?_
            have j162 : ∀ j : Int, h16_0 162 j = h16_0 162 j := fun _ => rfl
            have j163 : ∀ j : Int, h16_0 163 j = h16_0 163 j := fun _ => rfl
            exact J42_0 (p16_1) (p16_2) (p16_3) (x3) h16_0 (gh_16_0) (by omega) (by omega) (by omega) (by omega) (by omega) (by omega) (by omega) (by omega) (by omega) (by omega) (by omega) (by omega) (by omega) (by omega) (by omega) (by omega) (by omega) (by omega) (by omega) (by omega) (by omega) (by omega) (by omega) (by omega) (by omega) (by omega) (by omega) (by omega) (by omega) (by omega) (by omega) (c151_63_16_0.trans (by omega)) n_Mw_16_0 n_Mw3_16_0 n_Rws_16_0 (by first | exact o9_16_0.tr (Ot9_e j162 j163) | exact o9_42_0.tr (Ot9_e j162 j163) | exact o9_106_0.tr (Ot9_e j162 j163) | exact o9_141_0.tr (Ot9_e j162 j163) | exact o9_167_0.tr (Ot9_e j162 j163) | exact o9_195_0.tr (Ot9_e j162 j163) | exact o92.tr (Ot9_e j162 j163) | exact o92 | exact o4.tr (Ot9_e j162 j163) | assumption | omega) (by first | exact wo92 | exact wo6_42_0 | exact wo6_16_0 | exact wo6_106_0 | exact wo4 | assumption | omega)
          ·
            refine w_iload_n gz_245_37 rfl ?_
            refine w_goto (t := 42) gz_245_38 rfl ?_
            have j162 : ∀ j : Int, h16_0 162 j = h16_0 162 j := fun _ => rfl
            have j163 : ∀ j : Int, h16_0 163 j = h16_0 163 j := fun _ => rfl
            exact J42_0 (p16_1) (p16_2) (p16_3) (x2) h16_0 (gh_16_0) (by omega) (by omega) (by omega) (by omega) (by omega) (by omega) (by omega) (by omega) (by omega) (by omega) (by omega) (by omega) (by omega) (by omega) (by omega) (by omega) (by omega) (by omega) (by omega) (by omega) (by omega) (by omega) (by omega) (by omega) (by omega) (by omega) (by omega) (by omega) (by omega) (by omega) (by omega) (c151_63_16_0.trans (by omega)) n_Mw_16_0 n_Mw3_16_0 n_Rws_16_0 (by first | exact o9_16_0.tr (Ot9_e j162 j163) | exact o9_42_0.tr (Ot9_e j162 j163) | exact o9_106_0.tr (Ot9_e j162 j163) | exact o9_141_0.tr (Ot9_e j162 j163) | exact o9_167_0.tr (Ot9_e j162 j163) | exact o9_195_0.tr (Ot9_e j162 j163) | exact o92.tr (Ot9_e j162 j163) | exact o92 | exact o4.tr (Ot9_e j162 j163) | assumption | omega) (by first | exact wo92 | exact wo6_42_0 | exact wo6_16_0 | exact wo6_106_0 | exact wo4 | assumption | omega)
        ·
          refine w_iload_n gz_245_27 rfl ?_
          refine w_goto (t := 42) gz_245_28 rfl ?_
          have j162 : ∀ j : Int, h16_0 162 j = h16_0 162 j := fun _ => rfl
          have j163 : ∀ j : Int, h16_0 163 j = h16_0 163 j := fun _ => rfl
          exact J42_0 (p16_1) (p16_2) (p16_3) (p16_0) h16_0 (gh_16_0) (by omega) (by omega) (by omega) (by omega) (by omega) (by omega) (by omega) (by omega) (by omega) (by omega) (by omega) (by omega) (by omega) (by omega) (by omega) (by omega) (by omega) (by omega) (by omega) (by omega) (by omega) (by omega) (by omega) (by omega) (by omega) (by omega) (by omega) (by omega) (by omega) (by omega) (by omega) (c151_63_16_0.trans (by omega)) n_Mw_16_0 n_Mw3_16_0 n_Rws_16_0 (by first | exact o9_16_0.tr (Ot9_e j162 j163) | exact o9_42_0.tr (Ot9_e j162 j163) | exact o9_106_0.tr (Ot9_e j162 j163) | exact o9_141_0.tr (Ot9_e j162 j163) | exact o9_167_0.tr (Ot9_e j162 j163) | exact o9_195_0.tr (Ot9_e j162 j163) | exact o92.tr (Ot9_e j162 j163) | exact o92 | exact o4.tr (Ot9_e j162 j163) | assumption | omega) (by first | exact wo92 | exact wo6_42_0 | exact wo6_16_0 | exact wo6_106_0 | exact wo4 | assumption | omega)
  refine w_aload_n gz_245_0 rfl ?_
  refine w_iconst gz_245_1 (by decide) ?_
  refine w_bipush gz_245_2 (by decide) ?_
  refine w_inv (k := 1) (as := [(0, 6), (0, 0)]) (r := []) (x := 151) (ls0 := [(2, 151), (0, 0), (0, 6), (9, 0)]) gz_245_4 gm_152 rfl is_151 rd_10 rfl rfl rfl rfl rfl (c_Model_copies5 (d := (d + 7)) (x1 := 0) (x2 := 6) (by omega) (by omega) (by omega) (by omega) n_Rws (fun h75 frh75 xp76 xp77 Rws_h75t78 => ?_))
  have gh75 : my_fr [(10, 27), (10, 32), (10, 33), (10, 37), (10, 46), (10, 48), (10, 62), (10, 63), (10, 64), (10, 65), (61, -1), (62, -1), (73, -1), (74, -1), (75, -1), (76, -1), (77, -1), (78, -1), (79, -1), (80, -1), (81, -1), (82, -1), (83, -1), (84, -1), (85, -1), (86, -1), (88, -1), (89, -1), (90, -1), (91, -1), (92, -1), (93, -1), (94, -1)] h h75 := my_fr.tr my_fr.rf (frh75.mo rfl)
  have Mw_h75 : Mw h75 := Mw_ag (my_ag.fr frh75 rfl) n_Mw
  have Mw3_h75 : Mw3 h75 := Mw3_ag (my_ag.fr frh75 rfl) n_Mw3
  show wp l rho (d + 8) 245 7 [(2, 151), (0, x1), (0, x2), (0, x3), (9, 0), (9, 0), (9, 0), (9, 0)] [] h75 Q
  have o4 : Ot9 h h75 := Ot9_Cp xp76 xp77 (Or.inr (Or.inl rfl))
  have wo4 : zqWo (zqMA h) (zqMS h75 6) := zqWo_c (Cp_ag5 (h := h) xp76 xp77 (fun _ => rfl) (fun _ => rfl)) (fun u a b => (T0.2.2.2 u a (by omega)).2) (fun p a b => T0.2.2.1 p a (by omega)) hwo
  refine w_iconst gz_245_7 (by decide) ?_
  refine w_istore (ls' := [(2, 151), (0, x1), (0, x2), (0, x3), (0, 0), (9, 0), (9, 0), (9, 0)]) gz_245_8 gm_245 rfl rfl rfl ?_
  refine w_iconst gz_245_10 (by decide) ?_
  refine w_istore (ls' := [(2, 151), (0, x1), (0, x2), (0, x3), (0, 0), (0, 0), (9, 0), (9, 0)]) gz_245_11 gm_245 rfl rfl rfl ?_
  refine w_iconst gz_245_13 (by decide) ?_
  refine w_istore (ls' := [(2, 151), (0, x1), (0, x2), (0, x3), (0, 0), (0, 0), (0, 0), (9, 0)]) gz_245_14 gm_245 rfl rfl rfl ?_
  have ce79 : h75 151 63 = k151_63 := ((my_fr.at frh75 is_151 rfl).trans ek151_63.symm)
  have j162 : ∀ j : Int, h75 162 j = h75 162 j := fun j => rfl
  have j163 : ∀ j : Int, h75 163 j = h75 163 j := fun j => rfl
  exact J16_0 4 (x1) (0) (0) (0) h75 (gh75) (by omega) (by omega) (by omega) (by omega) (by omega) (by omega) (by omega) (by omega) (by omega) (by omega) (by omega) (by omega) (by omega) (((my_fr.at frh75 is_151 rfl).trans ek151_63.symm).trans (by omega)) Mw_h75 Mw3_h75 Rws_h75t78 (by first | assumption | omega | (subst_vars; omega) | omega) (by first | exact o9_16_0.tr (Ot9_e j162 j163) | exact o9_42_0.tr (Ot9_e j162 j163) | exact o9_106_0.tr (Ot9_e j162 j163) | exact o9_141_0.tr (Ot9_e j162 j163) | exact o9_167_0.tr (Ot9_e j162 j163) | exact o9_195_0.tr (Ot9_e j162 j163) | exact o92.tr (Ot9_e j162 j163) | exact o92 | exact o4.tr (Ot9_e j162 j163) | assumption | omega) (by first | exact wo92 | exact wo6_42_0 | exact wo6_16_0 | exact wo6_106_0 | exact wo4 | assumption | omega) (by omega)
set_option maxHeartbeats 8000000 in
theorem c_Reader_read7 {l : Launch} {rho : Nat → Int32} {d : Nat} {h : my_H} {Q : my_H → my_V → Prop} {x1 : Int} {wv : Int} (a1 : 0 ≤ x1) (b1 : x1 ≤ 5) (hwv : wv ≤ 5) (hwv0 : 0 ≤ wv) (n_Ln : Ln h) (n_Un : Un h wv) (hwx : wv = x1) (hla : LwA h) (k0 : ∀ (h' : my_H) (y : Int), my_fr [(4, 0), (4, 1), (4, 2), (4, 3), (4, 4), (4, 5), (4, 6), (4, 7), (4, 8), (4, 9), (5, 2), (5, 4), (5, 5), (5, 6), (5, 7), (5, 8), (5, 9), (22, -1), (32, -1), (33, -1), (34, -1), (35, -1), (36, -1), (37, -1), (38, -1), (39, -1)] h h' → 1 ≤ y → y ≤ 16005 → h' 82 4 = 0 → 1 ≤ h' 82 9 → h' 82 9 ≤ 16005 → rdF h x1 y → Lo h h' → LoZ h h' → Ln h' → Q h' (0, y)) (k1 : ∀ (h' : my_H), my_fr [(4, 0), (4, 1), (4, 2), (4, 3), (4, 4), (4, 5), (4, 6), (4, 7), (4, 8), (4, 9), (5, 2), (5, 4), (5, 5), (5, 6), (5, 7), (5, 8), (5, 9), (22, -1), (32, -1), (33, -1), (34, -1), (35, -1), (36, -1), (37, -1), (38, -1), (39, -1)] h h' → h' 82 4 = 0 → h' 82 9 = 0 → (∃ c b o : Int, readR (cs h) (h 2) (cT h) (cW h) (cB h) x1 (tS (tp_of h) 0) 0 c b o ∧ NewL h h' x1 c b o) → NwP h h' x1 ∧ LoN h h' x1 ∧ LwA h' → Ln h' → Q h' (0, 0)) : wp l rho (d + 8) 36 0 [(2, 82), (0, x1), (9, 0)] [] h Q := by
  refine v_know (x := 82) (j := 4) (b := 4) rfl is_82 rd_5 rfl (fun k82_4 ek82_4 pk82_4 qk82_4 => ?_)
  refine v_knowA (x := 2) is_2 rd_25 (fun kC2 => ?_)
  have J21_0 : ∀ (n : Nat) (p21_0 p21_1 : Int) (h21_0 : my_H), my_fr [(4, 0), (4, 1), (4, 2), (4, 3), (4, 4), (4, 5), (4, 6), (4, 7), (4, 8), (4, 9), (5, 2), (5, 4), (5, 5), (5, 6), (5, 7), (5, 8), (5, 9), (22, -1), (32, -1), (33, -1), (34, -1), (35, -1), (36, -1), (37, -1), (38, -1), (39, -1)] h h21_0 → 0 ≤ p21_0 → p21_0 ≤ 1001 → 0 ≤ p21_1 → p21_1 ≤ 16005 → h21_0 82 4 = k82_4 → h21_0 82 9 = p21_1 → Ln h21_0 → Un h21_0 wv → Lo h h21_0 → LoZ h h21_0 → (h21_0 82 9 = 0 → Sp h21_0 wv) → Al h21_0 → Cu h21_0 → h21_0 82 4 = h 82 4 → h21_0 82 2 = h 82 2 → (h21_0 82 9 = 0 → rdI h h21_0 x1) → (h21_0 82 9 ≠ 0 → rdF h x1 (h21_0 82 9)) → (h21_0 82 9 = 0 → p21_0 ≤ h21_0 82 7) → (h21_0 82 9 = 0 → RdS h h21_0 x1) → 1002 - p21_0 ≤ (n : Int) → wp l rho (d + 8) 36 21 [(2, 82), (0, x1), (0, p21_0)] [] h21_0 Q := by
    intro n
    induction n with
    | zero => intro p21_0 p21_1 h21_0 gh_21_0 q0_21_0 q1_21_0 q2_21_0 q3_21_0 c82_4_21_0 c82_9_21_0 n_Ln_21_0 n_Un_21_0 n_Lo_21_0 n_LoZ_21_0 sp_21_0 al_21_0 cu_21_0 n4_21_0 e2_21_0 ok_21_0 no_21_0 pl_21_0 rs_21_0 hm_21_0; exfalso; omega
    | succ n ih_21_0 =>
      intro p21_0 p21_1 h21_0 gh_21_0 q0_21_0 q1_21_0 q2_21_0 q3_21_0 c82_4_21_0 c82_9_21_0 n_Ln_21_0 n_Un_21_0 n_Lo_21_0 n_LoZ_21_0 sp_21_0 al_21_0 cu_21_0 n4_21_0 e2_21_0 ok_21_0 no_21_0 pl_21_0 rs_21_0 hm_21_0
      have Al_h21_0t1 : Al h21_0 := al_21_0
      have Cu_h21_0t2 : Cu h21_0 := cu_21_0
      have te : cs h21_0 = cs h := cs_eq (fun j => my_fr.at gh_21_0 is_92 rfl) n4_21_0
      have tp2 : tp_of h21_0 = tp_of h := tp_eq (fun j => my_fr.at gh_21_0 is_92 rfl) n4_21_0
      have vd : Vd (tp_of h) (h21_0 82 7) := by rw [← tp2]; exact Cu_vd cu_21_0
      have t2 : h21_0 2 = h 2 := funext (fun j => my_fr.at gh_21_0 is_2 rfl)
      have ck := Cu_s cu_21_0
      rw [te] at ck
      have cb := (cu_21_0).1.2.1
      refine w_iload_n gz_36_21 rfl ?_
      refine w_sipush gz_36_22 (by decide) ?_
      refine w_icgt (t := 52) gz_36_25 rfl (fun u3 => ?_) (fun u3 => ?_)
      ·
        refine w_aload_n gz_36_52 rfl ?_
        refine w_iconst gz_36_53 (by decide) ?_
        refine v_putI (j := 4) gz_36_54 rfl is_82 rd_5 rfl (by omega) (by omega) rfl (fun h4 fh4 => ?_)
        have gh4 : my_fr [(4, 0), (4, 1), (4, 2), (4, 3), (4, 4), (4, 5), (4, 6), (4, 7), (4, 8), (4, 9), (5, 2), (5, 4), (5, 5), (5, 6), (5, 7), (5, 8), (5, 9), (22, -1), (32, -1), (33, -1), (34, -1), (35, -1), (36, -1), (37, -1), (38, -1), (39, -1)] h h4 := my_fr.up gh_21_0 is_82 fh4 rfl
        have Ln_h4 : Ln h4 := Ln_ag (my_ag.up fh4 is_82 rfl) n_Ln_21_0
        have Un_h4 : Un h4 wv := Un_ag (my_ag.up fh4 is_82 rfl) n_Ln_21_0 n_Un_21_0
        have Lo_h4 : Lo h h4 := Lo_ag (my_ag.up fh4 is_82 rfl) n_Ln_21_0 n_Lo_21_0
        have LoZ_h4 : LoZ h h4 := LoZ_ag (my_ag.up fh4 is_82 rfl) n_Ln_21_0 n_LoZ_21_0
        refine w_aload_n gz_36_57 rfl ?_
        refine v_getI (j := 9) gz_36_58 rfl is_82 rd_5 rfl (fun v5 ev5 pv5 qv5 => ?_)
        have zv5 := ev5.trans ((my_up_fld fh4 (by decide)).trans c82_9_21_0)
        refine w_ifne (t := 94) gz_36_61 rfl (fun u6 => ?_) (fun u6 => ?_)
        ·
          refine w_aload_n gz_36_94 rfl ?_
          refine v_getI (j := 9) gz_36_95 rfl is_82 rd_5 rfl (fun v7 ev7 pv7 qv7 => ?_)
          have zv7 := ev7.trans ev5.symm
          have psR : h4 82 7 = h21_0 82 7 := ((my_up_fld fh4 (by decide)).trans (rfl : h21_0 82 7 = h21_0 82 7))
          have c8 := (my_up_self fh4)
          have c9 := ev7.symm
          exact w_iret gz_36_98 gm_36 (k0 h4 (v7) (gh4) (by omega) (by omega) (by omega) (by omega) (by omega) (by first | exact LoZ_h4 | exact NwP_mk4 no_such_saying (rs_21_0 (by omega)) (by omega) LoZA LnA n_Ln Ln_h4 (by rw [← hwx]; exact n_Un) hla (by omega) (by omega) (by first | assumption | omega) (by omega) no_such_saying no_such_saying fh4 (fun j => my_fr.at gh4 is_2 rfl) | exact Lo_h4 | (have q := no_21_0 (by omega); rw [show v7 = h21_0 82 9 by omega]; exact q) | exact ⟨_, _, _, rdz_e (ok_21_0 (by omega)) (by omega), NewL_swap LoA LnA (by first | assumption | omega) (by omega) (by omega) no_such_saying no_such_saying fh4 (by rw [sS]; exact gA 4) (by rw [sS]; exact gA 3) (by rw [sS]; exact gA 1)⟩ | omega) (by first | exact LoZ_h4 | exact NwP_mk4 no_such_saying (rs_21_0 (by omega)) (by omega) LoZA LnA n_Ln Ln_h4 (by rw [← hwx]; exact n_Un) hla (by omega) (by omega) (by first | assumption | omega) (by omega) no_such_saying no_such_saying fh4 (fun j => my_fr.at gh4 is_2 rfl) | exact Lo_h4 | (have q := no_21_0 (by omega); rw [show v7 = h21_0 82 9 by omega]; exact q) | exact ⟨_, _, _, rdz_e (ok_21_0 (by omega)) (by omega), NewL_swap LoA LnA (by first | assumption | omega) (by omega) (by omega) no_such_saying no_such_saying fh4 (by rw [sS]; exact gA 4) (by rw [sS]; exact gA 3) (by rw [sS]; exact gA 1)⟩ | omega) (by first | exact LoZ_h4 | exact NwP_mk4 no_such_saying (rs_21_0 (by omega)) (by omega) LoZA LnA n_Ln Ln_h4 (by rw [← hwx]; exact n_Un) hla (by omega) (by omega) (by first | assumption | omega) (by omega) no_such_saying no_such_saying fh4 (fun j => my_fr.at gh4 is_2 rfl) | exact Lo_h4 | (have q := no_21_0 (by omega); rw [show v7 = h21_0 82 9 by omega]; exact q) | exact ⟨_, _, _, rdz_e (ok_21_0 (by omega)) (by omega), NewL_swap LoA LnA (by first | assumption | omega) (by omega) (by omega) no_such_saying no_such_saying fh4 (by rw [sS]; exact gA 4) (by rw [sS]; exact gA 3) (by rw [sS]; exact gA 1)⟩ | omega) Ln_h4)
        ·
          have Sp_h4t10 : Sp h4 wv := Sp_ag (my_ag.up fh4 is_82 rfl) hwv n_Ln_21_0 (sp_21_0 (by omega))
          refine w_aload_n gz_36_64 rfl ?_
          refine w_getX (v := 27) gz_36_65 is_82 rd_5 rfl (by decide) rfl ?_
          refine w_iload_n gz_36_68 rfl ?_
          refine w_aald gz_36_69 is_27 rd_22 rfl (by omega) (by omega) (fun v12 ev12 tv12 => ?_)
          refine w_astore_n (ls' := [(2, 82), (0, x1), (2, v12)]) gz_36_70 gm_36 rfl rfl rfl ?_
          have LnA := Ln_h4
          have SpA := Sp_h4t10
          have UnA := Un_h4
          have LoA := Lo_h4
          have gA : ∀ f : Int, h4 (h 82 2) f = h21_0 (h 82 2) f := fun f => by
            have hf := ln_far n_Ln_21_0.2.2.2.1
            rw [e2_21_0] at hf
            exact my_up_ne fh4 (by omega)
          have ce13 : h4 82 2 = h21_0 82 2 := ((my_up_fld fh4 (by decide)).trans (rfl : h21_0 82 2 = h21_0 82 2))
          have LoZA := LoZ_h4
          refine w_aload_n gz_36_71 rfl ?_
          refine v_getR (j := 2) gz_36_72 rfl is_82 rd_5 rfl (fun v14 ev14 tv14 => ?_)
          have sS : v14 = h 82 2 := by first | assumption | omega
          refine w_iconst gz_36_75 (by decide) ?_
          refine v_putB (j := 0) gz_36_76 rfl tv14 rd_4 rfl (by omega) (by omega) rfl (fun h15 fh15 => ?_)
          have gh15 : my_fr [(4, 0), (4, 1), (4, 2), (4, 3), (4, 4), (4, 5), (4, 6), (4, 7), (4, 8), (4, 9), (5, 2), (5, 4), (5, 5), (5, 6), (5, 7), (5, 8), (5, 9), (22, -1), (32, -1), (33, -1), (34, -1), (35, -1), (36, -1), (37, -1), (38, -1), (39, -1)] h h15 := my_fr.up gh4 tv14 fh15 rfl
          refine w_aload_n gz_36_79 rfl ?_
          refine w_getX (v := 27) gz_36_80 is_82 rd_5 rfl (by decide) rfl ?_
          refine w_iload_n gz_36_83 rfl ?_
          refine w_aload_n gz_36_84 rfl ?_
          refine v_getR (j := 2) gz_36_85 rfl is_82 rd_5 rfl (fun v17 ev17 tv17 => ?_)
          have zv17 : v14 = v17 := (ev17.trans ((my_up_role fh15 is_82 tv14 rfl).trans ev14.symm)).symm
          subst zv17
          refine w_aast gz_36_88 is_27 rd_22 rfl tv14 rd_4 rfl (by omega) (by omega) (fun h18 fh18 => ?_)
          have gh18 : my_fr [(4, 0), (4, 1), (4, 2), (4, 3), (4, 4), (4, 5), (4, 6), (4, 7), (4, 8), (4, 9), (5, 2), (5, 4), (5, 5), (5, 6), (5, 7), (5, 8), (5, 9), (22, -1), (32, -1), (33, -1), (34, -1), (35, -1), (36, -1), (37, -1), (38, -1), (39, -1)] h h18 := my_fr.up gh15 is_27 fh18 rfl
          refine w_aload_n gz_36_89 rfl ?_
          refine w_aload_n gz_36_90 rfl ?_
          refine v_putR (j := 2) gz_36_91 rfl is_82 rd_5 rfl tv12 rfl (fun h19 fh19 => ?_)
          have gh19 : my_fr [(4, 0), (4, 1), (4, 2), (4, 3), (4, 4), (4, 5), (4, 6), (4, 7), (4, 8), (4, 9), (5, 2), (5, 4), (5, 5), (5, 6), (5, 7), (5, 8), (5, 9), (22, -1), (32, -1), (33, -1), (34, -1), (35, -1), (36, -1), (37, -1), (38, -1), (39, -1)] h h19 := my_fr.up gh18 is_82 fh19 rfl
          have Ln_h19t20 : Ln h19 := Ln_swap LnA SpA (by omega) (by omega) (by have q := UnA; unfold Un at q; exact q) (by first | assumption | omega) (by first | assumption | omega | grind) fh15 (by rw [hwx]; exact fh18) fh19
          refine w_aload_n gz_36_94 rfl ?_
          refine v_getI (j := 9) gz_36_95 rfl is_82 rd_5 rfl (fun v21 ev21 pv21 qv21 => ?_)
          have zv21 := ev21.trans ((my_up_fld fh19 (by decide)).trans ((my_up_role fh18 is_82 is_27 rfl).trans ((my_up_role fh15 is_82 tv14 rfl).trans ev5.symm)))
          have psR : h19 82 7 = h21_0 82 7 := ((my_up_fld fh19 (by decide)).trans ((my_up_role fh18 is_82 is_27 rfl).trans ((my_up_role fh15 is_82 tv14 rfl).trans ((my_up_fld fh4 (by decide)).trans (rfl : h21_0 82 7 = h21_0 82 7)))))
          have c22 := ((my_up_fld fh19 (by decide)).trans ((my_up_role fh18 is_82 is_27 rfl).trans ((my_up_role fh15 is_82 tv14 rfl).trans (my_up_self fh4))))
          have c23 := ev21.symm
          rw [show (v21 : Int) = 0 from by omega]
          exact w_iret gz_36_98 gm_36 (k1 h19 (gh19) (by omega) (by omega) (by first | exact no_such_saying | exact NwP_mk4 fh4 (rs_21_0 (by omega)) (by omega) LoZA LnA n_Ln Ln_h19t20 (by rw [← hwx]; exact n_Un) hla (by omega) (by omega) (by first | assumption | omega) (by omega) fh15 fh18 fh19 (fun j => my_fr.at gh19 is_2 rfl) | exact no_such_saying | (have q := no_21_0 (by omega); rw [show v21 = h21_0 82 9 by omega]; exact q) | exact ⟨_, _, _, rdz_e (ok_21_0 (by omega)) (by omega), NewL_swap LoA LnA (by first | assumption | omega) (by omega) (by omega) fh15 fh18 fh19 (by rw [sS]; exact gA 4) (by rw [sS]; exact gA 3) (by rw [sS]; exact gA 1)⟩ | omega) (by first | exact no_such_saying | exact NwP_mk4 fh4 (rs_21_0 (by omega)) (by omega) LoZA LnA n_Ln Ln_h19t20 (by rw [← hwx]; exact n_Un) hla (by omega) (by omega) (by first | assumption | omega) (by omega) fh15 fh18 fh19 (fun j => my_fr.at gh19 is_2 rfl) | exact no_such_saying | (have q := no_21_0 (by omega); rw [show v21 = h21_0 82 9 by omega]; exact q) | exact ⟨_, _, _, rdz_e (ok_21_0 (by omega)) (by omega), NewL_swap LoA LnA (by first | assumption | omega) (by omega) (by omega) fh15 fh18 fh19 (by rw [sS]; exact gA 4) (by rw [sS]; exact gA 3) (by rw [sS]; exact gA 1)⟩ | omega) Ln_h19t20)
      ·
        refine w_aload_n gz_36_28 rfl ?_
        refine v_getI (j := 9) gz_36_29 rfl is_82 rd_5 rfl (fun v24 ev24 pv24 qv24 => ?_)
        have zv24 := ev24.trans c82_9_21_0
        refine w_ifne (t := 52) gz_36_32 rfl (fun u25 => ?_) (fun u25 => ?_)
        ·
          refine w_aload_n gz_36_52 rfl ?_
          refine w_iconst gz_36_53 (by decide) ?_
          refine v_putI (j := 4) gz_36_54 rfl is_82 rd_5 rfl (by omega) (by omega) rfl (fun h26 fh26 => ?_)
          have gh26 : my_fr [(4, 0), (4, 1), (4, 2), (4, 3), (4, 4), (4, 5), (4, 6), (4, 7), (4, 8), (4, 9), (5, 2), (5, 4), (5, 5), (5, 6), (5, 7), (5, 8), (5, 9), (22, -1), (32, -1), (33, -1), (34, -1), (35, -1), (36, -1), (37, -1), (38, -1), (39, -1)] h h26 := my_fr.up gh_21_0 is_82 fh26 rfl
          have Ln_h26 : Ln h26 := Ln_ag (my_ag.up fh26 is_82 rfl) n_Ln_21_0
          have Un_h26 : Un h26 wv := Un_ag (my_ag.up fh26 is_82 rfl) n_Ln_21_0 n_Un_21_0
          have Lo_h26 : Lo h h26 := Lo_ag (my_ag.up fh26 is_82 rfl) n_Ln_21_0 n_Lo_21_0
          have LoZ_h26 : LoZ h h26 := LoZ_ag (my_ag.up fh26 is_82 rfl) n_Ln_21_0 n_LoZ_21_0
          refine w_aload_n gz_36_57 rfl ?_
          refine v_getI (j := 9) gz_36_58 rfl is_82 rd_5 rfl (fun v27 ev27 pv27 qv27 => ?_)
          have zv27 := ev27.trans ((my_up_fld fh26 (by decide)).trans ev24.symm)
          refine w_ifne (t := 94) gz_36_61 rfl (fun u28 => ?_) (fun u28 => by exfalso; omega)
          refine w_aload_n gz_36_94 rfl ?_
          refine v_getI (j := 9) gz_36_95 rfl is_82 rd_5 rfl (fun v29 ev29 pv29 qv29 => ?_)
          have zv29 := ev29.trans ev27.symm
          have psR : h26 82 7 = h21_0 82 7 := ((my_up_fld fh26 (by decide)).trans (rfl : h21_0 82 7 = h21_0 82 7))
          have c30 := (my_up_self fh26)
          have c31 := ev29.symm
          exact w_iret gz_36_98 gm_36 (k0 h26 (v29) (gh26) (by omega) (by omega) (by omega) (by omega) (by omega) (by first | exact LoZ_h26 | exact NwP_mk4 no_such_saying (rs_21_0 (by omega)) (by omega) LoZA LnA n_Ln Ln_h26 (by rw [← hwx]; exact n_Un) hla (by omega) (by omega) (by first | assumption | omega) (by omega) no_such_saying no_such_saying fh26 (fun j => my_fr.at gh26 is_2 rfl) | exact Lo_h26 | (have q := no_21_0 (by omega); rw [show v29 = h21_0 82 9 by omega]; exact q) | exact ⟨_, _, _, rdz_e (ok_21_0 (by omega)) (by omega), NewL_swap LoA LnA (by first | assumption | omega) (by omega) (by omega) no_such_saying no_such_saying fh26 (by rw [sS]; exact gA 4) (by rw [sS]; exact gA 3) (by rw [sS]; exact gA 1)⟩ | omega) (by first | exact LoZ_h26 | exact NwP_mk4 no_such_saying (rs_21_0 (by omega)) (by omega) LoZA LnA n_Ln Ln_h26 (by rw [← hwx]; exact n_Un) hla (by omega) (by omega) (by first | assumption | omega) (by omega) no_such_saying no_such_saying fh26 (fun j => my_fr.at gh26 is_2 rfl) | exact Lo_h26 | (have q := no_21_0 (by omega); rw [show v29 = h21_0 82 9 by omega]; exact q) | exact ⟨_, _, _, rdz_e (ok_21_0 (by omega)) (by omega), NewL_swap LoA LnA (by first | assumption | omega) (by omega) (by omega) no_such_saying no_such_saying fh26 (by rw [sS]; exact gA 4) (by rw [sS]; exact gA 3) (by rw [sS]; exact gA 1)⟩ | omega) (by first | exact LoZ_h26 | exact NwP_mk4 no_such_saying (rs_21_0 (by omega)) (by omega) LoZA LnA n_Ln Ln_h26 (by rw [← hwx]; exact n_Un) hla (by omega) (by omega) (by first | assumption | omega) (by omega) no_such_saying no_such_saying fh26 (fun j => my_fr.at gh26 is_2 rfl) | exact Lo_h26 | (have q := no_21_0 (by omega); rw [show v29 = h21_0 82 9 by omega]; exact q) | exact ⟨_, _, _, rdz_e (ok_21_0 (by omega)) (by omega), NewL_swap LoA LnA (by first | assumption | omega) (by omega) (by omega) no_such_saying no_such_saying fh26 (by rw [sS]; exact gA 4) (by rw [sS]; exact gA 3) (by rw [sS]; exact gA 1)⟩ | omega) Ln_h26)
        ·
          refine w_aload_n gz_36_35 rfl ?_
          refine v_getI (j := 6) gz_36_36 rfl is_82 rd_5 rfl (fun v32 ev32 pv32 qv32 => ?_)
          refine w_ifeq (t := 52) gz_36_39 rfl (fun u33 => ?_) (fun u33 => ?_)
          ·
            refine w_aload_n gz_36_52 rfl ?_
            refine w_iconst gz_36_53 (by decide) ?_
            refine v_putI (j := 4) gz_36_54 rfl is_82 rd_5 rfl (by omega) (by omega) rfl (fun h34 fh34 => ?_)
            have gh34 : my_fr [(4, 0), (4, 1), (4, 2), (4, 3), (4, 4), (4, 5), (4, 6), (4, 7), (4, 8), (4, 9), (5, 2), (5, 4), (5, 5), (5, 6), (5, 7), (5, 8), (5, 9), (22, -1), (32, -1), (33, -1), (34, -1), (35, -1), (36, -1), (37, -1), (38, -1), (39, -1)] h h34 := my_fr.up gh_21_0 is_82 fh34 rfl
            have Ln_h34 : Ln h34 := Ln_ag (my_ag.up fh34 is_82 rfl) n_Ln_21_0
            have Un_h34 : Un h34 wv := Un_ag (my_ag.up fh34 is_82 rfl) n_Ln_21_0 n_Un_21_0
            have Lo_h34 : Lo h h34 := Lo_ag (my_ag.up fh34 is_82 rfl) n_Ln_21_0 n_Lo_21_0
            have LoZ_h34 : LoZ h h34 := LoZ_ag (my_ag.up fh34 is_82 rfl) n_Ln_21_0 n_LoZ_21_0
            refine w_aload_n gz_36_57 rfl ?_
            refine v_getI (j := 9) gz_36_58 rfl is_82 rd_5 rfl (fun v35 ev35 pv35 qv35 => ?_)
            have zv35 := ev35.trans ((my_up_fld fh34 (by decide)).trans ev24.symm)
            refine w_ifne (t := 94) gz_36_61 rfl (fun u36 => by exfalso; omega) (fun u36 => ?_)
            have Sp_h34t37 : Sp h34 wv := Sp_ag (my_ag.up fh34 is_82 rfl) hwv n_Ln_21_0 (sp_21_0 (by omega))
            refine w_aload_n gz_36_64 rfl ?_
            refine w_getX (v := 27) gz_36_65 is_82 rd_5 rfl (by decide) rfl ?_
            refine w_iload_n gz_36_68 rfl ?_
            refine w_aald gz_36_69 is_27 rd_22 rfl (by omega) (by omega) (fun v39 ev39 tv39 => ?_)
            refine w_astore_n (ls' := [(2, 82), (0, x1), (2, v39)]) gz_36_70 gm_36 rfl rfl rfl ?_
            have LnA := Ln_h34
            have SpA := Sp_h34t37
            have UnA := Un_h34
            have LoA := Lo_h34
            have gA : ∀ f : Int, h34 (h 82 2) f = h21_0 (h 82 2) f := fun f => by
              have hf := ln_far n_Ln_21_0.2.2.2.1
              rw [e2_21_0] at hf
              exact my_up_ne fh34 (by omega)
            have ce40 : h34 82 2 = h21_0 82 2 := ((my_up_fld fh34 (by decide)).trans (rfl : h21_0 82 2 = h21_0 82 2))
            have LoZA := LoZ_h34
            refine w_aload_n gz_36_71 rfl ?_
            refine v_getR (j := 2) gz_36_72 rfl is_82 rd_5 rfl (fun v41 ev41 tv41 => ?_)
            have sS : v41 = h 82 2 := by first | assumption | omega
            refine w_iconst gz_36_75 (by decide) ?_
            refine v_putB (j := 0) gz_36_76 rfl tv41 rd_4 rfl (by omega) (by omega) rfl (fun h42 fh42 => ?_)
            have gh42 : my_fr [(4, 0), (4, 1), (4, 2), (4, 3), (4, 4), (4, 5), (4, 6), (4, 7), (4, 8), (4, 9), (5, 2), (5, 4), (5, 5), (5, 6), (5, 7), (5, 8), (5, 9), (22, -1), (32, -1), (33, -1), (34, -1), (35, -1), (36, -1), (37, -1), (38, -1), (39, -1)] h h42 := my_fr.up gh34 tv41 fh42 rfl
            refine w_aload_n gz_36_79 rfl ?_
            refine w_getX (v := 27) gz_36_80 is_82 rd_5 rfl (by decide) rfl ?_
            refine w_iload_n gz_36_83 rfl ?_
            refine w_aload_n gz_36_84 rfl ?_
            refine v_getR (j := 2) gz_36_85 rfl is_82 rd_5 rfl (fun v44 ev44 tv44 => ?_)
            have zv44 : v41 = v44 := (ev44.trans ((my_up_role fh42 is_82 tv41 rfl).trans ev41.symm)).symm
            subst zv44
            refine w_aast gz_36_88 is_27 rd_22 rfl tv41 rd_4 rfl (by omega) (by omega) (fun h45 fh45 => ?_)
            have gh45 : my_fr [(4, 0), (4, 1), (4, 2), (4, 3), (4, 4), (4, 5), (4, 6), (4, 7), (4, 8), (4, 9), (5, 2), (5, 4), (5, 5), (5, 6), (5, 7), (5, 8), (5, 9), (22, -1), (32, -1), (33, -1), (34, -1), (35, -1), (36, -1), (37, -1), (38, -1), (39, -1)] h h45 := my_fr.up gh42 is_27 fh45 rfl
            refine w_aload_n gz_36_89 rfl ?_
            refine w_aload_n gz_36_90 rfl ?_
            refine v_putR (j := 2) gz_36_91 rfl is_82 rd_5 rfl tv39 rfl (fun h46 fh46 => ?_)
            have gh46 : my_fr [(4, 0), (4, 1), (4, 2), (4, 3), (4, 4), (4, 5), (4, 6), (4, 7), (4, 8), (4, 9), (5, 2), (5, 4), (5, 5), (5, 6), (5, 7), (5, 8), (5, 9), (22, -1), (32, -1), (33, -1), (34, -1), (35, -1), (36, -1), (37, -1), (38, -1), (39, -1)] h h46 := my_fr.up gh45 is_82 fh46 rfl
            have Ln_h46t47 : Ln h46 := Ln_swap LnA SpA (by omega) (by omega) (by have q := UnA; unfold Un at q; exact q) (by first | assumption | omega) (by first | assumption | omega | grind) fh42 (by rw [hwx]; exact fh45) fh46
            refine w_aload_n gz_36_94 rfl ?_
            refine v_getI (j := 9) gz_36_95 rfl is_82 rd_5 rfl (fun v48 ev48 pv48 qv48 => ?_)
            have zv48 := ev48.trans ((my_up_fld fh46 (by decide)).trans ((my_up_role fh45 is_82 is_27 rfl).trans ((my_up_role fh42 is_82 tv41 rfl).trans ev35.symm)))
            have psR : h46 82 7 = h21_0 82 7 := ((my_up_fld fh46 (by decide)).trans ((my_up_role fh45 is_82 is_27 rfl).trans ((my_up_role fh42 is_82 tv41 rfl).trans ((my_up_fld fh34 (by decide)).trans (rfl : h21_0 82 7 = h21_0 82 7)))))
            have c49 := ((my_up_fld fh46 (by decide)).trans ((my_up_role fh45 is_82 is_27 rfl).trans ((my_up_role fh42 is_82 tv41 rfl).trans (my_up_self fh34))))
            have c50 := ev48.symm
            rw [show (v48 : Int) = 0 from by omega]
            exact w_iret gz_36_98 gm_36 (k1 h46 (gh46) (by omega) (by omega) (by first | exact no_such_saying | exact NwP_mk4 fh34 (rs_21_0 (by omega)) (by omega) LoZA LnA n_Ln Ln_h46t47 (by rw [← hwx]; exact n_Un) hla (by omega) (by omega) (by first | assumption | omega) (by omega) fh42 fh45 fh46 (fun j => my_fr.at gh46 is_2 rfl) | exact no_such_saying | (have q := no_21_0 (by omega); rw [show v48 = h21_0 82 9 by omega]; exact q) | exact ⟨_, _, _, rdz_e (ok_21_0 (by omega)) (by omega), NewL_swap LoA LnA (by first | assumption | omega) (by omega) (by omega) fh42 fh45 fh46 (by rw [sS]; exact gA 4) (by rw [sS]; exact gA 3) (by rw [sS]; exact gA 1)⟩ | omega) (by first | exact no_such_saying | exact NwP_mk4 fh34 (rs_21_0 (by omega)) (by omega) LoZA LnA n_Ln Ln_h46t47 (by rw [← hwx]; exact n_Un) hla (by omega) (by omega) (by first | assumption | omega) (by omega) fh42 fh45 fh46 (fun j => my_fr.at gh46 is_2 rfl) | exact no_such_saying | (have q := no_21_0 (by omega); rw [show v48 = h21_0 82 9 by omega]; exact q) | exact ⟨_, _, _, rdz_e (ok_21_0 (by omega)) (by omega), NewL_swap LoA LnA (by first | assumption | omega) (by omega) (by omega) fh42 fh45 fh46 (by rw [sS]; exact gA 4) (by rw [sS]; exact gA 3) (by rw [sS]; exact gA 1)⟩ | omega) Ln_h46t47)
          ·
            have Sp_h21_0t51 : Sp h21_0 wv := sp_21_0 (by omega)
            refine w_aload_n gz_36_42 rfl ?_
            refine w_inv (k := 5) (as := []) (r := []) (x := 82) (ls0 := [(2, 82), (9, 0), (9, 0), (9, 0), (9, 0), (9, 0)]) gz_36_43 gm_49 rfl is_82 rd_5 rfl rfl rfl rfl rfl (c_Reader_readPane7_f0 (d := d)  (wv := wv) (ev24.symm.trans (by omega)) (by first | assumption | omega) (by first | assumption | omega) n_Ln_21_0 Sp_h21_0t51 Al_h21_0t1 Cu_h21_0t2 (fun h52 frh52 w53 w54 xp55 xp56 xp57 Ln_h52t58 Sp_h52t59 Al_h52t60 Cu_h52t61 => ?_) (fun h62 frh62 w63 xp64 xp65 xp66 xp67 xp68 Ln_h62t69 Sp_h62t70 Al_h62t71 Cu_h62t72 => ?_))
            ·
              have gh52 : my_fr [(4, 0), (4, 1), (4, 2), (4, 3), (4, 4), (4, 5), (4, 6), (4, 7), (4, 8), (4, 9), (5, 2), (5, 4), (5, 5), (5, 6), (5, 7), (5, 8), (5, 9), (22, -1), (32, -1), (33, -1), (34, -1), (35, -1), (36, -1), (37, -1), (38, -1), (39, -1)] h h52 := my_fr.tr gh_21_0 (frh52.mo rfl)
              have Un_h52 : Un h52 wv := Un_ag (my_ag.fr frh52 rfl) n_Ln_21_0 n_Un_21_0
              show wp l rho (d + 8) 36 46 [(2, 82), (0, x1), (0, p21_0)] [] h52 Q
              have pn := xp55
              rw [te, t2, e2_21_0] at pn
              have Lo_h52t73 : Lo h h52 := Lo_tr n_Lo_21_0 xp56
              have LoZ_h52t74 : LoZ h h52 := LoZ_tr n_LoZ_21_0 xp57
              refine w_iinc (ls' := [(2, 82), (0, x1), (0, (p21_0 + 1))]) gz_36_46 rfl gm_36 rfl rfl rfl ⟨by omega, by omega⟩ ?_
              refine w_goto (t := 21) gz_36_49 rfl ?_
              have psJ : h52 82 7 = h52 82 7 := (rfl : h52 82 7 = h52 82 7)
              have npsJ : cs h52 = cs h21_0 := cs_eq (fun j => ((my_fr.at frh52 is_92 rfl).trans (rfl : h21_0 92 j = h21_0 92 j))) (((my_fr.at frh52 is_82 rfl).trans (rfl : h21_0 82 4 = h21_0 82 4)))
              have ce75 : h52 82 2 = h21_0 82 2 := ((my_fr.at frh52 is_82 rfl).trans (rfl : h21_0 82 2 = h21_0 82 2))
              have ce76 : h52 82 4 = k82_4 := ((my_fr.at frh52 is_82 rfl).trans c82_4_21_0)
              exact ih_21_0 ((p21_0 + 1)) ((h52 82 9)) h52 (gh52) (by omega) (by omega) (by omega) (by omega) (((my_fr.at frh52 is_82 rfl).trans c82_4_21_0).trans (by omega)) ((rfl : h52 82 9 = h52 82 9).trans (by omega)) Ln_h52t58 Un_h52 Lo_h52t73 LoZ_h52t74 (by first | exact fun _ => Sp_h52t59 | (intro q; omega) | grind | omega) (Al_h52t60) (Cu_h52t61) (by omega) (by omega) (by first | exact (fun _ => rdz_0 ov (by omega) o9) | exact (fun _ => rdz_s (ok_21_0 (by omega)) (by omega) pn (by omega) pz.2.1 pz.2.2) | (intro q; exfalso; omega) | omega) (by first | exact (fun q => rdz_f ov q) | exact (fun q => rdz_x (ok_21_0 (by omega)) (by omega) pn q) | (intro q; exfalso; omega) | omega) (by first | omega | (intro q; omega) | omega) (by first | exact (fun _ => RdS_0 hla ov (by omega) o9 ov5 ec16 z2 p0 e2f ax9 n_Ln) | exact (fun _ => RdS_s (rs_21_0 (by omega)) (by omega) pn (by omega) pq5 te e2_21_0 t2 (by omega) (fun v a b => (kC2 v a (by omega)).2)) | (intro q; exfalso; omega) | assumption | omega) (by omega)
            ·
              have gh62 : my_fr [(4, 0), (4, 1), (4, 2), (4, 3), (4, 4), (4, 5), (4, 6), (4, 7), (4, 8), (4, 9), (5, 2), (5, 4), (5, 5), (5, 6), (5, 7), (5, 8), (5, 9), (22, -1), (32, -1), (33, -1), (34, -1), (35, -1), (36, -1), (37, -1), (38, -1), (39, -1)] h h62 := my_fr.tr gh_21_0 (frh62.mo rfl)
              have Un_h62 : Un h62 wv := Un_ag (my_ag.fr frh62 rfl) n_Ln_21_0 n_Un_21_0
              show wp l rho (d + 8) 36 46 [(2, 82), (0, x1), (0, p21_0)] [] h62 Q
              have pn := xp64
              rw [te, t2, e2_21_0] at pn
              have pz := xp65
              rw [e2_21_0] at pz
              have z0 : h62 82 9 = 0 := by omega
              have ad : h21_0 82 7 < h62 82 7 := pane_adv (h := h) vd (by have q := pn; rw [z0] at q; exact q)
              have Lo_h62t77 : Lo h h62 := Lo_tr n_Lo_21_0 xp66
              have pq5 := xp67
              refine v_know (x := h 82 2) (j := 4) (b := 4) rfl n_Ln.2.2.2.1 rd_4 rfl (fun kk4 ekk4 pkk4 qkk4 => ?_)
              have LoZ_h62t78 : LoZ h h62 := LoZ_tr n_LoZ_21_0 xp68
              refine w_iinc (ls' := [(2, 82), (0, x1), (0, (p21_0 + 1))]) gz_36_46 rfl gm_36 rfl rfl rfl ⟨by omega, by omega⟩ ?_
              refine w_goto (t := 21) gz_36_49 rfl ?_
              have psJ : h62 82 7 = h62 82 7 := (rfl : h62 82 7 = h62 82 7)
              have npsJ : cs h62 = cs h21_0 := cs_eq (fun j => ((my_fr.at frh62 is_92 rfl).trans (rfl : h21_0 92 j = h21_0 92 j))) (((my_fr.at frh62 is_82 rfl).trans (rfl : h21_0 82 4 = h21_0 82 4)))
              have ce79 : h62 82 2 = h21_0 82 2 := ((my_fr.at frh62 is_82 rfl).trans (rfl : h21_0 82 2 = h21_0 82 2))
              have ce80 : h62 82 4 = k82_4 := ((my_fr.at frh62 is_82 rfl).trans c82_4_21_0)
              exact ih_21_0 ((p21_0 + 1)) (0) h62 (gh62) (by omega) (by omega) (by omega) (by omega) (((my_fr.at frh62 is_82 rfl).trans c82_4_21_0).trans (by omega)) (w63.trans (by omega)) Ln_h62t69 Un_h62 Lo_h62t77 LoZ_h62t78 (by first | exact fun _ => Sp_h62t70 | (intro q; omega) | grind | omega) (Al_h62t71) (Cu_h62t72) (by omega) (by omega) (by first | exact (fun _ => rdz_0 ov (by omega) o9) | exact (fun _ => rdz_s (ok_21_0 (by omega)) (by omega) pn (by omega) pz.2.1 pz.2.2) | (intro q; exfalso; omega) | omega) (by first | exact (fun q => rdz_f ov q) | exact (fun q => rdz_x (ok_21_0 (by omega)) (by omega) pn q) | (intro q; exfalso; omega) | omega) (by first | omega | (intro q; omega) | omega) (by first | exact (fun _ => RdS_0 hla ov (by omega) o9 ov5 ec16 z2 p0 e2f ax9 n_Ln) | exact (fun _ => RdS_s (rs_21_0 (by omega)) (by omega) pn (by omega) pq5 te e2_21_0 t2 (by omega) (fun v a b => (kC2 v a (by omega)).2)) | (intro q; exfalso; omega) | assumption | omega) (by omega)
  refine w_aload_n gz_36_0 rfl ?_
  refine w_iconst gz_36_1 (by decide) ?_
  refine v_putI (j := 5) gz_36_2 rfl is_82 rd_5 rfl (by omega) (by omega) rfl (fun h81 fh81 => ?_)
  have gh81 : my_fr [(4, 0), (4, 1), (4, 2), (4, 3), (4, 4), (4, 5), (4, 6), (4, 7), (4, 8), (4, 9), (5, 2), (5, 4), (5, 5), (5, 6), (5, 7), (5, 8), (5, 9), (22, -1), (32, -1), (33, -1), (34, -1), (35, -1), (36, -1), (37, -1), (38, -1), (39, -1)] h h81 := my_fr.up my_fr.rf is_82 fh81 rfl
  have Ln_h81 : Ln h81 := Ln_ag (my_ag.up fh81 is_82 rfl) n_Ln
  have Un_h81 : Un h81 wv := Un_ag (my_ag.up fh81 is_82 rfl) n_Ln n_Un
  have Lo_h81 : Lo h h81 := Lo_ag (my_ag.up fh81 is_82 rfl) n_Ln (Lo_rf)
  have LoZ_h81 : LoZ h h81 := LoZ_ag (my_ag.up fh81 is_82 rfl) n_Ln (LoZ_rf)
  refine w_aload_n gz_36_5 rfl ?_
  refine w_iconst gz_36_6 (by decide) ?_
  refine v_putI (j := 9) gz_36_7 rfl is_82 rd_5 rfl (by omega) (by omega) rfl (fun h82 fh82 => ?_)
  have gh82 : my_fr [(4, 0), (4, 1), (4, 2), (4, 3), (4, 4), (4, 5), (4, 6), (4, 7), (4, 8), (4, 9), (5, 2), (5, 4), (5, 5), (5, 6), (5, 7), (5, 8), (5, 9), (22, -1), (32, -1), (33, -1), (34, -1), (35, -1), (36, -1), (37, -1), (38, -1), (39, -1)] h h82 := my_fr.up gh81 is_82 fh82 rfl
  have Ln_h82 : Ln h82 := Ln_ag (my_ag.up fh82 is_82 rfl) Ln_h81
  have Un_h82 : Un h82 wv := Un_ag (my_ag.up fh82 is_82 rfl) Ln_h81 Un_h81
  have Lo_h82 : Lo h h82 := Lo_ag (my_ag.up fh82 is_82 rfl) Ln_h81 Lo_h81
  have LoZ_h82 : LoZ h h82 := LoZ_ag (my_ag.up fh82 is_82 rfl) Ln_h81 LoZ_h81
  refine w_aload_n gz_36_10 rfl ?_
  have a92 : ∀ j : Int, h82 92 j = h 92 j := fun j => ((my_up_role fh82 is_92 is_82 rfl).trans ((my_up_role fh81 is_92 is_82 rfl).trans (rfl : h 92 j = h 92 j)))
  have ce83 : h82 82 4 = k82_4 := ((my_up_fld fh82 (by decide)).trans ((my_up_fld fh81 (by decide)).trans ek82_4.symm))
  have ce84 : h82 82 5 = 0 := ((my_up_fld fh82 (by decide)).trans (my_up_self fh81))
  have tpe : tp_of h82 = tp_of h := tp_eq a92 (by omega)
  have z5 : h82 82 5 = 0 := by omega
  have Al_h82t85 : Al h82 := by unfold Al; omega
  refine w_inv (k := 2) (as := []) (r := []) (x := 82) (ls0 := [(2, 82), (9, 0), (9, 0)]) gz_36_11 gm_37 rfl is_82 rd_5 rfl rfl rfl rfl rfl (c_Reader_nextToken9_f0 (d := (d + 6))  ((my_up_self fh82).trans (by omega)) Al_h82t85 (fun h86 frh86 w87 w88 w89 xp90 xp91 Al_h86t92 Cu_h86t93 => ?_))
  have gh86 : my_fr [(4, 0), (4, 1), (4, 2), (4, 3), (4, 4), (4, 5), (4, 6), (4, 7), (4, 8), (4, 9), (5, 2), (5, 4), (5, 5), (5, 6), (5, 7), (5, 8), (5, 9), (22, -1), (32, -1), (33, -1), (34, -1), (35, -1), (36, -1), (37, -1), (38, -1), (39, -1)] h h86 := my_fr.tr gh82 (frh86.mo rfl)
  have Ln_h86 : Ln h86 := Ln_ag (my_ag.fr frh86 rfl) Ln_h82
  have Un_h86 : Un h86 wv := Un_ag (my_ag.fr frh86 rfl) Ln_h82 Un_h82
  have Lo_h86 : Lo h h86 := Lo_ag (my_ag.fr frh86 rfl) Ln_h82 Lo_h82
  have LoZ_h86 : LoZ h h86 := LoZ_ag (my_ag.fr frh86 rfl) Ln_h82 LoZ_h82
  show wp l rho (d + 8) 36 14 [(2, 82), (0, x1), (9, 0)] [] h86 Q
  have p0 : h86 82 7 = tS (tp_of h) 0 := by
    have q := xp91
    rw [tpe, z5] at q
    exact q
  refine w_aload_n gz_36_14 rfl ?_
  refine w_iload_n gz_36_15 rfl ?_
  have c27 : ∀ j : Int, h86 27 j = h 27 j := fun j => ((my_fr.at frh86 is_27 rfl).trans ((my_up_role fh82 is_27 is_82 rfl).trans ((my_up_role fh81 is_27 is_82 rfl).trans (rfl : h 27 j = h 27 j))))
  have l0 : ∀ k : Int, h86 k 0 = h k 0 := fun k => ((my_fr.fl frh86 rfl).trans ((my_up_fld fh82 (by decide)).trans ((my_up_fld fh81 (by decide)).trans (rfl : h k 0 = h k 0))))
  have l3 : ∀ k : Int, h86 k 3 = h k 3 := fun k => ((my_fr.fl frh86 rfl).trans ((my_up_fld fh82 (by decide)).trans ((my_up_fld fh81 (by decide)).trans (rfl : h k 3 = h k 3))))
  have l4 : ∀ k : Int, h86 k 4 = h k 4 := fun k => ((my_fr.fl frh86 rfl).trans ((my_up_fld fh82 (by decide)).trans ((my_up_fld fh81 (by decide)).trans (rfl : h k 4 = h k 4))))
  have c2 : ∀ j : Int, h86 2 j = h 2 j := fun j => ((my_fr.at frh86 is_2 rfl).trans ((my_up_role fh82 is_2 is_82 rfl).trans ((my_up_role fh81 is_2 is_82 rfl).trans (rfl : h 2 j = h 2 j))))
  have eT : cT h86 = cT h := funext (fun v => by unfold cT; rw [c27, l0])
  have eW : cW h86 = cW h := funext (fun v => by unfold cW; rw [c27, l4])
  have eB : cB h86 = cB h := funext (fun v => by unfold cB; rw [c27, l3])
  have e2f : h86 2 = h 2 := funext c2
  have ce94 : h86 82 2 = h 82 2 := ((my_fr.at frh86 is_82 rfl).trans ((my_up_fld fh82 (by decide)).trans ((my_up_fld fh81 (by decide)).trans (rfl : h 82 2 = h 82 2))))
  have z2 : h86 82 2 = h 82 2 := by omega
  have ce95 : h86 82 4 = k82_4 := ((my_fr.at frh86 is_82 rfl).trans ((my_up_fld fh82 (by decide)).trans ((my_up_fld fh81 (by decide)).trans ek82_4.symm)))
  have ec16 : cs h86 = cs h := cs_eq (fun j => my_fr.at gh86 is_92 rfl) (by omega)
  have ax9 : my_ag ((22, -1) :: LzF) h h86 := ((((my_ag.rf : my_ag ((22, -1) :: LzF) h h).tr (my_ag.up fh81 is_82 rfl)).tr (my_ag.up fh82 is_82 rfl)).tr (my_ag.fr frh86 rfl))
  refine w_inv (k := 1) (as := [(0, x1)]) (r := []) (x := 82) (ls0 := [(2, 82), (0, x1), (9, 0)]) gz_36_16 gm_39 rfl is_82 rd_5 rfl rfl rfl rfl rfl (c_Reader_readOver7_f0 (d := (d + 1)) (x1 := x1) (wv := wv) (by omega) (by omega) (((my_fr.at frh86 is_82 rfl).trans (my_up_self fh82)).trans (by omega)) (by first | assumption | omega) (by first | assumption | omega) Ln_h86 Un_h86 Al_h86t92 Cu_h86t93 (by first | assumption | exact no_such_saying | exact Fp_told (by omega) (by omega) | omega | (subst_vars; omega) | omega) (fun h96 frh96 w97 w98 xp99 xp100 xp101 Ln_h96t102 Un_h96t103 Al_h96t104 Cu_h96t105 => ?_) (fun h106 frh106 w107 xp108 xp109 xp110 xp111 xp112 xp113 xp114 Ln_h106t115 Un_h106t116 Al_h106t117 Cu_h106t118 => ?_))
  ·
    have gh96 : my_fr [(4, 0), (4, 1), (4, 2), (4, 3), (4, 4), (4, 5), (4, 6), (4, 7), (4, 8), (4, 9), (5, 2), (5, 4), (5, 5), (5, 6), (5, 7), (5, 8), (5, 9), (22, -1), (32, -1), (33, -1), (34, -1), (35, -1), (36, -1), (37, -1), (38, -1), (39, -1)] h h96 := my_fr.tr gh86 (frh96.mo rfl)
    show wp l rho (d + 8) 36 19 [(2, 82), (0, x1), (9, 0)] [] h96 Q
    have tE119 : cs h86 = cs h := cs_eq (fun j => ((my_fr.at frh86 is_92 rfl).trans ((my_up_role fh82 is_92 is_82 rfl).trans ((my_up_role fh81 is_92 is_82 rfl).trans (rfl : h 92 j = h 92 j))))) (((my_fr.at frh86 is_82 rfl).trans ((my_up_fld fh82 (by decide)).trans ((my_up_fld fh81 (by decide)).trans (rfl : h 82 4 = h 82 4)))))
    rw [tE119] at xp99
    have ov := xp99
    rw [eT, eW, eB, e2f, p0] at ov
    try rw [z2] at ov
    have Lo_h96t120 : Lo h h96 := Lo_tr Lo_h86 xp100
    have o2 : h96 82 2 = h 82 2 := (my_fr.at frh96 is_82 rfl).trans z2
    have LoZ_h96t121 : LoZ h h96 := LoZ_tr LoZ_h86 xp101
    refine v_know (x := 82) (j := 7) (b := 7) rfl is_82 rd_5 rfl (fun kk7 ekk7 pkk7 qkk7 => ?_)
    refine w_iconst gz_36_19 (by decide) ?_
    refine w_istore_n (ls' := [(2, 82), (0, x1), (0, 0)]) gz_36_20 gm_36 rfl rfl rfl ?_
    have psJ : h96 82 7 = h96 82 7 := (rfl : h96 82 7 = h96 82 7)
    have npsJ : cs h96 = cs h := cs_eq (fun j => ((my_fr.at frh96 is_92 rfl).trans ((my_fr.at frh86 is_92 rfl).trans ((my_up_role fh82 is_92 is_82 rfl).trans ((my_up_role fh81 is_92 is_82 rfl).trans (rfl : h 92 j = h 92 j)))))) (((my_fr.at frh96 is_82 rfl).trans ((my_fr.at frh86 is_82 rfl).trans ((my_up_fld fh82 (by decide)).trans ((my_up_fld fh81 (by decide)).trans (rfl : h 82 4 = h 82 4))))))
    have ce122 : h96 82 2 = h 82 2 := ((my_fr.at frh96 is_82 rfl).trans ((my_fr.at frh86 is_82 rfl).trans ((my_up_fld fh82 (by decide)).trans ((my_up_fld fh81 (by decide)).trans (rfl : h 82 2 = h 82 2)))))
    have ce123 : h96 82 4 = k82_4 := ((my_fr.at frh96 is_82 rfl).trans ((my_fr.at frh86 is_82 rfl).trans ((my_up_fld fh82 (by decide)).trans ((my_up_fld fh81 (by decide)).trans ek82_4.symm))))
    exact J21_0 1002 (0) ((h96 82 9)) h96 (gh96) (by omega) (by omega) (by omega) (by omega) (((my_fr.at frh96 is_82 rfl).trans ((my_fr.at frh86 is_82 rfl).trans ((my_up_fld fh82 (by decide)).trans ((my_up_fld fh81 (by decide)).trans ek82_4.symm)))).trans (by omega)) ((rfl : h96 82 9 = h96 82 9).trans (by omega)) Ln_h96t102 Un_h96t103 Lo_h96t120 LoZ_h96t121 (by first | exact fun _ => no_such_saying | (intro q; omega) | grind | omega) (Al_h96t104) (Cu_h96t105) (by omega) (by omega) (by first | exact (fun _ => rdz_0 ov (by omega) o9) | exact (fun _ => rdz_s (ok_21_0 (by omega)) (by omega) pn (by omega) pz.2.1 pz.2.2) | (intro q; exfalso; omega) | omega) (by first | exact (fun q => rdz_f ov q) | exact (fun q => rdz_x (ok_21_0 (by omega)) (by omega) pn q) | (intro q; exfalso; omega) | omega) (by first | omega | (intro q; omega) | omega) (by first | exact (fun _ => RdS_0 hla ov (by omega) o9 ov5 ec16 z2 p0 e2f ax9 n_Ln) | exact (fun _ => RdS_s (rs_21_0 (by omega)) (by omega) pn (by omega) pq5 te e2_21_0 t2 (by omega) (fun v a b => (kC2 v a (by omega)).2)) | (intro q; exfalso; omega) | assumption | omega) (by omega)
  ·
    have gh106 : my_fr [(4, 0), (4, 1), (4, 2), (4, 3), (4, 4), (4, 5), (4, 6), (4, 7), (4, 8), (4, 9), (5, 2), (5, 4), (5, 5), (5, 6), (5, 7), (5, 8), (5, 9), (22, -1), (32, -1), (33, -1), (34, -1), (35, -1), (36, -1), (37, -1), (38, -1), (39, -1)] h h106 := my_fr.tr gh86 (frh106.mo rfl)
    show wp l rho (d + 8) 36 19 [(2, 82), (0, x1), (9, 0)] [] h106 Q
    have tE124 : cs h86 = cs h := cs_eq (fun j => ((my_fr.at frh86 is_92 rfl).trans ((my_up_role fh82 is_92 is_82 rfl).trans ((my_up_role fh81 is_92 is_82 rfl).trans (rfl : h 92 j = h 92 j))))) (((my_fr.at frh86 is_82 rfl).trans ((my_up_fld fh82 (by decide)).trans ((my_up_fld fh81 (by decide)).trans (rfl : h 82 4 = h 82 4)))))
    rw [tE124] at xp109
    have ov := xp109
    rw [eT, eW, eB, e2f, p0] at ov
    try rw [z2] at ov
    have Lo_h106t125 : Lo h h106 := Lo_tr Lo_h86 xp112
    have Sp_h106t126 : Sp h106 wv := xp108
    have o2 : h106 82 2 = h 82 2 := xp110.trans z2
    have o9 := xp111
    rw [z2] at o9
    have ov5 := xp113
    have LoZ_h106t127 : LoZ h h106 := LoZ_tr LoZ_h86 xp114
    refine v_know (x := 82) (j := 7) (b := 7) rfl is_82 rd_5 rfl (fun kk7 ekk7 pkk7 qkk7 => ?_)
    refine w_iconst gz_36_19 (by decide) ?_
    refine w_istore_n (ls' := [(2, 82), (0, x1), (0, 0)]) gz_36_20 gm_36 rfl rfl rfl ?_
    have psJ : h106 82 7 = h106 82 7 := (rfl : h106 82 7 = h106 82 7)
    have npsJ : cs h106 = cs h := cs_eq (fun j => ((my_fr.at frh106 is_92 rfl).trans ((my_fr.at frh86 is_92 rfl).trans ((my_up_role fh82 is_92 is_82 rfl).trans ((my_up_role fh81 is_92 is_82 rfl).trans (rfl : h 92 j = h 92 j)))))) (((my_fr.at frh106 is_82 rfl).trans ((my_fr.at frh86 is_82 rfl).trans ((my_up_fld fh82 (by decide)).trans ((my_up_fld fh81 (by decide)).trans (rfl : h 82 4 = h 82 4))))))
    have ce128 : h106 82 2 = h 82 2 := ((my_fr.at frh106 is_82 rfl).trans ((my_fr.at frh86 is_82 rfl).trans ((my_up_fld fh82 (by decide)).trans ((my_up_fld fh81 (by decide)).trans (rfl : h 82 2 = h 82 2)))))
    have ce129 : h106 82 4 = k82_4 := ((my_fr.at frh106 is_82 rfl).trans ((my_fr.at frh86 is_82 rfl).trans ((my_up_fld fh82 (by decide)).trans ((my_up_fld fh81 (by decide)).trans ek82_4.symm))))
    exact J21_0 1002 (0) (0) h106 (gh106) (by omega) (by omega) (by omega) (by omega) (((my_fr.at frh106 is_82 rfl).trans ((my_fr.at frh86 is_82 rfl).trans ((my_up_fld fh82 (by decide)).trans ((my_up_fld fh81 (by decide)).trans ek82_4.symm)))).trans (by omega)) (w107.trans (by omega)) Ln_h106t115 Un_h106t116 Lo_h106t125 LoZ_h106t127 (by first | exact fun _ => Sp_h106t126 | (intro q; omega) | grind | omega) (Al_h106t117) (Cu_h106t118) (by omega) (by omega) (by first | exact (fun _ => rdz_0 ov (by omega) o9) | exact (fun _ => rdz_s (ok_21_0 (by omega)) (by omega) pn (by omega) pz.2.1 pz.2.2) | (intro q; exfalso; omega) | omega) (by first | exact (fun q => rdz_f ov q) | exact (fun q => rdz_x (ok_21_0 (by omega)) (by omega) pn q) | (intro q; exfalso; omega) | omega) (by first | omega | (intro q; omega) | omega) (by first | exact (fun _ => RdS_0 hla ov (by omega) o9 ov5 ec16 z2 p0 e2f ax9 n_Ln) | exact (fun _ => RdS_s (rs_21_0 (by omega)) (by omega) pn (by omega) pq5 te e2_21_0 t2 (by omega) (fun v a b => (kC2 v a (by omega)).2)) | (intro q; exfalso; omega) | assumption | omega) (by omega)
end MYNModel_both4
