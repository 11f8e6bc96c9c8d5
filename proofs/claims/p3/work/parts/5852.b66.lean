/-! contracts, printed by wip/gen/gy.py -/
section MYNModel_puts5
theorem c_Model_puts5 {l : Launch} {rho : Nat → Int32} {d : Nat} {h : my_H} {Q : my_H → my_V → Prop} {x1 x2 x3 x4 x5 x6 : Int} (a1 : 0 ≤ x1) (b1 : x1 ≤ 15) (n_Mw : Mw h) (n_Mw3 : Mw3 h) (n_Rws : Rws h) (s8 : x1 ≠ 8) (hlm : LmW h) (hwo : zqWo (zqMA h) (zqMS h x1)) (k0 : ∀ (h' : my_H), my_fr [(10, 27), (10, 32), (10, 33), (10, 37), (10, 46), (10, 48), (61, -1), (62, -1), (73, -1), (74, -1), (75, -1), (76, -1), (77, -1), (78, -1), (79, -1), (80, -1), (81, -1), (82, -1), (83, -1), (84, -1), (85, -1), (86, -1), (88, -1), (89, -1), (90, -1), (91, -1), (92, -1), (93, -1), (94, -1)] h h' → ((¬ MdOk h x1 x2 x3 x4 x5 x6 ∧ zqAg (zqMS h x1) (zqMS h' x1)) ∨ (MdOk h x1 x2 x3 x4 x5 x6 ∧ MPutR h h' x1 x2 x3 x4 x5 x6 (-1))) → OtS h h' x1 → Rws h' → Q h' (0, (-1))) (k1 : ∀ (h' : my_H) (y : Int), my_fr [(10, 27), (10, 32), (10, 33), (10, 37), (10, 46), (10, 48), (61, -1), (62, -1), (73, -1), (74, -1), (75, -1), (76, -1), (77, -1), (78, -1), (79, -1), (80, -1), (81, -1), (82, -1), (83, -1), (84, -1), (85, -1), (86, -1), (88, -1), (89, -1), (90, -1), (91, -1), (92, -1), (93, -1), (94, -1)] h h' → 0 ≤ y → y ≤ 4 → 0 ≤ x2 → x2 ≤ 5 → 0 ≤ x3 → x3 ≤ 2 → MdOk h x1 x2 x3 x4 x5 x6 → MPutR h h' x1 x2 x3 x4 x5 x6 y → OtS h h' x1 → Rws h' → Q h' (0, y)) : wp l rho (d + 7) 223 0 [(2, 151), (0, x1), (0, x2), (0, x3), (0, x4), (0, x5), (0, x6), (9, 0), (9, 0)] [] h Q := by
  refine v_knowA (x := 162) pis_162 rd_61 (fun kT0 => ?_)
  refine v_knowA (x := 163) pis_163 rd_62 (fun kV0 => ?_)
  refine v_knowA (x := 160) pis_160 rd_59 (fun kN0 => ?_)
  refine v_knowA (x := 157) pis_157 rd_56 (fun kC0 => ?_)
  have T0 : MTy h := ⟨kV0, kT0, kN0, kC0⟩
  refine v_knowA (x := 188) pis_188 rd_87 (fun kD0 => ?_)
  refine v_knowA (x := 173) pis_173 rd_72 (fun kF0 => ?_)
  refine v_knowA (x := 166) pis_166 rd_65 (fun kP0 => ?_)
  refine w_aload_n gz_223_0 rfl ?_
  refine w_iload_n gz_223_1 rfl ?_
  refine w_iload_n gz_223_2 rfl ?_
  refine w_iload_n gz_223_3 rfl ?_
  refine w_iload gz_223_4 rfl ?_
  refine w_iload gz_223_6 rfl ?_
  refine w_iload gz_223_8 rfl ?_
  refine w_inv (k := 1) (as := [(0, x6), (0, x5), (0, x4), (0, x3), (0, x2), (0, x1)]) (r := []) (x := 151) (ls0 := [(2, 151), (0, x1), (0, x2), (0, x3), (0, x4), (0, x5), (0, x6), (9, 0)]) gz_223_10 gm_208 rfl is_151 rd_10 rfl rfl rfl rfl rfl (c_Model_isEdit5 (d := (d + 2)) (x1 := x1) (x2 := x2) (x3 := x3) (x4 := x4) (x5 := x5) (x6 := x6) (by omega) (by omega) n_Mw n_Mw3 n_Rws (fun h1 frh1 xp2 => ?_) (fun h3 frh3 w4 w5 w6 w7 xp8 xp9 xp10 xp11 xp12 xp13 xp14 xp15 xp16 xp17 xp18 xp19 => ?_))
  ·
    have gh1 : my_fr [(10, 27), (10, 32), (10, 33), (10, 37), (10, 46), (10, 48), (61, -1), (62, -1), (73, -1), (74, -1), (75, -1), (76, -1), (77, -1), (78, -1), (79, -1), (80, -1), (81, -1), (82, -1), (83, -1), (84, -1), (85, -1), (86, -1), (88, -1), (89, -1), (90, -1), (91, -1), (92, -1), (93, -1), (94, -1)] h h1 := my_fr.tr my_fr.rf (frh1.mo rfl)
    have Mw_h1 : Mw h1 := Mw_ag (my_ag.fr frh1 rfl) n_Mw
    have Mw3_h1 : Mw3 h1 := Mw3_ag (my_ag.fr frh1 rfl) n_Mw3
    have Rws_h1 : Rws h1 := Rws_ag (my_ag.fr frh1 rfl) n_Rws
    show wp l rho (d + 7) 223 13 [(2, 151), (0, x1), (0, x2), (0, x3), (0, x4), (0, x5), (0, x6), (9, 0), (9, 0)] [(0, 0)] h1 Q
    have nE := xp2
    have ag10 : my_ag LmF h h1 := my_ag.fr frh1 rfl
    have e2q : ∀ j : Int, h1 162 j = h 162 j := fun j => my_fr.at frh1 pis_162 rfl
    have e3q : ∀ j : Int, h1 163 j = h 163 j := fun j => my_fr.at frh1 pis_163 rfl
    have e8q : ∀ j : Int, h1 188 j = h 188 j := fun j => my_fr.at frh1 pis_188 rfl
    have ma10 : zqMA h1 = zqMA h := zqMA_e (fun j => my_fr.at frh1 pis_157 rfl) (fun j => my_fr.at frh1 pis_158 rfl) (fun j => my_fr.at frh1 pis_159 rfl) (fun j => my_fr.at frh1 pis_160 rfl) (fun j => my_fr.at frh1 pis_161 rfl)
    refine w_ifne (t := 18) gz_223_13 rfl (fun u20 => by exfalso; omega) (fun u20 => ?_)
    refine w_iconst gz_223_16 (by decide) ?_
    exact w_iret gz_223_17 gm_223 (k0 h1 (gh1) (by first | exact Or.inl ⟨nE, fun j _ _ => by rw [MS_eq e2q e3q]⟩ | exact ⟨fun j _ _ => e2q j, fun j _ _ => e3q j⟩ | exact Or.inr ⟨md8, MP_0 a1 b1 s8 B8 e157q le8 (by omega)⟩ | exact OtS_8 B8.2.2 | exact md8 | exact MP_k0 a1 b1 s8 B8 my8 (by omega) (by omega) (by omega) an8 | exact MP_k1 a1 b1 s8 T0 B8 my8 (by omega) no_such_saying o94 z94 an8 | exact MP_k2 a1 b1 s8 B8 my8 (by omega) no_such_saying o132 an8 | exact MP_k3 ag150 e188w hlm (by omega) (by omega) tx (cbf 0 (by omega) (by omega)) a1 b1 s8 B8 my8 (by omega) ly8 an8 | exact absurd x3k cok | exact ot8 | exact OtS_eq (OtS_8 B8.2.2) (fun j _ => my_up_ne no_such_saying (by omega)) (fun j a => my_up_ne no_such_saying (by omega)) | exact OtS_eq (OtS_8 B8.2.2) (fun j a => my_up_ne no_such_saying (by omega)) (fun j _ => my_up_ne no_such_saying (by omega)) | assumption | omega) (by first | exact Or.inl ⟨nE, fun j _ _ => by rw [MS_eq e2q e3q]⟩ | exact ⟨fun j _ _ => e2q j, fun j _ _ => e3q j⟩ | exact Or.inr ⟨md8, MP_0 a1 b1 s8 B8 e157q le8 (by omega)⟩ | exact OtS_8 B8.2.2 | exact md8 | exact MP_k0 a1 b1 s8 B8 my8 (by omega) (by omega) (by omega) an8 | exact MP_k1 a1 b1 s8 T0 B8 my8 (by omega) no_such_saying o94 z94 an8 | exact MP_k2 a1 b1 s8 B8 my8 (by omega) no_such_saying o132 an8 | exact MP_k3 ag150 e188w hlm (by omega) (by omega) tx (cbf 0 (by omega) (by omega)) a1 b1 s8 B8 my8 (by omega) ly8 an8 | exact absurd x3k cok | exact ot8 | exact OtS_eq (OtS_8 B8.2.2) (fun j _ => my_up_ne no_such_saying (by omega)) (fun j a => my_up_ne no_such_saying (by omega)) | exact OtS_eq (OtS_8 B8.2.2) (fun j a => my_up_ne no_such_saying (by omega)) (fun j _ => my_up_ne no_such_saying (by omega)) | assumption | omega) Rws_h1)
  ·
    have gh3 : my_fr [(10, 27), (10, 32), (10, 33), (10, 37), (10, 46), (10, 48), (61, -1), (62, -1), (73, -1), (74, -1), (75, -1), (76, -1), (77, -1), (78, -1), (79, -1), (80, -1), (81, -1), (82, -1), (83, -1), (84, -1), (85, -1), (86, -1), (88, -1), (89, -1), (90, -1), (91, -1), (92, -1), (93, -1), (94, -1)] h h3 := my_fr.tr my_fr.rf (frh3.mo rfl)
    have Mw_h3 : Mw h3 := Mw_ag (my_ag.fr frh3 rfl) n_Mw
    have Mw3_h3 : Mw3 h3 := Mw3_ag (my_ag.fr frh3 rfl) n_Mw3
    have Rws_h3 : Rws h3 := Rws_ag (my_ag.fr frh3 rfl) n_Rws
    show wp l rho (d + 7) 223 13 [(2, 151), (0, x1), (0, x2), (0, x3), (0, x4), (0, x5), (0, x6), (9, 0), (9, 0)] [(0, 1)] h3 Q
    have Fp_h3t21 : Fp h3 x2 := xp10
    have nE := xp8
    have ag10 : my_ag LmF h h3 := my_ag.fr frh3 rfl
    have e2q : ∀ j : Int, h3 162 j = h 162 j := fun j => my_fr.at frh3 pis_162 rfl
    have e3q : ∀ j : Int, h3 163 j = h 163 j := fun j => my_fr.at frh3 pis_163 rfl
    have e8q : ∀ j : Int, h3 188 j = h 188 j := fun j => my_fr.at frh3 pis_188 rfl
    have ma10 : zqMA h3 = zqMA h := zqMA_e (fun j => my_fr.at frh3 pis_157 rfl) (fun j => my_fr.at frh3 pis_158 rfl) (fun j => my_fr.at frh3 pis_159 rfl) (fun j => my_fr.at frh3 pis_160 rfl) (fun j => my_fr.at frh3 pis_161 rfl)
    have md8 := xp16
    have tx : h 164 x2 = 1 := (my_fr.at frh3 pis_164 rfl).symm.trans (xp10.1 (by omega))
    have cbf : ∀ c : Int, 0 ≤ c → c ≤ 3 → 0 ≤ cmM h x2 c ∧ cmM h x2 c ≤ 19 := fun c a b => cmM_bd (by omega) (by omega) hlm tx (fun j a b => kD0 j a (by omega)) (fun j a b => (kF0 j a (by omega)).2) (fun j a b => by have q := kP0 j a (by omega); omega) a b -- xp16
    refine w_ifne (t := 18) gz_223_13 rfl (fun u22 => ?_) (fun u22 => by exfalso; omega)
    refine w_aload_n gz_223_18 rfl ?_
    refine w_iload_n gz_223_19 rfl ?_
    refine w_iload_n gz_223_20 rfl ?_
    refine w_iload_n gz_223_21 rfl ?_
    refine w_iload gz_223_22 rfl ?_
    refine w_iload gz_223_24 rfl ?_
    refine w_iload gz_223_26 rfl ?_
    refine w_inv (k := 4) (as := [(0, x6), (0, x5), (0, x4), (0, x3), (0, x2), (0, x1)]) (r := []) (x := 151) (ls0 := [(2, 151), (0, x1), (0, x2), (0, x3), (0, x4), (0, x5), (0, x6), (9, 0), (9, 0), (9, 0), (9, 0)]) gz_223_28 gm_209 rfl is_151 rd_10 rfl rfl rfl rfl rfl (c_Model_findWays5 (d := d) (x1 := x1) (x2 := x2) (x3 := x3) (x4 := x4) (x5 := x5) (x6 := x6) (by omega) (by omega) (by omega) (by omega) (by omega) (by omega) Mw_h3 Mw3_h3 Rws_h3 Fp_h3t21 (by first | assumption | exact Fp_h3t21 | exact Fp_told (by omega) (by omega) | omega | (subst_vars; omega) | omega) (by first | assumption | exact Fp_h3t21 | exact Fp_told (by omega) (by omega) | omega | (subst_vars; omega) | omega) (LmW_ag ag10 hlm) ((by rw [ma10, MS_eq e2q e3q]; exact hwo.2.1)) (MdOk_cg ag10 (MS_eq e2q e3q) md8) (fun h23 frh23 xp24 xp25 xp26 Rws_h23t27 Wys_h23t28 => ?_))
    have gh23 : my_fr [(10, 27), (10, 32), (10, 33), (10, 37), (10, 46), (10, 48), (61, -1), (62, -1), (73, -1), (74, -1), (75, -1), (76, -1), (77, -1), (78, -1), (79, -1), (80, -1), (81, -1), (82, -1), (83, -1), (84, -1), (85, -1), (86, -1), (88, -1), (89, -1), (90, -1), (91, -1), (92, -1), (93, -1), (94, -1)] h h23 := my_fr.tr gh3 (frh23.mo rfl)
    have Mw_h23 : Mw h23 := Mw_ag (my_ag.fr frh23 rfl) Mw_h3
    have Mw3_h23 : Mw3 h23 := Mw3_ag (my_ag.fr frh23 rfl) Mw3_h3
    have Fp_h23 : Fp h23 x2 := Fp_ag (my_ag.fr frh23 rfl) Fp_h3t21
    show wp l rho (d + 7) 223 31 [(2, 151), (0, x1), (0, x2), (0, x3), (0, x4), (0, x5), (0, x6), (9, 0), (9, 0)] [] h23 Q
    have B8 := MPB_mk ag10 ma10 e8q e2q e3q xp24 xp25 xp26
    have e157q : ∀ j : Int, h23 157 j = h 157 j := fun j => my_fr.at gh23 pis_157 rfl
    refine w_aload_n gz_223_31 rfl ?_
    refine w_inv (k := 2) (as := []) (r := []) (x := 151) (ls0 := [(2, 151), (9, 0), (9, 0)]) gz_223_32 gm_220 rfl is_151 rd_10 rfl rfl rfl rfl rfl (c_Model_leastWay5 (d := (d + 5))  Wys_h23t28 (fun v29 w30 w31 xp32 xp33 => ?_))
    show wp l rho (d + 7) 223 35 [(2, 151), (0, x1), (0, x2), (0, x3), (0, x4), (0, x5), (0, x6), (9, 0), (9, 0)] [(0, v29)] h23 Q
    have le8 := xp33
    refine w_istore (ls' := [(2, 151), (0, x1), (0, x2), (0, x3), (0, x4), (0, x5), (0, x6), (0, v29), (9, 0)]) gz_223_35 gm_223 rfl rfl rfl ?_
    refine w_iload gz_223_37 rfl ?_
    refine w_ifge (t := 44) gz_223_39 rfl (fun u34 => ?_) (fun u34 => ?_)
    ·
      refine v_know (x := 151) (j := 48) (b := 48) rfl is_151 rd_10 rfl (fun k48 ek48 pk48 qk48 => ?_)
      have wq := Wys_h23t28 v29 (by omega) (by omega)
      have my8 : MyB h h23 x1 x2 v29 := MP_y hlm (by omega) (by omega) tx T0 hwo cbf B8 e157q le8 (by omega)
      refine w_aload_n gz_223_44 rfl ?_
      refine w_getX (v := 190) gz_223_45 is_151 rd_10 rfl (by decide) rfl ?_
      refine w_iload gz_223_48 rfl ?_
      have hi36 : 0 ≤ v29 := by omega
      have hi37 : v29 ≤ 1799 := by omega
      refine w_iald gz_223_50 is_190 rd_89 (by omega) (by omega) (fun v38 ev38 pv38 qv38 => ?_)
      refine w_iconst gz_223_51 (by decide) ?_
      have k52 : v38 = h23 190 v29 := by omega
      refine w_icne (t := 98) gz_223_52 rfl (fun u39 => ?_) (fun u39 => ?_)
      ·
        refine w_aload_n gz_223_98 rfl ?_
        refine w_getX (v := 190) gz_223_99 is_151 rd_10 rfl (by decide) rfl ?_
        refine w_iload gz_223_102 rfl ?_
        refine w_iald gz_223_104 is_190 rd_89 (by omega) (by omega) (fun v41 ev41 pv41 qv41 => ?_)
        have zv41 := ev41.trans ev38.symm
        refine w_iconst gz_223_105 (by decide) ?_
        have k106 : v41 = h23 190 v29 := by omega
        refine w_icne (t := 136) gz_223_106 rfl (fun u42 => ?_) (fun u42 => ?_)
        ·
          refine w_aload_n gz_223_136 rfl ?_
          refine w_getX (v := 190) gz_223_137 is_151 rd_10 rfl (by decide) rfl ?_
          refine w_iload gz_223_140 rfl ?_
          refine w_iald gz_223_142 is_190 rd_89 (by omega) (by omega) (fun v44 ev44 pv44 qv44 => ?_)
          have zv44 := ev44.trans ev41.symm
          refine w_iconst gz_223_143 (by decide) ?_
          have k144 : v44 = h23 190 v29 := by omega
          refine w_icne (t := 155) gz_223_144 rfl (fun u45 => ?_) (fun u45 => ?_)
          ·
            refine w_aload_n gz_223_155 rfl ?_
            refine w_iload gz_223_156 rfl ?_
            refine w_inv (k := 0) (as := [(0, v29)]) (r := []) (x := 151) (ls0 := [(2, 151), (0, v29)]) gz_223_158 gm_221 rfl is_151 rd_10 rfl rfl rfl rfl rfl ?_
            refine w_aload_n gz_221_0 rfl ?_
            refine w_getX (v := 190) gz_221_1 is_151 rd_10 rfl (by decide) rfl ?_
            refine w_iload_n gz_221_4 rfl ?_
            refine w_iald gz_221_5 is_190 rd_89 (by omega) (by omega) (fun v47 ev47 pv47 qv47 => ?_)
            have zv47 := ev47.trans ev44.symm
            have pk_v29 : h23 190 v29 = v47 := by omega
            refine w_iconst gz_221_6 (by decide) ?_
            refine w_icge (t := 19) gz_221_7 rfl (fun u48 => ?_) (fun u48 => ?_)
            ·
              refine w_aload_n gz_221_19 rfl ?_
              refine w_getX (v := 157) gz_221_20 is_151 rd_10 rfl (by decide) rfl ?_
              refine w_aload_n gz_221_23 rfl ?_
              refine w_getX (v := 191) gz_221_24 is_151 rd_10 rfl (by decide) rfl ?_
              refine w_iload_n gz_221_27 rfl ?_
              refine w_iald gz_221_28 is_191 rd_90 (by omega) (by omega) (fun v51 ev51 pv51 qv51 => ?_)
              have pw_v29 : h23 191 v29 = v51 := by omega
              have hi52 : 0 ≤ v51 := by have q := Wys_h23t28 v29 (by omega) (by omega); omega
              have hi53 : v51 ≤ 2 := by have q := Wys_h23t28 v29 (by omega) (by omega); omega
              refine w_iald gz_221_29 is_157 rd_56 (by omega) (by omega) (fun v54 ev54 pv54 qv54 => ?_)
              have px_v29 : v54 = zqPr (h23 157) (wyA h23 v29) := by first | exact Pr_k (by omega) (by omega) | exact Pr_w pk_v29 (by omega) pw_v29 (by omega)
              refine w_iret gz_221_30 gm_221 ?_
              show wp l rho (d + 7) 223 161 [(2, 151), (0, x1), (0, x2), (0, x3), (0, x4), (0, x5), (0, x6), (0, v29), (9, 0)] [(0, v54)] h23 Q
              have a190 : ∀ j : Int, h23 190 j = h23 190 j := fun j => rfl
              have a191 : ∀ j : Int, h23 191 j = h23 191 j := fun j => rfl
              have a192 : ∀ j : Int, h23 192 j = h23 192 j := fun j => rfl
              have a193 : ∀ j : Int, h23 193 j = h23 193 j := fun j => rfl
              have a194 : ∀ j : Int, h23 194 j = h23 194 j := fun j => rfl
              have wyE : wyA h23 v29 = wyA h23 v29 := rfl
              have an8 : v54 = zqPr (h 157) (wyA h23 v29) := by
                have q := px_v29
                rw [wyE, show h23 157 = h 157 from funext (fun j => my_fr.at gh23 pis_157 rfl)] at q
                exact q
              exact w_iret gz_223_161 gm_223 (k1 h23 (v54) (gh23) (by omega) (by omega) (by omega) (by omega) (by omega) (by omega) (by first | exact Or.inl ⟨nE, fun j _ _ => by rw [MS_eq e2q e3q]⟩ | exact ⟨fun j _ _ => e2q j, fun j _ _ => e3q j⟩ | exact Or.inr ⟨md8, MP_0 a1 b1 s8 B8 e157q le8 (by omega)⟩ | exact OtS_8 B8.2.2 | exact md8 | exact MP_k0 a1 b1 s8 B8 my8 (by omega) (by omega) (by omega) an8 | exact MP_k1 a1 b1 s8 T0 B8 my8 (by omega) no_such_saying o94 z94 an8 | exact MP_k2 a1 b1 s8 B8 my8 (by omega) no_such_saying o132 an8 | exact MP_k3 ag150 e188w hlm (by omega) (by omega) tx (cbf 0 (by omega) (by omega)) a1 b1 s8 B8 my8 (by omega) ly8 an8 | exact absurd x3k cok | exact ot8 | exact OtS_eq (OtS_8 B8.2.2) (fun j _ => my_up_ne no_such_saying (by omega)) (fun j a => my_up_ne no_such_saying (by omega)) | exact OtS_eq (OtS_8 B8.2.2) (fun j a => my_up_ne no_such_saying (by omega)) (fun j _ => my_up_ne no_such_saying (by omega)) | assumption | omega) (by first | exact Or.inl ⟨nE, fun j _ _ => by rw [MS_eq e2q e3q]⟩ | exact ⟨fun j _ _ => e2q j, fun j _ _ => e3q j⟩ | exact Or.inr ⟨md8, MP_0 a1 b1 s8 B8 e157q le8 (by omega)⟩ | exact OtS_8 B8.2.2 | exact md8 | exact MP_k0 a1 b1 s8 B8 my8 (by omega) (by omega) (by omega) an8 | exact MP_k1 a1 b1 s8 T0 B8 my8 (by omega) no_such_saying o94 z94 an8 | exact MP_k2 a1 b1 s8 B8 my8 (by omega) no_such_saying o132 an8 | exact MP_k3 ag150 e188w hlm (by omega) (by omega) tx (cbf 0 (by omega) (by omega)) a1 b1 s8 B8 my8 (by omega) ly8 an8 | exact absurd x3k cok | exact ot8 | exact OtS_eq (OtS_8 B8.2.2) (fun j _ => my_up_ne no_such_saying (by omega)) (fun j a => my_up_ne no_such_saying (by omega)) | exact OtS_eq (OtS_8 B8.2.2) (fun j a => my_up_ne no_such_saying (by omega)) (fun j _ => my_up_ne no_such_saying (by omega)) | assumption | omega) (by first | exact Or.inl ⟨nE, fun j _ _ => by rw [MS_eq e2q e3q]⟩ | exact ⟨fun j _ _ => e2q j, fun j _ _ => e3q j⟩ | exact Or.inr ⟨md8, MP_0 a1 b1 s8 B8 e157q le8 (by omega)⟩ | exact OtS_8 B8.2.2 | exact md8 | exact MP_k0 a1 b1 s8 B8 my8 (by omega) (by omega) (by omega) an8 | exact MP_k1 a1 b1 s8 T0 B8 my8 (by omega) no_such_saying o94 z94 an8 | exact MP_k2 a1 b1 s8 B8 my8 (by omega) no_such_saying o132 an8 | exact MP_k3 ag150 e188w hlm (by omega) (by omega) tx (cbf 0 (by omega) (by omega)) a1 b1 s8 B8 my8 (by omega) ly8 an8 | exact absurd x3k cok | exact ot8 | exact OtS_eq (OtS_8 B8.2.2) (fun j _ => my_up_ne no_such_saying (by omega)) (fun j a => my_up_ne no_such_saying (by omega)) | exact OtS_eq (OtS_8 B8.2.2) (fun j a => my_up_ne no_such_saying (by omega)) (fun j _ => my_up_ne no_such_saying (by omega)) | assumption | omega) Rws_h23t27)
            ·
              refine w_aload_n gz_221_10 rfl ?_
              refine w_getX (v := 190) gz_221_11 is_151 rd_10 rfl (by decide) rfl ?_
              refine w_iload_n gz_221_14 rfl ?_
              refine w_iald gz_221_15 is_190 rd_89 (by omega) (by omega) (fun v56 ev56 pv56 qv56 => ?_)
              have zv56 := ev56.trans ev47.symm
              refine w_goto (t := 30) gz_221_16 rfl ?_
              have px_v29 : v56 = zqPr (h23 157) (wyA h23 v29) := by first | exact Pr_k (by omega) (by omega) | exact Pr_w pk_v29 (by omega) pw_v29 (by omega)
              refine w_iret gz_221_30 gm_221 ?_
              show wp l rho (d + 7) 223 161 [(2, 151), (0, x1), (0, x2), (0, x3), (0, x4), (0, x5), (0, x6), (0, v29), (9, 0)] [(0, v56)] h23 Q
              have a190 : ∀ j : Int, h23 190 j = h23 190 j := fun j => rfl
              have a191 : ∀ j : Int, h23 191 j = h23 191 j := fun j => rfl
              have a192 : ∀ j : Int, h23 192 j = h23 192 j := fun j => rfl
              have a193 : ∀ j : Int, h23 193 j = h23 193 j := fun j => rfl
              have a194 : ∀ j : Int, h23 194 j = h23 194 j := fun j => rfl
              have wyE : wyA h23 v29 = wyA h23 v29 := rfl
              have an8 : v56 = zqPr (h 157) (wyA h23 v29) := by
                have q := px_v29
                rw [wyE, show h23 157 = h 157 from funext (fun j => my_fr.at gh23 pis_157 rfl)] at q
                exact q
              exact w_iret gz_223_161 gm_223 (k1 h23 (v56) (gh23) (by omega) (by omega) (by omega) (by omega) (by omega) (by omega) (by first | exact Or.inl ⟨nE, fun j _ _ => by rw [MS_eq e2q e3q]⟩ | exact ⟨fun j _ _ => e2q j, fun j _ _ => e3q j⟩ | exact Or.inr ⟨md8, MP_0 a1 b1 s8 B8 e157q le8 (by omega)⟩ | exact OtS_8 B8.2.2 | exact md8 | exact MP_k0 a1 b1 s8 B8 my8 (by omega) (by omega) (by omega) an8 | exact MP_k1 a1 b1 s8 T0 B8 my8 (by omega) no_such_saying o94 z94 an8 | exact MP_k2 a1 b1 s8 B8 my8 (by omega) no_such_saying o132 an8 | exact MP_k3 ag150 e188w hlm (by omega) (by omega) tx (cbf 0 (by omega) (by omega)) a1 b1 s8 B8 my8 (by omega) ly8 an8 | exact absurd x3k cok | exact ot8 | exact OtS_eq (OtS_8 B8.2.2) (fun j _ => my_up_ne no_such_saying (by omega)) (fun j a => my_up_ne no_such_saying (by omega)) | exact OtS_eq (OtS_8 B8.2.2) (fun j a => my_up_ne no_such_saying (by omega)) (fun j _ => my_up_ne no_such_saying (by omega)) | assumption | omega) (by first | exact Or.inl ⟨nE, fun j _ _ => by rw [MS_eq e2q e3q]⟩ | exact ⟨fun j _ _ => e2q j, fun j _ _ => e3q j⟩ | exact Or.inr ⟨md8, MP_0 a1 b1 s8 B8 e157q le8 (by omega)⟩ | exact OtS_8 B8.2.2 | exact md8 | exact MP_k0 a1 b1 s8 B8 my8 (by omega) (by omega) (by omega) an8 | exact MP_k1 a1 b1 s8 T0 B8 my8 (by omega) no_such_saying o94 z94 an8 | exact MP_k2 a1 b1 s8 B8 my8 (by omega) no_such_saying o132 an8 | exact MP_k3 ag150 e188w hlm (by omega) (by omega) tx (cbf 0 (by omega) (by omega)) a1 b1 s8 B8 my8 (by omega) ly8 an8 | exact absurd x3k cok | exact ot8 | exact OtS_eq (OtS_8 B8.2.2) (fun j _ => my_up_ne no_such_saying (by omega)) (fun j a => my_up_ne no_such_saying (by omega)) | exact OtS_eq (OtS_8 B8.2.2) (fun j a => my_up_ne no_such_saying (by omega)) (fun j _ => my_up_ne no_such_saying (by omega)) | assumption | omega) (by first | exact Or.inl ⟨nE, fun j _ _ => by rw [MS_eq e2q e3q]⟩ | exact ⟨fun j _ _ => e2q j, fun j _ _ => e3q j⟩ | exact Or.inr ⟨md8, MP_0 a1 b1 s8 B8 e157q le8 (by omega)⟩ | exact OtS_8 B8.2.2 | exact md8 | exact MP_k0 a1 b1 s8 B8 my8 (by omega) (by omega) (by omega) an8 | exact MP_k1 a1 b1 s8 T0 B8 my8 (by omega) no_such_saying o94 z94 an8 | exact MP_k2 a1 b1 s8 B8 my8 (by omega) no_such_saying o132 an8 | exact MP_k3 ag150 e188w hlm (by omega) (by omega) tx (cbf 0 (by omega) (by omega)) a1 b1 s8 B8 my8 (by omega) ly8 an8 | exact absurd x3k cok | exact ot8 | exact OtS_eq (OtS_8 B8.2.2) (fun j _ => my_up_ne no_such_saying (by omega)) (fun j a => my_up_ne no_such_saying (by omega)) | exact OtS_eq (OtS_8 B8.2.2) (fun j a => my_up_ne no_such_saying (by omega)) (fun j _ => my_up_ne no_such_saying (by omega)) | assumption | omega) Rws_h23t27)
          ·
            refine w_aload_n gz_223_147 rfl ?_
            refine w_iload_n gz_223_148 rfl ?_
            refine w_iload_n gz_223_149 rfl ?_
            have ag150 : my_ag LmF h h23 := (my_ag.fr (F := LmF) gh23 rfl)
            have bb150 : 0 ≤ mBs h23 x2 ∧ mBs h23 x2 ≤ 2 := by
              rw [((Lm_e ag150).1 x2).2.1]
              have q := hlm x2 (by omega) (by omega) tx
              exact ⟨q.2.1, q.2.2.1⟩
            have e188w : ∀ j : Int, h23 188 j = h 188 j := fun j => my_fr.at gh23 pis_188 rfl
            have x3k := MP_x3 ag150 e188w hlm (by omega) (by omega) tx (cbf 0 (by omega) (by omega)) a1 b1 s8 B8 my8 (by omega)
            refine w_inv (k := 0) (as := [(0, x2), (0, x1)]) (r := []) (x := 151) (ls0 := [(2, 151), (0, x1), (0, x2)]) gz_223_150 gm_216 rfl is_151 rd_10 rfl rfl rfl rfl rfl (c_Model_comes6 (d := (d + 3)) (x1 := x1) (x2 := x2) (by omega) (by omega) (by omega) (by omega) Mw_h23 Rws_h23t27 (by first | assumption | exact Fp_h23 | exact Fp_told (by omega) (by omega) | omega | (subst_vars; omega) | omega) (LmW_ag (my_ag.fr (F := LmF) gh23 rfl) hlm) (fun h57 frh57 xp58 xp59 Rws_h57t60 => ?_) (fun h61 frh61 xp62 xp63 xp64 xp65 Rws_h61t66 => ?_))
            ·
              have gh57 : my_fr [(10, 27), (10, 32), (10, 33), (10, 37), (10, 46), (10, 48), (61, -1), (62, -1), (73, -1), (74, -1), (75, -1), (76, -1), (77, -1), (78, -1), (79, -1), (80, -1), (81, -1), (82, -1), (83, -1), (84, -1), (85, -1), (86, -1), (88, -1), (89, -1), (90, -1), (91, -1), (92, -1), (93, -1), (94, -1)] h h57 := my_fr.tr gh23 (frh57.mo rfl)
              have Mw_h57 : Mw h57 := Mw_ag (my_ag.fr frh57 rfl) Mw_h23
              have Mw3_h57 : Mw3 h57 := Mw3_ag (my_ag.fr frh57 rfl) Mw3_h23
              have Fp_h57 : Fp h57 x2 := Fp_ag (my_ag.fr frh57 rfl) Fp_h23
              have Wys_h57 : Wys h57 := Wys_ag (my_ag.fr frh57 rfl) Wys_h23t28
              show wp l rho (d + 7) 223 153 [(2, 151), (0, x1), (0, x2), (0, x3), (0, x4), (0, x5), (0, x6), (0, v29), (9, 0)] [(0, 0)] h57 Q
              have cok := xp58
              have ly8 := xp59
              refine w_istore (ls' := [(2, 151), (0, x1), (0, x2), (0, x3), (0, x4), (0, x5), (0, x6), (0, v29), (0, 0)]) gz_223_153 gm_223 rfl rfl rfl ?_
              refine w_aload_n gz_223_155 rfl ?_
              refine w_iload gz_223_156 rfl ?_
              have ce67 : h57 151 48 = h23 151 48 := ((my_fr.at frh57 is_151 rfl).trans (rfl : h23 151 48 = h23 151 48))
              refine w_inv (k := 0) (as := [(0, v29)]) (r := []) (x := 151) (ls0 := [(2, 151), (0, v29)]) gz_223_158 gm_221 rfl is_151 rd_10 rfl rfl rfl rfl rfl ?_
              refine w_aload_n gz_221_0 rfl ?_
              refine w_getX (v := 190) gz_221_1 is_151 rd_10 rfl (by decide) rfl ?_
              refine w_iload_n gz_221_4 rfl ?_
              refine w_iald gz_221_5 is_190 rd_89 (by omega) (by omega) (fun v69 ev69 pv69 qv69 => ?_)
              have zv69 := ev69.trans ((my_fr.at frh57 is_190 rfl).trans ev44.symm)
              have pk_v29 : h57 190 v29 = v69 := by omega
              refine w_iconst gz_221_6 (by decide) ?_
              refine w_icge (t := 19) gz_221_7 rfl (fun u70 => ?_) (fun u70 => by exfalso; omega)
              refine w_aload_n gz_221_19 rfl ?_
              refine w_getX (v := 157) gz_221_20 is_151 rd_10 rfl (by decide) rfl ?_
              refine w_aload_n gz_221_23 rfl ?_
              refine w_getX (v := 191) gz_221_24 is_151 rd_10 rfl (by decide) rfl ?_
              refine w_iload_n gz_221_27 rfl ?_
              refine w_iald gz_221_28 is_191 rd_90 (by omega) (by omega) (fun v73 ev73 pv73 qv73 => ?_)
              have pw_v29 : h57 191 v29 = v73 := by omega
              have hi74 : 0 ≤ v73 := by have q := Wys_h57 v29 (by omega) (by omega); omega
              have hi75 : v73 ≤ 2 := by have q := Wys_h57 v29 (by omega) (by omega); omega
              refine w_iald gz_221_29 is_157 rd_56 (by omega) (by omega) (fun v76 ev76 pv76 qv76 => ?_)
              have px_v29 : v76 = zqPr (h57 157) (wyA h57 v29) := by first | exact Pr_k (by omega) (by omega) | exact Pr_w pk_v29 (by omega) pw_v29 (by omega)
              refine w_iret gz_221_30 gm_221 ?_
              show wp l rho (d + 7) 223 161 [(2, 151), (0, x1), (0, x2), (0, x3), (0, x4), (0, x5), (0, x6), (0, v29), (0, 0)] [(0, v76)] h57 Q
              have a190 : ∀ j : Int, h57 190 j = h23 190 j := fun j => ((my_fr.at frh57 is_190 rfl).trans (rfl : h23 190 j = h23 190 j))
              have a191 : ∀ j : Int, h57 191 j = h23 191 j := fun j => ((my_fr.at frh57 is_191 rfl).trans (rfl : h23 191 j = h23 191 j))
              have a192 : ∀ j : Int, h57 192 j = h23 192 j := fun j => ((my_fr.at frh57 is_192 rfl).trans (rfl : h23 192 j = h23 192 j))
              have a193 : ∀ j : Int, h57 193 j = h23 193 j := fun j => ((my_fr.at frh57 is_193 rfl).trans (rfl : h23 193 j = h23 193 j))
              have a194 : ∀ j : Int, h57 194 j = h23 194 j := fun j => ((my_fr.at frh57 is_194 rfl).trans (rfl : h23 194 j = h23 194 j))
              have wyE : wyA h57 v29 = wyA h23 v29 := wyA_cg a190 a191 a192 a193 a194
              have an8 : v76 = zqPr (h 157) (wyA h23 v29) := by
                have q := px_v29
                rw [wyE, show h57 157 = h 157 from funext (fun j => my_fr.at gh57 pis_157 rfl)] at q
                exact q
              exact w_iret gz_223_161 gm_223 (k1 h57 (v76) (gh57) (by omega) (by omega) (by omega) (by omega) (by omega) (by omega) (by first | exact Or.inl ⟨nE, fun j _ _ => by rw [MS_eq e2q e3q]⟩ | exact ⟨fun j _ _ => e2q j, fun j _ _ => e3q j⟩ | exact Or.inr ⟨md8, MP_0 a1 b1 s8 B8 e157q le8 (by omega)⟩ | exact OtS_8 B8.2.2 | exact md8 | exact MP_k0 a1 b1 s8 B8 my8 (by omega) (by omega) (by omega) an8 | exact MP_k1 a1 b1 s8 T0 B8 my8 (by omega) no_such_saying o94 z94 an8 | exact MP_k2 a1 b1 s8 B8 my8 (by omega) no_such_saying o132 an8 | exact MP_k3 ag150 e188w hlm (by omega) (by omega) tx (cbf 0 (by omega) (by omega)) a1 b1 s8 B8 my8 (by omega) ly8 an8 | exact absurd x3k cok | exact ot8 | exact OtS_eq (OtS_8 B8.2.2) (fun j _ => my_up_ne no_such_saying (by omega)) (fun j a => my_up_ne no_such_saying (by omega)) | exact OtS_eq (OtS_8 B8.2.2) (fun j a => my_up_ne no_such_saying (by omega)) (fun j _ => my_up_ne no_such_saying (by omega)) | assumption | omega) (by first | exact Or.inl ⟨nE, fun j _ _ => by rw [MS_eq e2q e3q]⟩ | exact ⟨fun j _ _ => e2q j, fun j _ _ => e3q j⟩ | exact Or.inr ⟨md8, MP_0 a1 b1 s8 B8 e157q le8 (by omega)⟩ | exact OtS_8 B8.2.2 | exact md8 | exact MP_k0 a1 b1 s8 B8 my8 (by omega) (by omega) (by omega) an8 | exact MP_k1 a1 b1 s8 T0 B8 my8 (by omega) no_such_saying o94 z94 an8 | exact MP_k2 a1 b1 s8 B8 my8 (by omega) no_such_saying o132 an8 | exact MP_k3 ag150 e188w hlm (by omega) (by omega) tx (cbf 0 (by omega) (by omega)) a1 b1 s8 B8 my8 (by omega) ly8 an8 | exact absurd x3k cok | exact ot8 | exact OtS_eq (OtS_8 B8.2.2) (fun j _ => my_up_ne no_such_saying (by omega)) (fun j a => my_up_ne no_such_saying (by omega)) | exact OtS_eq (OtS_8 B8.2.2) (fun j a => my_up_ne no_such_saying (by omega)) (fun j _ => my_up_ne no_such_saying (by omega)) | assumption | omega) (by first | exact Or.inl ⟨nE, fun j _ _ => by rw [MS_eq e2q e3q]⟩ | exact ⟨fun j _ _ => e2q j, fun j _ _ => e3q j⟩ | exact Or.inr ⟨md8, MP_0 a1 b1 s8 B8 e157q le8 (by omega)⟩ | exact OtS_8 B8.2.2 | exact md8 | exact MP_k0 a1 b1 s8 B8 my8 (by omega) (by omega) (by omega) an8 | exact MP_k1 a1 b1 s8 T0 B8 my8 (by omega) no_such_saying o94 z94 an8 | exact MP_k2 a1 b1 s8 B8 my8 (by omega) no_such_saying o132 an8 | exact MP_k3 ag150 e188w hlm (by omega) (by omega) tx (cbf 0 (by omega) (by omega)) a1 b1 s8 B8 my8 (by omega) ly8 an8 | exact absurd x3k cok | exact ot8 | exact OtS_eq (OtS_8 B8.2.2) (fun j _ => my_up_ne no_such_saying (by omega)) (fun j a => my_up_ne no_such_saying (by omega)) | exact OtS_eq (OtS_8 B8.2.2) (fun j a => my_up_ne no_such_saying (by omega)) (fun j _ => my_up_ne no_such_saying (by omega)) | assumption | omega) Rws_h57t60)
            ·
              have gh61 : my_fr [(10, 27), (10, 32), (10, 33), (10, 37), (10, 46), (10, 48), (61, -1), (62, -1), (73, -1), (74, -1), (75, -1), (76, -1), (77, -1), (78, -1), (79, -1), (80, -1), (81, -1), (82, -1), (83, -1), (84, -1), (85, -1), (86, -1), (88, -1), (89, -1), (90, -1), (91, -1), (92, -1), (93, -1), (94, -1)] h h61 := my_fr.tr gh23 (frh61.mo rfl)
              have Mw_h61 : Mw h61 := Mw_ag (my_ag.fr frh61 rfl) Mw_h23
              have Mw3_h61 : Mw3 h61 := Mw3_ag (my_ag.fr frh61 rfl) Mw3_h23
              have Fp_h61 : Fp h61 x2 := Fp_ag (my_ag.fr frh61 rfl) Fp_h23
              have Wys_h61 : Wys h61 := Wys_ag (my_ag.fr frh61 rfl) Wys_h23t28
              show wp l rho (d + 7) 223 153 [(2, 151), (0, x1), (0, x2), (0, x3), (0, x4), (0, x5), (0, x6), (0, v29), (9, 0)] [(0, 1)] h61 Q
              have cok := xp62
              have ly8 := xp63
              have ot8 : OtS h h61 x1 := OtS_eq (OtS_8 B8.2.2) (fun j a => xp63.2.1 j (by have q := xp64; have r := bb150; omega)) (fun j a => xp63.2.2.2.2.2.2 j (by have q := xp64; have r := bb150; omega)) -- xp65
              refine w_istore (ls' := [(2, 151), (0, x1), (0, x2), (0, x3), (0, x4), (0, x5), (0, x6), (0, v29), (0, 1)]) gz_223_153 gm_223 rfl rfl rfl ?_
              refine w_aload_n gz_223_155 rfl ?_
              refine w_iload gz_223_156 rfl ?_
              have ce77 : h61 151 48 = h23 151 48 := ((my_fr.at frh61 is_151 rfl).trans (rfl : h23 151 48 = h23 151 48))
              refine w_inv (k := 0) (as := [(0, v29)]) (r := []) (x := 151) (ls0 := [(2, 151), (0, v29)]) gz_223_158 gm_221 rfl is_151 rd_10 rfl rfl rfl rfl rfl ?_
              refine w_aload_n gz_221_0 rfl ?_
              refine w_getX (v := 190) gz_221_1 is_151 rd_10 rfl (by decide) rfl ?_
              refine w_iload_n gz_221_4 rfl ?_
              refine w_iald gz_221_5 is_190 rd_89 (by omega) (by omega) (fun v79 ev79 pv79 qv79 => ?_)
              have zv79 := ev79.trans ((my_fr.at frh61 is_190 rfl).trans ev44.symm)
              have pk_v29 : h61 190 v29 = v79 := by omega
              refine w_iconst gz_221_6 (by decide) ?_
              refine w_icge (t := 19) gz_221_7 rfl (fun u80 => ?_) (fun u80 => by exfalso; omega)
              refine w_aload_n gz_221_19 rfl ?_
              refine w_getX (v := 157) gz_221_20 is_151 rd_10 rfl (by decide) rfl ?_
              refine w_aload_n gz_221_23 rfl ?_
              refine w_getX (v := 191) gz_221_24 is_151 rd_10 rfl (by decide) rfl ?_
              refine w_iload_n gz_221_27 rfl ?_
              refine w_iald gz_221_28 is_191 rd_90 (by omega) (by omega) (fun v83 ev83 pv83 qv83 => ?_)
              have pw_v29 : h61 191 v29 = v83 := by omega
              have hi84 : 0 ≤ v83 := by have q := Wys_h61 v29 (by omega) (by omega); omega
              have hi85 : v83 ≤ 2 := by have q := Wys_h61 v29 (by omega) (by omega); omega
              refine w_iald gz_221_29 is_157 rd_56 (by omega) (by omega) (fun v86 ev86 pv86 qv86 => ?_)
              have px_v29 : v86 = zqPr (h61 157) (wyA h61 v29) := by first | exact Pr_k (by omega) (by omega) | exact Pr_w pk_v29 (by omega) pw_v29 (by omega)
              refine w_iret gz_221_30 gm_221 ?_
              show wp l rho (d + 7) 223 161 [(2, 151), (0, x1), (0, x2), (0, x3), (0, x4), (0, x5), (0, x6), (0, v29), (0, 1)] [(0, v86)] h61 Q
              have a190 : ∀ j : Int, h61 190 j = h23 190 j := fun j => ((my_fr.at frh61 is_190 rfl).trans (rfl : h23 190 j = h23 190 j))
              have a191 : ∀ j : Int, h61 191 j = h23 191 j := fun j => ((my_fr.at frh61 is_191 rfl).trans (rfl : h23 191 j = h23 191 j))
              have a192 : ∀ j : Int, h61 192 j = h23 192 j := fun j => ((my_fr.at frh61 is_192 rfl).trans (rfl : h23 192 j = h23 192 j))
              have a193 : ∀ j : Int, h61 193 j = h23 193 j := fun j => ((my_fr.at frh61 is_193 rfl).trans (rfl : h23 193 j = h23 193 j))
              have a194 : ∀ j : Int, h61 194 j = h23 194 j := fun j => ((my_fr.at frh61 is_194 rfl).trans (rfl : h23 194 j = h23 194 j))
              have wyE : wyA h61 v29 = wyA h23 v29 := wyA_cg a190 a191 a192 a193 a194
              have an8 : v86 = zqPr (h 157) (wyA h23 v29) := by
                have q := px_v29
                rw [wyE, show h61 157 = h 157 from funext (fun j => my_fr.at gh61 pis_157 rfl)] at q
                exact q
              exact w_iret gz_223_161 gm_223 (k1 h61 (v86) (gh61) (by omega) (by omega) (by omega) (by omega) (by omega) (by omega) (by first | exact Or.inl ⟨nE, fun j _ _ => by rw [MS_eq e2q e3q]⟩ | exact ⟨fun j _ _ => e2q j, fun j _ _ => e3q j⟩ | exact Or.inr ⟨md8, MP_0 a1 b1 s8 B8 e157q le8 (by omega)⟩ | exact OtS_8 B8.2.2 | exact md8 | exact MP_k0 a1 b1 s8 B8 my8 (by omega) (by omega) (by omega) an8 | exact MP_k1 a1 b1 s8 T0 B8 my8 (by omega) no_such_saying o94 z94 an8 | exact MP_k2 a1 b1 s8 B8 my8 (by omega) no_such_saying o132 an8 | exact MP_k3 ag150 e188w hlm (by omega) (by omega) tx (cbf 0 (by omega) (by omega)) a1 b1 s8 B8 my8 (by omega) ly8 an8 | exact absurd x3k cok | exact ot8 | exact OtS_eq (OtS_8 B8.2.2) (fun j _ => my_up_ne no_such_saying (by omega)) (fun j a => my_up_ne no_such_saying (by omega)) | exact OtS_eq (OtS_8 B8.2.2) (fun j a => my_up_ne no_such_saying (by omega)) (fun j _ => my_up_ne no_such_saying (by omega)) | assumption | omega) (by first | exact Or.inl ⟨nE, fun j _ _ => by rw [MS_eq e2q e3q]⟩ | exact ⟨fun j _ _ => e2q j, fun j _ _ => e3q j⟩ | exact Or.inr ⟨md8, MP_0 a1 b1 s8 B8 e157q le8 (by omega)⟩ | exact OtS_8 B8.2.2 | exact md8 | exact MP_k0 a1 b1 s8 B8 my8 (by omega) (by omega) (by omega) an8 | exact MP_k1 a1 b1 s8 T0 B8 my8 (by omega) no_such_saying o94 z94 an8 | exact MP_k2 a1 b1 s8 B8 my8 (by omega) no_such_saying o132 an8 | exact MP_k3 ag150 e188w hlm (by omega) (by omega) tx (cbf 0 (by omega) (by omega)) a1 b1 s8 B8 my8 (by omega) ly8 an8 | exact absurd x3k cok | exact ot8 | exact OtS_eq (OtS_8 B8.2.2) (fun j _ => my_up_ne no_such_saying (by omega)) (fun j a => my_up_ne no_such_saying (by omega)) | exact OtS_eq (OtS_8 B8.2.2) (fun j a => my_up_ne no_such_saying (by omega)) (fun j _ => my_up_ne no_such_saying (by omega)) | assumption | omega) (by first | exact Or.inl ⟨nE, fun j _ _ => by rw [MS_eq e2q e3q]⟩ | exact ⟨fun j _ _ => e2q j, fun j _ _ => e3q j⟩ | exact Or.inr ⟨md8, MP_0 a1 b1 s8 B8 e157q le8 (by omega)⟩ | exact OtS_8 B8.2.2 | exact md8 | exact MP_k0 a1 b1 s8 B8 my8 (by omega) (by omega) (by omega) an8 | exact MP_k1 a1 b1 s8 T0 B8 my8 (by omega) no_such_saying o94 z94 an8 | exact MP_k2 a1 b1 s8 B8 my8 (by omega) no_such_saying o132 an8 | exact MP_k3 ag150 e188w hlm (by omega) (by omega) tx (cbf 0 (by omega) (by omega)) a1 b1 s8 B8 my8 (by omega) ly8 an8 | exact absurd x3k cok | exact ot8 | exact OtS_eq (OtS_8 B8.2.2) (fun j _ => my_up_ne no_such_saying (by omega)) (fun j a => my_up_ne no_such_saying (by omega)) | exact OtS_eq (OtS_8 B8.2.2) (fun j a => my_up_ne no_such_saying (by omega)) (fun j _ => my_up_ne no_such_saying (by omega)) | assumption | omega) Rws_h61t66)
        ·
          refine w_aload_n gz_223_109 rfl ?_
          refine w_getX (v := 162) gz_223_110 is_151 rd_10 rfl (by decide) rfl ?_
          refine w_iload_n gz_223_113 rfl ?_
          refine w_aload_n gz_223_114 rfl ?_
          refine w_getX (v := 191) gz_223_115 is_151 rd_10 rfl (by decide) rfl ?_
          refine w_iload gz_223_118 rfl ?_
          refine w_iald gz_223_120 is_191 rd_90 (by omega) (by omega) (fun v89 ev89 pv89 qv89 => ?_)
          refine w_aload_n gz_223_121 rfl ?_
          refine w_getX (v := 192) gz_223_122 is_151 rd_10 rfl (by decide) rfl ?_
          refine w_iload gz_223_125 rfl ?_
          refine w_iald gz_223_127 is_192 rd_91 (by omega) (by omega) (fun v91 ev91 pv91 qv91 => ?_)
          refine w_inS (k := 0) (as := [(0, v91), (0, v89), (0, x1)]) (r := [(2, 162)]) (ls0 := [(0, x1), (0, v89), (0, v91)]) gz_223_128 gm_150 rfl rfl rfl rfl rfl rfl ?_
          refine w_bipush gz_150_0 (by decide) ?_
          refine w_iload_n gz_150_2 rfl ?_
          refine w_imul gz_150_3 ⟨by omega, by omega⟩ ?_
          refine w_bipush gz_150_4 (by decide) ?_
          refine w_iload_n gz_150_6 rfl ?_
          refine w_imul gz_150_7 ⟨by omega, by omega⟩ ?_
          refine w_iadd gz_150_8 ⟨by omega, by omega⟩ ?_
          refine w_iload_n gz_150_9 rfl ?_
          refine w_iadd gz_150_10 ⟨by omega, by omega⟩ ?_
          refine w_iret gz_150_11 gm_150 ?_
          show wp l rho (d + 7) 223 131 [(2, 151), (0, x1), (0, x2), (0, x3), (0, x4), (0, x5), (0, x6), (0, v29), (9, 0)] [(0, (((60 * x1) + (20 * v89)) + v91)), (2, 162)] h23 Q
          refine w_iconst gz_223_131 (by decide) ?_
          refine v_knowA (x := 162) is_162 rd_61 (fun kT2 => ?_)
          have q2 := (kT2 (((60 * x1) + (20 * v89)) + v91) (by omega) (by omega)).1
          have o132 : (((60 * x1) + (20 * v89)) + v91) = 60 * x1 + 20 * h23 191 v29 + h23 192 v29 := by omega
          have r132 := my8.2.2.2.1 (by omega)
          have hi92 : 0 ≤ (((60 * x1) + (20 * v89)) + v91) := by omega
          have hi93 : (((60 * x1) + (20 * v89)) + v91) ≤ 959 := by omega
          refine w_bast gz_223_132 is_162 rd_61 (by omega) (by omega) (by omega) (by omega) (fun h94 fh94 => ?_)
          have gh94 : my_fr [(10, 27), (10, 32), (10, 33), (10, 37), (10, 46), (10, 48), (61, -1), (62, -1), (73, -1), (74, -1), (75, -1), (76, -1), (77, -1), (78, -1), (79, -1), (80, -1), (81, -1), (82, -1), (83, -1), (84, -1), (85, -1), (86, -1), (88, -1), (89, -1), (90, -1), (91, -1), (92, -1), (93, -1), (94, -1)] h h94 := my_fr.up gh23 is_162 fh94 rfl
          have Mw_h94 : Mw h94 := Mw_ag (my_ag.up fh94 is_162 rfl) Mw_h23
          have Mw3_h94 : Mw3 h94 := Mw3_ag (my_ag.up fh94 is_162 rfl) Mw3_h23
          have Fp_h94 : Fp h94 x2 := Fp_ag (my_ag.up fh94 is_162 rfl) Fp_h23
          have Wys_h94 : Wys h94 := Wys_ag (my_ag.up fh94 is_162 rfl) Wys_h23t28
          have Rws_h94t95 : Rws h94 := Rws_off fh94 (by omega) Rws_h23t27
          refine w_goto (t := 155) gz_223_133 rfl ?_
          refine w_aload_n gz_223_155 rfl ?_
          refine w_iload gz_223_156 rfl ?_
          have ce96 : h94 151 48 = h23 151 48 := ((my_up_role fh94 is_151 is_162 rfl).trans (rfl : h23 151 48 = h23 151 48))
          refine w_inv (k := 0) (as := [(0, v29)]) (r := []) (x := 151) (ls0 := [(2, 151), (0, v29)]) gz_223_158 gm_221 rfl is_151 rd_10 rfl rfl rfl rfl rfl ?_
          refine w_aload_n gz_221_0 rfl ?_
          refine w_getX (v := 190) gz_221_1 is_151 rd_10 rfl (by decide) rfl ?_
          refine w_iload_n gz_221_4 rfl ?_
          refine w_iald gz_221_5 is_190 rd_89 (by omega) (by omega) (fun v98 ev98 pv98 qv98 => ?_)
          have zv98 := ev98.trans ((my_up_role fh94 is_190 is_162 rfl).trans ev41.symm)
          have pk_v29 : h94 190 v29 = v98 := by omega
          refine w_iconst gz_221_6 (by decide) ?_
          refine w_icge (t := 19) gz_221_7 rfl (fun u99 => ?_) (fun u99 => by exfalso; omega)
          refine w_aload_n gz_221_19 rfl ?_
          refine w_getX (v := 157) gz_221_20 is_151 rd_10 rfl (by decide) rfl ?_
          refine w_aload_n gz_221_23 rfl ?_
          refine w_getX (v := 191) gz_221_24 is_151 rd_10 rfl (by decide) rfl ?_
          refine w_iload_n gz_221_27 rfl ?_
          refine w_iald gz_221_28 is_191 rd_90 (by omega) (by omega) (fun v102 ev102 pv102 qv102 => ?_)
          have zv102 := ev102.trans ((my_up_role fh94 is_191 is_162 rfl).trans ev89.symm)
          have pw_v29 : h94 191 v29 = v102 := by omega
          have hi103 : 0 ≤ v102 := by have q := Wys_h94 v29 (by omega) (by omega); omega
          have hi104 : v102 ≤ 2 := by have q := Wys_h94 v29 (by omega) (by omega); omega
          refine w_iald gz_221_29 is_157 rd_56 (by omega) (by omega) (fun v105 ev105 pv105 qv105 => ?_)
          have px_v29 : v105 = zqPr (h94 157) (wyA h94 v29) := by first | exact Pr_k (by omega) (by omega) | exact Pr_w pk_v29 (by omega) pw_v29 (by omega)
          refine w_iret gz_221_30 gm_221 ?_
          show wp l rho (d + 7) 223 161 [(2, 151), (0, x1), (0, x2), (0, x3), (0, x4), (0, x5), (0, x6), (0, v29), (9, 0)] [(0, v105)] h94 Q
          have a190 : ∀ j : Int, h94 190 j = h23 190 j := fun j => ((my_up_role fh94 is_190 is_162 rfl).trans (rfl : h23 190 j = h23 190 j))
          have a191 : ∀ j : Int, h94 191 j = h23 191 j := fun j => ((my_up_role fh94 is_191 is_162 rfl).trans (rfl : h23 191 j = h23 191 j))
          have a192 : ∀ j : Int, h94 192 j = h23 192 j := fun j => ((my_up_role fh94 is_192 is_162 rfl).trans (rfl : h23 192 j = h23 192 j))
          have a193 : ∀ j : Int, h94 193 j = h23 193 j := fun j => ((my_up_role fh94 is_193 is_162 rfl).trans (rfl : h23 193 j = h23 193 j))
          have a194 : ∀ j : Int, h94 194 j = h23 194 j := fun j => ((my_up_role fh94 is_194 is_162 rfl).trans (rfl : h23 194 j = h23 194 j))
          have wyE : wyA h94 v29 = wyA h23 v29 := wyA_cg a190 a191 a192 a193 a194
          have an8 : v105 = zqPr (h 157) (wyA h23 v29) := by
            have q := px_v29
            rw [wyE, show h94 157 = h 157 from funext (fun j => my_fr.at gh94 pis_157 rfl)] at q
            exact q
          exact w_iret gz_223_161 gm_223 (k1 h94 (v105) (gh94) (by omega) (by omega) (by omega) (by omega) (by omega) (by omega) (by first | exact Or.inl ⟨nE, fun j _ _ => by rw [MS_eq e2q e3q]⟩ | exact ⟨fun j _ _ => e2q j, fun j _ _ => e3q j⟩ | exact Or.inr ⟨md8, MP_0 a1 b1 s8 B8 e157q le8 (by omega)⟩ | exact OtS_8 B8.2.2 | exact md8 | exact MP_k0 a1 b1 s8 B8 my8 (by omega) (by omega) (by omega) an8 | exact MP_k1 a1 b1 s8 T0 B8 my8 (by omega) fh94 o94 z94 an8 | exact MP_k2 a1 b1 s8 B8 my8 (by omega) fh94 o132 an8 | exact MP_k3 ag150 e188w hlm (by omega) (by omega) tx (cbf 0 (by omega) (by omega)) a1 b1 s8 B8 my8 (by omega) ly8 an8 | exact absurd x3k cok | exact ot8 | exact OtS_eq (OtS_8 B8.2.2) (fun j _ => my_up_ne fh94 (by omega)) (fun j a => my_up_ne fh94 (by omega)) | exact OtS_eq (OtS_8 B8.2.2) (fun j a => my_up_ne fh94 (by omega)) (fun j _ => my_up_ne fh94 (by omega)) | assumption | omega) (by first | exact Or.inl ⟨nE, fun j _ _ => by rw [MS_eq e2q e3q]⟩ | exact ⟨fun j _ _ => e2q j, fun j _ _ => e3q j⟩ | exact Or.inr ⟨md8, MP_0 a1 b1 s8 B8 e157q le8 (by omega)⟩ | exact OtS_8 B8.2.2 | exact md8 | exact MP_k0 a1 b1 s8 B8 my8 (by omega) (by omega) (by omega) an8 | exact MP_k1 a1 b1 s8 T0 B8 my8 (by omega) fh94 o94 z94 an8 | exact MP_k2 a1 b1 s8 B8 my8 (by omega) fh94 o132 an8 | exact MP_k3 ag150 e188w hlm (by omega) (by omega) tx (cbf 0 (by omega) (by omega)) a1 b1 s8 B8 my8 (by omega) ly8 an8 | exact absurd x3k cok | exact ot8 | exact OtS_eq (OtS_8 B8.2.2) (fun j _ => my_up_ne fh94 (by omega)) (fun j a => my_up_ne fh94 (by omega)) | exact OtS_eq (OtS_8 B8.2.2) (fun j a => my_up_ne fh94 (by omega)) (fun j _ => my_up_ne fh94 (by omega)) | assumption | omega) (by first | exact Or.inl ⟨nE, fun j _ _ => by rw [MS_eq e2q e3q]⟩ | exact ⟨fun j _ _ => e2q j, fun j _ _ => e3q j⟩ | exact Or.inr ⟨md8, MP_0 a1 b1 s8 B8 e157q le8 (by omega)⟩ | exact OtS_8 B8.2.2 | exact md8 | exact MP_k0 a1 b1 s8 B8 my8 (by omega) (by omega) (by omega) an8 | exact MP_k1 a1 b1 s8 T0 B8 my8 (by omega) fh94 o94 z94 an8 | exact MP_k2 a1 b1 s8 B8 my8 (by omega) fh94 o132 an8 | exact MP_k3 ag150 e188w hlm (by omega) (by omega) tx (cbf 0 (by omega) (by omega)) a1 b1 s8 B8 my8 (by omega) ly8 an8 | exact absurd x3k cok | exact ot8 | exact OtS_eq (OtS_8 B8.2.2) (fun j _ => my_up_ne fh94 (by omega)) (fun j a => my_up_ne fh94 (by omega)) | exact OtS_eq (OtS_8 B8.2.2) (fun j a => my_up_ne fh94 (by omega)) (fun j _ => my_up_ne fh94 (by omega)) | assumption | omega) Rws_h94t95)
      ·
        refine w_aload_n gz_223_55 rfl ?_
        refine w_getX (v := 163) gz_223_56 is_151 rd_10 rfl (by decide) rfl ?_
        refine w_iconst gz_223_59 (by decide) ?_
        refine w_iload_n gz_223_60 rfl ?_
        refine w_aload_n gz_223_61 rfl ?_
        refine w_getX (v := 191) gz_223_62 is_151 rd_10 rfl (by decide) rfl ?_
        refine w_iload gz_223_65 rfl ?_
        have hi108 : 0 ≤ v29 := by omega
        have hi109 : v29 ≤ 1799 := by omega
        refine w_iald gz_223_67 is_191 rd_90 (by omega) (by omega) (fun v110 ev110 pv110 qv110 => ?_)
        refine w_aload_n gz_223_68 rfl ?_
        refine w_getX (v := 192) gz_223_69 is_151 rd_10 rfl (by decide) rfl ?_
        refine w_iload gz_223_72 rfl ?_
        refine w_iald gz_223_74 is_192 rd_91 (by omega) (by omega) (fun v112 ev112 pv112 qv112 => ?_)
        refine w_inS (k := 0) (as := [(0, v112), (0, v110), (0, x1)]) (r := [(0, 4), (2, 163)]) (ls0 := [(0, x1), (0, v110), (0, v112)]) gz_223_75 gm_150 rfl rfl rfl rfl rfl rfl ?_
        refine w_bipush gz_150_0 (by decide) ?_
        refine w_iload_n gz_150_2 rfl ?_
        refine w_imul gz_150_3 ⟨by omega, by omega⟩ ?_
        refine w_bipush gz_150_4 (by decide) ?_
        refine w_iload_n gz_150_6 rfl ?_
        refine w_imul gz_150_7 ⟨by omega, by omega⟩ ?_
        refine w_iadd gz_150_8 ⟨by omega, by omega⟩ ?_
        refine w_iload_n gz_150_9 rfl ?_
        refine w_iadd gz_150_10 ⟨by omega, by omega⟩ ?_
        refine w_iret gz_150_11 gm_150 ?_
        show wp l rho (d + 7) 223 78 [(2, 151), (0, x1), (0, x2), (0, x3), (0, x4), (0, x5), (0, x6), (0, v29), (9, 0)] [(0, (((60 * x1) + (20 * v110)) + v112)), (0, 4), (2, 163)] h23 Q
        refine w_imul gz_223_78 ⟨by omega, by omega⟩ ?_
        refine w_aload_n gz_223_79 rfl ?_
        refine w_getX (v := 193) gz_223_80 is_151 rd_10 rfl (by decide) rfl ?_
        refine w_iload gz_223_83 rfl ?_
        refine w_iald gz_223_85 is_193 rd_92 (by omega) (by omega) (fun v114 ev114 pv114 qv114 => ?_)
        refine w_iadd gz_223_86 ⟨by omega, by omega⟩ ?_
        refine w_aload_n gz_223_87 rfl ?_
        refine w_getX (v := 194) gz_223_88 is_151 rd_10 rfl (by decide) rfl ?_
        refine w_iload gz_223_91 rfl ?_
        refine w_iald gz_223_93 is_194 rd_93 (by omega) (by omega) (fun v116 ev116 pv116 qv116 => ?_)
        have o94 : ((4 * (((60 * x1) + (20 * v110)) + v112)) + v114) = 4 * (60 * x1 + 20 * h23 191 v29 + h23 192 v29) + h23 193 v29 := by omega
        have z94 : v116 = h23 194 v29 := by omega
        have r94 := my8.2.2.2.1 (by omega)
        have c94 := my8.2.2.2.2.1 (by omega)
        have hi117 : 0 ≤ ((4 * (((60 * x1) + (20 * v110)) + v112)) + v114) := by omega
        have hi118 : ((4 * (((60 * x1) + (20 * v110)) + v112)) + v114) ≤ 3839 := by omega
        have hi119 : 0 ≤ v116 := by omega
        have hi120 : v116 ≤ 19 := by omega
        refine w_iast gz_223_94 is_163 rd_62 (by omega) (by omega) (by omega) (by omega) (fun h121 fh121 => ?_)
        have gh121 : my_fr [(10, 27), (10, 32), (10, 33), (10, 37), (10, 46), (10, 48), (61, -1), (62, -1), (73, -1), (74, -1), (75, -1), (76, -1), (77, -1), (78, -1), (79, -1), (80, -1), (81, -1), (82, -1), (83, -1), (84, -1), (85, -1), (86, -1), (88, -1), (89, -1), (90, -1), (91, -1), (92, -1), (93, -1), (94, -1)] h h121 := my_fr.up gh23 is_163 fh121 rfl
        have Mw_h121 : Mw h121 := Mw_ag (my_ag.up fh121 is_163 rfl) Mw_h23
        have Mw3_h121 : Mw3 h121 := Mw3_ag (my_ag.up fh121 is_163 rfl) Mw3_h23
        have Fp_h121 : Fp h121 x2 := Fp_ag (my_ag.up fh121 is_163 rfl) Fp_h23
        have Rws_h121 : Rws h121 := Rws_ag (my_ag.up fh121 is_163 rfl) Rws_h23t27
        have Wys_h121 : Wys h121 := Wys_ag (my_ag.up fh121 is_163 rfl) Wys_h23t28
        refine w_goto (t := 155) gz_223_95 rfl ?_
        refine w_aload_n gz_223_155 rfl ?_
        refine w_iload gz_223_156 rfl ?_
        have ce122 : h121 151 48 = h23 151 48 := ((my_up_role fh121 is_151 is_163 rfl).trans (rfl : h23 151 48 = h23 151 48))
        refine w_inv (k := 0) (as := [(0, v29)]) (r := []) (x := 151) (ls0 := [(2, 151), (0, v29)]) gz_223_158 gm_221 rfl is_151 rd_10 rfl rfl rfl rfl rfl ?_
        refine w_aload_n gz_221_0 rfl ?_
        refine w_getX (v := 190) gz_221_1 is_151 rd_10 rfl (by decide) rfl ?_
        refine w_iload_n gz_221_4 rfl ?_
        refine w_iald gz_221_5 is_190 rd_89 (by omega) (by omega) (fun v124 ev124 pv124 qv124 => ?_)
        have zv124 := ev124.trans ((my_up_role fh121 is_190 is_163 rfl).trans ev38.symm)
        have pk_v29 : h121 190 v29 = v124 := by omega
        refine w_iconst gz_221_6 (by decide) ?_
        refine w_icge (t := 19) gz_221_7 rfl (fun u125 => by exfalso; omega) (fun u125 => ?_)
        refine w_aload_n gz_221_10 rfl ?_
        refine w_getX (v := 190) gz_221_11 is_151 rd_10 rfl (by decide) rfl ?_
        refine w_iload_n gz_221_14 rfl ?_
        refine w_iald gz_221_15 is_190 rd_89 (by omega) (by omega) (fun v127 ev127 pv127 qv127 => ?_)
        have zv127 := ev127.trans ev124.symm
        refine w_goto (t := 30) gz_221_16 rfl ?_
        have px_v29 : v127 = zqPr (h121 157) (wyA h121 v29) := by first | exact Pr_k (by omega) (by omega) | exact Pr_w pk_v29 (by omega) pw_v29 (by omega)
        refine w_iret gz_221_30 gm_221 ?_
        show wp l rho (d + 7) 223 161 [(2, 151), (0, x1), (0, x2), (0, x3), (0, x4), (0, x5), (0, x6), (0, v29), (9, 0)] [(0, v127)] h121 Q
        have a190 : ∀ j : Int, h121 190 j = h23 190 j := fun j => ((my_up_role fh121 is_190 is_163 rfl).trans (rfl : h23 190 j = h23 190 j))
        have a191 : ∀ j : Int, h121 191 j = h23 191 j := fun j => ((my_up_role fh121 is_191 is_163 rfl).trans (rfl : h23 191 j = h23 191 j))
        have a192 : ∀ j : Int, h121 192 j = h23 192 j := fun j => ((my_up_role fh121 is_192 is_163 rfl).trans (rfl : h23 192 j = h23 192 j))
        have a193 : ∀ j : Int, h121 193 j = h23 193 j := fun j => ((my_up_role fh121 is_193 is_163 rfl).trans (rfl : h23 193 j = h23 193 j))
        have a194 : ∀ j : Int, h121 194 j = h23 194 j := fun j => ((my_up_role fh121 is_194 is_163 rfl).trans (rfl : h23 194 j = h23 194 j))
        have wyE : wyA h121 v29 = wyA h23 v29 := wyA_cg a190 a191 a192 a193 a194
        have an8 : v127 = zqPr (h 157) (wyA h23 v29) := by
          have q := px_v29
          rw [wyE, show h121 157 = h 157 from funext (fun j => my_fr.at gh121 pis_157 rfl)] at q
          exact q
        exact w_iret gz_223_161 gm_223 (k1 h121 (v127) (gh121) (by omega) (by omega) (by omega) (by omega) (by omega) (by omega) (by first | exact Or.inl ⟨nE, fun j _ _ => by rw [MS_eq e2q e3q]⟩ | exact ⟨fun j _ _ => e2q j, fun j _ _ => e3q j⟩ | exact Or.inr ⟨md8, MP_0 a1 b1 s8 B8 e157q le8 (by omega)⟩ | exact OtS_8 B8.2.2 | exact md8 | exact MP_k0 a1 b1 s8 B8 my8 (by omega) (by omega) (by omega) an8 | exact MP_k1 a1 b1 s8 T0 B8 my8 (by omega) fh121 o94 z94 an8 | exact MP_k2 a1 b1 s8 B8 my8 (by omega) fh121 o132 an8 | exact MP_k3 ag150 e188w hlm (by omega) (by omega) tx (cbf 0 (by omega) (by omega)) a1 b1 s8 B8 my8 (by omega) ly8 an8 | exact absurd x3k cok | exact ot8 | exact OtS_eq (OtS_8 B8.2.2) (fun j _ => my_up_ne fh121 (by omega)) (fun j a => my_up_ne fh121 (by omega)) | exact OtS_eq (OtS_8 B8.2.2) (fun j a => my_up_ne fh121 (by omega)) (fun j _ => my_up_ne fh121 (by omega)) | assumption | omega) (by first | exact Or.inl ⟨nE, fun j _ _ => by rw [MS_eq e2q e3q]⟩ | exact ⟨fun j _ _ => e2q j, fun j _ _ => e3q j⟩ | exact Or.inr ⟨md8, MP_0 a1 b1 s8 B8 e157q le8 (by omega)⟩ | exact OtS_8 B8.2.2 | exact md8 | exact MP_k0 a1 b1 s8 B8 my8 (by omega) (by omega) (by omega) an8 | exact MP_k1 a1 b1 s8 T0 B8 my8 (by omega) fh121 o94 z94 an8 | exact MP_k2 a1 b1 s8 B8 my8 (by omega) fh121 o132 an8 | exact MP_k3 ag150 e188w hlm (by omega) (by omega) tx (cbf 0 (by omega) (by omega)) a1 b1 s8 B8 my8 (by omega) ly8 an8 | exact absurd x3k cok | exact ot8 | exact OtS_eq (OtS_8 B8.2.2) (fun j _ => my_up_ne fh121 (by omega)) (fun j a => my_up_ne fh121 (by omega)) | exact OtS_eq (OtS_8 B8.2.2) (fun j a => my_up_ne fh121 (by omega)) (fun j _ => my_up_ne fh121 (by omega)) | assumption | omega) (by first | exact Or.inl ⟨nE, fun j _ _ => by rw [MS_eq e2q e3q]⟩ | exact ⟨fun j _ _ => e2q j, fun j _ _ => e3q j⟩ | exact Or.inr ⟨md8, MP_0 a1 b1 s8 B8 e157q le8 (by omega)⟩ | exact OtS_8 B8.2.2 | exact md8 | exact MP_k0 a1 b1 s8 B8 my8 (by omega) (by omega) (by omega) an8 | exact MP_k1 a1 b1 s8 T0 B8 my8 (by omega) fh121 o94 z94 an8 | exact MP_k2 a1 b1 s8 B8 my8 (by omega) fh121 o132 an8 | exact MP_k3 ag150 e188w hlm (by omega) (by omega) tx (cbf 0 (by omega) (by omega)) a1 b1 s8 B8 my8 (by omega) ly8 an8 | exact absurd x3k cok | exact ot8 | exact OtS_eq (OtS_8 B8.2.2) (fun j _ => my_up_ne fh121 (by omega)) (fun j a => my_up_ne fh121 (by omega)) | exact OtS_eq (OtS_8 B8.2.2) (fun j a => my_up_ne fh121 (by omega)) (fun j _ => my_up_ne fh121 (by omega)) | assumption | omega) Rws_h121)
    ·
      refine w_iconst gz_223_42 (by decide) ?_
      exact w_iret gz_223_43 gm_223 (k0 h23 (gh23) (by first | exact Or.inl ⟨nE, fun j _ _ => by rw [MS_eq e2q e3q]⟩ | exact ⟨fun j _ _ => e2q j, fun j _ _ => e3q j⟩ | exact Or.inr ⟨md8, MP_0 a1 b1 s8 B8 e157q le8 (by omega)⟩ | exact OtS_8 B8.2.2 | exact md8 | exact MP_k0 a1 b1 s8 B8 my8 (by omega) (by omega) (by omega) an8 | exact MP_k1 a1 b1 s8 T0 B8 my8 (by omega) no_such_saying o94 z94 an8 | exact MP_k2 a1 b1 s8 B8 my8 (by omega) no_such_saying o132 an8 | exact MP_k3 ag150 e188w hlm (by omega) (by omega) tx (cbf 0 (by omega) (by omega)) a1 b1 s8 B8 my8 (by omega) ly8 an8 | exact absurd x3k cok | exact ot8 | exact OtS_eq (OtS_8 B8.2.2) (fun j _ => my_up_ne no_such_saying (by omega)) (fun j a => my_up_ne no_such_saying (by omega)) | exact OtS_eq (OtS_8 B8.2.2) (fun j a => my_up_ne no_such_saying (by omega)) (fun j _ => my_up_ne no_such_saying (by omega)) | assumption | omega) (by first | exact Or.inl ⟨nE, fun j _ _ => by rw [MS_eq e2q e3q]⟩ | exact ⟨fun j _ _ => e2q j, fun j _ _ => e3q j⟩ | exact Or.inr ⟨md8, MP_0 a1 b1 s8 B8 e157q le8 (by omega)⟩ | exact OtS_8 B8.2.2 | exact md8 | exact MP_k0 a1 b1 s8 B8 my8 (by omega) (by omega) (by omega) an8 | exact MP_k1 a1 b1 s8 T0 B8 my8 (by omega) no_such_saying o94 z94 an8 | exact MP_k2 a1 b1 s8 B8 my8 (by omega) no_such_saying o132 an8 | exact MP_k3 ag150 e188w hlm (by omega) (by omega) tx (cbf 0 (by omega) (by omega)) a1 b1 s8 B8 my8 (by omega) ly8 an8 | exact absurd x3k cok | exact ot8 | exact OtS_eq (OtS_8 B8.2.2) (fun j _ => my_up_ne no_such_saying (by omega)) (fun j a => my_up_ne no_such_saying (by omega)) | exact OtS_eq (OtS_8 B8.2.2) (fun j a => my_up_ne no_such_saying (by omega)) (fun j _ => my_up_ne no_such_saying (by omega)) | assumption | omega) Rws_h23t27)
end MYNModel_puts5
