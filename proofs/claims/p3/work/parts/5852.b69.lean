/-! contracts, printed by wip/gen/gy.py -/
section MYNModel_mark5
theorem c_Model_mark5 {l : Launch} {rho : Nat → Int32} {d : Nat} {h : my_H} {Q : my_H → my_V → Prop} {x1 x2 : Int} (a2 : 0 ≤ x2) (b2 : x2 ≤ 1) (n_Rws : Rws h) (k0 : ∀ (h' : my_H), my_fr [(10, 0), (61, -1), (62, -1), (101, -1)] h h' → h' 151 0 = 0 → (¬ ((0 ≤ x1 ∧ x1 ≤ 3) ∧ (x2 ≠ 0 → h 202 x1 = 1 ∧ zqLf (zqMA h) (zqMS h (1 + x1))))) → ((∀ j : Int, h' 162 j = h 162 j) ∧ ∀ j : Int, h' 163 j = h 163 j) → (∀ j : Int, h' 202 j = h 202 j) → Rws h' → Q h' (0, 0)) (k1 : ∀ (h' : my_H), my_fr [(10, 0), (61, -1), (62, -1), (101, -1)] h h' → 0 ≤ x1 → x1 ≤ 3 → h' 151 0 = 0 → ((0 ≤ x1 ∧ x1 ≤ 3) ∧ (x2 ≠ 0 → h 202 x1 = 1 ∧ zqLf (zqMA h) (zqMS h (1 + x1)))) → ((x2 = 0 → zqAg (zqMS h 0) (zqMS h' (1 + x1)) ∧ OtT h h' (1 + x1) 5 5) ∧ (x2 ≠ 0 → zqAg (zqMS h (1 + x1)) (zqMS h' 0) ∧ OtT h h' 0 5 5)) → h' 202 = zyU (h 202) x1 1 → Rws h' → Q h' (0, 1)) : wp l rho (d + 4) 248 0 [(2, 151), (0, x1), (0, x2)] [] h Q := by
  refine v_knowA (x := 162) is_162 rd_61 (fun kT => ?_)
  refine v_knowA (x := 163) is_163 rd_62 (fun kV => ?_)
  refine v_knowA (x := 160) is_160 rd_59 (fun kN => ?_)
  refine v_knowA (x := 157) is_157 rd_56 (fun kC => ?_)
  have T : MTy h := ⟨kV, kT, kN, kC⟩
  refine w_aload_n gz_248_0 rfl ?_
  refine w_iconst gz_248_1 (by decide) ?_
  refine v_putI (j := 0) gz_248_2 rfl is_151 rd_10 rfl (by omega) (by omega) rfl (fun h1 fh1 => ?_)
  have gh1 : my_fr [(10, 0), (61, -1), (62, -1), (101, -1)] h h1 := my_fr.up my_fr.rf is_151 fh1 rfl
  have Rws_h1 : Rws h1 := Rws_ag (my_ag.up fh1 is_151 rfl) n_Rws
  refine w_iload_n gz_248_5 rfl ?_
  refine w_iconst gz_248_6 (by decide) ?_
  refine w_iconst gz_248_7 (by decide) ?_
  refine w_inS (k := 0) (as := [(0, 3), (0, 0), (0, x1)]) (r := []) (ls0 := [(0, x1), (0, 0), (0, 3)]) gz_248_8 gm_147 rfl rfl rfl rfl rfl rfl ?_
  refine w_iload_n gz_147_0 rfl ?_
  refine w_iload_n gz_147_1 rfl ?_
  refine w_iclt (t := 14) gz_147_2 rfl (fun u2 => ?_) (fun u2 => ?_)
  ·
    refine w_iconst gz_147_14 (by decide) ?_
    refine w_bret gz_147_15 gm_147 (by omega) (by omega) ?_
    show wp l rho (d + 4) 248 11 [(2, 151), (0, x1), (0, x2)] [(0, 0)] h1 Q
    have c157 : ∀ j : Int, h1 157 j = h 157 j := fun j => ((my_up_role fh1 is_157 is_151 rfl).trans (rfl : h 157 j = h 157 j))
    have c158 : ∀ j : Int, h1 158 j = h 158 j := fun j => ((my_up_role fh1 is_158 is_151 rfl).trans (rfl : h 158 j = h 158 j))
    have c159 : ∀ j : Int, h1 159 j = h 159 j := fun j => ((my_up_role fh1 is_159 is_151 rfl).trans (rfl : h 159 j = h 159 j))
    have c160 : ∀ j : Int, h1 160 j = h 160 j := fun j => ((my_up_role fh1 is_160 is_151 rfl).trans (rfl : h 160 j = h 160 j))
    have c161 : ∀ j : Int, h1 161 j = h 161 j := fun j => ((my_up_role fh1 is_161 is_151 rfl).trans (rfl : h 161 j = h 161 j))
    have b162 : ∀ j : Int, h1 162 j = h 162 j := fun j => ((my_up_role fh1 is_162 is_151 rfl).trans (rfl : h 162 j = h 162 j))
    have b163 : ∀ j : Int, h1 163 j = h 163 j := fun j => ((my_up_role fh1 is_163 is_151 rfl).trans (rfl : h 163 j = h 163 j))
    have c202 : ∀ j : Int, h1 202 j = h 202 j := fun j => ((my_up_role fh1 is_202 is_151 rfl).trans (rfl : h 202 j = h 202 j))
    have n2 := c202 x1
    have e1a : zqMA h1 = zqMA h := zqMA_e c157 c158 c159 c160 c161
    have e1t : zqMS h1 (1 + x1) = zqMS h (1 + x1) := MS_eq b162 b163
    refine w_ifeq (t := 37) gz_248_11 rfl (fun u3 => ?_) (fun u3 => by exfalso; omega)
    refine w_iconst gz_248_37 (by decide) ?_
    have c4 := (my_up_self fh1)
    exact w_bret gz_248_38 gm_248 (by omega) (by omega) (k0 h1 (gh1) (by omega) (by first | exact ⟨⟨by omega, by omega⟩, fun z => absurd z (by omega)⟩ | exact ⟨⟨by omega, by omega⟩, fun _ => ⟨by omega, (mk_lf T e1a e1t (by omega) c157 c160 b162 b163).mp lf8⟩⟩ | exact ⟨fun _ => mk_c cp8 cq8 b162 b163 f71, fun z => absurd (by omega) z⟩ | exact ⟨fun z => absurd z (by omega), fun _ => mk_c cp8 cq8 b162 b163 f71⟩ | exact c160w d202 f71 rfl | exact (fun z => by have z1 : 0 ≤ x1 ∧ x1 ≤ 3 := z.1; omega) | exact (fun z => by have z1 := (z.2 (by omega)).1; omega) | exact (fun z => lf8 ((mk_lf T e1a e1t (by omega) c157 c160 b162 b163).mpr (z.2 (by omega)).2)) | exact ⟨b162, b163⟩ | exact c202 | assumption | omega) (by first | exact ⟨⟨by omega, by omega⟩, fun z => absurd z (by omega)⟩ | exact ⟨⟨by omega, by omega⟩, fun _ => ⟨by omega, (mk_lf T e1a e1t (by omega) c157 c160 b162 b163).mp lf8⟩⟩ | exact ⟨fun _ => mk_c cp8 cq8 b162 b163 f71, fun z => absurd (by omega) z⟩ | exact ⟨fun z => absurd z (by omega), fun _ => mk_c cp8 cq8 b162 b163 f71⟩ | exact c160w d202 f71 rfl | exact (fun z => by have z1 : 0 ≤ x1 ∧ x1 ≤ 3 := z.1; omega) | exact (fun z => by have z1 := (z.2 (by omega)).1; omega) | exact (fun z => lf8 ((mk_lf T e1a e1t (by omega) c157 c160 b162 b163).mpr (z.2 (by omega)).2)) | exact ⟨b162, b163⟩ | exact c202 | assumption | omega) (by first | exact ⟨⟨by omega, by omega⟩, fun z => absurd z (by omega)⟩ | exact ⟨⟨by omega, by omega⟩, fun _ => ⟨by omega, (mk_lf T e1a e1t (by omega) c157 c160 b162 b163).mp lf8⟩⟩ | exact ⟨fun _ => mk_c cp8 cq8 b162 b163 f71, fun z => absurd (by omega) z⟩ | exact ⟨fun z => absurd z (by omega), fun _ => mk_c cp8 cq8 b162 b163 f71⟩ | exact c160w d202 f71 rfl | exact (fun z => by have z1 : 0 ≤ x1 ∧ x1 ≤ 3 := z.1; omega) | exact (fun z => by have z1 := (z.2 (by omega)).1; omega) | exact (fun z => lf8 ((mk_lf T e1a e1t (by omega) c157 c160 b162 b163).mpr (z.2 (by omega)).2)) | exact ⟨b162, b163⟩ | exact c202 | assumption | omega) Rws_h1)
  ·
    refine w_iload_n gz_147_5 rfl ?_
    refine w_iload_n gz_147_6 rfl ?_
    refine w_icgt (t := 14) gz_147_7 rfl (fun u5 => ?_) (fun u5 => ?_)
    ·
      refine w_iconst gz_147_14 (by decide) ?_
      refine w_bret gz_147_15 gm_147 (by omega) (by omega) ?_
      show wp l rho (d + 4) 248 11 [(2, 151), (0, x1), (0, x2)] [(0, 0)] h1 Q
      have c157 : ∀ j : Int, h1 157 j = h 157 j := fun j => ((my_up_role fh1 is_157 is_151 rfl).trans (rfl : h 157 j = h 157 j))
      have c158 : ∀ j : Int, h1 158 j = h 158 j := fun j => ((my_up_role fh1 is_158 is_151 rfl).trans (rfl : h 158 j = h 158 j))
      have c159 : ∀ j : Int, h1 159 j = h 159 j := fun j => ((my_up_role fh1 is_159 is_151 rfl).trans (rfl : h 159 j = h 159 j))
      have c160 : ∀ j : Int, h1 160 j = h 160 j := fun j => ((my_up_role fh1 is_160 is_151 rfl).trans (rfl : h 160 j = h 160 j))
      have c161 : ∀ j : Int, h1 161 j = h 161 j := fun j => ((my_up_role fh1 is_161 is_151 rfl).trans (rfl : h 161 j = h 161 j))
      have b162 : ∀ j : Int, h1 162 j = h 162 j := fun j => ((my_up_role fh1 is_162 is_151 rfl).trans (rfl : h 162 j = h 162 j))
      have b163 : ∀ j : Int, h1 163 j = h 163 j := fun j => ((my_up_role fh1 is_163 is_151 rfl).trans (rfl : h 163 j = h 163 j))
      have c202 : ∀ j : Int, h1 202 j = h 202 j := fun j => ((my_up_role fh1 is_202 is_151 rfl).trans (rfl : h 202 j = h 202 j))
      have n2 := c202 x1
      have e1a : zqMA h1 = zqMA h := zqMA_e c157 c158 c159 c160 c161
      have e1t : zqMS h1 (1 + x1) = zqMS h (1 + x1) := MS_eq b162 b163
      refine w_ifeq (t := 37) gz_248_11 rfl (fun u6 => ?_) (fun u6 => by exfalso; omega)
      refine w_iconst gz_248_37 (by decide) ?_
      have c7 := (my_up_self fh1)
      exact w_bret gz_248_38 gm_248 (by omega) (by omega) (k0 h1 (gh1) (by omega) (by first | exact ⟨⟨by omega, by omega⟩, fun z => absurd z (by omega)⟩ | exact ⟨⟨by omega, by omega⟩, fun _ => ⟨by omega, (mk_lf T e1a e1t (by omega) c157 c160 b162 b163).mp lf8⟩⟩ | exact ⟨fun _ => mk_c cp8 cq8 b162 b163 f71, fun z => absurd (by omega) z⟩ | exact ⟨fun z => absurd z (by omega), fun _ => mk_c cp8 cq8 b162 b163 f71⟩ | exact c160w d202 f71 rfl | exact (fun z => by have z1 : 0 ≤ x1 ∧ x1 ≤ 3 := z.1; omega) | exact (fun z => by have z1 := (z.2 (by omega)).1; omega) | exact (fun z => lf8 ((mk_lf T e1a e1t (by omega) c157 c160 b162 b163).mpr (z.2 (by omega)).2)) | exact ⟨b162, b163⟩ | exact c202 | assumption | omega) (by first | exact ⟨⟨by omega, by omega⟩, fun z => absurd z (by omega)⟩ | exact ⟨⟨by omega, by omega⟩, fun _ => ⟨by omega, (mk_lf T e1a e1t (by omega) c157 c160 b162 b163).mp lf8⟩⟩ | exact ⟨fun _ => mk_c cp8 cq8 b162 b163 f71, fun z => absurd (by omega) z⟩ | exact ⟨fun z => absurd z (by omega), fun _ => mk_c cp8 cq8 b162 b163 f71⟩ | exact c160w d202 f71 rfl | exact (fun z => by have z1 : 0 ≤ x1 ∧ x1 ≤ 3 := z.1; omega) | exact (fun z => by have z1 := (z.2 (by omega)).1; omega) | exact (fun z => lf8 ((mk_lf T e1a e1t (by omega) c157 c160 b162 b163).mpr (z.2 (by omega)).2)) | exact ⟨b162, b163⟩ | exact c202 | assumption | omega) (by first | exact ⟨⟨by omega, by omega⟩, fun z => absurd z (by omega)⟩ | exact ⟨⟨by omega, by omega⟩, fun _ => ⟨by omega, (mk_lf T e1a e1t (by omega) c157 c160 b162 b163).mp lf8⟩⟩ | exact ⟨fun _ => mk_c cp8 cq8 b162 b163 f71, fun z => absurd (by omega) z⟩ | exact ⟨fun z => absurd z (by omega), fun _ => mk_c cp8 cq8 b162 b163 f71⟩ | exact c160w d202 f71 rfl | exact (fun z => by have z1 : 0 ≤ x1 ∧ x1 ≤ 3 := z.1; omega) | exact (fun z => by have z1 := (z.2 (by omega)).1; omega) | exact (fun z => lf8 ((mk_lf T e1a e1t (by omega) c157 c160 b162 b163).mpr (z.2 (by omega)).2)) | exact ⟨b162, b163⟩ | exact c202 | assumption | omega) Rws_h1)
    ·
      refine w_iconst gz_147_10 (by decide) ?_
      refine w_goto (t := 15) gz_147_11 rfl ?_
      refine w_bret gz_147_15 gm_147 (by omega) (by omega) ?_
      show wp l rho (d + 4) 248 11 [(2, 151), (0, x1), (0, x2)] [(0, 1)] h1 Q
      have c157 : ∀ j : Int, h1 157 j = h 157 j := fun j => ((my_up_role fh1 is_157 is_151 rfl).trans (rfl : h 157 j = h 157 j))
      have c158 : ∀ j : Int, h1 158 j = h 158 j := fun j => ((my_up_role fh1 is_158 is_151 rfl).trans (rfl : h 158 j = h 158 j))
      have c159 : ∀ j : Int, h1 159 j = h 159 j := fun j => ((my_up_role fh1 is_159 is_151 rfl).trans (rfl : h 159 j = h 159 j))
      have c160 : ∀ j : Int, h1 160 j = h 160 j := fun j => ((my_up_role fh1 is_160 is_151 rfl).trans (rfl : h 160 j = h 160 j))
      have c161 : ∀ j : Int, h1 161 j = h 161 j := fun j => ((my_up_role fh1 is_161 is_151 rfl).trans (rfl : h 161 j = h 161 j))
      have b162 : ∀ j : Int, h1 162 j = h 162 j := fun j => ((my_up_role fh1 is_162 is_151 rfl).trans (rfl : h 162 j = h 162 j))
      have b163 : ∀ j : Int, h1 163 j = h 163 j := fun j => ((my_up_role fh1 is_163 is_151 rfl).trans (rfl : h 163 j = h 163 j))
      have c202 : ∀ j : Int, h1 202 j = h 202 j := fun j => ((my_up_role fh1 is_202 is_151 rfl).trans (rfl : h 202 j = h 202 j))
      have n2 := c202 x1
      have e1a : zqMA h1 = zqMA h := zqMA_e c157 c158 c159 c160 c161
      have e1t : zqMS h1 (1 + x1) = zqMS h (1 + x1) := MS_eq b162 b163
      refine w_ifeq (t := 37) gz_248_11 rfl (fun u8 => by exfalso; omega) (fun u8 => ?_)
      refine w_iload_n gz_248_14 rfl ?_
      refine w_ifeq (t := 39) gz_248_15 rfl (fun u9 => ?_) (fun u9 => ?_)
      ·
        refine w_aload_n gz_248_39 rfl ?_
        refine w_iload_n gz_248_40 rfl ?_
        refine w_ifeq (t := 50) gz_248_41 rfl (fun u10 => ?_) (fun u10 => by exfalso; omega)
        refine w_iconst gz_248_50 (by decide) ?_
        refine w_iload_n gz_248_51 rfl ?_
        refine w_ifeq (t := 59) gz_248_52 rfl (fun u11 => ?_) (fun u11 => by exfalso; omega)
        refine w_iconst gz_248_59 (by decide) ?_
        refine w_iload_n gz_248_60 rfl ?_
        refine w_iadd gz_248_61 ⟨by omega, by omega⟩ ?_
        refine w_inv (k := 1) (as := [(0, (1 + x1)), (0, 0)]) (r := []) (x := 151) (ls0 := [(2, 151), (0, 0), (0, (1 + x1)), (9, 0)]) gz_248_62 gm_152 rfl is_151 rd_10 rfl rfl rfl rfl rfl (c_Model_copies5 (d := (d + 3)) (x1 := 0) (x2 := (1 + x1)) (by omega) (by omega) (by omega) (by omega) Rws_h1 (fun h12 frh12 xp13 xp14 Rws_h12t15 => ?_))
        have gh12 : my_fr [(10, 0), (61, -1), (62, -1), (101, -1)] h h12 := my_fr.tr gh1 (frh12.mo rfl)
        show wp l rho (d + 4) 248 65 [(2, 151), (0, x1), (0, x2)] [] h12 Q
        have cp8 := xp13
        have cq8 := xp14
        have d202 : ∀ j : Int, h12 202 j = h 202 j := fun j => ((my_fr.at frh12 is_202 rfl).trans ((my_up_role fh1 is_202 is_151 rfl).trans (rfl : h 202 j = h 202 j)))
        refine w_aload_n gz_248_65 rfl ?_
        refine w_getX (v := 202) gz_248_66 is_151 rd_10 rfl (by decide) rfl ?_
        refine w_iload_n gz_248_69 rfl ?_
        refine w_iconst gz_248_70 (by decide) ?_
        refine w_bast gz_248_71 is_202 rd_101 (by omega) (by omega) (by omega) (by omega) (fun h17 fh17 => ?_)
        have gh17 : my_fr [(10, 0), (61, -1), (62, -1), (101, -1)] h h17 := my_fr.up gh12 is_202 fh17 rfl
        have Rws_h17 : Rws h17 := Rws_ag (my_ag.up fh17 is_202 rfl) Rws_h12t15
        have f71 := fh17
        refine w_iconst gz_248_72 (by decide) ?_
        have c18 := ((my_up_role fh17 is_151 is_202 rfl).trans ((my_fr.at frh12 is_151 rfl).trans (my_up_self fh1)))
        exact w_bret gz_248_73 gm_248 (by omega) (by omega) (k1 h17 (gh17) (by omega) (by omega) (by omega) (by first | exact ⟨⟨by omega, by omega⟩, fun z => absurd z (by omega)⟩ | exact ⟨⟨by omega, by omega⟩, fun _ => ⟨by omega, (mk_lf T e1a e1t (by omega) c157 c160 b162 b163).mp lf8⟩⟩ | exact ⟨fun _ => mk_c cp8 cq8 b162 b163 f71, fun z => absurd (by omega) z⟩ | exact ⟨fun z => absurd z (by omega), fun _ => mk_c cp8 cq8 b162 b163 f71⟩ | exact c160w d202 f71 rfl | exact (fun z => by have z1 : 0 ≤ x1 ∧ x1 ≤ 3 := z.1; omega) | exact (fun z => by have z1 := (z.2 (by omega)).1; omega) | exact (fun z => lf8 ((mk_lf T e1a e1t (by omega) c157 c160 b162 b163).mpr (z.2 (by omega)).2)) | exact ⟨b162, b163⟩ | exact c202 | assumption | omega) (by first | exact ⟨⟨by omega, by omega⟩, fun z => absurd z (by omega)⟩ | exact ⟨⟨by omega, by omega⟩, fun _ => ⟨by omega, (mk_lf T e1a e1t (by omega) c157 c160 b162 b163).mp lf8⟩⟩ | exact ⟨fun _ => mk_c cp8 cq8 b162 b163 f71, fun z => absurd (by omega) z⟩ | exact ⟨fun z => absurd z (by omega), fun _ => mk_c cp8 cq8 b162 b163 f71⟩ | exact c160w d202 f71 rfl | exact (fun z => by have z1 : 0 ≤ x1 ∧ x1 ≤ 3 := z.1; omega) | exact (fun z => by have z1 := (z.2 (by omega)).1; omega) | exact (fun z => lf8 ((mk_lf T e1a e1t (by omega) c157 c160 b162 b163).mpr (z.2 (by omega)).2)) | exact ⟨b162, b163⟩ | exact c202 | assumption | omega) (by first | exact ⟨⟨by omega, by omega⟩, fun z => absurd z (by omega)⟩ | exact ⟨⟨by omega, by omega⟩, fun _ => ⟨by omega, (mk_lf T e1a e1t (by omega) c157 c160 b162 b163).mp lf8⟩⟩ | exact ⟨fun _ => mk_c cp8 cq8 b162 b163 f71, fun z => absurd (by omega) z⟩ | exact ⟨fun z => absurd z (by omega), fun _ => mk_c cp8 cq8 b162 b163 f71⟩ | exact c160w d202 f71 rfl | exact (fun z => by have z1 : 0 ≤ x1 ∧ x1 ≤ 3 := z.1; omega) | exact (fun z => by have z1 := (z.2 (by omega)).1; omega) | exact (fun z => lf8 ((mk_lf T e1a e1t (by omega) c157 c160 b162 b163).mpr (z.2 (by omega)).2)) | exact ⟨b162, b163⟩ | exact c202 | assumption | omega) Rws_h17)
      ·
        refine w_aload_n gz_248_18 rfl ?_
        refine w_getX (v := 202) gz_248_19 is_151 rd_10 rfl (by decide) rfl ?_
        refine w_iload_n gz_248_22 rfl ?_
        refine w_bald gz_248_23 is_202 rd_101 (by omega) (by omega) (fun v20 ev20 pv20 qv20 => ?_)
        refine w_ifeq (t := 37) gz_248_24 rfl (fun u21 => ?_) (fun u21 => ?_)
        ·
          refine w_iconst gz_248_37 (by decide) ?_
          have c22 := (my_up_self fh1)
          exact w_bret gz_248_38 gm_248 (by omega) (by omega) (k0 h1 (gh1) (by omega) (by first | exact ⟨⟨by omega, by omega⟩, fun z => absurd z (by omega)⟩ | exact ⟨⟨by omega, by omega⟩, fun _ => ⟨by omega, (mk_lf T e1a e1t (by omega) c157 c160 b162 b163).mp lf8⟩⟩ | exact ⟨fun _ => mk_c cp8 cq8 b162 b163 f71, fun z => absurd (by omega) z⟩ | exact ⟨fun z => absurd z (by omega), fun _ => mk_c cp8 cq8 b162 b163 f71⟩ | exact c160w d202 f71 rfl | exact (fun z => by have z1 : 0 ≤ x1 ∧ x1 ≤ 3 := z.1; omega) | exact (fun z => by have z1 := (z.2 (by omega)).1; omega) | exact (fun z => lf8 ((mk_lf T e1a e1t (by omega) c157 c160 b162 b163).mpr (z.2 (by omega)).2)) | exact ⟨b162, b163⟩ | exact c202 | assumption | omega) (by first | exact ⟨⟨by omega, by omega⟩, fun z => absurd z (by omega)⟩ | exact ⟨⟨by omega, by omega⟩, fun _ => ⟨by omega, (mk_lf T e1a e1t (by omega) c157 c160 b162 b163).mp lf8⟩⟩ | exact ⟨fun _ => mk_c cp8 cq8 b162 b163 f71, fun z => absurd (by omega) z⟩ | exact ⟨fun z => absurd z (by omega), fun _ => mk_c cp8 cq8 b162 b163 f71⟩ | exact c160w d202 f71 rfl | exact (fun z => by have z1 : 0 ≤ x1 ∧ x1 ≤ 3 := z.1; omega) | exact (fun z => by have z1 := (z.2 (by omega)).1; omega) | exact (fun z => lf8 ((mk_lf T e1a e1t (by omega) c157 c160 b162 b163).mpr (z.2 (by omega)).2)) | exact ⟨b162, b163⟩ | exact c202 | assumption | omega) (by first | exact ⟨⟨by omega, by omega⟩, fun z => absurd z (by omega)⟩ | exact ⟨⟨by omega, by omega⟩, fun _ => ⟨by omega, (mk_lf T e1a e1t (by omega) c157 c160 b162 b163).mp lf8⟩⟩ | exact ⟨fun _ => mk_c cp8 cq8 b162 b163 f71, fun z => absurd (by omega) z⟩ | exact ⟨fun z => absurd z (by omega), fun _ => mk_c cp8 cq8 b162 b163 f71⟩ | exact c160w d202 f71 rfl | exact (fun z => by have z1 : 0 ≤ x1 ∧ x1 ≤ 3 := z.1; omega) | exact (fun z => by have z1 := (z.2 (by omega)).1; omega) | exact (fun z => lf8 ((mk_lf T e1a e1t (by omega) c157 c160 b162 b163).mpr (z.2 (by omega)).2)) | exact ⟨b162, b163⟩ | exact c202 | assumption | omega) Rws_h1)
        ·
          refine w_aload_n gz_248_27 rfl ?_
          refine w_iconst gz_248_28 (by decide) ?_
          refine w_iload_n gz_248_29 rfl ?_
          refine w_iadd gz_248_30 ⟨by omega, by omega⟩ ?_
          refine w_inv (k := 2) (as := [(0, (1 + x1))]) (r := []) (x := 151) (ls0 := [(2, 151), (0, (1 + x1)), (9, 0), (9, 0)]) gz_248_31 gm_155 rfl is_151 rd_10 rfl rfl rfl rfl rfl (c_Model_isLawful5 (d := d) (x1 := (1 + x1)) (by omega) (by omega) (fun xp23 => ?_) (fun xp24 => ?_))
          ·
            show wp l rho (d + 4) 248 34 [(2, 151), (0, x1), (0, x2)] [(0, 0)] h1 Q
            have lf8 := xp23
            refine w_ifne (t := 39) gz_248_34 rfl (fun u25 => by exfalso; omega) (fun u25 => ?_)
            refine w_iconst gz_248_37 (by decide) ?_
            have c26 := (my_up_self fh1)
            exact w_bret gz_248_38 gm_248 (by omega) (by omega) (k0 h1 (gh1) (by omega) (by first | exact ⟨⟨by omega, by omega⟩, fun z => absurd z (by omega)⟩ | exact ⟨⟨by omega, by omega⟩, fun _ => ⟨by omega, (mk_lf T e1a e1t (by omega) c157 c160 b162 b163).mp lf8⟩⟩ | exact ⟨fun _ => mk_c cp8 cq8 b162 b163 f71, fun z => absurd (by omega) z⟩ | exact ⟨fun z => absurd z (by omega), fun _ => mk_c cp8 cq8 b162 b163 f71⟩ | exact c160w d202 f71 rfl | exact (fun z => by have z1 : 0 ≤ x1 ∧ x1 ≤ 3 := z.1; omega) | exact (fun z => by have z1 := (z.2 (by omega)).1; omega) | exact (fun z => lf8 ((mk_lf T e1a e1t (by omega) c157 c160 b162 b163).mpr (z.2 (by omega)).2)) | exact ⟨b162, b163⟩ | exact c202 | assumption | omega) (by first | exact ⟨⟨by omega, by omega⟩, fun z => absurd z (by omega)⟩ | exact ⟨⟨by omega, by omega⟩, fun _ => ⟨by omega, (mk_lf T e1a e1t (by omega) c157 c160 b162 b163).mp lf8⟩⟩ | exact ⟨fun _ => mk_c cp8 cq8 b162 b163 f71, fun z => absurd (by omega) z⟩ | exact ⟨fun z => absurd z (by omega), fun _ => mk_c cp8 cq8 b162 b163 f71⟩ | exact c160w d202 f71 rfl | exact (fun z => by have z1 : 0 ≤ x1 ∧ x1 ≤ 3 := z.1; omega) | exact (fun z => by have z1 := (z.2 (by omega)).1; omega) | exact (fun z => lf8 ((mk_lf T e1a e1t (by omega) c157 c160 b162 b163).mpr (z.2 (by omega)).2)) | exact ⟨b162, b163⟩ | exact c202 | assumption | omega) (by first | exact ⟨⟨by omega, by omega⟩, fun z => absurd z (by omega)⟩ | exact ⟨⟨by omega, by omega⟩, fun _ => ⟨by omega, (mk_lf T e1a e1t (by omega) c157 c160 b162 b163).mp lf8⟩⟩ | exact ⟨fun _ => mk_c cp8 cq8 b162 b163 f71, fun z => absurd (by omega) z⟩ | exact ⟨fun z => absurd z (by omega), fun _ => mk_c cp8 cq8 b162 b163 f71⟩ | exact c160w d202 f71 rfl | exact (fun z => by have z1 : 0 ≤ x1 ∧ x1 ≤ 3 := z.1; omega) | exact (fun z => by have z1 := (z.2 (by omega)).1; omega) | exact (fun z => lf8 ((mk_lf T e1a e1t (by omega) c157 c160 b162 b163).mpr (z.2 (by omega)).2)) | exact ⟨b162, b163⟩ | exact c202 | assumption | omega) Rws_h1)
          ·
            show wp l rho (d + 4) 248 34 [(2, 151), (0, x1), (0, x2)] [(0, 1)] h1 Q
            have lf8 := xp24
            refine w_ifne (t := 39) gz_248_34 rfl (fun u27 => ?_) (fun u27 => by exfalso; omega)
            refine w_aload_n gz_248_39 rfl ?_
            refine w_iload_n gz_248_40 rfl ?_
            refine w_ifeq (t := 50) gz_248_41 rfl (fun u28 => by exfalso; omega) (fun u28 => ?_)
            refine w_iconst gz_248_44 (by decide) ?_
            refine w_iload_n gz_248_45 rfl ?_
            refine w_iadd gz_248_46 ⟨by omega, by omega⟩ ?_
            refine w_goto (t := 51) gz_248_47 rfl ?_
            refine w_iload_n gz_248_51 rfl ?_
            refine w_ifeq (t := 59) gz_248_52 rfl (fun u29 => by exfalso; omega) (fun u29 => ?_)
            refine w_iconst gz_248_55 (by decide) ?_
            refine w_goto (t := 62) gz_248_56 rfl ?_
            refine w_inv (k := 1) (as := [(0, 0), (0, (1 + x1))]) (r := []) (x := 151) (ls0 := [(2, 151), (0, (1 + x1)), (0, 0), (9, 0)]) gz_248_62 gm_152 rfl is_151 rd_10 rfl rfl rfl rfl rfl (c_Model_copies5 (d := (d + 3)) (x1 := (1 + x1)) (x2 := 0) (by omega) (by omega) (by omega) (by omega) Rws_h1 (fun h30 frh30 xp31 xp32 Rws_h30t33 => ?_))
            have gh30 : my_fr [(10, 0), (61, -1), (62, -1), (101, -1)] h h30 := my_fr.tr gh1 (frh30.mo rfl)
            show wp l rho (d + 4) 248 65 [(2, 151), (0, x1), (0, x2)] [] h30 Q
            have cp8 := xp31
            have cq8 := xp32
            have d202 : ∀ j : Int, h30 202 j = h 202 j := fun j => ((my_fr.at frh30 is_202 rfl).trans ((my_up_role fh1 is_202 is_151 rfl).trans (rfl : h 202 j = h 202 j)))
            refine w_aload_n gz_248_65 rfl ?_
            refine w_getX (v := 202) gz_248_66 is_151 rd_10 rfl (by decide) rfl ?_
            refine w_iload_n gz_248_69 rfl ?_
            refine w_iconst gz_248_70 (by decide) ?_
            refine w_bast gz_248_71 is_202 rd_101 (by omega) (by omega) (by omega) (by omega) (fun h35 fh35 => ?_)
            have gh35 : my_fr [(10, 0), (61, -1), (62, -1), (101, -1)] h h35 := my_fr.up gh30 is_202 fh35 rfl
            have Rws_h35 : Rws h35 := Rws_ag (my_ag.up fh35 is_202 rfl) Rws_h30t33
            have f71 := fh35
            refine w_iconst gz_248_72 (by decide) ?_
            have c36 := ((my_up_role fh35 is_151 is_202 rfl).trans ((my_fr.at frh30 is_151 rfl).trans (my_up_self fh1)))
            exact w_bret gz_248_73 gm_248 (by omega) (by omega) (k1 h35 (gh35) (by omega) (by omega) (by omega) (by first | exact ⟨⟨by omega, by omega⟩, fun z => absurd z (by omega)⟩ | exact ⟨⟨by omega, by omega⟩, fun _ => ⟨by omega, (mk_lf T e1a e1t (by omega) c157 c160 b162 b163).mp lf8⟩⟩ | exact ⟨fun _ => mk_c cp8 cq8 b162 b163 f71, fun z => absurd (by omega) z⟩ | exact ⟨fun z => absurd z (by omega), fun _ => mk_c cp8 cq8 b162 b163 f71⟩ | exact c160w d202 f71 rfl | exact (fun z => by have z1 : 0 ≤ x1 ∧ x1 ≤ 3 := z.1; omega) | exact (fun z => by have z1 := (z.2 (by omega)).1; omega) | exact (fun z => lf8 ((mk_lf T e1a e1t (by omega) c157 c160 b162 b163).mpr (z.2 (by omega)).2)) | exact ⟨b162, b163⟩ | exact c202 | assumption | omega) (by first | exact ⟨⟨by omega, by omega⟩, fun z => absurd z (by omega)⟩ | exact ⟨⟨by omega, by omega⟩, fun _ => ⟨by omega, (mk_lf T e1a e1t (by omega) c157 c160 b162 b163).mp lf8⟩⟩ | exact ⟨fun _ => mk_c cp8 cq8 b162 b163 f71, fun z => absurd (by omega) z⟩ | exact ⟨fun z => absurd z (by omega), fun _ => mk_c cp8 cq8 b162 b163 f71⟩ | exact c160w d202 f71 rfl | exact (fun z => by have z1 : 0 ≤ x1 ∧ x1 ≤ 3 := z.1; omega) | exact (fun z => by have z1 := (z.2 (by omega)).1; omega) | exact (fun z => lf8 ((mk_lf T e1a e1t (by omega) c157 c160 b162 b163).mpr (z.2 (by omega)).2)) | exact ⟨b162, b163⟩ | exact c202 | assumption | omega) (by first | exact ⟨⟨by omega, by omega⟩, fun z => absurd z (by omega)⟩ | exact ⟨⟨by omega, by omega⟩, fun _ => ⟨by omega, (mk_lf T e1a e1t (by omega) c157 c160 b162 b163).mp lf8⟩⟩ | exact ⟨fun _ => mk_c cp8 cq8 b162 b163 f71, fun z => absurd (by omega) z⟩ | exact ⟨fun z => absurd z (by omega), fun _ => mk_c cp8 cq8 b162 b163 f71⟩ | exact c160w d202 f71 rfl | exact (fun z => by have z1 : 0 ≤ x1 ∧ x1 ≤ 3 := z.1; omega) | exact (fun z => by have z1 := (z.2 (by omega)).1; omega) | exact (fun z => lf8 ((mk_lf T e1a e1t (by omega) c157 c160 b162 b163).mpr (z.2 (by omega)).2)) | exact ⟨b162, b163⟩ | exact c202 | assumption | omega) Rws_h35)
theorem c_Model_takes5 {l : Launch} {rho : Nat → Int32} {d : Nat} {h : my_H} {Q : my_H → my_V → Prop} (n_Rws : Rws h) (k0 : ∀ (h' : my_H), my_fr [(61, -1), (62, -1)] h h' → ¬ zqLf (zqMA h) (zqMS h 5) → ((∀ j : Int, h' 162 j = h 162 j) ∧ ∀ j : Int, h' 163 j = h 163 j) → Rws h' → Q h' (0, 0)) (k1 : ∀ (h' : my_H), my_fr [(61, -1), (62, -1)] h h' → zqLf (zqMA h) (zqMS h 5) → Cp h h' 5 0 ∧ CpI h h' 5 0 240 → Rws h' → Q h' (0, 1)) : wp l rho (d + 4) 154 0 [(2, 151)] [] h Q := by
  refine v_knowA (x := 162) is_162 rd_61 (fun kT => ?_)
  refine v_knowA (x := 163) is_163 rd_62 (fun kV => ?_)
  refine v_knowA (x := 160) is_160 rd_59 (fun kN => ?_)
  refine v_knowA (x := 157) is_157 rd_56 (fun kC => ?_)
  have T : MTy h := ⟨kV, kT, kN, kC⟩
  refine w_aload_n gz_154_0 rfl ?_
  refine w_iconst gz_154_1 (by decide) ?_
  refine w_inv (k := 2) (as := [(0, 5)]) (r := []) (x := 151) (ls0 := [(2, 151), (0, 5), (9, 0), (9, 0)]) gz_154_2 gm_155 rfl is_151 rd_10 rfl rfl rfl rfl rfl (c_Model_isLawful5 (d := d) (x1 := 5) (by omega) (by omega) (fun xp1 => ?_) (fun xp2 => ?_))
  ·
    show wp l rho (d + 4) 154 5 [(2, 151)] [(0, 0)] h Q
    have lf := xp1
    refine w_ifne (t := 10) gz_154_5 rfl (fun u3 => by exfalso; omega) (fun u3 => ?_)
    refine w_iconst gz_154_8 (by decide) ?_
    exact w_bret gz_154_9 gm_154 (by omega) (by omega) (k0 h (my_fr.rf) (by first | exact (MLs_lf T (by omega) (by omega)).mp lf | exact (fun z => lf ((MLs_lf T (by omega) (by omega)).mpr z)) | exact ⟨cp, cq⟩ | exact ⟨fun _ => rfl, fun _ => rfl⟩ | assumption | omega) (by first | exact (MLs_lf T (by omega) (by omega)).mp lf | exact (fun z => lf ((MLs_lf T (by omega) (by omega)).mpr z)) | exact ⟨cp, cq⟩ | exact ⟨fun _ => rfl, fun _ => rfl⟩ | assumption | omega) n_Rws)
  ·
    show wp l rho (d + 4) 154 5 [(2, 151)] [(0, 1)] h Q
    have lf := xp2
    refine w_ifne (t := 10) gz_154_5 rfl (fun u4 => ?_) (fun u4 => by exfalso; omega)
    refine w_aload_n gz_154_10 rfl ?_
    refine w_iconst gz_154_11 (by decide) ?_
    refine w_iconst gz_154_12 (by decide) ?_
    refine w_inv (k := 1) (as := [(0, 0), (0, 5)]) (r := []) (x := 151) (ls0 := [(2, 151), (0, 5), (0, 0), (9, 0)]) gz_154_13 gm_152 rfl is_151 rd_10 rfl rfl rfl rfl rfl (c_Model_copies5 (d := (d + 3)) (x1 := 5) (x2 := 0) (by omega) (by omega) (by omega) (by omega) n_Rws (fun h5 frh5 xp6 xp7 Rws_h5t8 => ?_))
    have gh5 : my_fr [(61, -1), (62, -1)] h h5 := my_fr.tr my_fr.rf (frh5.mo rfl)
    show wp l rho (d + 4) 154 16 [(2, 151)] [] h5 Q
    have cp := xp6
    have cq := xp7
    refine w_iconst gz_154_16 (by decide) ?_
    exact w_bret gz_154_17 gm_154 (by omega) (by omega) (k1 h5 (gh5) (by first | exact (MLs_lf T (by omega) (by omega)).mp lf | exact (fun z => lf ((MLs_lf T (by omega) (by omega)).mpr z)) | exact ⟨cp, cq⟩ | exact ⟨fun _ => rfl, fun _ => rfl⟩ | assumption | omega) (by first | exact (MLs_lf T (by omega) (by omega)).mp lf | exact (fun z => lf ((MLs_lf T (by omega) (by omega)).mpr z)) | exact ⟨cp, cq⟩ | exact ⟨fun _ => rfl, fun _ => rfl⟩ | assumption | omega) Rws_h5t8)
theorem c_Model_out5 {l : Launch} {rho : Nat → Int32} {d : Nat} {h : my_H} {Q : my_H → my_V → Prop} {x1 x2 : Int} (n_Rws : Rws h) (k0 : ∀ (h' : my_H), my_fr [(10, 0), (61, -1), (62, -1)] h h' → h' 151 0 = 0 → ¬ zyOut (zqMA h) (zqMS h 0) x1 x2 → OtT h h' 5 5 5 → Rws h' → Q h' (0, 0)) (k1 : ∀ (h' : my_H), my_fr [(10, 0), (61, -1), (62, -1)] h h' → 0 ≤ x1 → x1 ≤ 2 → 0 ≤ x2 → x2 ≤ 19 → h' 151 0 = 0 → zyOut (zqMA h) (zqMS h 0) x1 x2 → zqAg (zqDrop (zqMS h 0) x1 x2) (zqMS h' 0) ∧ OtT h h' 0 5 5 → Rws h' → Q h' (0, 1)) : wp l rho (d + 5) 158 0 [(2, 151), (0, x1), (0, x2)] [] h Q := by
  refine v_knowA (x := 162) is_162 rd_61 (fun kT => ?_)
  refine v_knowA (x := 163) is_163 rd_62 (fun kV => ?_)
  refine v_knowA (x := 160) is_160 rd_59 (fun kN => ?_)
  refine v_knowA (x := 157) is_157 rd_56 (fun kC => ?_)
  have T : MTy h := ⟨kV, kT, kN, kC⟩
  refine w_aload_n gz_158_0 rfl ?_
  refine w_iconst gz_158_1 (by decide) ?_
  refine v_putI (j := 0) gz_158_2 rfl is_151 rd_10 rfl (by omega) (by omega) rfl (fun h1 fh1 => ?_)
  have gh1 : my_fr [(10, 0), (61, -1), (62, -1)] h h1 := my_fr.up my_fr.rf is_151 fh1 rfl
  have Rws_h1 : Rws h1 := Rws_ag (my_ag.up fh1 is_151 rfl) n_Rws
  refine w_aload_n gz_158_5 rfl ?_
  refine w_iload_n gz_158_6 rfl ?_
  refine w_iload_n gz_158_7 rfl ?_
  have c157 : ∀ j : Int, h1 157 j = h 157 j := fun j => ((my_up_role fh1 is_157 is_151 rfl).trans (rfl : h 157 j = h 157 j))
  have c158 : ∀ j : Int, h1 158 j = h 158 j := fun j => ((my_up_role fh1 is_158 is_151 rfl).trans (rfl : h 158 j = h 158 j))
  have c159 : ∀ j : Int, h1 159 j = h 159 j := fun j => ((my_up_role fh1 is_159 is_151 rfl).trans (rfl : h 159 j = h 159 j))
  have c160 : ∀ j : Int, h1 160 j = h 160 j := fun j => ((my_up_role fh1 is_160 is_151 rfl).trans (rfl : h 160 j = h 160 j))
  have c161 : ∀ j : Int, h1 161 j = h 161 j := fun j => ((my_up_role fh1 is_161 is_151 rfl).trans (rfl : h 161 j = h 161 j))
  have b162 : ∀ j : Int, h1 162 j = h 162 j := fun j => ((my_up_role fh1 is_162 is_151 rfl).trans (rfl : h 162 j = h 162 j))
  have b163 : ∀ j : Int, h1 163 j = h 163 j := fun j => ((my_up_role fh1 is_163 is_151 rfl).trans (rfl : h 163 j = h 163 j))
  have e1a : zqMA h1 = zqMA h := zqMA_e c157 c158 c159 c160 c161
  have e1s : zqMS h1 0 = zqMS h 0 := MS_eq b162 b163
  refine w_inv (k := 0) (as := [(0, x2), (0, x1)]) (r := []) (x := 151) (ls0 := [(2, 151), (0, x1), (0, x2)]) gz_158_8 gm_159 rfl is_151 rd_10 rfl rfl rfl rfl rfl (c_Model_isRow5 (d := (d + 3)) (x1 := x1) (x2 := x2)  (fun xp2 => ?_) (fun w3 w4 w5 w6 xp7 => ?_))
  ·
    show wp l rho (d + 5) 158 11 [(2, 151), (0, x1), (0, x2)] [(0, 0)] h1 Q
    have zr := xp2
    rw [e1a, e1s] at zr
    refine w_ifne (t := 16) gz_158_11 rfl (fun u8 => by exfalso; omega) (fun u8 => ?_)
    refine w_iconst gz_158_14 (by decide) ?_
    have c9 := (my_up_self fh1)
    exact w_bret gz_158_15 gm_158 (by omega) (by omega) (k0 h1 (gh1) (by omega) (by first | exact ⟨zr, (Mlf_t T ma8 ot8.1).mp lf8⟩ | exact Mtk ot8.1 ot8.2 tk8 | exact (fun z => zr z.1) | exact (fun z => lf8 ((Mlf_t T ma8 ot8.1).mpr z.2)) | exact OtT_0 b162 b163 | exact OtT_e ot8.2 tk8.1 tk8.2 | assumption | omega) (by first | exact ⟨zr, (Mlf_t T ma8 ot8.1).mp lf8⟩ | exact Mtk ot8.1 ot8.2 tk8 | exact (fun z => zr z.1) | exact (fun z => lf8 ((Mlf_t T ma8 ot8.1).mpr z.2)) | exact OtT_0 b162 b163 | exact OtT_e ot8.2 tk8.1 tk8.2 | assumption | omega) Rws_h1)
  ·
    show wp l rho (d + 5) 158 11 [(2, 151), (0, x1), (0, x2)] [(0, 1)] h1 Q
    have zr := xp7
    rw [e1a, e1s] at zr
    refine w_ifne (t := 16) gz_158_11 rfl (fun u10 => ?_) (fun u10 => by exfalso; omega)
    refine w_aload_n gz_158_16 rfl ?_
    refine w_iconst gz_158_17 (by decide) ?_
    refine w_iconst gz_158_18 (by decide) ?_
    refine w_inv (k := 1) (as := [(0, 5), (0, 0)]) (r := []) (x := 151) (ls0 := [(2, 151), (0, 0), (0, 5), (9, 0)]) gz_158_19 gm_152 rfl is_151 rd_10 rfl rfl rfl rfl rfl (c_Model_copies5 (d := (d + 4)) (x1 := 0) (x2 := 5) (by omega) (by omega) (by omega) (by omega) Rws_h1 (fun h11 frh11 xp12 xp13 Rws_h11t14 => ?_))
    have gh11 : my_fr [(10, 0), (61, -1), (62, -1)] h h11 := my_fr.tr gh1 (frh11.mo rfl)
    show wp l rho (d + 5) 158 22 [(2, 151), (0, x1), (0, x2)] [] h11 Q
    have cp8 := xp12
    have cq8 := xp13
    refine w_aload_n gz_158_22 rfl ?_
    refine w_getX (v := 162) gz_158_23 is_151 rd_10 rfl (by decide) rfl ?_
    refine w_iconst gz_158_26 (by decide) ?_
    refine w_iload_n gz_158_27 rfl ?_
    refine w_iload_n gz_158_28 rfl ?_
    refine w_inS (k := 0) (as := [(0, x2), (0, x1), (0, 5)]) (r := [(2, 162)]) (ls0 := [(0, 5), (0, x1), (0, x2)]) gz_158_29 gm_150 rfl rfl rfl rfl rfl rfl ?_
    refine w_bipush gz_150_0 (by decide) ?_
    refine w_iload_n gz_150_2 rfl ?_
    refine w_imul gz_150_3 ⟨by omega, by omega⟩ ?_
    refine w_bipush gz_150_4 (by decide) ?_
    refine w_iload_n gz_150_6 rfl ?_
    refine w_imul gz_150_7 ⟨by omega, by omega⟩ ?_
    refine w_iadd gz_150_8 ⟨by omega, by omega⟩ ?_
    refine w_iload_n gz_150_9 rfl ?_
    refine w_iadd gz_150_10 ⟨by omega, by omega⟩ ?_
    refine w_iret gz_150_11 gm_150 ?_
    show wp l rho (d + 5) 158 32 [(2, 151), (0, x1), (0, x2)] [(0, (((60 * 5) + (20 * x1)) + x2)), (2, 162)] h11 Q
    refine v_knowA (x := 162) is_162 rd_61 (fun kT => ?_)
    refine w_iconst gz_158_32 (by decide) ?_
    refine w_bast gz_158_33 is_162 rd_61 (by omega) (by omega) (by omega) (by omega) (fun h16 fh16 => ?_)
    have gh16 : my_fr [(10, 0), (61, -1), (62, -1)] h h16 := my_fr.up gh11 is_162 fh16 rfl
    have Rws_h16t17 : Rws h16 := Rws_off fh16 (by have q := (kT (60 * 5 + 20 * x1 + x2) (by omega) (by omega)).1; omega) Rws_h11t14
    have f33 := fh16
    refine w_aload_n gz_158_34 rfl ?_
    have ot8 := Mout_t (w := x1) (k := x2) cp8 cq8 b162 b163 f33 (by omega) (by omega) (by omega) (by omega) (by omega)
    have ma8 : zqMA h16 = zqMA h := zqMA_e (fun j => my_fr.at gh16 pis_157 rfl) (fun j => my_fr.at gh16 pis_158 rfl) (fun j => my_fr.at gh16 pis_159 rfl) (fun j => my_fr.at gh16 pis_160 rfl) (fun j => my_fr.at gh16 pis_161 rfl)
    refine w_inv (k := 0) (as := []) (r := []) (x := 151) (ls0 := [(2, 151)]) gz_158_35 gm_154 rfl is_151 rd_10 rfl rfl rfl rfl rfl (c_Model_takes5 (d := d)  Rws_h16t17 (fun h18 frh18 xp19 xp20 Rws_h18t21 => ?_) (fun h22 frh22 xp23 xp24 Rws_h22t25 => ?_))
    ·
      have gh18 : my_fr [(10, 0), (61, -1), (62, -1)] h h18 := my_fr.tr gh16 (frh18.mo rfl)
      show wp l rho (d + 5) 158 38 [(2, 151), (0, x1), (0, x2)] [(0, 0)] h18 Q
      have lf8 := xp19
      have tk8 := xp20
      have c26 := ((my_fr.at frh18 is_151 rfl).trans ((my_up_role fh16 is_151 is_162 rfl).trans ((my_fr.at frh11 is_151 rfl).trans (my_up_self fh1))))
      exact w_bret gz_158_38 gm_158 (by omega) (by omega) (k0 h18 (gh18) (by omega) (by first | exact ⟨zr, (Mlf_t T ma8 ot8.1).mp lf8⟩ | exact Mtk ot8.1 ot8.2 tk8 | exact (fun z => zr z.1) | exact (fun z => lf8 ((Mlf_t T ma8 ot8.1).mpr z.2)) | exact OtT_0 b162 b163 | exact OtT_e ot8.2 tk8.1 tk8.2 | assumption | omega) (by first | exact ⟨zr, (Mlf_t T ma8 ot8.1).mp lf8⟩ | exact Mtk ot8.1 ot8.2 tk8 | exact (fun z => zr z.1) | exact (fun z => lf8 ((Mlf_t T ma8 ot8.1).mpr z.2)) | exact OtT_0 b162 b163 | exact OtT_e ot8.2 tk8.1 tk8.2 | assumption | omega) Rws_h18t21)
    ·
      have gh22 : my_fr [(10, 0), (61, -1), (62, -1)] h h22 := my_fr.tr gh16 (frh22.mo rfl)
      show wp l rho (d + 5) 158 38 [(2, 151), (0, x1), (0, x2)] [(0, 1)] h22 Q
      have lf8 := xp23
      have tk8 := xp24
      have c27 := ((my_fr.at frh22 is_151 rfl).trans ((my_up_role fh16 is_151 is_162 rfl).trans ((my_fr.at frh11 is_151 rfl).trans (my_up_self fh1))))
      exact w_bret gz_158_38 gm_158 (by omega) (by omega) (k1 h22 (gh22) (by omega) (by omega) (by omega) (by omega) (by omega) (by first | exact ⟨zr, (Mlf_t T ma8 ot8.1).mp lf8⟩ | exact Mtk ot8.1 ot8.2 tk8 | exact (fun z => zr z.1) | exact (fun z => lf8 ((Mlf_t T ma8 ot8.1).mpr z.2)) | exact OtT_0 b162 b163 | exact OtT_e ot8.2 tk8.1 tk8.2 | assumption | omega) (by first | exact ⟨zr, (Mlf_t T ma8 ot8.1).mp lf8⟩ | exact Mtk ot8.1 ot8.2 tk8 | exact (fun z => zr z.1) | exact (fun z => lf8 ((Mlf_t T ma8 ot8.1).mpr z.2)) | exact OtT_0 b162 b163 | exact OtT_e ot8.2 tk8.1 tk8.2 | assumption | omega) Rws_h22t25)
end MYNModel_mark5
