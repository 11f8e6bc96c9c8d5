/-! contracts, printed by wip/gen/gy.py -/
section MYNDesk_rowComes5
theorem c_Desk_rowComes5 {l : Launch} {rho : Nat → Int32} {d : Nat} {h : my_H} {Q : my_H → my_V → Prop} {x1 : Int} (t1 : my_is 4 x1) (k0 : ∀ (h' : my_H), my_fr [(30, -1), (31, -1), (41, -1)] h h' → RcN h h' x1 → Q h' (0, 0)) (k1 : ∀ (h' : my_H), my_fr [(30, -1), (31, -1), (41, -1)] h h' → RcY h h' x1 → Q h' (0, 1)) : wp l rho (d + 2) 106 0 [(2, 94), (2, x1), (9, 0), (9, 0)] [] h Q := by
  have J2_0 : ∀ (n : Nat) (p2_0 : Int) (h2_0 : my_H), my_fr [(30, -1), (31, -1), (41, -1)] h h2_0 → 0 ≤ p2_0 → p2_0 ≤ 4 → FrI h h2_0 x1 p2_0 → (∀ j : Int, h2_0 96 j = h 96 j) → (∀ j : Int, h2_0 97 j = h 97 j) → 5 - p2_0 ≤ (n : Int) → wp l rho (d + 2) 106 2 [(2, 94), (2, x1), (0, p2_0), (9, 0)] [] h2_0 Q := by
    intro n
    induction n with
    | zero => intro p2_0 h2_0 gh_2_0 q0_2_0 q1_2_0 fr_2_0 a96_2_0 a97_2_0 hm_2_0; exfalso; omega
    | succ n ih_2_0 =>
      intro p2_0 h2_0 gh_2_0 q0_2_0 q1_2_0 fr_2_0 a96_2_0 a97_2_0 hm_2_0
      refine w_iload_n gz_106_2 rfl ?_
      refine w_iconst gz_106_3 (by decide) ?_
      refine w_icge (t := 45) gz_106_4 rfl (fun u1 => ?_) (fun u1 => ?_)
      ·
        have e2 : h2_0 x1 2 = h x1 2 := my_fr.at gh_2_0 t1 rfl
        have frx : FrI h h2_0 x1 4 := by have q := fr_2_0; rw [show p2_0 = 4 by omega] at q; exact q
        refine w_aload_n gz_106_45 rfl ?_
        refine w_getX (v := 95) gz_106_46 is_94 rd_2 rfl (by decide) rfl ?_
        refine w_getX (v := 97) gz_106_49 is_95 rd_6 rfl (by decide) rfl ?_
        refine w_aload_n gz_106_52 rfl ?_
        refine v_getI (j := 2) gz_106_53 rfl t1 rd_4 rfl (fun v4 ev4 pv4 qv4 => ?_)
        refine w_iald gz_106_56 is_97 rd_31 (by omega) (by omega) (fun v5 ev5 pv5 qv5 => ?_)
        have s6 : h2_0 97 (h x1 2) = v5 := by rw [show h x1 2 = v4 by omega]; omega
        refine w_bipush gz_106_57 (by decide) ?_
        refine w_icge (t := 82) gz_106_59 rfl (fun u6 => ?_) (fun u6 => ?_)
        ·
          refine w_iconst gz_106_82 (by decide) ?_
          exact w_bret gz_106_83 gm_106 (by omega) (by omega) (k0 h2_0 (gh_2_0) (by first | exact RcN_mk frx a96_2_0 a97_2_0 (Or.inl (by omega)) | exact RcN_mk frx a96_2_0 a97_2_0 (Or.inr (by omega)) | exact RcY_mk frx a96_2_0 a97_2_0 (by omega) (by omega) fad (by omega) fsz (by omega) (by omega) | assumption | omega))
        ·
          refine w_aload_n gz_106_62 rfl ?_
          refine w_getX (v := 95) gz_106_63 is_94 rd_2 rfl (by decide) rfl ?_
          refine w_aload_n gz_106_66 rfl ?_
          refine v_getI (j := 2) gz_106_67 rfl t1 rd_4 rfl (fun v8 ev8 pv8 qv8 => ?_)
          have zv8 := ev8.trans ev4.symm
          refine w_aload_n gz_106_70 rfl ?_
          refine w_getX (v := 110) gz_106_71 is_94 rd_2 rfl (by decide) rfl ?_
          refine w_iconst gz_106_74 (by decide) ?_
          refine w_iald gz_106_75 is_110 rd_41 (by omega) (by omega) (fun v10 ev10 pv10 qv10 => ?_)
          refine w_inv (k := 0) (as := [(0, v10), (0, v8)]) (r := []) (x := 95) (ls0 := [(2, 95), (0, v8), (0, v10)]) gz_106_76 gm_15 rfl is_95 rd_6 rfl rfl rfl rfl rfl ?_
          refine w_iload_n gz_15_0 rfl ?_
          refine w_iflt (t := 31) gz_15_1 rfl (fun u11 => by exfalso; omega) (fun u11 => ?_)
          refine w_iload_n gz_15_4 rfl ?_
          refine w_bipush gz_15_5 (by decide) ?_
          refine w_icge (t := 31) gz_15_7 rfl (fun u12 => by exfalso; omega) (fun u12 => ?_)
          refine w_aload_n gz_15_10 rfl ?_
          refine w_getX (v := 96) gz_15_11 is_95 rd_6 rfl (by decide) rfl ?_
          refine w_iload_n gz_15_14 rfl ?_
          refine w_bipush gz_15_15 (by decide) ?_
          refine w_imul gz_15_17 ⟨by omega, by omega⟩ ?_
          refine w_iload_n gz_15_18 rfl ?_
          refine w_iadd gz_15_19 ⟨by omega, by omega⟩ ?_
          refine w_iconst gz_15_20 (by decide) ?_
          refine w_imul gz_15_21 ⟨by omega, by omega⟩ ?_
          refine w_iald gz_15_22 is_96 rd_30 (by omega) (by omega) (fun v14 ev14 pv14 qv14 => ?_)
          have hhas : h2_0 96 (80 * v8 + 4 * v10) = v14 := by rw [show (80 * v8 + 4 * v10 : Int) = (((v8 * 20) + v10) * 4) by omega]; omega
          refine w_iconst gz_15_23 (by decide) ?_
          refine w_iceq (t := 31) gz_15_24 rfl (fun u15 => ?_) (fun u15 => ?_)
          ·
            refine w_iconst gz_15_31 (by decide) ?_
            refine w_bret gz_15_32 gm_15 (by omega) (by omega) ?_
            show wp l rho (d + 2) 106 79 [(2, 94), (2, x1), (0, p2_0), (9, 0)] [(0, 0)] h2_0 Q
            have hc : h2_0 96 (80 * h x1 2 + 4 * h2_0 110 0) = _ := (congrArg (h2_0 96) (by omega)).trans hhas
            refine w_ifeq (t := 84) gz_106_79 rfl (fun u16 => ?_) (fun u16 => by exfalso; omega)
            refine w_aload_n gz_106_84 rfl ?_
            refine w_getX (v := 95) gz_106_85 is_94 rd_2 rfl (by decide) rfl ?_
            refine w_aload_n gz_106_88 rfl ?_
            refine v_getI (j := 2) gz_106_89 rfl t1 rd_4 rfl (fun v18 ev18 pv18 qv18 => ?_)
            have zv18 := ev18.trans ev8.symm
            refine w_aload_n gz_106_92 rfl ?_
            refine w_getX (v := 110) gz_106_93 is_94 rd_2 rfl (by decide) rfl ?_
            refine w_inv (k := 0) (as := [(2, 110), (0, v18)]) (r := []) (x := 95) (ls0 := [(2, 95), (0, v18), (2, 110)]) gz_106_96 gm_16 rfl is_95 rd_6 rfl rfl rfl rfl rfl ?_
            refine w_aload_n gz_16_0 rfl ?_
            refine w_iconst gz_16_1 (by decide) ?_
            refine w_aload_n gz_16_2 rfl ?_
            refine w_getX (v := 96) gz_16_3 is_95 rd_6 rfl (by decide) rfl ?_
            refine w_iload_n gz_16_6 rfl ?_
            refine w_aload_n gz_16_7 rfl ?_
            refine w_iconst gz_16_8 (by decide) ?_
            refine w_iald gz_16_9 is_110 rd_41 (by omega) (by omega) (fun v21 ev21 pv21 qv21 => ?_)
            have zv21 := ev21.trans ev10.symm
            have hi22 : 0 ≤ v21 := by first | omega | (have q := hrow 0 (by decide) (by decide); omega) | omega
            have hi23 : v21 ≤ 19 := by first | omega | (have q := hrow 0 (by decide) (by decide); omega) | omega
            refine w_inS (k := 0) (as := [(0, v21), (0, v18)]) (r := [(2, 96), (0, 0), (2, 110)]) (ls0 := [(0, v18), (0, v21)]) gz_16_10 gm_17 rfl rfl rfl rfl rfl rfl ?_
            refine w_iload_n gz_17_0 rfl ?_
            refine w_bipush gz_17_1 (by decide) ?_
            refine w_imul gz_17_3 ⟨by omega, by omega⟩ ?_
            refine w_iload_n gz_17_4 rfl ?_
            refine w_iadd gz_17_5 ⟨by omega, by omega⟩ ?_
            refine w_iconst gz_17_6 (by decide) ?_
            refine w_imul gz_17_7 ⟨by omega, by omega⟩ ?_
            refine w_iret gz_17_8 gm_17 ?_
            show wp l rho (d + 1) 16 13 [(2, 95), (0, v18), (2, 110)] [(0, (((v18 * 20) + v21) * 4)), (2, 96), (0, 0), (2, 110)] h2_0 _
            refine w_iconst gz_16_13 (by decide) ?_
            refine w_cpU gz_16_14 is_110 rd_41 is_96 rd_30 (by omega) (by omega) (by omega) (by omega) (by omega) rfl (by decide) (by decide) (fun h24 fh24 => ?_)
            have gh24 : my_fr [(30, -1), (31, -1), (41, -1)] h h24 := my_fr.cp gh_2_0 is_96 fh24 rfl
            have fad := fh24
            refine w_aload_n gz_16_17 rfl ?_
            refine w_getX (v := 97) gz_16_18 is_95 rd_6 rfl (by decide) rfl ?_
            refine w_iload_n gz_16_21 rfl ?_
            refine w_dup2 gz_16_22 rfl rfl ?_
            refine w_iald gz_16_23 is_97 rd_31 (by omega) (by omega) (fun v26 ev26 pv26 qv26 => ?_)
            have wv26 : v18 = v4 := by omega
            rw [wv26] at ev26
            have zv26 := ev26.trans ((my_cp_role fh24 is_97 is_96 rfl).trans ev5.symm)
            refine w_iconst gz_16_24 (by decide) ?_
            refine w_iaddB gz_16_25 (fun _ _ _ _ => ⟨by omega, by omega⟩) ?_
            refine w_iastA gz_16_26 is_97 rd_31 (by omega) (by omega) (fun h27 fh27 => ?_)
            have gh27 : my_fr [(30, -1), (31, -1), (41, -1)] h h27 := my_fr.up gh24 is_97 fh27 rfl
            have fsz := fh27
            refine w_vret gz_16_27 gm_16 ?_
            show wp l rho (d + 2) 106 99 [(2, 94), (2, x1), (0, p2_0), (9, 0)] [] h27 Q
            refine w_iconst gz_106_99 (by decide) ?_
            exact w_bret gz_106_100 gm_106 (by omega) (by omega) (k1 h27 (gh27) (by first | exact RcN_mk frx a96_2_0 a97_2_0 (Or.inl (by omega)) | exact RcN_mk frx a96_2_0 a97_2_0 (Or.inr (by omega)) | exact RcY_mk frx a96_2_0 a97_2_0 (by omega) (by omega) fad (by omega) fsz (by omega) (by omega) | assumption | omega))
          ·
            refine w_iconst gz_15_27 (by decide) ?_
            refine w_goto (t := 32) gz_15_28 rfl ?_
            refine w_bret gz_15_32 gm_15 (by omega) (by omega) ?_
            show wp l rho (d + 2) 106 79 [(2, 94), (2, x1), (0, p2_0), (9, 0)] [(0, 1)] h2_0 Q
            have hc : h2_0 96 (80 * h x1 2 + 4 * h2_0 110 0) = _ := (congrArg (h2_0 96) (by omega)).trans hhas
            refine w_ifeq (t := 84) gz_106_79 rfl (fun u28 => by exfalso; omega) (fun u28 => ?_)
            refine w_iconst gz_106_82 (by decide) ?_
            exact w_bret gz_106_83 gm_106 (by omega) (by omega) (k0 h2_0 (gh_2_0) (by first | exact RcN_mk frx a96_2_0 a97_2_0 (Or.inl (by omega)) | exact RcN_mk frx a96_2_0 a97_2_0 (Or.inr (by omega)) | exact RcY_mk frx a96_2_0 a97_2_0 (by omega) (by omega) fad (by omega) fsz (by omega) (by omega) | assumption | omega))
      ·
        refine w_aload_n gz_106_7 rfl ?_
        refine w_iload_n gz_106_8 rfl ?_
        refine w_inv (k := 1) (as := [(0, p2_0)]) (r := []) (x := x1) (ls0 := [(2, x1), (0, p2_0), (9, 0)]) gz_106_9 gm_107 rfl t1 rd_4 rfl rfl rfl rfl rfl (c_Lens_columnShowing5 (d := d) (x0 := x1) (x1 := p2_0) t1 (by omega) (by omega) (fun xp29 => ?_) (fun v30 w31 w32 w33 w34 xp35 xp36 xp37 => ?_))
        ·
          show wp l rho (d + 2) 106 12 [(2, 94), (2, x1), (0, p2_0), (9, 0)] [(0, (-1))] h2_0 Q
          have cs := xp29
          refine w_istore_n (ls' := [(2, 94), (2, x1), (0, p2_0), (0, (-1))]) gz_106_12 gm_106 rfl rfl rfl ?_
          refine w_aload_n gz_106_13 rfl ?_
          refine w_getX (v := 110) gz_106_14 is_94 rd_2 rfl (by decide) rfl ?_
          refine w_iload_n gz_106_17 rfl ?_
          refine w_iload_n gz_106_18 rfl ?_
          refine w_iconst gz_106_19 (by decide) ?_
          refine w_iceq (t := 32) gz_106_20 rfl (fun u39 => ?_) (fun u39 => by exfalso; omega)
          refine w_aload_n gz_106_32 rfl ?_
          refine w_getX (v := (x1 + 7)) gz_106_33 t1 rd_4 rfl (by decide) rfl ?_
          refine w_iload_n gz_106_36 rfl ?_
          refine w_iald gz_106_37 (ix_4_7 t1) rd_38 (by omega) (by omega) (fun v41 ev41 pv41 qv41 => ?_)
          have fp : FrP h2_0 x1 p2_0 v41 := by first | exact Or.inr ⟨cs, by omega⟩ | exact Or.inl ⟨(-1), by omega, cs1, cs, cs2, by omega⟩
          have fq := FrP_fr gh_2_0 t1 fp
          refine w_iast gz_106_38 is_110 rd_41 (by omega) (by omega) (by omega) (by omega) (fun h42 fh42 => ?_)
          have gh42 : my_fr [(30, -1), (31, -1), (41, -1)] h h42 := my_fr.up gh_2_0 is_110 fh42 rfl
          refine w_iinc (ls' := [(2, 94), (2, x1), (0, (p2_0 + 1)), (0, (-1))]) gz_106_39 rfl gm_106 rfl rfl rfl ⟨by omega, by omega⟩ ?_
          refine w_goto (t := 2) gz_106_42 rfl ?_
          have b96 : ∀ j : Int, h42 96 j = h2_0 96 j := fun j => ((my_up_role fh42 is_96 is_110 rfl).trans (rfl : h2_0 96 j = h2_0 96 j))
          have b97 : ∀ j : Int, h42 97 j = h2_0 97 j := fun j => ((my_up_role fh42 is_97 is_110 rfl).trans (rfl : h2_0 97 j = h2_0 97 j))
          refine w_weak (ls' := [(2, 94), (2, x1), (0, (p2_0 + 1)), (9, 0)]) (wk_e (wk_e (wk_e (wk_9 wk_n)))) ?_
          exact ih_2_0 ((p2_0 + 1)) h42 (gh42) (by omega) (by omega) (by first | exact FrI_0 | exact FrI_s fr_2_0 fq fh42 | assumption | omega) (by first | exact (fun _ => rfl) | exact (fun j => (b96 j).trans (a96_2_0 j)) | assumption | omega) (by first | exact (fun _ => rfl) | exact (fun j => (b97 j).trans (a97_2_0 j)) | assumption | omega) (by omega)
        ·
          show wp l rho (d + 2) 106 12 [(2, 94), (2, x1), (0, p2_0), (9, 0)] [(0, v30)] h2_0 Q
          have cs := xp35
          have cs1 := xp36
          have cs2 := xp37
          refine w_istore_n (ls' := [(2, 94), (2, x1), (0, p2_0), (0, v30)]) gz_106_12 gm_106 rfl rfl rfl ?_
          refine w_aload_n gz_106_13 rfl ?_
          refine w_getX (v := 110) gz_106_14 is_94 rd_2 rfl (by decide) rfl ?_
          refine w_iload_n gz_106_17 rfl ?_
          refine w_iload_n gz_106_18 rfl ?_
          refine w_iconst gz_106_19 (by decide) ?_
          refine w_iceq (t := 32) gz_106_20 rfl (fun u44 => by exfalso; omega) (fun u44 => ?_)
          refine w_aload_n gz_106_23 rfl ?_
          refine w_getX (v := 93) gz_106_24 is_94 rd_2 rfl (by decide) rfl ?_
          refine w_iload_n gz_106_27 rfl ?_
          refine w_iald gz_106_28 is_93 rd_23 (by omega) (by omega) (fun v46 ev46 pv46 qv46 => ?_)
          refine w_goto (t := 38) gz_106_29 rfl ?_
          have fp : FrP h2_0 x1 p2_0 v46 := by first | exact Or.inr ⟨cs, by omega⟩ | exact Or.inl ⟨v30, by omega, cs1, cs, cs2, by omega⟩
          have fq := FrP_fr gh_2_0 t1 fp
          refine w_iast gz_106_38 is_110 rd_41 (by omega) (by omega) (by omega) (by omega) (fun h47 fh47 => ?_)
          have gh47 : my_fr [(30, -1), (31, -1), (41, -1)] h h47 := my_fr.up gh_2_0 is_110 fh47 rfl
          refine w_iinc (ls' := [(2, 94), (2, x1), (0, (p2_0 + 1)), (0, v30)]) gz_106_39 rfl gm_106 rfl rfl rfl ⟨by omega, by omega⟩ ?_
          refine w_goto (t := 2) gz_106_42 rfl ?_
          have b96 : ∀ j : Int, h47 96 j = h2_0 96 j := fun j => ((my_up_role fh47 is_96 is_110 rfl).trans (rfl : h2_0 96 j = h2_0 96 j))
          have b97 : ∀ j : Int, h47 97 j = h2_0 97 j := fun j => ((my_up_role fh47 is_97 is_110 rfl).trans (rfl : h2_0 97 j = h2_0 97 j))
          refine w_weak (ls' := [(2, 94), (2, x1), (0, (p2_0 + 1)), (9, 0)]) (wk_e (wk_e (wk_e (wk_9 wk_n)))) ?_
          exact ih_2_0 ((p2_0 + 1)) h47 (gh47) (by omega) (by omega) (by first | exact FrI_0 | exact FrI_s fr_2_0 fq fh47 | assumption | omega) (by first | exact (fun _ => rfl) | exact (fun j => (b96 j).trans (a96_2_0 j)) | assumption | omega) (by first | exact (fun _ => rfl) | exact (fun j => (b97 j).trans (a97_2_0 j)) | assumption | omega) (by omega)
  refine w_iconst gz_106_0 (by decide) ?_
  refine w_istore_n (ls' := [(2, 94), (2, x1), (0, 0), (9, 0)]) gz_106_1 gm_106 rfl rfl rfl ?_
  have b96 : ∀ j : Int, h 96 j = h 96 j := fun _ => rfl
  have b97 : ∀ j : Int, h 97 j = h 97 j := fun _ => rfl
  exact J2_0 5 (0) h (my_fr.rf) (by omega) (by omega) (by first | exact FrI_0 | exact FrI_s fr_2_0 fq no_such_saying | assumption | omega) (by first | exact (fun _ => rfl) | exact (fun j => (b96 j).trans (a96_2_0 j)) | assumption | omega) (by first | exact (fun _ => rfl) | exact (fun j => (b97 j).trans (a97_2_0 j)) | assumption | omega) (by omega)
end MYNDesk_rowComes5
