/-! contracts, printed by wip/gen/gy.py -/
section MYNThroughWindow_mark5
theorem c_ThroughWindow_mark5 {l : Launch} {rho : Nat → Int32} {d : Nat} {h : my_H} {Q : my_H → my_V → Prop} {x1 x2 : Int} (a2 : 0 ≤ x2) (b2 : x2 ≤ 1) (hwo : WOk h 7) (hmk : ∀ m : Int, 0 ≤ m → m ≤ 3 → h 13 m = 14 + 3 * m) (hms : ∀ m : Int, 0 ≤ m → m ≤ 3 → h 26 m = 1 → mkW h (14 + 3 * m)) (k0 : ∀ (h' : my_H), my_fr [(21, -1), (30, -1), (31, -1)] h h' → (¬ ((0 ≤ x1 ∧ x1 ≤ 3) ∧ (x2 ≠ 0 → h 26 x1 = 1 ∧ zqLf (zqCA h) (h (15 + 3 * x1))))) → (∀ k j : Int, 0 ≤ k → k < 94 → h' k j = h k j) → Q h' (0, 0)) (k1 : ∀ (h' : my_H), my_fr [(21, -1), (30, -1), (31, -1)] h h' → 0 ≤ x1 → x1 ≤ 3 → ((0 ≤ x1 ∧ x1 ≤ 3) ∧ (x2 ≠ 0 → h 26 x1 = 1 ∧ zqLf (zqCA h) (h (15 + 3 * x1)))) → ((x2 = 0 → zqAg (h 8) (h' (15 + 3 * x1)) ∧ (∀ u : Int, 0 ≤ u → u ≤ 2 → h' (16 + 3 * x1) u = h 9 u) ∧ h' 26 = zyU (h 26) x1 1 ∧ ∀ k j : Int, 0 ≤ k → k < 94 → k ≠ 15 + 3 * x1 → k ≠ 16 + 3 * x1 → k ≠ 26 → h' k j = h k j)) → ((x2 ≠ 0 → zqAg (h (15 + 3 * x1)) (h' 8) ∧ WOk h' 7 ∧ ∀ k j : Int, 0 ≤ k → k < 94 → (k < 7 ∨ 9 < k) → h' k j = h k j)) → Q h' (0, 1)) : wp l rho (d + 4) 138 0 [(2, 0), (0, x1), (0, x2)] [] h Q := by
  refine w_iload_n gz_138_0 rfl ?_
  refine w_iflt (t := 9) gz_138_1 rfl (fun u1 => ?_) (fun u1 => ?_)
  ·
    refine w_iconst gz_138_9 (by decide) ?_
    exact w_bret gz_138_10 gm_138 (by omega) (by omega) (k0 h (my_fr.rf) (by first | exact ⟨⟨by omega, by omega⟩, fun z => absurd z (by omega)⟩ | exact ⟨⟨by omega, by omega⟩, fun _ => ⟨by omega, by rw [show 15 + 3 * x1 = 14 + 3 * x1 + 1 by omega, ← hv9]; exact (mkc_l hwo M9).mp lf8⟩⟩ | exact (fun _ => mkc_0 hv20 (by omega) (by omega) ca cb f34 (by omega)) | exact (fun z => absurd z (by omega)) | exact (fun z => absurd (by omega) z) | exact (fun _ => mkc_1 hv9 (by omega) (by omega) hwo M9 lf8 fc96 fc97 agE) | exact (fun z => by have z1 : 0 ≤ x1 ∧ x1 ≤ 3 := z.1; omega) | exact (fun z => by have z1 := (z.2 (by omega)).1; omega) | exact (fun z => lf8 ((mkc_l hwo M9).mpr (by rw [hv9, show 14 + 3 * x1 + 1 = 15 + 3 * x1 by omega]; exact (z.2 (by omega)).2))) | exact (fun _ _ _ _ => rfl) | assumption | omega) (by first | exact ⟨⟨by omega, by omega⟩, fun z => absurd z (by omega)⟩ | exact ⟨⟨by omega, by omega⟩, fun _ => ⟨by omega, by rw [show 15 + 3 * x1 = 14 + 3 * x1 + 1 by omega, ← hv9]; exact (mkc_l hwo M9).mp lf8⟩⟩ | exact (fun _ => mkc_0 hv20 (by omega) (by omega) ca cb f34 (by omega)) | exact (fun z => absurd z (by omega)) | exact (fun z => absurd (by omega) z) | exact (fun _ => mkc_1 hv9 (by omega) (by omega) hwo M9 lf8 fc96 fc97 agE) | exact (fun z => by have z1 : 0 ≤ x1 ∧ x1 ≤ 3 := z.1; omega) | exact (fun z => by have z1 := (z.2 (by omega)).1; omega) | exact (fun z => lf8 ((mkc_l hwo M9).mpr (by rw [hv9, show 14 + 3 * x1 + 1 = 15 + 3 * x1 by omega]; exact (z.2 (by omega)).2))) | exact (fun _ _ _ _ => rfl) | assumption | omega))
  ·
    refine w_iload_n gz_138_4 rfl ?_
    refine w_iconst gz_138_5 (by decide) ?_
    refine w_iclt (t := 11) gz_138_6 rfl (fun u2 => ?_) (fun u2 => ?_)
    ·
      refine w_iload_n gz_138_11 rfl ?_
      refine w_ifne (t := 37) gz_138_12 rfl (fun u3 => ?_) (fun u3 => ?_)
      ·
        refine w_aload_n gz_138_37 rfl ?_
        refine w_getX (v := 26) gz_138_38 is_0 rd_9 rfl (by decide) rfl ?_
        refine w_iload_n gz_138_41 rfl ?_
        refine w_bald gz_138_42 is_26 rd_21 (by omega) (by omega) (fun v5 ev5 pv5 qv5 => ?_)
        refine w_ifeq (t := 62) gz_138_43 rfl (fun u6 => ?_) (fun u6 => ?_)
        ·
          refine w_iconst gz_138_62 (by decide) ?_
          exact w_bret gz_138_63 gm_138 (by omega) (by omega) (k0 h (my_fr.rf) (by first | exact ⟨⟨by omega, by omega⟩, fun z => absurd z (by omega)⟩ | exact ⟨⟨by omega, by omega⟩, fun _ => ⟨by omega, by rw [show 15 + 3 * x1 = 14 + 3 * x1 + 1 by omega, ← hv9]; exact (mkc_l hwo M9).mp lf8⟩⟩ | exact (fun _ => mkc_0 hv20 (by omega) (by omega) ca cb f34 (by omega)) | exact (fun z => absurd z (by omega)) | exact (fun z => absurd (by omega) z) | exact (fun _ => mkc_1 hv9 (by omega) (by omega) hwo M9 lf8 fc96 fc97 agE) | exact (fun z => by have z1 : 0 ≤ x1 ∧ x1 ≤ 3 := z.1; omega) | exact (fun z => by have z1 := (z.2 (by omega)).1; omega) | exact (fun z => lf8 ((mkc_l hwo M9).mpr (by rw [hv9, show 14 + 3 * x1 + 1 = 15 + 3 * x1 by omega]; exact (z.2 (by omega)).2))) | exact (fun _ _ _ _ => rfl) | assumption | omega) (by first | exact ⟨⟨by omega, by omega⟩, fun z => absurd z (by omega)⟩ | exact ⟨⟨by omega, by omega⟩, fun _ => ⟨by omega, by rw [show 15 + 3 * x1 = 14 + 3 * x1 + 1 by omega, ← hv9]; exact (mkc_l hwo M9).mp lf8⟩⟩ | exact (fun _ => mkc_0 hv20 (by omega) (by omega) ca cb f34 (by omega)) | exact (fun z => absurd z (by omega)) | exact (fun z => absurd (by omega) z) | exact (fun _ => mkc_1 hv9 (by omega) (by omega) hwo M9 lf8 fc96 fc97 agE) | exact (fun z => by have z1 : 0 ≤ x1 ∧ x1 ≤ 3 := z.1; omega) | exact (fun z => by have z1 := (z.2 (by omega)).1; omega) | exact (fun z => lf8 ((mkc_l hwo M9).mpr (by rw [hv9, show 14 + 3 * x1 + 1 = 15 + 3 * x1 by omega]; exact (z.2 (by omega)).2))) | exact (fun _ _ _ _ => rfl) | assumption | omega))
        ·
          refine w_aload_n gz_138_46 rfl ?_
          refine w_getX (v := 1) gz_138_47 is_0 rd_9 rfl (by decide) rfl ?_
          refine w_aload_n gz_138_50 rfl ?_
          refine w_getX (v := 13) gz_138_51 is_0 rd_9 rfl (by decide) rfl ?_
          refine w_iload_n gz_138_54 rfl ?_
          refine w_aald gz_138_55 is_13 rd_20 rfl (by omega) (by omega) (fun v9 ev9 tv9 => ?_)
          have hv9 : v9 = 14 + 3 * x1 := (by have q := hmk x1 (by omega) (by omega); omega)
          have M9 : mkW h v9 := by rw [hv9]; exact hms _ (by omega) (by omega) (by omega)
          refine w_inv (k := 0) (as := [(2, v9)]) (r := []) (x := 1) (ls0 := [(2, 1), (2, v9)]) gz_138_56 gm_18 rfl is_1 rd_3 rfl rfl rfl rfl rfl (c_Laws_hold5 (d := d) (x1 := v9) tv9 (fun xp10 => ?_) (fun xp11 => ?_))
          ·
            show wp l rho (d + 4) 138 59 [(2, 0), (0, x1), (0, x2)] [(0, 0)] h Q
            have lf8 := xp10
            refine w_ifne (t := 64) gz_138_59 rfl (fun u12 => by exfalso; omega) (fun u12 => ?_)
            refine w_iconst gz_138_62 (by decide) ?_
            exact w_bret gz_138_63 gm_138 (by omega) (by omega) (k0 h (my_fr.rf) (by first | exact ⟨⟨by omega, by omega⟩, fun z => absurd z (by omega)⟩ | exact ⟨⟨by omega, by omega⟩, fun _ => ⟨by omega, by rw [show 15 + 3 * x1 = 14 + 3 * x1 + 1 by omega, ← hv9]; exact (mkc_l hwo M9).mp lf8⟩⟩ | exact (fun _ => mkc_0 hv20 (by omega) (by omega) ca cb f34 (by omega)) | exact (fun z => absurd z (by omega)) | exact (fun z => absurd (by omega) z) | exact (fun _ => mkc_1 hv9 (by omega) (by omega) hwo M9 lf8 fc96 fc97 agE) | exact (fun z => by have z1 : 0 ≤ x1 ∧ x1 ≤ 3 := z.1; omega) | exact (fun z => by have z1 := (z.2 (by omega)).1; omega) | exact (fun z => lf8 ((mkc_l hwo M9).mpr (by rw [hv9, show 14 + 3 * x1 + 1 = 15 + 3 * x1 by omega]; exact (z.2 (by omega)).2))) | exact (fun _ _ _ _ => rfl) | assumption | omega) (by first | exact ⟨⟨by omega, by omega⟩, fun z => absurd z (by omega)⟩ | exact ⟨⟨by omega, by omega⟩, fun _ => ⟨by omega, by rw [show 15 + 3 * x1 = 14 + 3 * x1 + 1 by omega, ← hv9]; exact (mkc_l hwo M9).mp lf8⟩⟩ | exact (fun _ => mkc_0 hv20 (by omega) (by omega) ca cb f34 (by omega)) | exact (fun z => absurd z (by omega)) | exact (fun z => absurd (by omega) z) | exact (fun _ => mkc_1 hv9 (by omega) (by omega) hwo M9 lf8 fc96 fc97 agE) | exact (fun z => by have z1 : 0 ≤ x1 ∧ x1 ≤ 3 := z.1; omega) | exact (fun z => by have z1 := (z.2 (by omega)).1; omega) | exact (fun z => lf8 ((mkc_l hwo M9).mpr (by rw [hv9, show 14 + 3 * x1 + 1 = 15 + 3 * x1 by omega]; exact (z.2 (by omega)).2))) | exact (fun _ _ _ _ => rfl) | assumption | omega))
          ·
            show wp l rho (d + 4) 138 59 [(2, 0), (0, x1), (0, x2)] [(0, 1)] h Q
            have lf8 := xp11
            refine w_ifne (t := 64) gz_138_59 rfl (fun u13 => ?_) (fun u13 => by exfalso; omega)
            refine w_aload_n gz_138_64 rfl ?_
            refine w_getX (v := 7) gz_138_65 is_0 rd_9 rfl (by decide) rfl ?_
            refine w_aload_n gz_138_68 rfl ?_
            refine w_getX (v := 13) gz_138_69 is_0 rd_9 rfl (by decide) rfl ?_
            refine w_iload_n gz_138_72 rfl ?_
            refine w_aald gz_138_73 is_13 rd_20 rfl (by omega) (by omega) (fun v16 ev16 tv16 => ?_)
            have zv16 : v9 = v16 := (ev16.trans ev9.symm).symm
            subst zv16
            refine w_inv (k := 0) (as := [(2, v9)]) (r := []) (x := 7) (ls0 := [(2, 7), (2, v9)]) gz_138_74 gm_25 rfl is_7 rd_6 rfl rfl rfl rfl rfl ?_
            refine w_aload_n gz_25_0 rfl ?_
            refine w_getX (v := (v9 + 1)) gz_25_1 tv9 rd_6 rfl (by decide) rfl ?_
            refine w_iconst gz_25_4 (by decide) ?_
            refine w_aload_n gz_25_5 rfl ?_
            refine w_getX (v := 8) gz_25_6 is_7 rd_6 rfl (by decide) rfl ?_
            refine w_iconst gz_25_9 (by decide) ?_
            refine w_aload_n gz_25_10 rfl ?_
            refine w_getX (v := 8) gz_25_11 is_7 rd_6 rfl (by decide) rfl ?_
            refine v_alen (j := 240) gz_25_14 rfl is_8 rd_30 (by decide) ?_
            refine w_cpU gz_25_15 (ix_6_1 tv9) rd_30 is_8 rd_30 (by omega) (by omega) (by omega) (by omega) (by omega) rfl (by decide) (by decide) (fun h20 fh20 => ?_)
            have gh20 : my_fr [(21, -1), (30, -1), (31, -1)] h h20 := my_fr.cp my_fr.rf is_8 fh20 rfl
            have fc96 := fh20
            refine w_aload_n gz_25_18 rfl ?_
            refine w_getX (v := (v9 + 2)) gz_25_19 tv9 rd_6 rfl (by decide) rfl ?_
            refine w_iconst gz_25_22 (by decide) ?_
            refine w_aload_n gz_25_23 rfl ?_
            refine w_getX (v := 9) gz_25_24 is_7 rd_6 rfl (by decide) rfl ?_
            refine w_iconst gz_25_27 (by decide) ?_
            refine w_aload_n gz_25_28 rfl ?_
            refine w_getX (v := 9) gz_25_29 is_7 rd_6 rfl (by decide) rfl ?_
            refine v_alen (j := 3) gz_25_32 rfl is_9 rd_31 (by decide) ?_
            refine w_cpU gz_25_33 (ix_6_2 tv9) rd_31 is_9 rd_31 (by omega) (by omega) (by omega) (by omega) (by omega) rfl (by decide) (by decide) (fun h24 fh24 => ?_)
            have gh24 : my_fr [(21, -1), (30, -1), (31, -1)] h h24 := my_fr.cp gh20 is_9 fh24 rfl
            have fc97 := fh24
            refine w_vret gz_25_36 gm_25 ?_
            show wp l rho (d + 4) 138 77 [(2, 0), (0, x1), (0, x2)] [] h24 Q
            refine w_iconst gz_138_77 (by decide) ?_
            have agE : my_ag F5 h h24 := (my_ag.fr (F := F5) gh24 rfl)
            exact w_bret gz_138_78 gm_138 (by omega) (by omega) (k1 h24 (gh24) (by omega) (by omega) (by first | exact ⟨⟨by omega, by omega⟩, fun z => absurd z (by omega)⟩ | exact ⟨⟨by omega, by omega⟩, fun _ => ⟨by omega, by rw [show 15 + 3 * x1 = 14 + 3 * x1 + 1 by omega, ← hv9]; exact (mkc_l hwo M9).mp lf8⟩⟩ | exact (fun _ => mkc_0 hv20 (by omega) (by omega) ca cb f34 (by omega)) | exact (fun z => absurd z (by omega)) | exact (fun z => absurd (by omega) z) | exact (fun _ => mkc_1 hv9 (by omega) (by omega) hwo M9 lf8 fc96 fc97 agE) | exact (fun z => by have z1 : 0 ≤ x1 ∧ x1 ≤ 3 := z.1; omega) | exact (fun z => by have z1 := (z.2 (by omega)).1; omega) | exact (fun z => lf8 ((mkc_l hwo M9).mpr (by rw [hv9, show 14 + 3 * x1 + 1 = 15 + 3 * x1 by omega]; exact (z.2 (by omega)).2))) | exact (fun _ _ _ _ => rfl) | assumption | omega) (by first | exact ⟨⟨by omega, by omega⟩, fun z => absurd z (by omega)⟩ | exact ⟨⟨by omega, by omega⟩, fun _ => ⟨by omega, by rw [show 15 + 3 * x1 = 14 + 3 * x1 + 1 by omega, ← hv9]; exact (mkc_l hwo M9).mp lf8⟩⟩ | exact (fun _ => mkc_0 hv20 (by omega) (by omega) ca cb f34 (by omega)) | exact (fun z => absurd z (by omega)) | exact (fun z => absurd (by omega) z) | exact (fun _ => mkc_1 hv9 (by omega) (by omega) hwo M9 lf8 fc96 fc97 agE) | exact (fun z => by have z1 : 0 ≤ x1 ∧ x1 ≤ 3 := z.1; omega) | exact (fun z => by have z1 := (z.2 (by omega)).1; omega) | exact (fun z => lf8 ((mkc_l hwo M9).mpr (by rw [hv9, show 14 + 3 * x1 + 1 = 15 + 3 * x1 by omega]; exact (z.2 (by omega)).2))) | exact (fun _ _ _ _ => rfl) | assumption | omega) (by first | exact ⟨⟨by omega, by omega⟩, fun z => absurd z (by omega)⟩ | exact ⟨⟨by omega, by omega⟩, fun _ => ⟨by omega, by rw [show 15 + 3 * x1 = 14 + 3 * x1 + 1 by omega, ← hv9]; exact (mkc_l hwo M9).mp lf8⟩⟩ | exact (fun _ => mkc_0 hv20 (by omega) (by omega) ca cb f34 (by omega)) | exact (fun z => absurd z (by omega)) | exact (fun z => absurd (by omega) z) | exact (fun _ => mkc_1 hv9 (by omega) (by omega) hwo M9 lf8 fc96 fc97 agE) | exact (fun z => by have z1 : 0 ≤ x1 ∧ x1 ≤ 3 := z.1; omega) | exact (fun z => by have z1 := (z.2 (by omega)).1; omega) | exact (fun z => lf8 ((mkc_l hwo M9).mpr (by rw [hv9, show 14 + 3 * x1 + 1 = 15 + 3 * x1 by omega]; exact (z.2 (by omega)).2))) | exact (fun _ _ _ _ => rfl) | assumption | omega))
      ·
        refine w_aload_n gz_138_15 rfl ?_
        refine w_getX (v := 13) gz_138_16 is_0 rd_9 rfl (by decide) rfl ?_
        refine w_iload_n gz_138_19 rfl ?_
        refine w_aald gz_138_20 is_13 rd_20 rfl (by omega) (by omega) (fun v26 ev26 tv26 => ?_)
        refine w_aload_n gz_138_21 rfl ?_
        refine w_getX (v := 7) gz_138_22 is_0 rd_9 rfl (by decide) rfl ?_
        have hv20 : v26 = 14 + 3 * x1 := (by have q := hmk x1 (by omega) (by omega); omega)
        refine w_inv (k := 0) (as := [(2, 7)]) (r := []) (x := v26) (ls0 := [(2, v26), (2, 7)]) gz_138_25 gm_25 rfl tv26 rd_6 rfl rfl rfl rfl rfl ?_
        refine w_aload_n gz_25_0 rfl ?_
        refine w_getX (v := 8) gz_25_1 is_7 rd_6 rfl (by decide) rfl ?_
        refine w_iconst gz_25_4 (by decide) ?_
        refine w_aload_n gz_25_5 rfl ?_
        refine w_getX (v := (v26 + 1)) gz_25_6 tv26 rd_6 rfl (by decide) rfl ?_
        refine w_iconst gz_25_9 (by decide) ?_
        refine w_aload_n gz_25_10 rfl ?_
        refine w_getX (v := (v26 + 1)) gz_25_11 tv26 rd_6 rfl (by decide) rfl ?_
        refine v_alen (j := 240) gz_25_14 rfl (ix_6_1 tv26) rd_30 (by decide) ?_
        refine w_cpU gz_25_15 is_8 rd_30 (ix_6_1 tv26) rd_30 (by omega) (by omega) (by omega) (by omega) (by omega) rfl (by decide) (by decide) (fun h31 fh31 => ?_)
        have gh31 : my_fr [(21, -1), (30, -1), (31, -1)] h h31 := my_fr.cp my_fr.rf (ix_6_1 tv26) fh31 rfl
        have fc96 := fh31
        refine w_aload_n gz_25_18 rfl ?_
        refine w_getX (v := 9) gz_25_19 is_7 rd_6 rfl (by decide) rfl ?_
        refine w_iconst gz_25_22 (by decide) ?_
        refine w_aload_n gz_25_23 rfl ?_
        refine w_getX (v := (v26 + 2)) gz_25_24 tv26 rd_6 rfl (by decide) rfl ?_
        refine w_iconst gz_25_27 (by decide) ?_
        refine w_aload_n gz_25_28 rfl ?_
        refine w_getX (v := (v26 + 2)) gz_25_29 tv26 rd_6 rfl (by decide) rfl ?_
        refine v_alen (j := 3) gz_25_32 rfl (ix_6_2 tv26) rd_31 (by decide) ?_
        refine w_cpU gz_25_33 is_9 rd_31 (ix_6_2 tv26) rd_31 (by omega) (by omega) (by omega) (by omega) (by omega) rfl (by decide) (by decide) (fun h35 fh35 => ?_)
        have gh35 : my_fr [(21, -1), (30, -1), (31, -1)] h h35 := my_fr.cp gh31 (ix_6_2 tv26) fh35 rfl
        have fc97 := fh35
        refine w_vret gz_25_36 gm_25 ?_
        show wp l rho (d + 4) 138 28 [(2, 0), (0, x1), (0, x2)] [] h35 Q
        refine w_aload_n gz_138_28 rfl ?_
        refine w_getX (v := 26) gz_138_29 is_0 rd_9 rfl (by decide) rfl ?_
        refine w_iload_n gz_138_32 rfl ?_
        refine w_iconst gz_138_33 (by decide) ?_
        have ca := fc96
        have cb := fc97
        refine w_bast gz_138_34 is_26 rd_21 (by omega) (by omega) (by omega) (by omega) (fun h37 fh37 => ?_)
        have gh37 : my_fr [(21, -1), (30, -1), (31, -1)] h h37 := my_fr.up gh35 is_26 fh37 rfl
        have f34 := fh37
        refine w_iconst gz_138_35 (by decide) ?_
        have agE : my_ag F5 h h37 := (my_ag.fr (F := F5) gh37 rfl)
        exact w_bret gz_138_36 gm_138 (by omega) (by omega) (k1 h37 (gh37) (by omega) (by omega) (by first | exact ⟨⟨by omega, by omega⟩, fun z => absurd z (by omega)⟩ | exact ⟨⟨by omega, by omega⟩, fun _ => ⟨by omega, by rw [show 15 + 3 * x1 = 14 + 3 * x1 + 1 by omega, ← hv9]; exact (mkc_l hwo M9).mp lf8⟩⟩ | exact (fun _ => mkc_0 hv20 (by omega) (by omega) ca cb f34 (by omega)) | exact (fun z => absurd z (by omega)) | exact (fun z => absurd (by omega) z) | exact (fun _ => mkc_1 hv9 (by omega) (by omega) hwo M9 lf8 fc96 fc97 agE) | exact (fun z => by have z1 : 0 ≤ x1 ∧ x1 ≤ 3 := z.1; omega) | exact (fun z => by have z1 := (z.2 (by omega)).1; omega) | exact (fun z => lf8 ((mkc_l hwo M9).mpr (by rw [hv9, show 14 + 3 * x1 + 1 = 15 + 3 * x1 by omega]; exact (z.2 (by omega)).2))) | exact (fun _ _ _ _ => rfl) | assumption | omega) (by first | exact ⟨⟨by omega, by omega⟩, fun z => absurd z (by omega)⟩ | exact ⟨⟨by omega, by omega⟩, fun _ => ⟨by omega, by rw [show 15 + 3 * x1 = 14 + 3 * x1 + 1 by omega, ← hv9]; exact (mkc_l hwo M9).mp lf8⟩⟩ | exact (fun _ => mkc_0 hv20 (by omega) (by omega) ca cb f34 (by omega)) | exact (fun z => absurd z (by omega)) | exact (fun z => absurd (by omega) z) | exact (fun _ => mkc_1 hv9 (by omega) (by omega) hwo M9 lf8 fc96 fc97 agE) | exact (fun z => by have z1 : 0 ≤ x1 ∧ x1 ≤ 3 := z.1; omega) | exact (fun z => by have z1 := (z.2 (by omega)).1; omega) | exact (fun z => lf8 ((mkc_l hwo M9).mpr (by rw [hv9, show 14 + 3 * x1 + 1 = 15 + 3 * x1 by omega]; exact (z.2 (by omega)).2))) | exact (fun _ _ _ _ => rfl) | assumption | omega) (by first | exact ⟨⟨by omega, by omega⟩, fun z => absurd z (by omega)⟩ | exact ⟨⟨by omega, by omega⟩, fun _ => ⟨by omega, by rw [show 15 + 3 * x1 = 14 + 3 * x1 + 1 by omega, ← hv9]; exact (mkc_l hwo M9).mp lf8⟩⟩ | exact (fun _ => mkc_0 hv20 (by omega) (by omega) ca cb f34 (by omega)) | exact (fun z => absurd z (by omega)) | exact (fun z => absurd (by omega) z) | exact (fun _ => mkc_1 hv9 (by omega) (by omega) hwo M9 lf8 fc96 fc97 agE) | exact (fun z => by have z1 : 0 ≤ x1 ∧ x1 ≤ 3 := z.1; omega) | exact (fun z => by have z1 := (z.2 (by omega)).1; omega) | exact (fun z => lf8 ((mkc_l hwo M9).mpr (by rw [hv9, show 14 + 3 * x1 + 1 = 15 + 3 * x1 by omega]; exact (z.2 (by omega)).2))) | exact (fun _ _ _ _ => rfl) | assumption | omega))
    ·
      refine w_iconst gz_138_9 (by decide) ?_
      exact w_bret gz_138_10 gm_138 (by omega) (by omega) (k0 h (my_fr.rf) (by first | exact ⟨⟨by omega, by omega⟩, fun z => absurd z (by omega)⟩ | exact ⟨⟨by omega, by omega⟩, fun _ => ⟨by omega, by rw [show 15 + 3 * x1 = 14 + 3 * x1 + 1 by omega, ← hv9]; exact (mkc_l hwo M9).mp lf8⟩⟩ | exact (fun _ => mkc_0 hv20 (by omega) (by omega) ca cb f34 (by omega)) | exact (fun z => absurd z (by omega)) | exact (fun z => absurd (by omega) z) | exact (fun _ => mkc_1 hv9 (by omega) (by omega) hwo M9 lf8 fc96 fc97 agE) | exact (fun z => by have z1 : 0 ≤ x1 ∧ x1 ≤ 3 := z.1; omega) | exact (fun z => by have z1 := (z.2 (by omega)).1; omega) | exact (fun z => lf8 ((mkc_l hwo M9).mpr (by rw [hv9, show 14 + 3 * x1 + 1 = 15 + 3 * x1 by omega]; exact (z.2 (by omega)).2))) | exact (fun _ _ _ _ => rfl) | assumption | omega) (by first | exact ⟨⟨by omega, by omega⟩, fun z => absurd z (by omega)⟩ | exact ⟨⟨by omega, by omega⟩, fun _ => ⟨by omega, by rw [show 15 + 3 * x1 = 14 + 3 * x1 + 1 by omega, ← hv9]; exact (mkc_l hwo M9).mp lf8⟩⟩ | exact (fun _ => mkc_0 hv20 (by omega) (by omega) ca cb f34 (by omega)) | exact (fun z => absurd z (by omega)) | exact (fun z => absurd (by omega) z) | exact (fun _ => mkc_1 hv9 (by omega) (by omega) hwo M9 lf8 fc96 fc97 agE) | exact (fun z => by have z1 : 0 ≤ x1 ∧ x1 ≤ 3 := z.1; omega) | exact (fun z => by have z1 := (z.2 (by omega)).1; omega) | exact (fun z => lf8 ((mkc_l hwo M9).mpr (by rw [hv9, show 14 + 3 * x1 + 1 = 15 + 3 * x1 by omega]; exact (z.2 (by omega)).2))) | exact (fun _ _ _ _ => rfl) | assumption | omega))
end MYNThroughWindow_mark5
