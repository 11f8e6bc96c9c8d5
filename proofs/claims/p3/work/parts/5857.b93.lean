/-! contracts, printed by wip/gen/gy.py -/
section MYNThroughWindow_way5
theorem c_ThroughWindow_way5 {l : Launch} {rho : Nat → Int32} {d : Nat} {h : my_H} {Q : my_H → my_V → Prop} {x1 x2 x3 x4 x5 x6 x7 : Int} (n_Ln : Ln h) (hlw : LwA h) (hwo : WOk h 7) (k0 : ∀ (h' : my_H), my_fr [(2, 11), (2, 12), (2, 13), (2, 14), (2, 15), (2, 16), (7, 0), (7, 1), (7, 2), (7, 3), (7, 4), (7, 5), (8, 0), (8, 1), (30, -1), (31, -1), (41, -1), (42, -1), (43, -1), (44, -1)] h h' → x6 < -1 ∨ (¬ EdOk h (h 8) x1 x2 x3 x4 x5) ∨ x7 < 0 ∨ 5 < x7 → (∀ k j : Int, 0 ≤ k → k < 94 → h' k j = h k j) → Ln h' → Q h' (0, (-1))) (k1 : ∀ (h' : my_H) (y : Int), my_fr [(2, 11), (2, 12), (2, 13), (2, 14), (2, 15), (2, 16), (7, 0), (7, 1), (7, 2), (7, 3), (7, 4), (7, 5), (8, 0), (8, 1), (30, -1), (31, -1), (41, -1), (42, -1), (43, -1), (44, -1)] h h' → 0 ≤ x1 → x1 ≤ 5 → 0 ≤ x2 → x2 ≤ 2 → (-1) ≤ x6 → 0 ≤ x7 → x7 ≤ 5 → (EdOk h (h 8) x1 x2 x3 x4 x5 ∧ ∃ L : List zqY, cWy h (h 8) x1 x2 x3 x4 x5 L ∧ y = wyV (h 2) (wyO (h 2) L x6) x7) → (∀ k j : Int, 0 ≤ k → k < 94 → h' k j = h k j) → Ln h' → Q h' (0, y)) : wp l rho (d + 6) 108 0 [(2, 0), (0, x1), (0, x2), (0, x3), (0, x4), (0, x5), (0, x6), (0, x7), (9, 0)] [] h Q := by
  refine w_iload gz_108_0 rfl ?_
  refine w_iconst gz_108_2 (by decide) ?_
  refine w_iclt (t := 27) gz_108_3 rfl (fun u1 => ?_) (fun u1 => ?_)
  ·
    refine w_iconst gz_108_27 (by decide) ?_
    have bfE : ∀ k j : Int, 0 ≤ k → k < 94 → h k j = h k j := fun k j k0 k1 => rfl
    exact w_iret gz_108_28 gm_108 (k0 h (my_fr.rf) (by first | exact bfE | exact Or.inl (by omega) | exact Or.inr (Or.inl nE) | exact Or.inr (Or.inr (by omega)) | exact ⟨E8, Wy_k (m := 0) wy8 s13 s12 (by omega) (by omega) (by omega)⟩ | exact ⟨E8, Wy_k (m := 1) wy8 s13 s12 (by omega) (by omega) (by omega)⟩ | exact ⟨E8, Wy_k (m := 2) wy8 s13 s12 (by omega) (by omega) (by omega)⟩ | exact ⟨E8, Wy_k (m := 3) wy8 s13 s12 (by omega) (by omega) (by omega)⟩ | exact ⟨E8, Wy_k (m := 4) wy8 s13 s12 (by omega) (by omega) (by omega)⟩ | exact ⟨E8, Wy_k (m := 5) wy8 s13 s12 (by omega) (by omega) (by omega)⟩ | exact ⟨E8, Wy_l (m := 0) wy8 (by omega) (by omega) (by omega)⟩ | exact ⟨E8, Wy_l (m := 1) wy8 (by omega) (by omega) (by omega)⟩ | exact ⟨E8, Wy_l (m := 2) wy8 (by omega) (by omega) (by omega)⟩ | exact ⟨E8, Wy_l (m := 3) wy8 (by omega) (by omega) (by omega)⟩ | exact ⟨E8, Wy_l (m := 4) wy8 (by omega) (by omega) (by omega)⟩ | exact ⟨E8, Wy_l (m := 5) wy8 (by omega) (by omega) (by omega)⟩ | assumption | omega) (by first | exact bfE | exact Or.inl (by omega) | exact Or.inr (Or.inl nE) | exact Or.inr (Or.inr (by omega)) | exact ⟨E8, Wy_k (m := 0) wy8 s13 s12 (by omega) (by omega) (by omega)⟩ | exact ⟨E8, Wy_k (m := 1) wy8 s13 s12 (by omega) (by omega) (by omega)⟩ | exact ⟨E8, Wy_k (m := 2) wy8 s13 s12 (by omega) (by omega) (by omega)⟩ | exact ⟨E8, Wy_k (m := 3) wy8 s13 s12 (by omega) (by omega) (by omega)⟩ | exact ⟨E8, Wy_k (m := 4) wy8 s13 s12 (by omega) (by omega) (by omega)⟩ | exact ⟨E8, Wy_k (m := 5) wy8 s13 s12 (by omega) (by omega) (by omega)⟩ | exact ⟨E8, Wy_l (m := 0) wy8 (by omega) (by omega) (by omega)⟩ | exact ⟨E8, Wy_l (m := 1) wy8 (by omega) (by omega) (by omega)⟩ | exact ⟨E8, Wy_l (m := 2) wy8 (by omega) (by omega) (by omega)⟩ | exact ⟨E8, Wy_l (m := 3) wy8 (by omega) (by omega) (by omega)⟩ | exact ⟨E8, Wy_l (m := 4) wy8 (by omega) (by omega) (by omega)⟩ | exact ⟨E8, Wy_l (m := 5) wy8 (by omega) (by omega) (by omega)⟩ | assumption | omega) n_Ln)
  ·
    refine w_aload_n gz_108_6 rfl ?_
    refine w_getX (v := 94) gz_108_7 is_0 rd_9 rfl (by decide) rfl ?_
    refine w_aload_n gz_108_10 rfl ?_
    refine w_getX (v := 7) gz_108_11 is_0 rd_9 rfl (by decide) rfl ?_
    refine w_iload_n gz_108_14 rfl ?_
    refine w_iload_n gz_108_15 rfl ?_
    refine w_iload_n gz_108_16 rfl ?_
    refine w_iload gz_108_17 rfl ?_
    refine w_iload gz_108_19 rfl ?_
    refine w_inv (k := 0) (as := [(0, x5), (0, x4), (0, x3), (0, x2), (0, x1), (2, 7)]) (r := []) (x := 94) (ls0 := [(2, 94), (2, 7), (0, x1), (0, x2), (0, x3), (0, x4), (0, x5)]) gz_108_21 gm_87 rfl is_94 rd_2 rfl rfl rfl rfl rfl (c_Desk_opens5 (d := d) (x1 := 7) (x2 := x1) (x3 := x2) (x4 := x3) (x5 := x4) (x6 := x5) is_7 n_Ln (hlw.1) (hwo.1.1) (fun h4 frh4 xp5 => ?_) (fun h6 frh6 w7 w8 w9 w10 w11 w12 xp13 xp14 xp15 xp16 xp17 xp18 xp19 xp20 xp21 xp22 xp23 xp24 xp25 => ?_))
    ·
      have gh4 : my_fr [(2, 11), (2, 12), (2, 13), (2, 14), (2, 15), (2, 16), (7, 0), (7, 1), (7, 2), (7, 3), (7, 4), (7, 5), (8, 0), (8, 1), (30, -1), (31, -1), (41, -1), (42, -1), (43, -1), (44, -1)] h h4 := my_fr.tr my_fr.rf (frh4.mo rfl)
      have Ln_h4 : Ln h4 := Ln_ag (my_ag.fr frh4 rfl) n_Ln
      show wp l rho (d + 6) 108 24 [(2, 0), (0, x1), (0, x2), (0, x3), (0, x4), (0, x5), (0, x6), (0, x7), (9, 0)] [(0, 0)] h4 Q
      have nE := xp5
      have agG : my_ag F5 h h4 := my_ag.fr (F := F5) frh4 rfl
      have bfG : ∀ k j : Int, 0 ≤ k → k < 94 → h4 k j = h k j := fun k j k0 k1 => (bg_fr frh4 (by decide +kernel) k j k0 (Or.inl k1))
      refine w_ifne (t := 29) gz_108_24 rfl (fun u26 => by exfalso; omega) (fun u26 => ?_)
      refine w_iconst gz_108_27 (by decide) ?_
      have bfE : ∀ k j : Int, 0 ≤ k → k < 94 → h4 k j = h k j := fun k j k0 k1 => (bg_fr frh4 (by decide +kernel) k j k0 (Or.inl k1))
      exact w_iret gz_108_28 gm_108 (k0 h4 (gh4) (by first | exact bfE | exact Or.inl (by omega) | exact Or.inr (Or.inl nE) | exact Or.inr (Or.inr (by omega)) | exact ⟨E8, Wy_k (m := 0) wy8 s13 s12 (by omega) (by omega) (by omega)⟩ | exact ⟨E8, Wy_k (m := 1) wy8 s13 s12 (by omega) (by omega) (by omega)⟩ | exact ⟨E8, Wy_k (m := 2) wy8 s13 s12 (by omega) (by omega) (by omega)⟩ | exact ⟨E8, Wy_k (m := 3) wy8 s13 s12 (by omega) (by omega) (by omega)⟩ | exact ⟨E8, Wy_k (m := 4) wy8 s13 s12 (by omega) (by omega) (by omega)⟩ | exact ⟨E8, Wy_k (m := 5) wy8 s13 s12 (by omega) (by omega) (by omega)⟩ | exact ⟨E8, Wy_l (m := 0) wy8 (by omega) (by omega) (by omega)⟩ | exact ⟨E8, Wy_l (m := 1) wy8 (by omega) (by omega) (by omega)⟩ | exact ⟨E8, Wy_l (m := 2) wy8 (by omega) (by omega) (by omega)⟩ | exact ⟨E8, Wy_l (m := 3) wy8 (by omega) (by omega) (by omega)⟩ | exact ⟨E8, Wy_l (m := 4) wy8 (by omega) (by omega) (by omega)⟩ | exact ⟨E8, Wy_l (m := 5) wy8 (by omega) (by omega) (by omega)⟩ | assumption | omega) (by first | exact bfE | exact Or.inl (by omega) | exact Or.inr (Or.inl nE) | exact Or.inr (Or.inr (by omega)) | exact ⟨E8, Wy_k (m := 0) wy8 s13 s12 (by omega) (by omega) (by omega)⟩ | exact ⟨E8, Wy_k (m := 1) wy8 s13 s12 (by omega) (by omega) (by omega)⟩ | exact ⟨E8, Wy_k (m := 2) wy8 s13 s12 (by omega) (by omega) (by omega)⟩ | exact ⟨E8, Wy_k (m := 3) wy8 s13 s12 (by omega) (by omega) (by omega)⟩ | exact ⟨E8, Wy_k (m := 4) wy8 s13 s12 (by omega) (by omega) (by omega)⟩ | exact ⟨E8, Wy_k (m := 5) wy8 s13 s12 (by omega) (by omega) (by omega)⟩ | exact ⟨E8, Wy_l (m := 0) wy8 (by omega) (by omega) (by omega)⟩ | exact ⟨E8, Wy_l (m := 1) wy8 (by omega) (by omega) (by omega)⟩ | exact ⟨E8, Wy_l (m := 2) wy8 (by omega) (by omega) (by omega)⟩ | exact ⟨E8, Wy_l (m := 3) wy8 (by omega) (by omega) (by omega)⟩ | exact ⟨E8, Wy_l (m := 4) wy8 (by omega) (by omega) (by omega)⟩ | exact ⟨E8, Wy_l (m := 5) wy8 (by omega) (by omega) (by omega)⟩ | assumption | omega) Ln_h4)
    ·
      have gh6 : my_fr [(2, 11), (2, 12), (2, 13), (2, 14), (2, 15), (2, 16), (7, 0), (7, 1), (7, 2), (7, 3), (7, 4), (7, 5), (8, 0), (8, 1), (30, -1), (31, -1), (41, -1), (42, -1), (43, -1), (44, -1)] h h6 := my_fr.tr my_fr.rf (frh6.mo rfl)
      have Ln_h6 : Ln h6 := Ln_ag (my_ag.fr frh6 rfl) n_Ln
      show wp l rho (d + 6) 108 24 [(2, 0), (0, x1), (0, x2), (0, x3), (0, x4), (0, x5), (0, x6), (0, x7), (9, 0)] [(0, 1)] h6 Q
      have Td_h6t27 : Td h6 x1 := xp17
      have nE := xp13
      have agG : my_ag F5 h h6 := my_ag.fr (F := F5) frh6 rfl
      have bfG : ∀ k j : Int, 0 ≤ k → k < 94 → h6 k j = h k j := fun k j k0 k1 => (bg_fr frh6 (by decide +kernel) k j k0 (Or.inl k1))
      have E8 := xp18
      have wn8 := Wn_o (x := 7) xp19 xp20 xp21
      have K8 := SrP_mk (x := 7) n_Ln agG hlw hwo (fun j => my_fr.at frh6 (pix61 is_7) rfl) (fun j => my_fr.at frh6 (pix62 is_7) rfl) xp18 xp19 xp20 xp21 xp22 xp23 xp24 xp25 xp13 xp14
      refine w_ifne (t := 29) gz_108_24 rfl (fun u28 => ?_) (fun u28 => by exfalso; omega)
      refine w_aload_n gz_108_29 rfl ?_
      refine w_getX (v := 94) gz_108_30 is_0 rd_9 rfl (by decide) rfl ?_
      refine w_aload_n gz_108_33 rfl ?_
      refine w_getX (v := 7) gz_108_34 is_0 rd_9 rfl (by decide) rfl ?_
      refine w_iload_n gz_108_37 rfl ?_
      refine w_iload gz_108_38 rfl ?_
      refine w_iload gz_108_40 rfl ?_
      refine w_iconst gz_108_42 (by decide) ?_
      refine w_icne (t := 50) gz_108_43 rfl (fun u31 => ?_) (fun u31 => ?_)
      ·
        refine w_iconst gz_108_50 (by decide) ?_
        refine w_inv (k := 2) (as := [(0, 0), (0, x6), (0, x1), (2, 7)]) (r := []) (x := 94) (ls0 := [(2, 94), (2, 7), (0, x1), (0, x6), (0, 0), (9, 0), (9, 0)]) gz_108_51 gm_92 rfl is_94 rd_2 rfl rfl rfl rfl rfl (c_Desk_search5 (d := d) (x1 := 7) (x2 := x1) (x3 := x6) (x4 := 0) is_7 (by omega) (by omega) (by omega) (by omega) (by omega) Ln_h6 Td_h6t27 (by first | assumption | exact no_such_saying | exact Fp_told (by omega) (by omega) | omega | (subst_vars; omega) | omega) (K8) ((by unfold zqXf; omega)) (fun h32 frh32 w33 w34 w35 xp36 xp37 xp38 Lst_h32t39 => ?_))
        have gh32 : my_fr [(2, 11), (2, 12), (2, 13), (2, 14), (2, 15), (2, 16), (7, 0), (7, 1), (7, 2), (7, 3), (7, 4), (7, 5), (8, 0), (8, 1), (30, -1), (31, -1), (41, -1), (42, -1), (43, -1), (44, -1)] h h32 := my_fr.tr gh6 (frh32.mo rfl)
        have Ln_h32 : Ln h32 := Ln_ag (my_ag.fr frh32 rfl) Ln_h6
        have Td_h32 : Td h32 x1 := Td_ag (my_ag.fr frh32 rfl) Ln_h6 Td_h6t27
        show wp l rho (d + 6) 108 54 [(2, 0), (0, x1), (0, x2), (0, x3), (0, x4), (0, x5), (0, x6), (0, x7), (9, 0)] [] h32 Q
        have sr := xp36
        have s13 := xp37.2.1
        have s12 := xp37.2.2
        have bc_h32 : ∀ k j : Int, 0 ≤ k → k < 94 → h32 k j = h6 k j := fun k j k0 k1 => xp38 k j k0 (Or.inl k1)
        have wy8 := CwB (x := 7) n_Ln agG E8.2.1.1 E8.2.1.2.1 E8.2.1.2.2 (fun j => bfG (7 + 1) j (by omega) (by omega)) wn8 sr
        refine w_iload gz_108_54 rfl ?_
        refine w_iconst gz_108_56 (by decide) ?_
        refine w_icne (t := 70) gz_108_57 rfl (fun u40 => ?_) (fun u40 => by exfalso; omega)
        refine w_aload_n gz_108_70 rfl ?_
        refine w_getX (v := 94) gz_108_71 is_0 rd_9 rfl (by decide) rfl ?_
        refine w_getX (v := 113) gz_108_74 is_94 rd_2 rfl (by decide) rfl ?_
        refine w_astore (ls' := [(2, 0), (0, x1), (0, x2), (0, x3), (0, x4), (0, x5), (0, x6), (0, x7), (2, 113)]) gz_108_77 gm_108 rfl rfl rfl ?_
        refine w_iload gz_108_79 rfl ?_
        by_cases u43 : x7 = 0
        ·
          refine w_tswE (t := 120) gz_108_81 u43 (by decide) (by decide) rfl rfl ?_
          refine w_aload gz_108_120 rfl ?_
          refine v_getI (j := 0) gz_108_122 rfl is_113 rd_7 rfl (fun v44 ev44 pv44 qv44 => ?_)
          have bfE : ∀ k j : Int, 0 ≤ k → k < 94 → h32 k j = h k j := fun k j k0 k1 => ((bc_h32 k j k0 k1).trans (bg_fr frh6 (by decide +kernel) k j k0 (Or.inl k1)))
          exact w_iret gz_108_125 gm_108 (k1 h32 (v44) (gh32) (by omega) (by omega) (by omega) (by omega) (by omega) (by omega) (by omega) (by first | exact bfE | exact Or.inl (by omega) | exact Or.inr (Or.inl nE) | exact Or.inr (Or.inr (by omega)) | exact ⟨E8, Wy_k (m := 0) wy8 s13 s12 (by omega) (by omega) (by omega)⟩ | exact ⟨E8, Wy_k (m := 1) wy8 s13 s12 (by omega) (by omega) (by omega)⟩ | exact ⟨E8, Wy_k (m := 2) wy8 s13 s12 (by omega) (by omega) (by omega)⟩ | exact ⟨E8, Wy_k (m := 3) wy8 s13 s12 (by omega) (by omega) (by omega)⟩ | exact ⟨E8, Wy_k (m := 4) wy8 s13 s12 (by omega) (by omega) (by omega)⟩ | exact ⟨E8, Wy_k (m := 5) wy8 s13 s12 (by omega) (by omega) (by omega)⟩ | exact ⟨E8, Wy_l (m := 0) wy8 (by omega) (by omega) (by omega)⟩ | exact ⟨E8, Wy_l (m := 1) wy8 (by omega) (by omega) (by omega)⟩ | exact ⟨E8, Wy_l (m := 2) wy8 (by omega) (by omega) (by omega)⟩ | exact ⟨E8, Wy_l (m := 3) wy8 (by omega) (by omega) (by omega)⟩ | exact ⟨E8, Wy_l (m := 4) wy8 (by omega) (by omega) (by omega)⟩ | exact ⟨E8, Wy_l (m := 5) wy8 (by omega) (by omega) (by omega)⟩ | assumption | omega) (by first | exact bfE | exact Or.inl (by omega) | exact Or.inr (Or.inl nE) | exact Or.inr (Or.inr (by omega)) | exact ⟨E8, Wy_k (m := 0) wy8 s13 s12 (by omega) (by omega) (by omega)⟩ | exact ⟨E8, Wy_k (m := 1) wy8 s13 s12 (by omega) (by omega) (by omega)⟩ | exact ⟨E8, Wy_k (m := 2) wy8 s13 s12 (by omega) (by omega) (by omega)⟩ | exact ⟨E8, Wy_k (m := 3) wy8 s13 s12 (by omega) (by omega) (by omega)⟩ | exact ⟨E8, Wy_k (m := 4) wy8 s13 s12 (by omega) (by omega) (by omega)⟩ | exact ⟨E8, Wy_k (m := 5) wy8 s13 s12 (by omega) (by omega) (by omega)⟩ | exact ⟨E8, Wy_l (m := 0) wy8 (by omega) (by omega) (by omega)⟩ | exact ⟨E8, Wy_l (m := 1) wy8 (by omega) (by omega) (by omega)⟩ | exact ⟨E8, Wy_l (m := 2) wy8 (by omega) (by omega) (by omega)⟩ | exact ⟨E8, Wy_l (m := 3) wy8 (by omega) (by omega) (by omega)⟩ | exact ⟨E8, Wy_l (m := 4) wy8 (by omega) (by omega) (by omega)⟩ | exact ⟨E8, Wy_l (m := 5) wy8 (by omega) (by omega) (by omega)⟩ | assumption | omega) Ln_h32)
        ·
          by_cases u45 : x7 = 1
          ·
            refine w_tswE (t := 126) gz_108_81 u45 (by decide) (by decide) rfl rfl ?_
            refine w_aload gz_108_126 rfl ?_
            refine v_getI (j := 1) gz_108_128 rfl is_113 rd_7 rfl (fun v46 ev46 pv46 qv46 => ?_)
            have bfE : ∀ k j : Int, 0 ≤ k → k < 94 → h32 k j = h k j := fun k j k0 k1 => ((bc_h32 k j k0 k1).trans (bg_fr frh6 (by decide +kernel) k j k0 (Or.inl k1)))
            exact w_iret gz_108_131 gm_108 (k1 h32 (v46) (gh32) (by omega) (by omega) (by omega) (by omega) (by omega) (by omega) (by omega) (by first | exact bfE | exact Or.inl (by omega) | exact Or.inr (Or.inl nE) | exact Or.inr (Or.inr (by omega)) | exact ⟨E8, Wy_k (m := 0) wy8 s13 s12 (by omega) (by omega) (by omega)⟩ | exact ⟨E8, Wy_k (m := 1) wy8 s13 s12 (by omega) (by omega) (by omega)⟩ | exact ⟨E8, Wy_k (m := 2) wy8 s13 s12 (by omega) (by omega) (by omega)⟩ | exact ⟨E8, Wy_k (m := 3) wy8 s13 s12 (by omega) (by omega) (by omega)⟩ | exact ⟨E8, Wy_k (m := 4) wy8 s13 s12 (by omega) (by omega) (by omega)⟩ | exact ⟨E8, Wy_k (m := 5) wy8 s13 s12 (by omega) (by omega) (by omega)⟩ | exact ⟨E8, Wy_l (m := 0) wy8 (by omega) (by omega) (by omega)⟩ | exact ⟨E8, Wy_l (m := 1) wy8 (by omega) (by omega) (by omega)⟩ | exact ⟨E8, Wy_l (m := 2) wy8 (by omega) (by omega) (by omega)⟩ | exact ⟨E8, Wy_l (m := 3) wy8 (by omega) (by omega) (by omega)⟩ | exact ⟨E8, Wy_l (m := 4) wy8 (by omega) (by omega) (by omega)⟩ | exact ⟨E8, Wy_l (m := 5) wy8 (by omega) (by omega) (by omega)⟩ | assumption | omega) (by first | exact bfE | exact Or.inl (by omega) | exact Or.inr (Or.inl nE) | exact Or.inr (Or.inr (by omega)) | exact ⟨E8, Wy_k (m := 0) wy8 s13 s12 (by omega) (by omega) (by omega)⟩ | exact ⟨E8, Wy_k (m := 1) wy8 s13 s12 (by omega) (by omega) (by omega)⟩ | exact ⟨E8, Wy_k (m := 2) wy8 s13 s12 (by omega) (by omega) (by omega)⟩ | exact ⟨E8, Wy_k (m := 3) wy8 s13 s12 (by omega) (by omega) (by omega)⟩ | exact ⟨E8, Wy_k (m := 4) wy8 s13 s12 (by omega) (by omega) (by omega)⟩ | exact ⟨E8, Wy_k (m := 5) wy8 s13 s12 (by omega) (by omega) (by omega)⟩ | exact ⟨E8, Wy_l (m := 0) wy8 (by omega) (by omega) (by omega)⟩ | exact ⟨E8, Wy_l (m := 1) wy8 (by omega) (by omega) (by omega)⟩ | exact ⟨E8, Wy_l (m := 2) wy8 (by omega) (by omega) (by omega)⟩ | exact ⟨E8, Wy_l (m := 3) wy8 (by omega) (by omega) (by omega)⟩ | exact ⟨E8, Wy_l (m := 4) wy8 (by omega) (by omega) (by omega)⟩ | exact ⟨E8, Wy_l (m := 5) wy8 (by omega) (by omega) (by omega)⟩ | assumption | omega) Ln_h32)
          ·
            by_cases u47 : x7 = 2
            ·
              refine w_tswE (t := 132) gz_108_81 u47 (by decide) (by decide) rfl rfl ?_
              refine w_aload gz_108_132 rfl ?_
              refine v_getI (j := 2) gz_108_134 rfl is_113 rd_7 rfl (fun v48 ev48 pv48 qv48 => ?_)
              have bfE : ∀ k j : Int, 0 ≤ k → k < 94 → h32 k j = h k j := fun k j k0 k1 => ((bc_h32 k j k0 k1).trans (bg_fr frh6 (by decide +kernel) k j k0 (Or.inl k1)))
              exact w_iret gz_108_137 gm_108 (k1 h32 (v48) (gh32) (by omega) (by omega) (by omega) (by omega) (by omega) (by omega) (by omega) (by first | exact bfE | exact Or.inl (by omega) | exact Or.inr (Or.inl nE) | exact Or.inr (Or.inr (by omega)) | exact ⟨E8, Wy_k (m := 0) wy8 s13 s12 (by omega) (by omega) (by omega)⟩ | exact ⟨E8, Wy_k (m := 1) wy8 s13 s12 (by omega) (by omega) (by omega)⟩ | exact ⟨E8, Wy_k (m := 2) wy8 s13 s12 (by omega) (by omega) (by omega)⟩ | exact ⟨E8, Wy_k (m := 3) wy8 s13 s12 (by omega) (by omega) (by omega)⟩ | exact ⟨E8, Wy_k (m := 4) wy8 s13 s12 (by omega) (by omega) (by omega)⟩ | exact ⟨E8, Wy_k (m := 5) wy8 s13 s12 (by omega) (by omega) (by omega)⟩ | exact ⟨E8, Wy_l (m := 0) wy8 (by omega) (by omega) (by omega)⟩ | exact ⟨E8, Wy_l (m := 1) wy8 (by omega) (by omega) (by omega)⟩ | exact ⟨E8, Wy_l (m := 2) wy8 (by omega) (by omega) (by omega)⟩ | exact ⟨E8, Wy_l (m := 3) wy8 (by omega) (by omega) (by omega)⟩ | exact ⟨E8, Wy_l (m := 4) wy8 (by omega) (by omega) (by omega)⟩ | exact ⟨E8, Wy_l (m := 5) wy8 (by omega) (by omega) (by omega)⟩ | assumption | omega) (by first | exact bfE | exact Or.inl (by omega) | exact Or.inr (Or.inl nE) | exact Or.inr (Or.inr (by omega)) | exact ⟨E8, Wy_k (m := 0) wy8 s13 s12 (by omega) (by omega) (by omega)⟩ | exact ⟨E8, Wy_k (m := 1) wy8 s13 s12 (by omega) (by omega) (by omega)⟩ | exact ⟨E8, Wy_k (m := 2) wy8 s13 s12 (by omega) (by omega) (by omega)⟩ | exact ⟨E8, Wy_k (m := 3) wy8 s13 s12 (by omega) (by omega) (by omega)⟩ | exact ⟨E8, Wy_k (m := 4) wy8 s13 s12 (by omega) (by omega) (by omega)⟩ | exact ⟨E8, Wy_k (m := 5) wy8 s13 s12 (by omega) (by omega) (by omega)⟩ | exact ⟨E8, Wy_l (m := 0) wy8 (by omega) (by omega) (by omega)⟩ | exact ⟨E8, Wy_l (m := 1) wy8 (by omega) (by omega) (by omega)⟩ | exact ⟨E8, Wy_l (m := 2) wy8 (by omega) (by omega) (by omega)⟩ | exact ⟨E8, Wy_l (m := 3) wy8 (by omega) (by omega) (by omega)⟩ | exact ⟨E8, Wy_l (m := 4) wy8 (by omega) (by omega) (by omega)⟩ | exact ⟨E8, Wy_l (m := 5) wy8 (by omega) (by omega) (by omega)⟩ | assumption | omega) Ln_h32)
            ·
              by_cases u49 : x7 = 3
              ·
                refine w_tswE (t := 138) gz_108_81 u49 (by decide) (by decide) rfl rfl ?_
                refine w_aload gz_108_138 rfl ?_
                refine v_getI (j := 3) gz_108_140 rfl is_113 rd_7 rfl (fun v50 ev50 pv50 qv50 => ?_)
                have bfE : ∀ k j : Int, 0 ≤ k → k < 94 → h32 k j = h k j := fun k j k0 k1 => ((bc_h32 k j k0 k1).trans (bg_fr frh6 (by decide +kernel) k j k0 (Or.inl k1)))
                exact w_iret gz_108_143 gm_108 (k1 h32 (v50) (gh32) (by omega) (by omega) (by omega) (by omega) (by omega) (by omega) (by omega) (by first | exact bfE | exact Or.inl (by omega) | exact Or.inr (Or.inl nE) | exact Or.inr (Or.inr (by omega)) | exact ⟨E8, Wy_k (m := 0) wy8 s13 s12 (by omega) (by omega) (by omega)⟩ | exact ⟨E8, Wy_k (m := 1) wy8 s13 s12 (by omega) (by omega) (by omega)⟩ | exact ⟨E8, Wy_k (m := 2) wy8 s13 s12 (by omega) (by omega) (by omega)⟩ | exact ⟨E8, Wy_k (m := 3) wy8 s13 s12 (by omega) (by omega) (by omega)⟩ | exact ⟨E8, Wy_k (m := 4) wy8 s13 s12 (by omega) (by omega) (by omega)⟩ | exact ⟨E8, Wy_k (m := 5) wy8 s13 s12 (by omega) (by omega) (by omega)⟩ | exact ⟨E8, Wy_l (m := 0) wy8 (by omega) (by omega) (by omega)⟩ | exact ⟨E8, Wy_l (m := 1) wy8 (by omega) (by omega) (by omega)⟩ | exact ⟨E8, Wy_l (m := 2) wy8 (by omega) (by omega) (by omega)⟩ | exact ⟨E8, Wy_l (m := 3) wy8 (by omega) (by omega) (by omega)⟩ | exact ⟨E8, Wy_l (m := 4) wy8 (by omega) (by omega) (by omega)⟩ | exact ⟨E8, Wy_l (m := 5) wy8 (by omega) (by omega) (by omega)⟩ | assumption | omega) (by first | exact bfE | exact Or.inl (by omega) | exact Or.inr (Or.inl nE) | exact Or.inr (Or.inr (by omega)) | exact ⟨E8, Wy_k (m := 0) wy8 s13 s12 (by omega) (by omega) (by omega)⟩ | exact ⟨E8, Wy_k (m := 1) wy8 s13 s12 (by omega) (by omega) (by omega)⟩ | exact ⟨E8, Wy_k (m := 2) wy8 s13 s12 (by omega) (by omega) (by omega)⟩ | exact ⟨E8, Wy_k (m := 3) wy8 s13 s12 (by omega) (by omega) (by omega)⟩ | exact ⟨E8, Wy_k (m := 4) wy8 s13 s12 (by omega) (by omega) (by omega)⟩ | exact ⟨E8, Wy_k (m := 5) wy8 s13 s12 (by omega) (by omega) (by omega)⟩ | exact ⟨E8, Wy_l (m := 0) wy8 (by omega) (by omega) (by omega)⟩ | exact ⟨E8, Wy_l (m := 1) wy8 (by omega) (by omega) (by omega)⟩ | exact ⟨E8, Wy_l (m := 2) wy8 (by omega) (by omega) (by omega)⟩ | exact ⟨E8, Wy_l (m := 3) wy8 (by omega) (by omega) (by omega)⟩ | exact ⟨E8, Wy_l (m := 4) wy8 (by omega) (by omega) (by omega)⟩ | exact ⟨E8, Wy_l (m := 5) wy8 (by omega) (by omega) (by omega)⟩ | assumption | omega) Ln_h32)
              ·
                by_cases u51 : x7 = 4
                ·
                  refine w_tswE (t := 144) gz_108_81 u51 (by decide) (by decide) rfl rfl ?_
                  refine w_aload gz_108_144 rfl ?_
                  refine v_getI (j := 4) gz_108_146 rfl is_113 rd_7 rfl (fun v52 ev52 pv52 qv52 => ?_)
                  have bfE : ∀ k j : Int, 0 ≤ k → k < 94 → h32 k j = h k j := fun k j k0 k1 => ((bc_h32 k j k0 k1).trans (bg_fr frh6 (by decide +kernel) k j k0 (Or.inl k1)))
                  exact w_iret gz_108_149 gm_108 (k1 h32 (v52) (gh32) (by omega) (by omega) (by omega) (by omega) (by omega) (by omega) (by omega) (by first | exact bfE | exact Or.inl (by omega) | exact Or.inr (Or.inl nE) | exact Or.inr (Or.inr (by omega)) | exact ⟨E8, Wy_k (m := 0) wy8 s13 s12 (by omega) (by omega) (by omega)⟩ | exact ⟨E8, Wy_k (m := 1) wy8 s13 s12 (by omega) (by omega) (by omega)⟩ | exact ⟨E8, Wy_k (m := 2) wy8 s13 s12 (by omega) (by omega) (by omega)⟩ | exact ⟨E8, Wy_k (m := 3) wy8 s13 s12 (by omega) (by omega) (by omega)⟩ | exact ⟨E8, Wy_k (m := 4) wy8 s13 s12 (by omega) (by omega) (by omega)⟩ | exact ⟨E8, Wy_k (m := 5) wy8 s13 s12 (by omega) (by omega) (by omega)⟩ | exact ⟨E8, Wy_l (m := 0) wy8 (by omega) (by omega) (by omega)⟩ | exact ⟨E8, Wy_l (m := 1) wy8 (by omega) (by omega) (by omega)⟩ | exact ⟨E8, Wy_l (m := 2) wy8 (by omega) (by omega) (by omega)⟩ | exact ⟨E8, Wy_l (m := 3) wy8 (by omega) (by omega) (by omega)⟩ | exact ⟨E8, Wy_l (m := 4) wy8 (by omega) (by omega) (by omega)⟩ | exact ⟨E8, Wy_l (m := 5) wy8 (by omega) (by omega) (by omega)⟩ | assumption | omega) (by first | exact bfE | exact Or.inl (by omega) | exact Or.inr (Or.inl nE) | exact Or.inr (Or.inr (by omega)) | exact ⟨E8, Wy_k (m := 0) wy8 s13 s12 (by omega) (by omega) (by omega)⟩ | exact ⟨E8, Wy_k (m := 1) wy8 s13 s12 (by omega) (by omega) (by omega)⟩ | exact ⟨E8, Wy_k (m := 2) wy8 s13 s12 (by omega) (by omega) (by omega)⟩ | exact ⟨E8, Wy_k (m := 3) wy8 s13 s12 (by omega) (by omega) (by omega)⟩ | exact ⟨E8, Wy_k (m := 4) wy8 s13 s12 (by omega) (by omega) (by omega)⟩ | exact ⟨E8, Wy_k (m := 5) wy8 s13 s12 (by omega) (by omega) (by omega)⟩ | exact ⟨E8, Wy_l (m := 0) wy8 (by omega) (by omega) (by omega)⟩ | exact ⟨E8, Wy_l (m := 1) wy8 (by omega) (by omega) (by omega)⟩ | exact ⟨E8, Wy_l (m := 2) wy8 (by omega) (by omega) (by omega)⟩ | exact ⟨E8, Wy_l (m := 3) wy8 (by omega) (by omega) (by omega)⟩ | exact ⟨E8, Wy_l (m := 4) wy8 (by omega) (by omega) (by omega)⟩ | exact ⟨E8, Wy_l (m := 5) wy8 (by omega) (by omega) (by omega)⟩ | assumption | omega) Ln_h32)
                ·
                  by_cases u53 : x7 = 5
                  ·
                    refine w_tswE (t := 150) gz_108_81 u53 (by decide) (by decide) rfl rfl ?_
                    refine w_aload gz_108_150 rfl ?_
                    refine v_getI (j := 5) gz_108_152 rfl is_113 rd_7 rfl (fun v54 ev54 pv54 qv54 => ?_)
                    have bfE : ∀ k j : Int, 0 ≤ k → k < 94 → h32 k j = h k j := fun k j k0 k1 => ((bc_h32 k j k0 k1).trans (bg_fr frh6 (by decide +kernel) k j k0 (Or.inl k1)))
                    exact w_iret gz_108_155 gm_108 (k1 h32 (v54) (gh32) (by omega) (by omega) (by omega) (by omega) (by omega) (by omega) (by omega) (by first | exact bfE | exact Or.inl (by omega) | exact Or.inr (Or.inl nE) | exact Or.inr (Or.inr (by omega)) | exact ⟨E8, Wy_k (m := 0) wy8 s13 s12 (by omega) (by omega) (by omega)⟩ | exact ⟨E8, Wy_k (m := 1) wy8 s13 s12 (by omega) (by omega) (by omega)⟩ | exact ⟨E8, Wy_k (m := 2) wy8 s13 s12 (by omega) (by omega) (by omega)⟩ | exact ⟨E8, Wy_k (m := 3) wy8 s13 s12 (by omega) (by omega) (by omega)⟩ | exact ⟨E8, Wy_k (m := 4) wy8 s13 s12 (by omega) (by omega) (by omega)⟩ | exact ⟨E8, Wy_k (m := 5) wy8 s13 s12 (by omega) (by omega) (by omega)⟩ | exact ⟨E8, Wy_l (m := 0) wy8 (by omega) (by omega) (by omega)⟩ | exact ⟨E8, Wy_l (m := 1) wy8 (by omega) (by omega) (by omega)⟩ | exact ⟨E8, Wy_l (m := 2) wy8 (by omega) (by omega) (by omega)⟩ | exact ⟨E8, Wy_l (m := 3) wy8 (by omega) (by omega) (by omega)⟩ | exact ⟨E8, Wy_l (m := 4) wy8 (by omega) (by omega) (by omega)⟩ | exact ⟨E8, Wy_l (m := 5) wy8 (by omega) (by omega) (by omega)⟩ | assumption | omega) (by first | exact bfE | exact Or.inl (by omega) | exact Or.inr (Or.inl nE) | exact Or.inr (Or.inr (by omega)) | exact ⟨E8, Wy_k (m := 0) wy8 s13 s12 (by omega) (by omega) (by omega)⟩ | exact ⟨E8, Wy_k (m := 1) wy8 s13 s12 (by omega) (by omega) (by omega)⟩ | exact ⟨E8, Wy_k (m := 2) wy8 s13 s12 (by omega) (by omega) (by omega)⟩ | exact ⟨E8, Wy_k (m := 3) wy8 s13 s12 (by omega) (by omega) (by omega)⟩ | exact ⟨E8, Wy_k (m := 4) wy8 s13 s12 (by omega) (by omega) (by omega)⟩ | exact ⟨E8, Wy_k (m := 5) wy8 s13 s12 (by omega) (by omega) (by omega)⟩ | exact ⟨E8, Wy_l (m := 0) wy8 (by omega) (by omega) (by omega)⟩ | exact ⟨E8, Wy_l (m := 1) wy8 (by omega) (by omega) (by omega)⟩ | exact ⟨E8, Wy_l (m := 2) wy8 (by omega) (by omega) (by omega)⟩ | exact ⟨E8, Wy_l (m := 3) wy8 (by omega) (by omega) (by omega)⟩ | exact ⟨E8, Wy_l (m := 4) wy8 (by omega) (by omega) (by omega)⟩ | exact ⟨E8, Wy_l (m := 5) wy8 (by omega) (by omega) (by omega)⟩ | assumption | omega) Ln_h32)
                  ·
                    refine w_tswD (t := 156) gz_108_81 (by omega) rfl ?_
                    refine w_iconst gz_108_156 (by decide) ?_
                    have bfE : ∀ k j : Int, 0 ≤ k → k < 94 → h32 k j = h k j := fun k j k0 k1 => ((bc_h32 k j k0 k1).trans (bg_fr frh6 (by decide +kernel) k j k0 (Or.inl k1)))
                    exact w_iret gz_108_157 gm_108 (k0 h32 (gh32) (by first | exact bfE | exact Or.inl (by omega) | exact Or.inr (Or.inl nE) | exact Or.inr (Or.inr (by omega)) | exact ⟨E8, Wy_k (m := 0) wy8 s13 s12 (by omega) (by omega) (by omega)⟩ | exact ⟨E8, Wy_k (m := 1) wy8 s13 s12 (by omega) (by omega) (by omega)⟩ | exact ⟨E8, Wy_k (m := 2) wy8 s13 s12 (by omega) (by omega) (by omega)⟩ | exact ⟨E8, Wy_k (m := 3) wy8 s13 s12 (by omega) (by omega) (by omega)⟩ | exact ⟨E8, Wy_k (m := 4) wy8 s13 s12 (by omega) (by omega) (by omega)⟩ | exact ⟨E8, Wy_k (m := 5) wy8 s13 s12 (by omega) (by omega) (by omega)⟩ | exact ⟨E8, Wy_l (m := 0) wy8 (by omega) (by omega) (by omega)⟩ | exact ⟨E8, Wy_l (m := 1) wy8 (by omega) (by omega) (by omega)⟩ | exact ⟨E8, Wy_l (m := 2) wy8 (by omega) (by omega) (by omega)⟩ | exact ⟨E8, Wy_l (m := 3) wy8 (by omega) (by omega) (by omega)⟩ | exact ⟨E8, Wy_l (m := 4) wy8 (by omega) (by omega) (by omega)⟩ | exact ⟨E8, Wy_l (m := 5) wy8 (by omega) (by omega) (by omega)⟩ | assumption | omega) (by first | exact bfE | exact Or.inl (by omega) | exact Or.inr (Or.inl nE) | exact Or.inr (Or.inr (by omega)) | exact ⟨E8, Wy_k (m := 0) wy8 s13 s12 (by omega) (by omega) (by omega)⟩ | exact ⟨E8, Wy_k (m := 1) wy8 s13 s12 (by omega) (by omega) (by omega)⟩ | exact ⟨E8, Wy_k (m := 2) wy8 s13 s12 (by omega) (by omega) (by omega)⟩ | exact ⟨E8, Wy_k (m := 3) wy8 s13 s12 (by omega) (by omega) (by omega)⟩ | exact ⟨E8, Wy_k (m := 4) wy8 s13 s12 (by omega) (by omega) (by omega)⟩ | exact ⟨E8, Wy_k (m := 5) wy8 s13 s12 (by omega) (by omega) (by omega)⟩ | exact ⟨E8, Wy_l (m := 0) wy8 (by omega) (by omega) (by omega)⟩ | exact ⟨E8, Wy_l (m := 1) wy8 (by omega) (by omega) (by omega)⟩ | exact ⟨E8, Wy_l (m := 2) wy8 (by omega) (by omega) (by omega)⟩ | exact ⟨E8, Wy_l (m := 3) wy8 (by omega) (by omega) (by omega)⟩ | exact ⟨E8, Wy_l (m := 4) wy8 (by omega) (by omega) (by omega)⟩ | exact ⟨E8, Wy_l (m := 5) wy8 (by omega) (by omega) (by omega)⟩ | assumption | omega) Ln_h32)
      ·
        refine w_iconst gz_108_46 (by decide) ?_
        refine w_goto (t := 51) gz_108_47 rfl ?_
        refine w_inv (k := 2) (as := [(0, 1), (0, x6), (0, x1), (2, 7)]) (r := []) (x := 94) (ls0 := [(2, 94), (2, 7), (0, x1), (0, x6), (0, 1), (9, 0), (9, 0)]) gz_108_51 gm_92 rfl is_94 rd_2 rfl rfl rfl rfl rfl (c_Desk_search5 (d := d) (x1 := 7) (x2 := x1) (x3 := x6) (x4 := 1) is_7 (by omega) (by omega) (by omega) (by omega) (by omega) Ln_h6 Td_h6t27 (by first | assumption | exact no_such_saying | exact Fp_told (by omega) (by omega) | omega | (subst_vars; omega) | omega) (K8) ((by unfold zqXf; omega)) (fun h55 frh55 w56 w57 w58 xp59 xp60 xp61 Lst_h55t62 => ?_))
        have gh55 : my_fr [(2, 11), (2, 12), (2, 13), (2, 14), (2, 15), (2, 16), (7, 0), (7, 1), (7, 2), (7, 3), (7, 4), (7, 5), (8, 0), (8, 1), (30, -1), (31, -1), (41, -1), (42, -1), (43, -1), (44, -1)] h h55 := my_fr.tr gh6 (frh55.mo rfl)
        have Ln_h55 : Ln h55 := Ln_ag (my_ag.fr frh55 rfl) Ln_h6
        have Td_h55 : Td h55 x1 := Td_ag (my_ag.fr frh55 rfl) Ln_h6 Td_h6t27
        show wp l rho (d + 6) 108 54 [(2, 0), (0, x1), (0, x2), (0, x3), (0, x4), (0, x5), (0, x6), (0, x7), (9, 0)] [] h55 Q
        have sr := xp59
        have s13 := xp60.2.1
        have s12 := xp60.2.2
        have bc_h55 : ∀ k j : Int, 0 ≤ k → k < 94 → h55 k j = h6 k j := fun k j k0 k1 => xp61 k j k0 (Or.inl k1)
        have wy8 := CwB (x := 7) n_Ln agG E8.2.1.1 E8.2.1.2.1 E8.2.1.2.2 (fun j => bfG (7 + 1) j (by omega) (by omega)) wn8 sr
        refine w_iload gz_108_54 rfl ?_
        refine w_iconst gz_108_56 (by decide) ?_
        refine w_icne (t := 70) gz_108_57 rfl (fun u63 => by exfalso; omega) (fun u63 => ?_)
        refine w_aload_n gz_108_60 rfl ?_
        refine w_getX (v := 94) gz_108_61 is_0 rd_9 rfl (by decide) rfl ?_
        refine w_getX (v := 112) gz_108_64 is_94 rd_2 rfl (by decide) rfl ?_
        refine w_goto (t := 77) gz_108_67 rfl ?_
        refine w_astore (ls' := [(2, 0), (0, x1), (0, x2), (0, x3), (0, x4), (0, x5), (0, x6), (0, x7), (2, 112)]) gz_108_77 gm_108 rfl rfl rfl ?_
        refine w_iload gz_108_79 rfl ?_
        by_cases u66 : x7 = 0
        ·
          refine w_tswE (t := 120) gz_108_81 u66 (by decide) (by decide) rfl rfl ?_
          refine w_aload gz_108_120 rfl ?_
          refine v_getI (j := 0) gz_108_122 rfl is_112 rd_7 rfl (fun v67 ev67 pv67 qv67 => ?_)
          have bfE : ∀ k j : Int, 0 ≤ k → k < 94 → h55 k j = h k j := fun k j k0 k1 => ((bc_h55 k j k0 k1).trans (bg_fr frh6 (by decide +kernel) k j k0 (Or.inl k1)))
          exact w_iret gz_108_125 gm_108 (k1 h55 (v67) (gh55) (by omega) (by omega) (by omega) (by omega) (by omega) (by omega) (by omega) (by first | exact bfE | exact Or.inl (by omega) | exact Or.inr (Or.inl nE) | exact Or.inr (Or.inr (by omega)) | exact ⟨E8, Wy_k (m := 0) wy8 s13 s12 (by omega) (by omega) (by omega)⟩ | exact ⟨E8, Wy_k (m := 1) wy8 s13 s12 (by omega) (by omega) (by omega)⟩ | exact ⟨E8, Wy_k (m := 2) wy8 s13 s12 (by omega) (by omega) (by omega)⟩ | exact ⟨E8, Wy_k (m := 3) wy8 s13 s12 (by omega) (by omega) (by omega)⟩ | exact ⟨E8, Wy_k (m := 4) wy8 s13 s12 (by omega) (by omega) (by omega)⟩ | exact ⟨E8, Wy_k (m := 5) wy8 s13 s12 (by omega) (by omega) (by omega)⟩ | exact ⟨E8, Wy_l (m := 0) wy8 (by omega) (by omega) (by omega)⟩ | exact ⟨E8, Wy_l (m := 1) wy8 (by omega) (by omega) (by omega)⟩ | exact ⟨E8, Wy_l (m := 2) wy8 (by omega) (by omega) (by omega)⟩ | exact ⟨E8, Wy_l (m := 3) wy8 (by omega) (by omega) (by omega)⟩ | exact ⟨E8, Wy_l (m := 4) wy8 (by omega) (by omega) (by omega)⟩ | exact ⟨E8, Wy_l (m := 5) wy8 (by omega) (by omega) (by omega)⟩ | assumption | omega) (by first | exact bfE | exact Or.inl (by omega) | exact Or.inr (Or.inl nE) | exact Or.inr (Or.inr (by omega)) | exact ⟨E8, Wy_k (m := 0) wy8 s13 s12 (by omega) (by omega) (by omega)⟩ | exact ⟨E8, Wy_k (m := 1) wy8 s13 s12 (by omega) (by omega) (by omega)⟩ | exact ⟨E8, Wy_k (m := 2) wy8 s13 s12 (by omega) (by omega) (by omega)⟩ | exact ⟨E8, Wy_k (m := 3) wy8 s13 s12 (by omega) (by omega) (by omega)⟩ | exact ⟨E8, Wy_k (m := 4) wy8 s13 s12 (by omega) (by omega) (by omega)⟩ | exact ⟨E8, Wy_k (m := 5) wy8 s13 s12 (by omega) (by omega) (by omega)⟩ | exact ⟨E8, Wy_l (m := 0) wy8 (by omega) (by omega) (by omega)⟩ | exact ⟨E8, Wy_l (m := 1) wy8 (by omega) (by omega) (by omega)⟩ | exact ⟨E8, Wy_l (m := 2) wy8 (by omega) (by omega) (by omega)⟩ | exact ⟨E8, Wy_l (m := 3) wy8 (by omega) (by omega) (by omega)⟩ | exact ⟨E8, Wy_l (m := 4) wy8 (by omega) (by omega) (by omega)⟩ | exact ⟨E8, Wy_l (m := 5) wy8 (by omega) (by omega) (by omega)⟩ | assumption | omega) Ln_h55)
        ·
          by_cases u68 : x7 = 1
          ·
            refine w_tswE (t := 126) gz_108_81 u68 (by decide) (by decide) rfl rfl ?_
            refine w_aload gz_108_126 rfl ?_
            refine v_getI (j := 1) gz_108_128 rfl is_112 rd_7 rfl (fun v69 ev69 pv69 qv69 => ?_)
            have bfE : ∀ k j : Int, 0 ≤ k → k < 94 → h55 k j = h k j := fun k j k0 k1 => ((bc_h55 k j k0 k1).trans (bg_fr frh6 (by decide +kernel) k j k0 (Or.inl k1)))
            exact w_iret gz_108_131 gm_108 (k1 h55 (v69) (gh55) (by omega) (by omega) (by omega) (by omega) (by omega) (by omega) (by omega) (by first | exact bfE | exact Or.inl (by omega) | exact Or.inr (Or.inl nE) | exact Or.inr (Or.inr (by omega)) | exact ⟨E8, Wy_k (m := 0) wy8 s13 s12 (by omega) (by omega) (by omega)⟩ | exact ⟨E8, Wy_k (m := 1) wy8 s13 s12 (by omega) (by omega) (by omega)⟩ | exact ⟨E8, Wy_k (m := 2) wy8 s13 s12 (by omega) (by omega) (by omega)⟩ | exact ⟨E8, Wy_k (m := 3) wy8 s13 s12 (by omega) (by omega) (by omega)⟩ | exact ⟨E8, Wy_k (m := 4) wy8 s13 s12 (by omega) (by omega) (by omega)⟩ | exact ⟨E8, Wy_k (m := 5) wy8 s13 s12 (by omega) (by omega) (by omega)⟩ | exact ⟨E8, Wy_l (m := 0) wy8 (by omega) (by omega) (by omega)⟩ | exact ⟨E8, Wy_l (m := 1) wy8 (by omega) (by omega) (by omega)⟩ | exact ⟨E8, Wy_l (m := 2) wy8 (by omega) (by omega) (by omega)⟩ | exact ⟨E8, Wy_l (m := 3) wy8 (by omega) (by omega) (by omega)⟩ | exact ⟨E8, Wy_l (m := 4) wy8 (by omega) (by omega) (by omega)⟩ | exact ⟨E8, Wy_l (m := 5) wy8 (by omega) (by omega) (by omega)⟩ | assumption | omega) (by first | exact bfE | exact Or.inl (by omega) | exact Or.inr (Or.inl nE) | exact Or.inr (Or.inr (by omega)) | exact ⟨E8, Wy_k (m := 0) wy8 s13 s12 (by omega) (by omega) (by omega)⟩ | exact ⟨E8, Wy_k (m := 1) wy8 s13 s12 (by omega) (by omega) (by omega)⟩ | exact ⟨E8, Wy_k (m := 2) wy8 s13 s12 (by omega) (by omega) (by omega)⟩ | exact ⟨E8, Wy_k (m := 3) wy8 s13 s12 (by omega) (by omega) (by omega)⟩ | exact ⟨E8, Wy_k (m := 4) wy8 s13 s12 (by omega) (by omega) (by omega)⟩ | exact ⟨E8, Wy_k (m := 5) wy8 s13 s12 (by omega) (by omega) (by omega)⟩ | exact ⟨E8, Wy_l (m := 0) wy8 (by omega) (by omega) (by omega)⟩ | exact ⟨E8, Wy_l (m := 1) wy8 (by omega) (by omega) (by omega)⟩ | exact ⟨E8, Wy_l (m := 2) wy8 (by omega) (by omega) (by omega)⟩ | exact ⟨E8, Wy_l (m := 3) wy8 (by omega) (by omega) (by omega)⟩ | exact ⟨E8, Wy_l (m := 4) wy8 (by omega) (by omega) (by omega)⟩ | exact ⟨E8, Wy_l (m := 5) wy8 (by omega) (by omega) (by omega)⟩ | assumption | omega) Ln_h55)
          ·
            by_cases u70 : x7 = 2
            ·
              refine w_tswE (t := 132) gz_108_81 u70 (by decide) (by decide) rfl rfl ?_
              refine w_aload gz_108_132 rfl ?_
              refine v_getI (j := 2) gz_108_134 rfl is_112 rd_7 rfl (fun v71 ev71 pv71 qv71 => ?_)
              have bfE : ∀ k j : Int, 0 ≤ k → k < 94 → h55 k j = h k j := fun k j k0 k1 => ((bc_h55 k j k0 k1).trans (bg_fr frh6 (by decide +kernel) k j k0 (Or.inl k1)))
              exact w_iret gz_108_137 gm_108 (k1 h55 (v71) (gh55) (by omega) (by omega) (by omega) (by omega) (by omega) (by omega) (by omega) (by first | exact bfE | exact Or.inl (by omega) | exact Or.inr (Or.inl nE) | exact Or.inr (Or.inr (by omega)) | exact ⟨E8, Wy_k (m := 0) wy8 s13 s12 (by omega) (by omega) (by omega)⟩ | exact ⟨E8, Wy_k (m := 1) wy8 s13 s12 (by omega) (by omega) (by omega)⟩ | exact ⟨E8, Wy_k (m := 2) wy8 s13 s12 (by omega) (by omega) (by omega)⟩ | exact ⟨E8, Wy_k (m := 3) wy8 s13 s12 (by omega) (by omega) (by omega)⟩ | exact ⟨E8, Wy_k (m := 4) wy8 s13 s12 (by omega) (by omega) (by omega)⟩ | exact ⟨E8, Wy_k (m := 5) wy8 s13 s12 (by omega) (by omega) (by omega)⟩ | exact ⟨E8, Wy_l (m := 0) wy8 (by omega) (by omega) (by omega)⟩ | exact ⟨E8, Wy_l (m := 1) wy8 (by omega) (by omega) (by omega)⟩ | exact ⟨E8, Wy_l (m := 2) wy8 (by omega) (by omega) (by omega)⟩ | exact ⟨E8, Wy_l (m := 3) wy8 (by omega) (by omega) (by omega)⟩ | exact ⟨E8, Wy_l (m := 4) wy8 (by omega) (by omega) (by omega)⟩ | exact ⟨E8, Wy_l (m := 5) wy8 (by omega) (by omega) (by omega)⟩ | assumption | omega) (by first | exact bfE | exact Or.inl (by omega) | exact Or.inr (Or.inl nE) | exact Or.inr (Or.inr (by omega)) | exact ⟨E8, Wy_k (m := 0) wy8 s13 s12 (by omega) (by omega) (by omega)⟩ | exact ⟨E8, Wy_k (m := 1) wy8 s13 s12 (by omega) (by omega) (by omega)⟩ | exact ⟨E8, Wy_k (m := 2) wy8 s13 s12 (by omega) (by omega) (by omega)⟩ | exact ⟨E8, Wy_k (m := 3) wy8 s13 s12 (by omega) (by omega) (by omega)⟩ | exact ⟨E8, Wy_k (m := 4) wy8 s13 s12 (by omega) (by omega) (by omega)⟩ | exact ⟨E8, Wy_k (m := 5) wy8 s13 s12 (by omega) (by omega) (by omega)⟩ | exact ⟨E8, Wy_l (m := 0) wy8 (by omega) (by omega) (by omega)⟩ | exact ⟨E8, Wy_l (m := 1) wy8 (by omega) (by omega) (by omega)⟩ | exact ⟨E8, Wy_l (m := 2) wy8 (by omega) (by omega) (by omega)⟩ | exact ⟨E8, Wy_l (m := 3) wy8 (by omega) (by omega) (by omega)⟩ | exact ⟨E8, Wy_l (m := 4) wy8 (by omega) (by omega) (by omega)⟩ | exact ⟨E8, Wy_l (m := 5) wy8 (by omega) (by omega) (by omega)⟩ | assumption | omega) Ln_h55)
            ·
              by_cases u72 : x7 = 3
              ·
                refine w_tswE (t := 138) gz_108_81 u72 (by decide) (by decide) rfl rfl ?_
                refine w_aload gz_108_138 rfl ?_
                refine v_getI (j := 3) gz_108_140 rfl is_112 rd_7 rfl (fun v73 ev73 pv73 qv73 => ?_)
                have bfE : ∀ k j : Int, 0 ≤ k → k < 94 → h55 k j = h k j := fun k j k0 k1 => ((bc_h55 k j k0 k1).trans (bg_fr frh6 (by decide +kernel) k j k0 (Or.inl k1)))
                exact w_iret gz_108_143 gm_108 (k1 h55 (v73) (gh55) (by omega) (by omega) (by omega) (by omega) (by omega) (by omega) (by omega) (by first | exact bfE | exact Or.inl (by omega) | exact Or.inr (Or.inl nE) | exact Or.inr (Or.inr (by omega)) | exact ⟨E8, Wy_k (m := 0) wy8 s13 s12 (by omega) (by omega) (by omega)⟩ | exact ⟨E8, Wy_k (m := 1) wy8 s13 s12 (by omega) (by omega) (by omega)⟩ | exact ⟨E8, Wy_k (m := 2) wy8 s13 s12 (by omega) (by omega) (by omega)⟩ | exact ⟨E8, Wy_k (m := 3) wy8 s13 s12 (by omega) (by omega) (by omega)⟩ | exact ⟨E8, Wy_k (m := 4) wy8 s13 s12 (by omega) (by omega) (by omega)⟩ | exact ⟨E8, Wy_k (m := 5) wy8 s13 s12 (by omega) (by omega) (by omega)⟩ | exact ⟨E8, Wy_l (m := 0) wy8 (by omega) (by omega) (by omega)⟩ | exact ⟨E8, Wy_l (m := 1) wy8 (by omega) (by omega) (by omega)⟩ | exact ⟨E8, Wy_l (m := 2) wy8 (by omega) (by omega) (by omega)⟩ | exact ⟨E8, Wy_l (m := 3) wy8 (by omega) (by omega) (by omega)⟩ | exact ⟨E8, Wy_l (m := 4) wy8 (by omega) (by omega) (by omega)⟩ | exact ⟨E8, Wy_l (m := 5) wy8 (by omega) (by omega) (by omega)⟩ | assumption | omega) (by first | exact bfE | exact Or.inl (by omega) | exact Or.inr (Or.inl nE) | exact Or.inr (Or.inr (by omega)) | exact ⟨E8, Wy_k (m := 0) wy8 s13 s12 (by omega) (by omega) (by omega)⟩ | exact ⟨E8, Wy_k (m := 1) wy8 s13 s12 (by omega) (by omega) (by omega)⟩ | exact ⟨E8, Wy_k (m := 2) wy8 s13 s12 (by omega) (by omega) (by omega)⟩ | exact ⟨E8, Wy_k (m := 3) wy8 s13 s12 (by omega) (by omega) (by omega)⟩ | exact ⟨E8, Wy_k (m := 4) wy8 s13 s12 (by omega) (by omega) (by omega)⟩ | exact ⟨E8, Wy_k (m := 5) wy8 s13 s12 (by omega) (by omega) (by omega)⟩ | exact ⟨E8, Wy_l (m := 0) wy8 (by omega) (by omega) (by omega)⟩ | exact ⟨E8, Wy_l (m := 1) wy8 (by omega) (by omega) (by omega)⟩ | exact ⟨E8, Wy_l (m := 2) wy8 (by omega) (by omega) (by omega)⟩ | exact ⟨E8, Wy_l (m := 3) wy8 (by omega) (by omega) (by omega)⟩ | exact ⟨E8, Wy_l (m := 4) wy8 (by omega) (by omega) (by omega)⟩ | exact ⟨E8, Wy_l (m := 5) wy8 (by omega) (by omega) (by omega)⟩ | assumption | omega) Ln_h55)
              ·
                by_cases u74 : x7 = 4
                ·
                  refine w_tswE (t := 144) gz_108_81 u74 (by decide) (by decide) rfl rfl ?_
                  refine w_aload gz_108_144 rfl ?_
                  refine v_getI (j := 4) gz_108_146 rfl is_112 rd_7 rfl (fun v75 ev75 pv75 qv75 => ?_)
                  have bfE : ∀ k j : Int, 0 ≤ k → k < 94 → h55 k j = h k j := fun k j k0 k1 => ((bc_h55 k j k0 k1).trans (bg_fr frh6 (by decide +kernel) k j k0 (Or.inl k1)))
                  exact w_iret gz_108_149 gm_108 (k1 h55 (v75) (gh55) (by omega) (by omega) (by omega) (by omega) (by omega) (by omega) (by omega) (by first | exact bfE | exact Or.inl (by omega) | exact Or.inr (Or.inl nE) | exact Or.inr (Or.inr (by omega)) | exact ⟨E8, Wy_k (m := 0) wy8 s13 s12 (by omega) (by omega) (by omega)⟩ | exact ⟨E8, Wy_k (m := 1) wy8 s13 s12 (by omega) (by omega) (by omega)⟩ | exact ⟨E8, Wy_k (m := 2) wy8 s13 s12 (by omega) (by omega) (by omega)⟩ | exact ⟨E8, Wy_k (m := 3) wy8 s13 s12 (by omega) (by omega) (by omega)⟩ | exact ⟨E8, Wy_k (m := 4) wy8 s13 s12 (by omega) (by omega) (by omega)⟩ | exact ⟨E8, Wy_k (m := 5) wy8 s13 s12 (by omega) (by omega) (by omega)⟩ | exact ⟨E8, Wy_l (m := 0) wy8 (by omega) (by omega) (by omega)⟩ | exact ⟨E8, Wy_l (m := 1) wy8 (by omega) (by omega) (by omega)⟩ | exact ⟨E8, Wy_l (m := 2) wy8 (by omega) (by omega) (by omega)⟩ | exact ⟨E8, Wy_l (m := 3) wy8 (by omega) (by omega) (by omega)⟩ | exact ⟨E8, Wy_l (m := 4) wy8 (by omega) (by omega) (by omega)⟩ | exact ⟨E8, Wy_l (m := 5) wy8 (by omega) (by omega) (by omega)⟩ | assumption | omega) (by first | exact bfE | exact Or.inl (by omega) | exact Or.inr (Or.inl nE) | exact Or.inr (Or.inr (by omega)) | exact ⟨E8, Wy_k (m := 0) wy8 s13 s12 (by omega) (by omega) (by omega)⟩ | exact ⟨E8, Wy_k (m := 1) wy8 s13 s12 (by omega) (by omega) (by omega)⟩ | exact ⟨E8, Wy_k (m := 2) wy8 s13 s12 (by omega) (by omega) (by omega)⟩ | exact ⟨E8, Wy_k (m := 3) wy8 s13 s12 (by omega) (by omega) (by omega)⟩ | exact ⟨E8, Wy_k (m := 4) wy8 s13 s12 (by omega) (by omega) (by omega)⟩ | exact ⟨E8, Wy_k (m := 5) wy8 s13 s12 (by omega) (by omega) (by omega)⟩ | exact ⟨E8, Wy_l (m := 0) wy8 (by omega) (by omega) (by omega)⟩ | exact ⟨E8, Wy_l (m := 1) wy8 (by omega) (by omega) (by omega)⟩ | exact ⟨E8, Wy_l (m := 2) wy8 (by omega) (by omega) (by omega)⟩ | exact ⟨E8, Wy_l (m := 3) wy8 (by omega) (by omega) (by omega)⟩ | exact ⟨E8, Wy_l (m := 4) wy8 (by omega) (by omega) (by omega)⟩ | exact ⟨E8, Wy_l (m := 5) wy8 (by omega) (by omega) (by omega)⟩ | assumption | omega) Ln_h55)
                ·
                  by_cases u76 : x7 = 5
                  ·
                    refine w_tswE (t := 150) gz_108_81 u76 (by decide) (by decide) rfl rfl ?_
                    refine w_aload gz_108_150 rfl ?_
                    refine v_getI (j := 5) gz_108_152 rfl is_112 rd_7 rfl (fun v77 ev77 pv77 qv77 => ?_)
                    have bfE : ∀ k j : Int, 0 ≤ k → k < 94 → h55 k j = h k j := fun k j k0 k1 => ((bc_h55 k j k0 k1).trans (bg_fr frh6 (by decide +kernel) k j k0 (Or.inl k1)))
                    exact w_iret gz_108_155 gm_108 (k1 h55 (v77) (gh55) (by omega) (by omega) (by omega) (by omega) (by omega) (by omega) (by omega) (by first | exact bfE | exact Or.inl (by omega) | exact Or.inr (Or.inl nE) | exact Or.inr (Or.inr (by omega)) | exact ⟨E8, Wy_k (m := 0) wy8 s13 s12 (by omega) (by omega) (by omega)⟩ | exact ⟨E8, Wy_k (m := 1) wy8 s13 s12 (by omega) (by omega) (by omega)⟩ | exact ⟨E8, Wy_k (m := 2) wy8 s13 s12 (by omega) (by omega) (by omega)⟩ | exact ⟨E8, Wy_k (m := 3) wy8 s13 s12 (by omega) (by omega) (by omega)⟩ | exact ⟨E8, Wy_k (m := 4) wy8 s13 s12 (by omega) (by omega) (by omega)⟩ | exact ⟨E8, Wy_k (m := 5) wy8 s13 s12 (by omega) (by omega) (by omega)⟩ | exact ⟨E8, Wy_l (m := 0) wy8 (by omega) (by omega) (by omega)⟩ | exact ⟨E8, Wy_l (m := 1) wy8 (by omega) (by omega) (by omega)⟩ | exact ⟨E8, Wy_l (m := 2) wy8 (by omega) (by omega) (by omega)⟩ | exact ⟨E8, Wy_l (m := 3) wy8 (by omega) (by omega) (by omega)⟩ | exact ⟨E8, Wy_l (m := 4) wy8 (by omega) (by omega) (by omega)⟩ | exact ⟨E8, Wy_l (m := 5) wy8 (by omega) (by omega) (by omega)⟩ | assumption | omega) (by first | exact bfE | exact Or.inl (by omega) | exact Or.inr (Or.inl nE) | exact Or.inr (Or.inr (by omega)) | exact ⟨E8, Wy_k (m := 0) wy8 s13 s12 (by omega) (by omega) (by omega)⟩ | exact ⟨E8, Wy_k (m := 1) wy8 s13 s12 (by omega) (by omega) (by omega)⟩ | exact ⟨E8, Wy_k (m := 2) wy8 s13 s12 (by omega) (by omega) (by omega)⟩ | exact ⟨E8, Wy_k (m := 3) wy8 s13 s12 (by omega) (by omega) (by omega)⟩ | exact ⟨E8, Wy_k (m := 4) wy8 s13 s12 (by omega) (by omega) (by omega)⟩ | exact ⟨E8, Wy_k (m := 5) wy8 s13 s12 (by omega) (by omega) (by omega)⟩ | exact ⟨E8, Wy_l (m := 0) wy8 (by omega) (by omega) (by omega)⟩ | exact ⟨E8, Wy_l (m := 1) wy8 (by omega) (by omega) (by omega)⟩ | exact ⟨E8, Wy_l (m := 2) wy8 (by omega) (by omega) (by omega)⟩ | exact ⟨E8, Wy_l (m := 3) wy8 (by omega) (by omega) (by omega)⟩ | exact ⟨E8, Wy_l (m := 4) wy8 (by omega) (by omega) (by omega)⟩ | exact ⟨E8, Wy_l (m := 5) wy8 (by omega) (by omega) (by omega)⟩ | assumption | omega) Ln_h55)
                  ·
                    refine w_tswD (t := 156) gz_108_81 (by omega) rfl ?_
                    refine w_iconst gz_108_156 (by decide) ?_
                    have bfE : ∀ k j : Int, 0 ≤ k → k < 94 → h55 k j = h k j := fun k j k0 k1 => ((bc_h55 k j k0 k1).trans (bg_fr frh6 (by decide +kernel) k j k0 (Or.inl k1)))
                    exact w_iret gz_108_157 gm_108 (k0 h55 (gh55) (by first | exact bfE | exact Or.inl (by omega) | exact Or.inr (Or.inl nE) | exact Or.inr (Or.inr (by omega)) | exact ⟨E8, Wy_k (m := 0) wy8 s13 s12 (by omega) (by omega) (by omega)⟩ | exact ⟨E8, Wy_k (m := 1) wy8 s13 s12 (by omega) (by omega) (by omega)⟩ | exact ⟨E8, Wy_k (m := 2) wy8 s13 s12 (by omega) (by omega) (by omega)⟩ | exact ⟨E8, Wy_k (m := 3) wy8 s13 s12 (by omega) (by omega) (by omega)⟩ | exact ⟨E8, Wy_k (m := 4) wy8 s13 s12 (by omega) (by omega) (by omega)⟩ | exact ⟨E8, Wy_k (m := 5) wy8 s13 s12 (by omega) (by omega) (by omega)⟩ | exact ⟨E8, Wy_l (m := 0) wy8 (by omega) (by omega) (by omega)⟩ | exact ⟨E8, Wy_l (m := 1) wy8 (by omega) (by omega) (by omega)⟩ | exact ⟨E8, Wy_l (m := 2) wy8 (by omega) (by omega) (by omega)⟩ | exact ⟨E8, Wy_l (m := 3) wy8 (by omega) (by omega) (by omega)⟩ | exact ⟨E8, Wy_l (m := 4) wy8 (by omega) (by omega) (by omega)⟩ | exact ⟨E8, Wy_l (m := 5) wy8 (by omega) (by omega) (by omega)⟩ | assumption | omega) (by first | exact bfE | exact Or.inl (by omega) | exact Or.inr (Or.inl nE) | exact Or.inr (Or.inr (by omega)) | exact ⟨E8, Wy_k (m := 0) wy8 s13 s12 (by omega) (by omega) (by omega)⟩ | exact ⟨E8, Wy_k (m := 1) wy8 s13 s12 (by omega) (by omega) (by omega)⟩ | exact ⟨E8, Wy_k (m := 2) wy8 s13 s12 (by omega) (by omega) (by omega)⟩ | exact ⟨E8, Wy_k (m := 3) wy8 s13 s12 (by omega) (by omega) (by omega)⟩ | exact ⟨E8, Wy_k (m := 4) wy8 s13 s12 (by omega) (by omega) (by omega)⟩ | exact ⟨E8, Wy_k (m := 5) wy8 s13 s12 (by omega) (by omega) (by omega)⟩ | exact ⟨E8, Wy_l (m := 0) wy8 (by omega) (by omega) (by omega)⟩ | exact ⟨E8, Wy_l (m := 1) wy8 (by omega) (by omega) (by omega)⟩ | exact ⟨E8, Wy_l (m := 2) wy8 (by omega) (by omega) (by omega)⟩ | exact ⟨E8, Wy_l (m := 3) wy8 (by omega) (by omega) (by omega)⟩ | exact ⟨E8, Wy_l (m := 4) wy8 (by omega) (by omega) (by omega)⟩ | exact ⟨E8, Wy_l (m := 5) wy8 (by omega) (by omega) (by omega)⟩ | assumption | omega) Ln_h55)
theorem c_ThroughWindow_why4 {l : Launch} {rho : Nat → Int32} {d : Nat} {h : my_H} {Q : my_H → my_V → Prop} {x1 x2 x3 x4 x5 : Int} (n_Ln : Ln h) (hlw : LwA h) (hwo : WOk h 7) (k0 : ∀ (h' : my_H), my_fr [(2, 15), (2, 16), (8, 0), (8, 1), (30, -1), (31, -1), (41, -1), (42, -1), (43, -1), (44, -1)] h h' → (∀ k j : Int, 0 ≤ k → k < 94 → h' k j = h k j) → Ln h' → Q h' (0, (-1))) (k1 : ∀ (h' : my_H), my_fr [(2, 15), (2, 16), (8, 0), (8, 1), (30, -1), (31, -1), (41, -1), (42, -1), (43, -1), (44, -1)] h h' → 0 ≤ x1 → x1 ≤ 5 → 0 ≤ x2 → x2 ≤ 2 → (∀ k j : Int, 0 ≤ k → k < 94 → h' k j = h k j) → Ln h' → Q h' (0, 0)) (k2 : ∀ (h' : my_H), my_fr [(2, 15), (2, 16), (8, 0), (8, 1), (30, -1), (31, -1), (41, -1), (42, -1), (43, -1), (44, -1)] h h' → 0 ≤ x1 → x1 ≤ 5 → 0 ≤ x2 → x2 ≤ 2 → (∀ k j : Int, 0 ≤ k → k < 94 → h' k j = h k j) → Ln h' → Q h' (0, 1)) (k3 : ∀ (h' : my_H) (y : Int), my_fr [(2, 15), (2, 16), (8, 0), (8, 1), (30, -1), (31, -1), (41, -1), (42, -1), (43, -1), (44, -1)] h h' → 0 ≤ x1 → x1 ≤ 5 → 0 ≤ x2 → x2 ≤ 2 → (∀ k j : Int, 0 ≤ k → k < 94 → h' k j = h k j) → Ln h' → Q h' (0, y)) : wp l rho (d + 6) 109 0 [(2, 0), (0, x1), (0, x2), (0, x3), (0, x4), (0, x5)] [] h Q := by
  refine w_aload_n gz_109_0 rfl ?_
  refine w_getX (v := 94) gz_109_1 is_0 rd_9 rfl (by decide) rfl ?_
  refine w_aload_n gz_109_4 rfl ?_
  refine w_getX (v := 7) gz_109_5 is_0 rd_9 rfl (by decide) rfl ?_
  refine w_iload_n gz_109_8 rfl ?_
  refine w_iload_n gz_109_9 rfl ?_
  refine w_iload_n gz_109_10 rfl ?_
  refine w_iload gz_109_11 rfl ?_
  refine w_iload gz_109_13 rfl ?_
  refine w_inv (k := 0) (as := [(0, x5), (0, x4), (0, x3), (0, x2), (0, x1), (2, 7)]) (r := []) (x := 94) (ls0 := [(2, 94), (2, 7), (0, x1), (0, x2), (0, x3), (0, x4), (0, x5)]) gz_109_15 gm_87 rfl is_94 rd_2 rfl rfl rfl rfl rfl (c_Desk_opens5 (d := d) (x1 := 7) (x2 := x1) (x3 := x2) (x4 := x3) (x5 := x4) (x6 := x5) is_7 n_Ln (hlw.1) (hwo.1.1) (fun h3 frh3 xp4 => ?_) (fun h5 frh5 w6 w7 w8 w9 w10 w11 xp12 xp13 xp14 xp15 xp16 xp17 xp18 xp19 xp20 xp21 xp22 xp23 xp24 => ?_))
  ·
    have gh3 : my_fr [(2, 15), (2, 16), (8, 0), (8, 1), (30, -1), (31, -1), (41, -1), (42, -1), (43, -1), (44, -1)] h h3 := my_fr.tr my_fr.rf (frh3.mo rfl)
    have Ln_h3 : Ln h3 := Ln_ag (my_ag.fr frh3 rfl) n_Ln
    show wp l rho (d + 6) 109 18 [(2, 0), (0, x1), (0, x2), (0, x3), (0, x4), (0, x5)] [(0, 0)] h3 Q
    have nE := xp4
    have agG : my_ag F5 h h3 := my_ag.fr (F := F5) frh3 rfl
    have bfG : ∀ k j : Int, 0 ≤ k → k < 94 → h3 k j = h k j := fun k j k0 k1 => (bg_fr frh3 (by decide +kernel) k j k0 (Or.inl k1))
    refine w_ifne (t := 23) gz_109_18 rfl (fun u25 => by exfalso; omega) (fun u25 => ?_)
    refine w_iconst gz_109_21 (by decide) ?_
    have bfE : ∀ k j : Int, 0 ≤ k → k < 94 → h3 k j = h k j := fun k j k0 k1 => (bg_fr frh3 (by decide +kernel) k j k0 (Or.inl k1))
    exact w_iret gz_109_22 gm_109 (k0 h3 (gh3) (by first | exact bfE | assumption | omega) Ln_h3)
  ·
    have gh5 : my_fr [(2, 15), (2, 16), (8, 0), (8, 1), (30, -1), (31, -1), (41, -1), (42, -1), (43, -1), (44, -1)] h h5 := my_fr.tr my_fr.rf (frh5.mo rfl)
    have Ln_h5 : Ln h5 := Ln_ag (my_ag.fr frh5 rfl) n_Ln
    show wp l rho (d + 6) 109 18 [(2, 0), (0, x1), (0, x2), (0, x3), (0, x4), (0, x5)] [(0, 1)] h5 Q
    have Td_h5t26 : Td h5 x1 := xp16
    have nE := xp12
    have agG : my_ag F5 h h5 := my_ag.fr (F := F5) frh5 rfl
    have bfG : ∀ k j : Int, 0 ≤ k → k < 94 → h5 k j = h k j := fun k j k0 k1 => (bg_fr frh5 (by decide +kernel) k j k0 (Or.inl k1))
    refine w_ifne (t := 23) gz_109_18 rfl (fun u27 => ?_) (fun u27 => by exfalso; omega)
    refine w_aload_n gz_109_23 rfl ?_
    refine w_getX (v := 94) gz_109_24 is_0 rd_9 rfl (by decide) rfl ?_
    refine w_aload_n gz_109_27 rfl ?_
    refine w_getX (v := 7) gz_109_28 is_0 rd_9 rfl (by decide) rfl ?_
    refine w_iload_n gz_109_31 rfl ?_
    refine w_iload_n gz_109_32 rfl ?_
    refine w_iload_n gz_109_33 rfl ?_
    refine w_iload gz_109_34 rfl ?_
    refine w_iload gz_109_36 rfl ?_
    refine w_inv (k := 2) (as := [(0, x5), (0, x4), (0, x3), (0, x2), (0, x1), (2, 7)]) (r := []) (x := 94) (ls0 := [(2, 94), (2, 7), (0, x1), (0, x2), (0, x3), (0, x4), (0, x5), (9, 0), (9, 0)]) gz_109_38 gm_110 rfl is_94 rd_2 rfl rfl rfl rfl rfl (c_Desk_goesStraight4 (d := (d + 2)) (x1 := 7) (x2 := x1) (x3 := x2) (x4 := x3) (x5 := x4) (x6 := x5) is_7 (by omega) (by omega) (by omega) (by omega) (by first | assumption | exact no_such_saying | exact Fp_told (by omega) (by omega) | omega | (subst_vars; omega) | omega) (by first | assumption | exact no_such_saying | exact Fp_told (by omega) (by omega) | omega | (subst_vars; omega) | omega) (WOk_bf agG hwo bfG) ((by unfold zqXf; omega)) (fun h30 frh30 xp31 => ?_) (fun h32 frh32 xp33 => ?_))
    ·
      have gh30 : my_fr [(2, 15), (2, 16), (8, 0), (8, 1), (30, -1), (31, -1), (41, -1), (42, -1), (43, -1), (44, -1)] h h30 := my_fr.tr gh5 (frh30.mo rfl)
      have Ln_h30 : Ln h30 := Ln_ag (my_ag.fr frh30 rfl) Ln_h5
      have Td_h30 : Td h30 x1 := Td_ag (my_ag.fr frh30 rfl) Ln_h5 Td_h5t26
      show wp l rho (d + 6) 109 41 [(2, 0), (0, x1), (0, x2), (0, x3), (0, x4), (0, x5)] [(0, 0)] h30 Q
      have bc_h30 : ∀ k j : Int, 0 ≤ k → k < 94 → h30 k j = h5 k j := xp31
      refine w_ifeq (t := 55) gz_109_41 rfl (fun u34 => ?_) (fun u34 => by exfalso; omega)
      refine w_iconst gz_109_55 (by decide) ?_
      have bfE : ∀ k j : Int, 0 ≤ k → k < 94 → h30 k j = h k j := fun k j k0 k1 => ((bc_h30 k j k0 k1).trans (bg_fr frh5 (by decide +kernel) k j k0 (Or.inl k1)))
      exact w_iret gz_109_56 gm_109 (k2 h30 (gh30) (by omega) (by omega) (by omega) (by omega) (by first | exact bfE | assumption | omega) Ln_h30)
    ·
      have gh32 : my_fr [(2, 15), (2, 16), (8, 0), (8, 1), (30, -1), (31, -1), (41, -1), (42, -1), (43, -1), (44, -1)] h h32 := my_fr.tr gh5 (frh32.mo rfl)
      have Ln_h32 : Ln h32 := Ln_ag (my_ag.fr frh32 rfl) Ln_h5
      have Td_h32 : Td h32 x1 := Td_ag (my_ag.fr frh32 rfl) Ln_h5 Td_h5t26
      show wp l rho (d + 6) 109 41 [(2, 0), (0, x1), (0, x2), (0, x3), (0, x4), (0, x5)] [(0, 1)] h32 Q
      have bc_h32 : ∀ k j : Int, 0 ≤ k → k < 94 → h32 k j = h5 k j := xp33
      refine w_ifeq (t := 55) gz_109_41 rfl (fun u35 => by exfalso; omega) (fun u35 => ?_)
      refine w_aload_n gz_109_44 rfl ?_
      refine w_getX (v := 94) gz_109_45 is_0 rd_9 rfl (by decide) rfl ?_
      refine w_iload_n gz_109_48 rfl ?_
      refine w_inv (k := 1) (as := [(0, x1)]) (r := []) (x := 94) (ls0 := [(2, 94), (0, x1), (9, 0)]) gz_109_49 gm_111 rfl is_94 rd_2 rfl rfl rfl rfl rfl (c_Desk_faultsOfTrial (d := (d + 1)) (x1 := x1) (by omega) (by omega) Ln_h32 Td_h32 (fun h37 frh37 => ?_) (fun h38 frh38 => ?_) (fun h39 v40 frh39 => ?_))
      ·
        have gh37 : my_fr [(2, 15), (2, 16), (8, 0), (8, 1), (30, -1), (31, -1), (41, -1), (42, -1), (43, -1), (44, -1)] h h37 := my_fr.tr gh32 (frh37.mo rfl)
        have Ln_h37 : Ln h37 := Ln_ag (my_ag.fr frh37 rfl) Ln_h32
        have Td_h37 : Td h37 x1 := Td_ag (my_ag.fr frh37 rfl) Ln_h32 Td_h32
        show wp l rho (d + 6) 109 52 [(2, 0), (0, x1), (0, x2), (0, x3), (0, x4), (0, x5)] [(0, 0)] h37 Q
        refine w_goto (t := 56) gz_109_52 rfl ?_
        have bfE : ∀ k j : Int, 0 ≤ k → k < 94 → h37 k j = h k j := fun k j k0 k1 => ((bg_fr frh37 (by decide +kernel) k j k0 (Or.inl k1)).trans ((bc_h32 k j k0 k1).trans (bg_fr frh5 (by decide +kernel) k j k0 (Or.inl k1))))
        exact w_iret gz_109_56 gm_109 (k1 h37 (gh37) (by omega) (by omega) (by omega) (by omega) (by first | exact bfE | assumption | omega) Ln_h37)
      ·
        have gh38 : my_fr [(2, 15), (2, 16), (8, 0), (8, 1), (30, -1), (31, -1), (41, -1), (42, -1), (43, -1), (44, -1)] h h38 := my_fr.tr gh32 (frh38.mo rfl)
        have Ln_h38 : Ln h38 := Ln_ag (my_ag.fr frh38 rfl) Ln_h32
        have Td_h38 : Td h38 x1 := Td_ag (my_ag.fr frh38 rfl) Ln_h32 Td_h32
        show wp l rho (d + 6) 109 52 [(2, 0), (0, x1), (0, x2), (0, x3), (0, x4), (0, x5)] [(0, 1)] h38 Q
        refine w_goto (t := 56) gz_109_52 rfl ?_
        have bfE : ∀ k j : Int, 0 ≤ k → k < 94 → h38 k j = h k j := fun k j k0 k1 => ((bg_fr frh38 (by decide +kernel) k j k0 (Or.inl k1)).trans ((bc_h32 k j k0 k1).trans (bg_fr frh5 (by decide +kernel) k j k0 (Or.inl k1))))
        exact w_iret gz_109_56 gm_109 (k2 h38 (gh38) (by omega) (by omega) (by omega) (by omega) (by first | exact bfE | assumption | omega) Ln_h38)
      ·
        have gh39 : my_fr [(2, 15), (2, 16), (8, 0), (8, 1), (30, -1), (31, -1), (41, -1), (42, -1), (43, -1), (44, -1)] h h39 := my_fr.tr gh32 (frh39.mo rfl)
        have Ln_h39 : Ln h39 := Ln_ag (my_ag.fr frh39 rfl) Ln_h32
        have Td_h39 : Td h39 x1 := Td_ag (my_ag.fr frh39 rfl) Ln_h32 Td_h32
        show wp l rho (d + 6) 109 52 [(2, 0), (0, x1), (0, x2), (0, x3), (0, x4), (0, x5)] [(0, v40)] h39 Q
        refine w_goto (t := 56) gz_109_52 rfl ?_
        have bfE : ∀ k j : Int, 0 ≤ k → k < 94 → h39 k j = h k j := fun k j k0 k1 => ((bg_fr frh39 (by decide +kernel) k j k0 (Or.inl k1)).trans ((bc_h32 k j k0 k1).trans (bg_fr frh5 (by decide +kernel) k j k0 (Or.inl k1))))
        exact w_iret gz_109_56 gm_109 (k3 h39 (v40) (gh39) (by omega) (by omega) (by omega) (by omega) (by first | exact bfE | assumption | omega) Ln_h39)
theorem c_ThroughWindow_barred4 {l : Launch} {rho : Nat → Int32} {d : Nat} {h : my_H} {Q : my_H → my_V → Prop} {x1 x2 x3 x4 x5 x6 : Int} (n_Ln : Ln h) (hlw : LwA h) (hwo : WOk h 7) (k0 : ∀ (h' : my_H), my_fr [(2, 15), (2, 16), (8, 0), (8, 1), (30, -1), (31, -1), (41, -1), (42, -1), (43, -1), (44, -1)] h h' → (∀ k j : Int, 0 ≤ k → k < 94 → h' k j = h k j) → Ln h' → Q h' (0, (-1))) (k1 : ∀ (h' : my_H) (y : Int), my_fr [(2, 15), (2, 16), (8, 0), (8, 1), (30, -1), (31, -1), (41, -1), (42, -1), (43, -1), (44, -1)] h h' → 0 ≤ y → y ≤ 3 → 0 ≤ x1 → x1 ≤ 5 → 0 ≤ x2 → x2 ≤ 2 → 0 ≤ x6 → x6 ≤ 2 → (∀ k j : Int, 0 ≤ k → k < 94 → h' k j = h k j) → Ln h' → Q h' (0, y)) : wp l rho (d + 6) 112 0 [(2, 0), (0, x1), (0, x2), (0, x3), (0, x4), (0, x5), (0, x6), (9, 0)] [] h Q := by
  refine w_aload_n gz_112_0 rfl ?_
  refine w_getX (v := 94) gz_112_1 is_0 rd_9 rfl (by decide) rfl ?_
  refine w_aload_n gz_112_4 rfl ?_
  refine w_getX (v := 7) gz_112_5 is_0 rd_9 rfl (by decide) rfl ?_
  refine w_iload_n gz_112_8 rfl ?_
  refine w_iload_n gz_112_9 rfl ?_
  refine w_iload_n gz_112_10 rfl ?_
  refine w_iload gz_112_11 rfl ?_
  refine w_iload gz_112_13 rfl ?_
  refine w_inv (k := 0) (as := [(0, x5), (0, x4), (0, x3), (0, x2), (0, x1), (2, 7)]) (r := []) (x := 94) (ls0 := [(2, 94), (2, 7), (0, x1), (0, x2), (0, x3), (0, x4), (0, x5)]) gz_112_15 gm_87 rfl is_94 rd_2 rfl rfl rfl rfl rfl (c_Desk_opens5 (d := d) (x1 := 7) (x2 := x1) (x3 := x2) (x4 := x3) (x5 := x4) (x6 := x5) is_7 n_Ln (hlw.1) (hwo.1.1) (fun h3 frh3 xp4 => ?_) (fun h5 frh5 w6 w7 w8 w9 w10 w11 xp12 xp13 xp14 xp15 xp16 xp17 xp18 xp19 xp20 xp21 xp22 xp23 xp24 => ?_))
  ·
    have gh3 : my_fr [(2, 15), (2, 16), (8, 0), (8, 1), (30, -1), (31, -1), (41, -1), (42, -1), (43, -1), (44, -1)] h h3 := my_fr.tr my_fr.rf (frh3.mo rfl)
    have Ln_h3 : Ln h3 := Ln_ag (my_ag.fr frh3 rfl) n_Ln
    show wp l rho (d + 6) 112 18 [(2, 0), (0, x1), (0, x2), (0, x3), (0, x4), (0, x5), (0, x6), (9, 0)] [(0, 0)] h3 Q
    have nE := xp4
    have agG : my_ag F5 h h3 := my_ag.fr (F := F5) frh3 rfl
    have bfG : ∀ k j : Int, 0 ≤ k → k < 94 → h3 k j = h k j := fun k j k0 k1 => (bg_fr frh3 (by decide +kernel) k j k0 (Or.inl k1))
    refine w_ifeq (t := 42) gz_112_18 rfl (fun u25 => ?_) (fun u25 => by exfalso; omega)
    refine w_iconst gz_112_42 (by decide) ?_
    have bfE : ∀ k j : Int, 0 ≤ k → k < 94 → h3 k j = h k j := fun k j k0 k1 => (bg_fr frh3 (by decide +kernel) k j k0 (Or.inl k1))
    exact w_iret gz_112_43 gm_112 (k0 h3 (gh3) (by first | exact bfE | assumption | omega) Ln_h3)
  ·
    have gh5 : my_fr [(2, 15), (2, 16), (8, 0), (8, 1), (30, -1), (31, -1), (41, -1), (42, -1), (43, -1), (44, -1)] h h5 := my_fr.tr my_fr.rf (frh5.mo rfl)
    have Ln_h5 : Ln h5 := Ln_ag (my_ag.fr frh5 rfl) n_Ln
    show wp l rho (d + 6) 112 18 [(2, 0), (0, x1), (0, x2), (0, x3), (0, x4), (0, x5), (0, x6), (9, 0)] [(0, 1)] h5 Q
    have Td_h5t26 : Td h5 x1 := xp16
    have nE := xp12
    have agG : my_ag F5 h h5 := my_ag.fr (F := F5) frh5 rfl
    have bfG : ∀ k j : Int, 0 ≤ k → k < 94 → h5 k j = h k j := fun k j k0 k1 => (bg_fr frh5 (by decide +kernel) k j k0 (Or.inl k1))
    refine w_ifeq (t := 42) gz_112_18 rfl (fun u27 => by exfalso; omega) (fun u27 => ?_)
    refine w_aload_n gz_112_21 rfl ?_
    refine w_getX (v := 94) gz_112_22 is_0 rd_9 rfl (by decide) rfl ?_
    refine w_aload_n gz_112_25 rfl ?_
    refine w_getX (v := 7) gz_112_26 is_0 rd_9 rfl (by decide) rfl ?_
    refine w_iload_n gz_112_29 rfl ?_
    refine w_iload_n gz_112_30 rfl ?_
    refine w_iload_n gz_112_31 rfl ?_
    refine w_iload gz_112_32 rfl ?_
    refine w_iload gz_112_34 rfl ?_
    refine w_inv (k := 2) (as := [(0, x5), (0, x4), (0, x3), (0, x2), (0, x1), (2, 7)]) (r := []) (x := 94) (ls0 := [(2, 94), (2, 7), (0, x1), (0, x2), (0, x3), (0, x4), (0, x5), (9, 0), (9, 0)]) gz_112_36 gm_110 rfl is_94 rd_2 rfl rfl rfl rfl rfl (c_Desk_goesStraight4 (d := (d + 2)) (x1 := 7) (x2 := x1) (x3 := x2) (x4 := x3) (x5 := x4) (x6 := x5) is_7 (by omega) (by omega) (by omega) (by omega) (by first | assumption | exact no_such_saying | exact Fp_told (by omega) (by omega) | omega | (subst_vars; omega) | omega) (by first | assumption | exact no_such_saying | exact Fp_told (by omega) (by omega) | omega | (subst_vars; omega) | omega) (WOk_bf agG hwo bfG) ((by unfold zqXf; omega)) (fun h30 frh30 xp31 => ?_) (fun h32 frh32 xp33 => ?_))
    ·
      have gh30 : my_fr [(2, 15), (2, 16), (8, 0), (8, 1), (30, -1), (31, -1), (41, -1), (42, -1), (43, -1), (44, -1)] h h30 := my_fr.tr gh5 (frh30.mo rfl)
      have Ln_h30 : Ln h30 := Ln_ag (my_ag.fr frh30 rfl) Ln_h5
      have Td_h30 : Td h30 x1 := Td_ag (my_ag.fr frh30 rfl) Ln_h5 Td_h5t26
      show wp l rho (d + 6) 112 39 [(2, 0), (0, x1), (0, x2), (0, x3), (0, x4), (0, x5), (0, x6), (9, 0)] [(0, 0)] h30 Q
      have bc_h30 : ∀ k j : Int, 0 ≤ k → k < 94 → h30 k j = h5 k j := xp31
      refine w_ifne (t := 44) gz_112_39 rfl (fun u34 => by exfalso; omega) (fun u34 => ?_)
      refine w_iconst gz_112_42 (by decide) ?_
      have bfE : ∀ k j : Int, 0 ≤ k → k < 94 → h30 k j = h k j := fun k j k0 k1 => ((bc_h30 k j k0 k1).trans (bg_fr frh5 (by decide +kernel) k j k0 (Or.inl k1)))
      exact w_iret gz_112_43 gm_112 (k0 h30 (gh30) (by first | exact bfE | assumption | omega) Ln_h30)
    ·
      have gh32 : my_fr [(2, 15), (2, 16), (8, 0), (8, 1), (30, -1), (31, -1), (41, -1), (42, -1), (43, -1), (44, -1)] h h32 := my_fr.tr gh5 (frh32.mo rfl)
      have Ln_h32 : Ln h32 := Ln_ag (my_ag.fr frh32 rfl) Ln_h5
      have Td_h32 : Td h32 x1 := Td_ag (my_ag.fr frh32 rfl) Ln_h5 Td_h5t26
      show wp l rho (d + 6) 112 39 [(2, 0), (0, x1), (0, x2), (0, x3), (0, x4), (0, x5), (0, x6), (9, 0)] [(0, 1)] h32 Q
      have bc_h32 : ∀ k j : Int, 0 ≤ k → k < 94 → h32 k j = h5 k j := xp33
      refine w_ifne (t := 44) gz_112_39 rfl (fun u35 => ?_) (fun u35 => by exfalso; omega)
      refine w_aload_n gz_112_44 rfl ?_
      refine w_getX (v := 1) gz_112_45 is_0 rd_9 rfl (by decide) rfl ?_
      refine w_aload_n gz_112_48 rfl ?_
      refine w_getX (v := 94) gz_112_49 is_0 rd_9 rfl (by decide) rfl ?_
      refine w_getX (v := 95) gz_112_52 is_94 rd_2 rfl (by decide) rfl ?_
      refine w_inv (k := 4) (as := [(2, 95)]) (r := []) (x := 1) (ls0 := [(2, 1), (2, 95), (9, 0), (9, 0), (9, 0), (9, 0)]) gz_112_55 gm_19 rfl is_1 rd_3 rfl rfl rfl rfl rfl (c_Laws_firstBroken5 (d := (d + 3)) (x1 := 95) is_95 (fun xp39 => ?_) (fun v40 w41 w42 xp43 => ?_))
      ·
        show wp l rho (d + 6) 112 58 [(2, 0), (0, x1), (0, x2), (0, x3), (0, x4), (0, x5), (0, x6), (9, 0)] [(0, (-1))] h32 Q
        refine w_istore (ls' := [(2, 0), (0, x1), (0, x2), (0, x3), (0, x4), (0, x5), (0, x6), (0, (-1))]) gz_112_58 gm_112 rfl rfl rfl ?_
        refine w_iload gz_112_60 rfl ?_
        refine w_iconst gz_112_62 (by decide) ?_
        refine w_icne (t := 68) gz_112_63 rfl (fun u44 => by exfalso; omega) (fun u44 => ?_)
        refine w_iconst gz_112_66 (by decide) ?_
        have bfE : ∀ k j : Int, 0 ≤ k → k < 94 → h32 k j = h k j := fun k j k0 k1 => ((bc_h32 k j k0 k1).trans (bg_fr frh5 (by decide +kernel) k j k0 (Or.inl k1)))
        exact w_iret gz_112_67 gm_112 (k0 h32 (gh32) (by first | exact bfE | assumption | omega) Ln_h32)
      ·
        show wp l rho (d + 6) 112 58 [(2, 0), (0, x1), (0, x2), (0, x3), (0, x4), (0, x5), (0, x6), (9, 0)] [(0, v40)] h32 Q
        refine w_istore (ls' := [(2, 0), (0, x1), (0, x2), (0, x3), (0, x4), (0, x5), (0, x6), (0, v40)]) gz_112_58 gm_112 rfl rfl rfl ?_
        refine w_iload gz_112_60 rfl ?_
        refine w_iconst gz_112_62 (by decide) ?_
        refine w_icne (t := 68) gz_112_63 rfl (fun u45 => ?_) (fun u45 => by exfalso; omega)
        refine w_iload gz_112_68 rfl ?_
        by_cases u46 : x6 = 0
        ·
          refine w_tswE (t := 96) gz_112_70 u46 (by decide) (by decide) rfl rfl ?_
          refine w_iload gz_112_96 rfl ?_
          refine w_iconst gz_112_98 (by decide) ?_
          refine w_idiv gz_112_99 (by omega) (by decide) ?_
          refine w_iconst gz_112_100 (by decide) ?_
          refine w_idiv gz_112_101 (by omega) (by decide) ?_
          have bfE : ∀ k j : Int, 0 ≤ k → k < 94 → h32 k j = h k j := fun k j k0 k1 => ((bc_h32 k j k0 k1).trans (bg_fr frh5 (by decide +kernel) k j k0 (Or.inl k1)))
          exact w_iret gz_112_102 gm_112 (k1 h32 (((v40 / 4) / 4)) (gh32) (by omega) (by omega) (by omega) (by omega) (by omega) (by omega) (by omega) (by omega) (by first | exact bfE | assumption | omega) Ln_h32)
        ·
          by_cases u47 : x6 = 1
          ·
            refine w_tswE (t := 103) gz_112_70 u47 (by decide) (by decide) rfl rfl ?_
            refine w_iload gz_112_103 rfl ?_
            refine w_iconst gz_112_105 (by decide) ?_
            refine w_idiv gz_112_106 (by omega) (by decide) ?_
            refine w_iconst gz_112_107 (by decide) ?_
            refine w_irem gz_112_108 (by omega) (by decide) ?_
            have bfE : ∀ k j : Int, 0 ≤ k → k < 94 → h32 k j = h k j := fun k j k0 k1 => ((bc_h32 k j k0 k1).trans (bg_fr frh5 (by decide +kernel) k j k0 (Or.inl k1)))
            exact w_iret gz_112_109 gm_112 (k1 h32 (((v40 / 4) % 4)) (gh32) (by omega) (by omega) (by omega) (by omega) (by omega) (by omega) (by omega) (by omega) (by first | exact bfE | assumption | omega) Ln_h32)
          ·
            by_cases u48 : x6 = 2
            ·
              refine w_tswE (t := 110) gz_112_70 u48 (by decide) (by decide) rfl rfl ?_
              refine w_iload gz_112_110 rfl ?_
              refine w_iconst gz_112_112 (by decide) ?_
              refine w_irem gz_112_113 (by omega) (by decide) ?_
              have bfE : ∀ k j : Int, 0 ≤ k → k < 94 → h32 k j = h k j := fun k j k0 k1 => ((bc_h32 k j k0 k1).trans (bg_fr frh5 (by decide +kernel) k j k0 (Or.inl k1)))
              exact w_iret gz_112_114 gm_112 (k1 h32 ((v40 % 4)) (gh32) (by omega) (by omega) (by omega) (by omega) (by omega) (by omega) (by omega) (by omega) (by first | exact bfE | assumption | omega) Ln_h32)
            ·
              refine w_tswD (t := 115) gz_112_70 (by omega) rfl ?_
              refine w_iconst gz_112_115 (by decide) ?_
              have bfE : ∀ k j : Int, 0 ≤ k → k < 94 → h32 k j = h k j := fun k j k0 k1 => ((bc_h32 k j k0 k1).trans (bg_fr frh5 (by decide +kernel) k j k0 (Or.inl k1)))
              exact w_iret gz_112_116 gm_112 (k0 h32 (gh32) (by first | exact bfE | assumption | omega) Ln_h32)
theorem c_ThroughWindow_twice4 {l : Launch} {rho : Nat → Int32} {d : Nat} {h : my_H} {Q : my_H → my_V → Prop} {x1 x2 x3 x4 x5 : Int} (n_Ln : Ln h) (hlw : LwA h) (hwo : WOk h 7) (k0 : ∀ (h' : my_H), my_fr [(2, 11), (2, 12), (2, 13), (2, 14), (2, 15), (2, 16), (7, 0), (7, 1), (7, 2), (7, 3), (7, 4), (7, 5), (8, 0), (8, 1), (30, -1), (31, -1), (41, -1), (42, -1), (43, -1), (44, -1)] h h' → (∀ k j : Int, 0 ≤ k → k < 94 → h' k j = h k j) → Ln h' → Q h' (0, (-1))) (k1 : ∀ (h' : my_H), my_fr [(2, 11), (2, 12), (2, 13), (2, 14), (2, 15), (2, 16), (7, 0), (7, 1), (7, 2), (7, 3), (7, 4), (7, 5), (8, 0), (8, 1), (30, -1), (31, -1), (41, -1), (42, -1), (43, -1), (44, -1)] h h' → 0 ≤ x1 → x1 ≤ 5 → (∀ k j : Int, 0 ≤ k → k < 94 → h' k j = h k j) → Ln h' → Q h' (0, 0)) (k2 : ∀ (h' : my_H), my_fr [(2, 11), (2, 12), (2, 13), (2, 14), (2, 15), (2, 16), (7, 0), (7, 1), (7, 2), (7, 3), (7, 4), (7, 5), (8, 0), (8, 1), (30, -1), (31, -1), (41, -1), (42, -1), (43, -1), (44, -1)] h h' → 0 ≤ x1 → x1 ≤ 5 → (∀ k j : Int, 0 ≤ k → k < 94 → h' k j = h k j) → Ln h' → Q h' (0, 1)) : wp l rho (d + 7) 115 0 [(2, 0), (0, x1), (0, x2), (0, x3), (0, x4), (0, x5), (9, 0)] [] h Q := by
  refine w_aload_n gz_115_0 rfl ?_
  refine w_getX (v := 94) gz_115_1 is_0 rd_9 rfl (by decide) rfl ?_
  refine w_aload_n gz_115_4 rfl ?_
  refine w_getX (v := 7) gz_115_5 is_0 rd_9 rfl (by decide) rfl ?_
  refine w_iload_n gz_115_8 rfl ?_
  refine w_iconst gz_115_9 (by decide) ?_
  refine w_iload_n gz_115_10 rfl ?_
  refine w_iload_n gz_115_11 rfl ?_
  refine w_iload gz_115_12 rfl ?_
  refine w_inv (k := 0) (as := [(0, x4), (0, x3), (0, x2), (0, 0), (0, x1), (2, 7)]) (r := []) (x := 94) (ls0 := [(2, 94), (2, 7), (0, x1), (0, 0), (0, x2), (0, x3), (0, x4)]) gz_115_14 gm_87 rfl is_94 rd_2 rfl rfl rfl rfl rfl (c_Desk_opens5 (d := (d + 1)) (x1 := 7) (x2 := x1) (x3 := 0) (x4 := x2) (x5 := x3) (x6 := x4) is_7 n_Ln (hlw.1) (hwo.1.1) (fun h3 frh3 xp4 => ?_) (fun h5 frh5 w6 w7 w8 w9 w10 w11 xp12 xp13 xp14 xp15 xp16 xp17 xp18 xp19 xp20 xp21 xp22 xp23 xp24 => ?_))
  ·
    have gh3 : my_fr [(2, 11), (2, 12), (2, 13), (2, 14), (2, 15), (2, 16), (7, 0), (7, 1), (7, 2), (7, 3), (7, 4), (7, 5), (8, 0), (8, 1), (30, -1), (31, -1), (41, -1), (42, -1), (43, -1), (44, -1)] h h3 := my_fr.tr my_fr.rf (frh3.mo rfl)
    have Ln_h3 : Ln h3 := Ln_ag (my_ag.fr frh3 rfl) n_Ln
    show wp l rho (d + 7) 115 17 [(2, 0), (0, x1), (0, x2), (0, x3), (0, x4), (0, x5), (9, 0)] [(0, 0)] h3 Q
    refine w_ifeq (t := 40) gz_115_17 rfl (fun u25 => ?_) (fun u25 => by exfalso; omega)
    refine w_iconst gz_115_40 (by decide) ?_
    have bfE : ∀ k j : Int, 0 ≤ k → k < 94 → h3 k j = h k j := fun k j k0 k1 => (bg_fr frh3 (by decide +kernel) k j k0 (Or.inl k1))
    exact w_iret gz_115_41 gm_115 (k0 h3 (gh3) (by first | exact bfE | assumption | omega) Ln_h3)
  ·
    have gh5 : my_fr [(2, 11), (2, 12), (2, 13), (2, 14), (2, 15), (2, 16), (7, 0), (7, 1), (7, 2), (7, 3), (7, 4), (7, 5), (8, 0), (8, 1), (30, -1), (31, -1), (41, -1), (42, -1), (43, -1), (44, -1)] h h5 := my_fr.tr my_fr.rf (frh5.mo rfl)
    have Ln_h5 : Ln h5 := Ln_ag (my_ag.fr frh5 rfl) n_Ln
    show wp l rho (d + 7) 115 17 [(2, 0), (0, x1), (0, x2), (0, x3), (0, x4), (0, x5), (9, 0)] [(0, 1)] h5 Q
    refine w_ifeq (t := 40) gz_115_17 rfl (fun u26 => by exfalso; omega) (fun u26 => ?_)
    refine w_aload_n gz_115_20 rfl ?_
    refine w_getX (v := 94) gz_115_21 is_0 rd_9 rfl (by decide) rfl ?_
    refine w_aload_n gz_115_24 rfl ?_
    refine w_getX (v := 7) gz_115_25 is_0 rd_9 rfl (by decide) rfl ?_
    refine w_iload_n gz_115_28 rfl ?_
    refine w_iconst gz_115_29 (by decide) ?_
    refine w_iload_n gz_115_30 rfl ?_
    refine w_iload_n gz_115_31 rfl ?_
    refine w_iload gz_115_32 rfl ?_
    have agO : my_ag F5 h h5 := (my_ag.fr (F := F5) gh5 rfl)
    have bfO : ∀ k j : Int, 0 ≤ k → k < 94 → h5 k j = h k j := fun k j k0 k1 => (bg_fr frh5 (by decide +kernel) k j k0 (Or.inl k1))
    refine w_inv (k := 0) (as := [(0, x5), (0, x3), (0, x2), (0, 0), (0, x1), (2, 7)]) (r := []) (x := 94) (ls0 := [(2, 94), (2, 7), (0, x1), (0, 0), (0, x2), (0, x3), (0, x5)]) gz_115_34 gm_87 rfl is_94 rd_2 rfl rfl rfl rfl rfl (c_Desk_opens5 (d := (d + 1)) (x1 := 7) (x2 := x1) (x3 := 0) (x4 := x2) (x5 := x3) (x6 := x5) is_7 Ln_h5 ((LwA_ag n_Ln agO hlw).1) (Gd_cg hwo bfO) (fun h29 frh29 xp30 => ?_) (fun h31 frh31 w32 w33 w34 w35 w36 w37 xp38 xp39 xp40 xp41 xp42 xp43 xp44 xp45 xp46 xp47 xp48 xp49 xp50 => ?_))
    ·
      have gh29 : my_fr [(2, 11), (2, 12), (2, 13), (2, 14), (2, 15), (2, 16), (7, 0), (7, 1), (7, 2), (7, 3), (7, 4), (7, 5), (8, 0), (8, 1), (30, -1), (31, -1), (41, -1), (42, -1), (43, -1), (44, -1)] h h29 := my_fr.tr gh5 (frh29.mo rfl)
      have Ln_h29 : Ln h29 := Ln_ag (my_ag.fr frh29 rfl) Ln_h5
      show wp l rho (d + 7) 115 37 [(2, 0), (0, x1), (0, x2), (0, x3), (0, x4), (0, x5), (9, 0)] [(0, 0)] h29 Q
      refine w_ifne (t := 42) gz_115_37 rfl (fun u51 => by exfalso; omega) (fun u51 => ?_)
      refine w_iconst gz_115_40 (by decide) ?_
      have bfE : ∀ k j : Int, 0 ≤ k → k < 94 → h29 k j = h k j := fun k j k0 k1 => ((bg_fr frh29 (by decide +kernel) k j k0 (Or.inl k1)).trans (bg_fr frh5 (by decide +kernel) k j k0 (Or.inl k1)))
      exact w_iret gz_115_41 gm_115 (k0 h29 (gh29) (by first | exact bfE | assumption | omega) Ln_h29)
    ·
      have gh31 : my_fr [(2, 11), (2, 12), (2, 13), (2, 14), (2, 15), (2, 16), (7, 0), (7, 1), (7, 2), (7, 3), (7, 4), (7, 5), (8, 0), (8, 1), (30, -1), (31, -1), (41, -1), (42, -1), (43, -1), (44, -1)] h h31 := my_fr.tr gh5 (frh31.mo rfl)
      have Ln_h31 : Ln h31 := Ln_ag (my_ag.fr frh31 rfl) Ln_h5
      show wp l rho (d + 7) 115 37 [(2, 0), (0, x1), (0, x2), (0, x3), (0, x4), (0, x5), (9, 0)] [(0, 1)] h31 Q
      refine w_ifne (t := 42) gz_115_37 rfl (fun u52 => ?_) (fun u52 => by exfalso; omega)
      have bfA : ∀ k j : Int, 0 ≤ k → k < 94 → h31 k j = h k j := fun k j k0 k1 => ((bg_fr frh31 (by decide +kernel) k j k0 (Or.inl k1)).trans (bg_fr frh5 (by decide +kernel) k j k0 (Or.inl k1)))
      refine w_aload_n gz_115_42 rfl ?_
      refine w_getX (v := 145) gz_115_43 is_0 rd_9 rfl (by decide) rfl ?_
      refine w_aload_n gz_115_46 rfl ?_
      refine w_getX (v := 7) gz_115_47 is_0 rd_9 rfl (by decide) rfl ?_
      refine w_inv (k := 0) (as := [(2, 7)]) (r := []) (x := 145) (ls0 := [(2, 145), (2, 7)]) gz_115_50 gm_25 rfl is_145 rd_6 rfl rfl rfl rfl rfl ?_
      refine w_aload_n gz_25_0 rfl ?_
      refine w_getX (v := 8) gz_25_1 is_7 rd_6 rfl (by decide) rfl ?_
      refine w_iconst gz_25_4 (by decide) ?_
      refine w_aload_n gz_25_5 rfl ?_
      refine w_getX (v := 146) gz_25_6 is_145 rd_6 rfl (by decide) rfl ?_
      refine w_iconst gz_25_9 (by decide) ?_
      refine w_aload_n gz_25_10 rfl ?_
      refine w_getX (v := 146) gz_25_11 is_145 rd_6 rfl (by decide) rfl ?_
      refine v_alen (j := 240) gz_25_14 rfl is_146 rd_30 (by decide) ?_
      refine w_cpU gz_25_15 is_8 rd_30 is_146 rd_30 (by omega) (by omega) (by omega) (by omega) (by omega) rfl (by decide) (by decide) (fun h58 fh58 => ?_)
      have gh58 : my_fr [(2, 11), (2, 12), (2, 13), (2, 14), (2, 15), (2, 16), (7, 0), (7, 1), (7, 2), (7, 3), (7, 4), (7, 5), (8, 0), (8, 1), (30, -1), (31, -1), (41, -1), (42, -1), (43, -1), (44, -1)] h h58 := my_fr.cp gh31 is_146 fh58 rfl
      have Ln_h58 : Ln h58 := Ln_ag (my_ag.cp fh58 is_146 rfl) Ln_h31
      have fc96 := fh58
      refine w_aload_n gz_25_18 rfl ?_
      refine w_getX (v := 9) gz_25_19 is_7 rd_6 rfl (by decide) rfl ?_
      refine w_iconst gz_25_22 (by decide) ?_
      refine w_aload_n gz_25_23 rfl ?_
      refine w_getX (v := 147) gz_25_24 is_145 rd_6 rfl (by decide) rfl ?_
      refine w_iconst gz_25_27 (by decide) ?_
      refine w_aload_n gz_25_28 rfl ?_
      refine w_getX (v := 147) gz_25_29 is_145 rd_6 rfl (by decide) rfl ?_
      refine v_alen (j := 3) gz_25_32 rfl is_147 rd_31 (by decide) ?_
      refine w_cpU gz_25_33 is_9 rd_31 is_147 rd_31 (by omega) (by omega) (by omega) (by omega) (by omega) rfl (by decide) (by decide) (fun h62 fh62 => ?_)
      have gh62 : my_fr [(2, 11), (2, 12), (2, 13), (2, 14), (2, 15), (2, 16), (7, 0), (7, 1), (7, 2), (7, 3), (7, 4), (7, 5), (8, 0), (8, 1), (30, -1), (31, -1), (41, -1), (42, -1), (43, -1), (44, -1)] h h62 := my_fr.cp gh58 is_147 fh62 rfl
      have Ln_h62 : Ln h62 := Ln_ag (my_ag.cp fh62 is_147 rfl) Ln_h58
      have fc97 := fh62
      refine w_vret gz_25_36 gm_25 ?_
      show wp l rho (d + 7) 115 53 [(2, 0), (0, x1), (0, x2), (0, x3), (0, x4), (0, x5), (9, 0)] [] h62 Q
      have ca1 := fc96
      have cb1 := fc97
      refine w_aload_n gz_115_53 rfl ?_
      refine w_getX (v := 148) gz_115_54 is_0 rd_9 rfl (by decide) rfl ?_
      refine w_aload_n gz_115_57 rfl ?_
      refine w_getX (v := 7) gz_115_58 is_0 rd_9 rfl (by decide) rfl ?_
      refine w_inv (k := 0) (as := [(2, 7)]) (r := []) (x := 148) (ls0 := [(2, 148), (2, 7)]) gz_115_61 gm_25 rfl is_148 rd_6 rfl rfl rfl rfl rfl ?_
      refine w_aload_n gz_25_0 rfl ?_
      refine w_getX (v := 8) gz_25_1 is_7 rd_6 rfl (by decide) rfl ?_
      refine w_iconst gz_25_4 (by decide) ?_
      refine w_aload_n gz_25_5 rfl ?_
      refine w_getX (v := 149) gz_25_6 is_148 rd_6 rfl (by decide) rfl ?_
      refine w_iconst gz_25_9 (by decide) ?_
      refine w_aload_n gz_25_10 rfl ?_
      refine w_getX (v := 149) gz_25_11 is_148 rd_6 rfl (by decide) rfl ?_
      refine v_alen (j := 240) gz_25_14 rfl is_149 rd_30 (by decide) ?_
      refine w_cpU gz_25_15 is_8 rd_30 is_149 rd_30 (by omega) (by omega) (by omega) (by omega) (by omega) rfl (by decide) (by decide) (fun h68 fh68 => ?_)
      have gh68 : my_fr [(2, 11), (2, 12), (2, 13), (2, 14), (2, 15), (2, 16), (7, 0), (7, 1), (7, 2), (7, 3), (7, 4), (7, 5), (8, 0), (8, 1), (30, -1), (31, -1), (41, -1), (42, -1), (43, -1), (44, -1)] h h68 := my_fr.cp gh62 is_149 fh68 rfl
      have Ln_h68 : Ln h68 := Ln_ag (my_ag.cp fh68 is_149 rfl) Ln_h62
      have fc96 := fh68
      refine w_aload_n gz_25_18 rfl ?_
      refine w_getX (v := 9) gz_25_19 is_7 rd_6 rfl (by decide) rfl ?_
      refine w_iconst gz_25_22 (by decide) ?_
      refine w_aload_n gz_25_23 rfl ?_
      refine w_getX (v := 150) gz_25_24 is_148 rd_6 rfl (by decide) rfl ?_
      refine w_iconst gz_25_27 (by decide) ?_
      refine w_aload_n gz_25_28 rfl ?_
      refine w_getX (v := 150) gz_25_29 is_148 rd_6 rfl (by decide) rfl ?_
      refine v_alen (j := 3) gz_25_32 rfl is_150 rd_31 (by decide) ?_
      refine w_cpU gz_25_33 is_9 rd_31 is_150 rd_31 (by omega) (by omega) (by omega) (by omega) (by omega) rfl (by decide) (by decide) (fun h72 fh72 => ?_)
      have gh72 : my_fr [(2, 11), (2, 12), (2, 13), (2, 14), (2, 15), (2, 16), (7, 0), (7, 1), (7, 2), (7, 3), (7, 4), (7, 5), (8, 0), (8, 1), (30, -1), (31, -1), (41, -1), (42, -1), (43, -1), (44, -1)] h h72 := my_fr.cp gh68 is_150 fh72 rfl
      have Ln_h72 : Ln h72 := Ln_ag (my_ag.cp fh72 is_150 rfl) Ln_h68
      have fc97 := fh72
      refine w_vret gz_25_36 gm_25 ?_
      show wp l rho (d + 7) 115 64 [(2, 0), (0, x1), (0, x2), (0, x3), (0, x4), (0, x5), (9, 0)] [] h72 Q
      have ca2 := fc96
      have cb2 := fc97
      have w1 := CpW ca1 cb1 (by omega) (by omega) bfA
      have w2 := CpW ca2 cb2 (by omega) (by omega) w1.2.2.1
      have agP : my_ag F5 h h72 := (my_ag.fr (F := F5) gh72 rfl)
      have wo1 := WOk_cp (y := 145) rfl rfl agP hwo (fun j a b => (w2.2.2.2 146 j (by omega) (by omega)).trans (w1.1 j a b)) (fun u a b => (w2.2.2.2 147 u (by omega) (by omega)).trans (w1.2.1 u a b))
      refine w_aload_n gz_115_64 rfl ?_
      refine w_getX (v := 94) gz_115_65 is_0 rd_9 rfl (by decide) rfl ?_
      refine w_aload_n gz_115_68 rfl ?_
      refine w_getX (v := 145) gz_115_69 is_0 rd_9 rfl (by decide) rfl ?_
      refine w_iload_n gz_115_72 rfl ?_
      refine w_iconst gz_115_73 (by decide) ?_
      refine w_iload_n gz_115_74 rfl ?_
      refine w_iload_n gz_115_75 rfl ?_
      refine w_iload gz_115_76 rfl ?_
      refine w_inv (k := 0) (as := [(0, x4), (0, x3), (0, x2), (0, 0), (0, x1), (2, 145)]) (r := []) (x := 94) (ls0 := [(2, 94), (2, 145), (0, x1), (0, 0), (0, x2), (0, x3), (0, x4)]) gz_115_78 gm_114 rfl is_94 rd_2 rfl rfl rfl rfl rfl (c_Desk_putOn5 (d := d) (x1 := 145) (x2 := x1) (x3 := 0) (x4 := x2) (x5 := x3) (x6 := x4) is_145 Ln_h72 (LwA_ag n_Ln agP hlw) (wo1) ((by unfold zqXf; omega)) (fun h75 frh75 xp76 => ?_) (fun h77 v78 frh77 w79 w80 w81 w82 w83 xp84 xp85 xp86 => ?_))
      ·
        have gh75 : my_fr [(2, 11), (2, 12), (2, 13), (2, 14), (2, 15), (2, 16), (7, 0), (7, 1), (7, 2), (7, 3), (7, 4), (7, 5), (8, 0), (8, 1), (30, -1), (31, -1), (41, -1), (42, -1), (43, -1), (44, -1)] h h75 := my_fr.tr gh72 (frh75.mo rfl)
        have Ln_h75 : Ln h75 := Ln_ag (my_ag.fr frh75 rfl) Ln_h72
        show wp l rho (d + 7) 115 81 [(2, 0), (0, x1), (0, x2), (0, x3), (0, x4), (0, x5), (9, 0)] [(0, (-1))] h75 Q
        have bc_h75 : ∀ k j : Int, 0 ≤ k → k < 94 → h75 k j = h72 k j := fun k j k0 k1 => xp76.2 k j k0 (Or.inl k1)
        have kx_h75 : ∀ k j : Int, 148 ≤ k → k ≤ 150 → h75 k j = h72 k j := fun k j k0 k1 => xp76.2 k j (by omega) (Or.inr ⟨by omega, by omega⟩)
        have agP : my_ag F5 h h75 := (my_ag.fr (F := F5) gh75 rfl)
        refine w_iconst gz_115_81 (by decide) ?_
        refine w_iceq (t := 131) gz_115_82 rfl (fun u87 => ?_) (fun u87 => by exfalso; omega)
        refine w_iconst gz_115_131 (by decide) ?_
        refine w_istore (ls' := [(2, 0), (0, x1), (0, x2), (0, x3), (0, x4), (0, x5), (0, 0)]) gz_115_132 gm_115 rfl rfl rfl ?_
        refine w_iload gz_115_134 rfl ?_
        refine w_ifeq (t := 157) gz_115_136 rfl (fun u88 => ?_) (fun u88 => by exfalso; omega)
        refine w_iconst gz_115_157 (by decide) ?_
        have bfE : ∀ k j : Int, 0 ≤ k → k < 94 → h75 k j = h k j := fun k j k0 k1 => ((bc_h75 k j k0 k1).trans ((my_cp_ne fh72 (by omega)).trans ((my_cp_ne fh68 (by omega)).trans ((my_cp_ne fh62 (by omega)).trans ((my_cp_ne fh58 (by omega)).trans ((bg_fr frh31 (by decide +kernel) k j k0 (Or.inl k1)).trans (bg_fr frh5 (by decide +kernel) k j k0 (Or.inl k1))))))))
        exact w_iret gz_115_158 gm_115 (k1 h75 (gh75) (by omega) (by omega) (by first | exact bfE | assumption | omega) Ln_h75)
      ·
        have gh77 : my_fr [(2, 11), (2, 12), (2, 13), (2, 14), (2, 15), (2, 16), (7, 0), (7, 1), (7, 2), (7, 3), (7, 4), (7, 5), (8, 0), (8, 1), (30, -1), (31, -1), (41, -1), (42, -1), (43, -1), (44, -1)] h h77 := my_fr.tr gh72 (frh77.mo rfl)
        have Ln_h77 : Ln h77 := Ln_ag (my_ag.fr frh77 rfl) Ln_h72
        show wp l rho (d + 7) 115 81 [(2, 0), (0, x1), (0, x2), (0, x3), (0, x4), (0, x5), (9, 0)] [(0, v78)] h77 Q
        have bc_h77 : ∀ k j : Int, 0 ≤ k → k < 94 → h77 k j = h72 k j := fun k j k0 k1 => xp86 k j k0 (Or.inl k1) (by omega)
        have kx_h77 : ∀ k j : Int, 148 ≤ k → k ≤ 150 → h77 k j = h72 k j := fun k j k0 k1 => xp86 k j (by omega) (Or.inr ⟨by omega, by omega⟩) (by omega)
        have pp78 := xp85
        have agP : my_ag F5 h h77 := (my_ag.fr (F := F5) gh77 rfl)
        refine w_iconst gz_115_81 (by decide) ?_
        refine w_iceq (t := 131) gz_115_82 rfl (fun u89 => ?_) (fun u89 => ?_)
        ·
          refine w_iconst gz_115_131 (by decide) ?_
          refine w_istore (ls' := [(2, 0), (0, x1), (0, x2), (0, x3), (0, x4), (0, x5), (0, 0)]) gz_115_132 gm_115 rfl rfl rfl ?_
          refine w_iload gz_115_134 rfl ?_
          refine w_ifeq (t := 157) gz_115_136 rfl (fun u90 => ?_) (fun u90 => by exfalso; omega)
          refine w_iconst gz_115_157 (by decide) ?_
          have bfE : ∀ k j : Int, 0 ≤ k → k < 94 → h77 k j = h k j := fun k j k0 k1 => ((bc_h77 k j k0 k1).trans ((my_cp_ne fh72 (by omega)).trans ((my_cp_ne fh68 (by omega)).trans ((my_cp_ne fh62 (by omega)).trans ((my_cp_ne fh58 (by omega)).trans ((bg_fr frh31 (by decide +kernel) k j k0 (Or.inl k1)).trans (bg_fr frh5 (by decide +kernel) k j k0 (Or.inl k1))))))))
          exact w_iret gz_115_158 gm_115 (k1 h77 (gh77) (by omega) (by omega) (by first | exact bfE | assumption | omega) Ln_h77)
        ·
          refine w_aload_n gz_115_85 rfl ?_
          refine w_getX (v := 94) gz_115_86 is_0 rd_9 rfl (by decide) rfl ?_
          refine w_aload_n gz_115_89 rfl ?_
          refine w_getX (v := 145) gz_115_90 is_0 rd_9 rfl (by decide) rfl ?_
          refine w_iload_n gz_115_93 rfl ?_
          refine w_iconst gz_115_94 (by decide) ?_
          refine w_iload_n gz_115_95 rfl ?_
          refine w_iload_n gz_115_96 rfl ?_
          refine w_iload gz_115_97 rfl ?_
          refine w_inv (k := 0) (as := [(0, x5), (0, x3), (0, x2), (0, 0), (0, x1), (2, 145)]) (r := []) (x := 94) (ls0 := [(2, 94), (2, 145), (0, x1), (0, 0), (0, x2), (0, x3), (0, x5)]) gz_115_99 gm_114 rfl is_94 rd_2 rfl rfl rfl rfl rfl (c_Desk_putOn5 (d := d) (x1 := 145) (x2 := x1) (x3 := 0) (x4 := x2) (x5 := x3) (x6 := x5) is_145 Ln_h77 (LwA_ag n_Ln agP hlw) (pp78.2) ((by unfold zqXf; omega)) (fun h93 frh93 xp94 => ?_) (fun h95 v96 frh95 w97 w98 w99 w100 w101 xp102 xp103 xp104 => ?_))
          ·
            have gh93 : my_fr [(2, 11), (2, 12), (2, 13), (2, 14), (2, 15), (2, 16), (7, 0), (7, 1), (7, 2), (7, 3), (7, 4), (7, 5), (8, 0), (8, 1), (30, -1), (31, -1), (41, -1), (42, -1), (43, -1), (44, -1)] h h93 := my_fr.tr gh77 (frh93.mo rfl)
            have Ln_h93 : Ln h93 := Ln_ag (my_ag.fr frh93 rfl) Ln_h77
            show wp l rho (d + 7) 115 102 [(2, 0), (0, x1), (0, x2), (0, x3), (0, x4), (0, x5), (9, 0)] [(0, (-1))] h93 Q
            have bc_h93 : ∀ k j : Int, 0 ≤ k → k < 94 → h93 k j = h77 k j := fun k j k0 k1 => xp94.2 k j k0 (Or.inl k1)
            have kx_h93 : ∀ k j : Int, 148 ≤ k → k ≤ 150 → h93 k j = h77 k j := fun k j k0 k1 => xp94.2 k j (by omega) (Or.inr ⟨by omega, by omega⟩)
            have agP : my_ag F5 h h93 := (my_ag.fr (F := F5) gh93 rfl)
            refine w_iconst gz_115_102 (by decide) ?_
            refine w_iceq (t := 131) gz_115_103 rfl (fun u105 => ?_) (fun u105 => by exfalso; omega)
            refine w_iconst gz_115_131 (by decide) ?_
            refine w_istore (ls' := [(2, 0), (0, x1), (0, x2), (0, x3), (0, x4), (0, x5), (0, 0)]) gz_115_132 gm_115 rfl rfl rfl ?_
            refine w_iload gz_115_134 rfl ?_
            refine w_ifeq (t := 157) gz_115_136 rfl (fun u106 => ?_) (fun u106 => by exfalso; omega)
            refine w_iconst gz_115_157 (by decide) ?_
            have bfE : ∀ k j : Int, 0 ≤ k → k < 94 → h93 k j = h k j := fun k j k0 k1 => ((bc_h93 k j k0 k1).trans ((bc_h77 k j k0 k1).trans ((my_cp_ne fh72 (by omega)).trans ((my_cp_ne fh68 (by omega)).trans ((my_cp_ne fh62 (by omega)).trans ((my_cp_ne fh58 (by omega)).trans ((bg_fr frh31 (by decide +kernel) k j k0 (Or.inl k1)).trans (bg_fr frh5 (by decide +kernel) k j k0 (Or.inl k1)))))))))
            exact w_iret gz_115_158 gm_115 (k1 h93 (gh93) (by omega) (by omega) (by first | exact bfE | assumption | omega) Ln_h93)
          ·
            have gh95 : my_fr [(2, 11), (2, 12), (2, 13), (2, 14), (2, 15), (2, 16), (7, 0), (7, 1), (7, 2), (7, 3), (7, 4), (7, 5), (8, 0), (8, 1), (30, -1), (31, -1), (41, -1), (42, -1), (43, -1), (44, -1)] h h95 := my_fr.tr gh77 (frh95.mo rfl)
            have Ln_h95 : Ln h95 := Ln_ag (my_ag.fr frh95 rfl) Ln_h77
            show wp l rho (d + 7) 115 102 [(2, 0), (0, x1), (0, x2), (0, x3), (0, x4), (0, x5), (9, 0)] [(0, v96)] h95 Q
            have bc_h95 : ∀ k j : Int, 0 ≤ k → k < 94 → h95 k j = h77 k j := fun k j k0 k1 => xp104 k j k0 (Or.inl k1) (by omega)
            have kx_h95 : ∀ k j : Int, 148 ≤ k → k ≤ 150 → h95 k j = h77 k j := fun k j k0 k1 => xp104 k j (by omega) (Or.inr ⟨by omega, by omega⟩) (by omega)
            have pp99 := xp103
            have agP : my_ag F5 h h95 := (my_ag.fr (F := F5) gh95 rfl)
            refine w_iconst gz_115_102 (by decide) ?_
            refine w_iceq (t := 131) gz_115_103 rfl (fun u107 => ?_) (fun u107 => ?_)
            ·
              refine w_iconst gz_115_131 (by decide) ?_
              refine w_istore (ls' := [(2, 0), (0, x1), (0, x2), (0, x3), (0, x4), (0, x5), (0, 0)]) gz_115_132 gm_115 rfl rfl rfl ?_
              refine w_iload gz_115_134 rfl ?_
              refine w_ifeq (t := 157) gz_115_136 rfl (fun u108 => ?_) (fun u108 => by exfalso; omega)
              refine w_iconst gz_115_157 (by decide) ?_
              have bfE : ∀ k j : Int, 0 ≤ k → k < 94 → h95 k j = h k j := fun k j k0 k1 => ((bc_h95 k j k0 k1).trans ((bc_h77 k j k0 k1).trans ((my_cp_ne fh72 (by omega)).trans ((my_cp_ne fh68 (by omega)).trans ((my_cp_ne fh62 (by omega)).trans ((my_cp_ne fh58 (by omega)).trans ((bg_fr frh31 (by decide +kernel) k j k0 (Or.inl k1)).trans (bg_fr frh5 (by decide +kernel) k j k0 (Or.inl k1)))))))))
              exact w_iret gz_115_158 gm_115 (k1 h95 (gh95) (by omega) (by omega) (by first | exact bfE | assumption | omega) Ln_h95)
            ·
              refine w_aload_n gz_115_106 rfl ?_
              refine w_getX (v := 94) gz_115_107 is_0 rd_9 rfl (by decide) rfl ?_
              refine w_aload_n gz_115_110 rfl ?_
              refine w_getX (v := 148) gz_115_111 is_0 rd_9 rfl (by decide) rfl ?_
              refine w_iload_n gz_115_114 rfl ?_
              refine w_iconst gz_115_115 (by decide) ?_
              refine w_iload_n gz_115_116 rfl ?_
              refine w_iload_n gz_115_117 rfl ?_
              refine w_iload gz_115_118 rfl ?_
              have kxB : ∀ k j : Int, 148 ≤ k → k ≤ 150 → h95 k j = h72 k j := fun k j k0 k1 => ((kx_h95 k j k0 k1).trans (kx_h77 k j k0 k1))
              refine w_inv (k := 0) (as := [(0, x5), (0, x3), (0, x2), (0, 0), (0, x1), (2, 148)]) (r := []) (x := 94) (ls0 := [(2, 94), (2, 148), (0, x1), (0, 0), (0, x2), (0, x3), (0, x5)]) gz_115_120 gm_114 rfl is_94 rd_2 rfl rfl rfl rfl rfl (c_Desk_putOn5 (d := d) (x1 := 148) (x2 := x1) (x3 := 0) (x4 := x2) (x5 := x3) (x6 := x5) is_148 Ln_h95 (LwA_ag n_Ln agP hlw) (WOk_cp (y := 148) rfl rfl agP hwo (fun j a b => (kxB 149 j (by omega) (by omega)).trans (w2.1 j a b)) (fun u a b => (kxB 150 u (by omega) (by omega)).trans (w2.2.1 u a b))) ((by unfold zqXf; omega)) (fun h111 frh111 xp112 => ?_) (fun h113 v114 frh113 w115 w116 w117 w118 w119 xp120 xp121 xp122 => ?_))
              ·
                have gh111 : my_fr [(2, 11), (2, 12), (2, 13), (2, 14), (2, 15), (2, 16), (7, 0), (7, 1), (7, 2), (7, 3), (7, 4), (7, 5), (8, 0), (8, 1), (30, -1), (31, -1), (41, -1), (42, -1), (43, -1), (44, -1)] h h111 := my_fr.tr gh95 (frh111.mo rfl)
                have Ln_h111 : Ln h111 := Ln_ag (my_ag.fr frh111 rfl) Ln_h95
                show wp l rho (d + 7) 115 123 [(2, 0), (0, x1), (0, x2), (0, x3), (0, x4), (0, x5), (9, 0)] [(0, (-1))] h111 Q
                have bc_h111 : ∀ k j : Int, 0 ≤ k → k < 94 → h111 k j = h95 k j := fun k j k0 k1 => xp112.2 k j k0 (Or.inl k1)
                have agP : my_ag F5 h h111 := (my_ag.fr (F := F5) gh111 rfl)
                refine w_iconst gz_115_123 (by decide) ?_
                refine w_iceq (t := 131) gz_115_124 rfl (fun u123 => ?_) (fun u123 => by exfalso; omega)
                refine w_iconst gz_115_131 (by decide) ?_
                refine w_istore (ls' := [(2, 0), (0, x1), (0, x2), (0, x3), (0, x4), (0, x5), (0, 0)]) gz_115_132 gm_115 rfl rfl rfl ?_
                refine w_iload gz_115_134 rfl ?_
                refine w_ifeq (t := 157) gz_115_136 rfl (fun u124 => ?_) (fun u124 => by exfalso; omega)
                refine w_iconst gz_115_157 (by decide) ?_
                have bfE : ∀ k j : Int, 0 ≤ k → k < 94 → h111 k j = h k j := fun k j k0 k1 => ((bc_h111 k j k0 k1).trans ((bc_h95 k j k0 k1).trans ((bc_h77 k j k0 k1).trans ((my_cp_ne fh72 (by omega)).trans ((my_cp_ne fh68 (by omega)).trans ((my_cp_ne fh62 (by omega)).trans ((my_cp_ne fh58 (by omega)).trans ((bg_fr frh31 (by decide +kernel) k j k0 (Or.inl k1)).trans (bg_fr frh5 (by decide +kernel) k j k0 (Or.inl k1))))))))))
                exact w_iret gz_115_158 gm_115 (k1 h111 (gh111) (by omega) (by omega) (by first | exact bfE | assumption | omega) Ln_h111)
              ·
                have gh113 : my_fr [(2, 11), (2, 12), (2, 13), (2, 14), (2, 15), (2, 16), (7, 0), (7, 1), (7, 2), (7, 3), (7, 4), (7, 5), (8, 0), (8, 1), (30, -1), (31, -1), (41, -1), (42, -1), (43, -1), (44, -1)] h h113 := my_fr.tr gh95 (frh113.mo rfl)
                have Ln_h113 : Ln h113 := Ln_ag (my_ag.fr frh113 rfl) Ln_h95
                show wp l rho (d + 7) 115 123 [(2, 0), (0, x1), (0, x2), (0, x3), (0, x4), (0, x5), (9, 0)] [(0, v114)] h113 Q
                have bc_h113 : ∀ k j : Int, 0 ≤ k → k < 94 → h113 k j = h95 k j := fun k j k0 k1 => xp122 k j k0 (Or.inl k1) (by omega)
                have pp120 := xp121
                have agP : my_ag F5 h h113 := (my_ag.fr (F := F5) gh113 rfl)
                refine w_iconst gz_115_123 (by decide) ?_
                refine w_iceq (t := 131) gz_115_124 rfl (fun u125 => ?_) (fun u125 => ?_)
                ·
                  refine w_iconst gz_115_131 (by decide) ?_
                  refine w_istore (ls' := [(2, 0), (0, x1), (0, x2), (0, x3), (0, x4), (0, x5), (0, 0)]) gz_115_132 gm_115 rfl rfl rfl ?_
                  refine w_iload gz_115_134 rfl ?_
                  refine w_ifeq (t := 157) gz_115_136 rfl (fun u126 => ?_) (fun u126 => by exfalso; omega)
                  refine w_iconst gz_115_157 (by decide) ?_
                  have bfE : ∀ k j : Int, 0 ≤ k → k < 94 → h113 k j = h k j := fun k j k0 k1 => ((bc_h113 k j k0 k1).trans ((bc_h95 k j k0 k1).trans ((bc_h77 k j k0 k1).trans ((my_cp_ne fh72 (by omega)).trans ((my_cp_ne fh68 (by omega)).trans ((my_cp_ne fh62 (by omega)).trans ((my_cp_ne fh58 (by omega)).trans ((bg_fr frh31 (by decide +kernel) k j k0 (Or.inl k1)).trans (bg_fr frh5 (by decide +kernel) k j k0 (Or.inl k1))))))))))
                  exact w_iret gz_115_158 gm_115 (k1 h113 (gh113) (by omega) (by omega) (by first | exact bfE | assumption | omega) Ln_h113)
                ·
                  refine w_iconst gz_115_127 (by decide) ?_
                  refine w_goto (t := 132) gz_115_128 rfl ?_
                  refine w_istore (ls' := [(2, 0), (0, x1), (0, x2), (0, x3), (0, x4), (0, x5), (0, 1)]) gz_115_132 gm_115 rfl rfl rfl ?_
                  refine w_iload gz_115_134 rfl ?_
                  refine w_ifeq (t := 157) gz_115_136 rfl (fun u127 => by exfalso; omega) (fun u127 => ?_)
                  refine w_aload_n gz_115_139 rfl ?_
                  refine w_getX (v := 145) gz_115_140 is_0 rd_9 rfl (by decide) rfl ?_
                  refine w_aload_n gz_115_143 rfl ?_
                  refine w_getX (v := 148) gz_115_144 is_0 rd_9 rfl (by decide) rfl ?_
                  refine w_inv (k := 1) (as := [(2, 148)]) (r := []) (x := 145) (ls0 := [(2, 145), (2, 148), (9, 0)]) gz_115_147 gm_116 rfl is_145 rd_6 rfl rfl rfl rfl rfl (c_Rows_same5 (d := (d + 6)) (x0 := 145) (x1 := 148) is_145 is_148 (fun xp130 => ?_) (fun xp131 => ?_))
                  ·
                    show wp l rho (d + 7) 115 150 [(2, 0), (0, x1), (0, x2), (0, x3), (0, x4), (0, x5), (0, 1)] [(0, 0)] h113 Q
                    refine w_ifeq (t := 157) gz_115_150 rfl (fun u132 => ?_) (fun u132 => by exfalso; omega)
                    refine w_iconst gz_115_157 (by decide) ?_
                    have bfE : ∀ k j : Int, 0 ≤ k → k < 94 → h113 k j = h k j := fun k j k0 k1 => ((bc_h113 k j k0 k1).trans ((bc_h95 k j k0 k1).trans ((bc_h77 k j k0 k1).trans ((my_cp_ne fh72 (by omega)).trans ((my_cp_ne fh68 (by omega)).trans ((my_cp_ne fh62 (by omega)).trans ((my_cp_ne fh58 (by omega)).trans ((bg_fr frh31 (by decide +kernel) k j k0 (Or.inl k1)).trans (bg_fr frh5 (by decide +kernel) k j k0 (Or.inl k1))))))))))
                    exact w_iret gz_115_158 gm_115 (k1 h113 (gh113) (by omega) (by omega) (by first | exact bfE | assumption | omega) Ln_h113)
                  ·
                    show wp l rho (d + 7) 115 150 [(2, 0), (0, x1), (0, x2), (0, x3), (0, x4), (0, x5), (0, 1)] [(0, 1)] h113 Q
                    refine w_ifeq (t := 157) gz_115_150 rfl (fun u133 => by exfalso; omega) (fun u133 => ?_)
                    refine w_iconst gz_115_153 (by decide) ?_
                    refine w_goto (t := 158) gz_115_154 rfl ?_
                    have bfE : ∀ k j : Int, 0 ≤ k → k < 94 → h113 k j = h k j := fun k j k0 k1 => ((bc_h113 k j k0 k1).trans ((bc_h95 k j k0 k1).trans ((bc_h77 k j k0 k1).trans ((my_cp_ne fh72 (by omega)).trans ((my_cp_ne fh68 (by omega)).trans ((my_cp_ne fh62 (by omega)).trans ((my_cp_ne fh58 (by omega)).trans ((bg_fr frh31 (by decide +kernel) k j k0 (Or.inl k1)).trans (bg_fr frh5 (by decide +kernel) k j k0 (Or.inl k1))))))))))
                    exact w_iret gz_115_158 gm_115 (k2 h113 (gh113) (by omega) (by omega) (by first | exact bfE | assumption | omega) Ln_h113)
theorem c_ThroughWindow_back4 {l : Launch} {rho : Nat → Int32} {d : Nat} {h : my_H} {Q : my_H → my_V → Prop} {x1 x2 x3 x4 : Int} (n_Ln : Ln h) (hlw : LwA h) (hwo : WOk h 7) (k0 : ∀ (h' : my_H), my_fr [(2, 11), (2, 12), (2, 13), (2, 14), (2, 15), (2, 16), (7, 0), (7, 1), (7, 2), (7, 3), (7, 4), (7, 5), (8, 0), (8, 1), (30, -1), (31, -1), (41, -1), (42, -1), (43, -1), (44, -1)] h h' → (∀ k j : Int, 0 ≤ k → k < 94 → h' k j = h k j) → Ln h' → Q h' (0, (-1))) (k1 : ∀ (h' : my_H), my_fr [(2, 11), (2, 12), (2, 13), (2, 14), (2, 15), (2, 16), (7, 0), (7, 1), (7, 2), (7, 3), (7, 4), (7, 5), (8, 0), (8, 1), (30, -1), (31, -1), (41, -1), (42, -1), (43, -1), (44, -1)] h h' → 0 ≤ x1 → x1 ≤ 5 → 0 ≤ x2 → x2 ≤ 9 → 0 ≤ x3 → x3 ≤ 7 → (∀ k j : Int, 0 ≤ k → k < 94 → h' k j = h k j) → Ln h' → Q h' (0, 0)) (k2 : ∀ (h' : my_H), my_fr [(2, 11), (2, 12), (2, 13), (2, 14), (2, 15), (2, 16), (7, 0), (7, 1), (7, 2), (7, 3), (7, 4), (7, 5), (8, 0), (8, 1), (30, -1), (31, -1), (41, -1), (42, -1), (43, -1), (44, -1)] h h' → 0 ≤ x1 → x1 ≤ 5 → 0 ≤ x2 → x2 ≤ 9 → 0 ≤ x3 → x3 ≤ 7 → (∀ k j : Int, 0 ≤ k → k < 94 → h' k j = h k j) → Ln h' → Q h' (0, 1)) : wp l rho (d + 7) 117 0 [(2, 0), (0, x1), (0, x2), (0, x3), (0, x4), (9, 0), (9, 0)] [] h Q := by
  refine w_aload_n gz_117_0 rfl ?_
  refine w_getX (v := 94) gz_117_1 is_0 rd_9 rfl (by decide) rfl ?_
  refine w_aload_n gz_117_4 rfl ?_
  refine w_getX (v := 7) gz_117_5 is_0 rd_9 rfl (by decide) rfl ?_
  refine w_iload_n gz_117_8 rfl ?_
  refine w_iconst gz_117_9 (by decide) ?_
  refine w_iload_n gz_117_10 rfl ?_
  refine w_iload_n gz_117_11 rfl ?_
  refine w_iload gz_117_12 rfl ?_
  refine w_inv (k := 0) (as := [(0, x4), (0, x3), (0, x2), (0, 0), (0, x1), (2, 7)]) (r := []) (x := 94) (ls0 := [(2, 94), (2, 7), (0, x1), (0, 0), (0, x2), (0, x3), (0, x4)]) gz_117_14 gm_87 rfl is_94 rd_2 rfl rfl rfl rfl rfl (c_Desk_opens5 (d := (d + 1)) (x1 := 7) (x2 := x1) (x3 := 0) (x4 := x2) (x5 := x3) (x6 := x4) is_7 n_Ln (hlw.1) (hwo.1.1) (fun h3 frh3 xp4 => ?_) (fun h5 frh5 w6 w7 w8 w9 w10 w11 xp12 xp13 xp14 xp15 xp16 xp17 xp18 xp19 xp20 xp21 xp22 xp23 xp24 => ?_))
  ·
    have gh3 : my_fr [(2, 11), (2, 12), (2, 13), (2, 14), (2, 15), (2, 16), (7, 0), (7, 1), (7, 2), (7, 3), (7, 4), (7, 5), (8, 0), (8, 1), (30, -1), (31, -1), (41, -1), (42, -1), (43, -1), (44, -1)] h h3 := my_fr.tr my_fr.rf (frh3.mo rfl)
    have Ln_h3 : Ln h3 := Ln_ag (my_ag.fr frh3 rfl) n_Ln
    show wp l rho (d + 7) 117 17 [(2, 0), (0, x1), (0, x2), (0, x3), (0, x4), (9, 0), (9, 0)] [(0, 0)] h3 Q
    refine w_ifne (t := 22) gz_117_17 rfl (fun u25 => by exfalso; omega) (fun u25 => ?_)
    refine w_iconst gz_117_20 (by decide) ?_
    have bfE : ∀ k j : Int, 0 ≤ k → k < 94 → h3 k j = h k j := fun k j k0 k1 => (bg_fr frh3 (by decide +kernel) k j k0 (Or.inl k1))
    exact w_iret gz_117_21 gm_117 (k0 h3 (gh3) (by first | exact bfE | assumption | omega) Ln_h3)
  ·
    have gh5 : my_fr [(2, 11), (2, 12), (2, 13), (2, 14), (2, 15), (2, 16), (7, 0), (7, 1), (7, 2), (7, 3), (7, 4), (7, 5), (8, 0), (8, 1), (30, -1), (31, -1), (41, -1), (42, -1), (43, -1), (44, -1)] h h5 := my_fr.tr my_fr.rf (frh5.mo rfl)
    have Ln_h5 : Ln h5 := Ln_ag (my_ag.fr frh5 rfl) n_Ln
    show wp l rho (d + 7) 117 17 [(2, 0), (0, x1), (0, x2), (0, x3), (0, x4), (9, 0), (9, 0)] [(0, 1)] h5 Q
    refine w_ifne (t := 22) gz_117_17 rfl (fun u26 => ?_) (fun u26 => by exfalso; omega)
    have hi27 : 0 ≤ x2 := by omega
    have hi28 : x2 ≤ 9 := by omega
    have hi29 : 0 ≤ x3 := by omega
    have hi30 : x3 ≤ 7 := by omega
    refine w_aload_n gz_117_22 rfl ?_
    refine w_getX (v := 94) gz_117_23 is_0 rd_9 rfl (by decide) rfl ?_
    refine w_getX (v := 98) gz_117_26 is_94 rd_2 rfl (by decide) rfl ?_
    refine w_iload_n gz_117_29 rfl ?_
    refine w_iload_n gz_117_30 rfl ?_
    refine w_inv (k := 0) (as := [(0, x3), (0, x2)]) (r := []) (x := 98) (ls0 := [(2, 98), (0, x2), (0, x3)]) gz_117_31 gm_74 rfl is_98 rd_8 rfl rfl rfl rfl rfl ?_
    refine w_aload_n gz_74_0 rfl ?_
    refine w_getX (v := 99) gz_74_1 is_98 rd_8 rfl (by decide) rfl ?_
    refine w_iload_n gz_74_4 rfl ?_
    refine w_bipush gz_74_5 (by decide) ?_
    refine w_imul gz_74_7 ⟨by omega, by omega⟩ ?_
    refine w_iload_n gz_74_8 rfl ?_
    refine w_iadd gz_74_9 ⟨by omega, by omega⟩ ?_
    refine w_gldA gz_74_10 is_99 rd_42 (by omega) (by omega) (fun v34 ev34 pv34 qv34 => ?_)
    refine w_iret gz_74_11 gm_74 ?_
    show wp l rho (d + 7) 117 34 [(2, 0), (0, x1), (0, x2), (0, x3), (0, x4), (9, 0), (9, 0)] [(0, v34)] h5 Q
    refine w_istore (ls' := [(2, 0), (0, x1), (0, x2), (0, x3), (0, x4), (0, v34), (9, 0)]) gz_117_34 gm_117 rfl rfl rfl ?_
    have bfA : ∀ k j : Int, 0 ≤ k → k < 94 → h5 k j = h k j := fun k j k0 k1 => (bg_fr frh5 (by decide +kernel) k j k0 (Or.inl k1))
    refine w_aload_n gz_117_36 rfl ?_
    refine w_getX (v := 145) gz_117_37 is_0 rd_9 rfl (by decide) rfl ?_
    refine w_aload_n gz_117_40 rfl ?_
    refine w_getX (v := 7) gz_117_41 is_0 rd_9 rfl (by decide) rfl ?_
    refine w_inv (k := 0) (as := [(2, 7)]) (r := []) (x := 145) (ls0 := [(2, 145), (2, 7)]) gz_117_44 gm_25 rfl is_145 rd_6 rfl rfl rfl rfl rfl ?_
    refine w_aload_n gz_25_0 rfl ?_
    refine w_getX (v := 8) gz_25_1 is_7 rd_6 rfl (by decide) rfl ?_
    refine w_iconst gz_25_4 (by decide) ?_
    refine w_aload_n gz_25_5 rfl ?_
    refine w_getX (v := 146) gz_25_6 is_145 rd_6 rfl (by decide) rfl ?_
    refine w_iconst gz_25_9 (by decide) ?_
    refine w_aload_n gz_25_10 rfl ?_
    refine w_getX (v := 146) gz_25_11 is_145 rd_6 rfl (by decide) rfl ?_
    refine v_alen (j := 240) gz_25_14 rfl is_146 rd_30 (by decide) ?_
    refine w_cpU gz_25_15 is_8 rd_30 is_146 rd_30 (by omega) (by omega) (by omega) (by omega) (by omega) rfl (by decide) (by decide) (fun h40 fh40 => ?_)
    have gh40 : my_fr [(2, 11), (2, 12), (2, 13), (2, 14), (2, 15), (2, 16), (7, 0), (7, 1), (7, 2), (7, 3), (7, 4), (7, 5), (8, 0), (8, 1), (30, -1), (31, -1), (41, -1), (42, -1), (43, -1), (44, -1)] h h40 := my_fr.cp gh5 is_146 fh40 rfl
    have Ln_h40 : Ln h40 := Ln_ag (my_ag.cp fh40 is_146 rfl) Ln_h5
    have fc96 := fh40
    refine w_aload_n gz_25_18 rfl ?_
    refine w_getX (v := 9) gz_25_19 is_7 rd_6 rfl (by decide) rfl ?_
    refine w_iconst gz_25_22 (by decide) ?_
    refine w_aload_n gz_25_23 rfl ?_
    refine w_getX (v := 147) gz_25_24 is_145 rd_6 rfl (by decide) rfl ?_
    refine w_iconst gz_25_27 (by decide) ?_
    refine w_aload_n gz_25_28 rfl ?_
    refine w_getX (v := 147) gz_25_29 is_145 rd_6 rfl (by decide) rfl ?_
    refine v_alen (j := 3) gz_25_32 rfl is_147 rd_31 (by decide) ?_
    refine w_cpU gz_25_33 is_9 rd_31 is_147 rd_31 (by omega) (by omega) (by omega) (by omega) (by omega) rfl (by decide) (by decide) (fun h44 fh44 => ?_)
    have gh44 : my_fr [(2, 11), (2, 12), (2, 13), (2, 14), (2, 15), (2, 16), (7, 0), (7, 1), (7, 2), (7, 3), (7, 4), (7, 5), (8, 0), (8, 1), (30, -1), (31, -1), (41, -1), (42, -1), (43, -1), (44, -1)] h h44 := my_fr.cp gh40 is_147 fh44 rfl
    have Ln_h44 : Ln h44 := Ln_ag (my_ag.cp fh44 is_147 rfl) Ln_h40
    have fc97 := fh44
    refine w_vret gz_25_36 gm_25 ?_
    show wp l rho (d + 7) 117 47 [(2, 0), (0, x1), (0, x2), (0, x3), (0, x4), (0, v34), (9, 0)] [] h44 Q
    have ca1 := fc96
    have cb1 := fc97
    have w1 := CpW ca1 cb1 (by omega) (by omega) bfA
    have agP : my_ag F5 h h44 := (my_ag.fr (F := F5) gh44 rfl)
    have wo1 := WOk_cp (y := 145) rfl rfl agP hwo w1.1 w1.2.1
    refine w_aload_n gz_117_47 rfl ?_
    refine w_getX (v := 94) gz_117_48 is_0 rd_9 rfl (by decide) rfl ?_
    refine w_aload_n gz_117_51 rfl ?_
    refine w_getX (v := 145) gz_117_52 is_0 rd_9 rfl (by decide) rfl ?_
    refine w_iload_n gz_117_55 rfl ?_
    refine w_iconst gz_117_56 (by decide) ?_
    refine w_iload_n gz_117_57 rfl ?_
    refine w_iload_n gz_117_58 rfl ?_
    refine w_iload gz_117_59 rfl ?_
    refine w_inv (k := 0) (as := [(0, x4), (0, x3), (0, x2), (0, 0), (0, x1), (2, 145)]) (r := []) (x := 94) (ls0 := [(2, 94), (2, 145), (0, x1), (0, 0), (0, x2), (0, x3), (0, x4)]) gz_117_61 gm_114 rfl is_94 rd_2 rfl rfl rfl rfl rfl (c_Desk_putOn5 (d := d) (x1 := 145) (x2 := x1) (x3 := 0) (x4 := x2) (x5 := x3) (x6 := x4) is_145 Ln_h44 (LwA_ag n_Ln agP hlw) (wo1) ((by unfold zqXf; omega)) (fun h47 frh47 xp48 => ?_) (fun h49 v50 frh49 w51 w52 w53 w54 w55 xp56 xp57 xp58 => ?_))
    ·
      have gh47 : my_fr [(2, 11), (2, 12), (2, 13), (2, 14), (2, 15), (2, 16), (7, 0), (7, 1), (7, 2), (7, 3), (7, 4), (7, 5), (8, 0), (8, 1), (30, -1), (31, -1), (41, -1), (42, -1), (43, -1), (44, -1)] h h47 := my_fr.tr gh44 (frh47.mo rfl)
      have Ln_h47 : Ln h47 := Ln_ag (my_ag.fr frh47 rfl) Ln_h44
      show wp l rho (d + 7) 117 64 [(2, 0), (0, x1), (0, x2), (0, x3), (0, x4), (0, v34), (9, 0)] [(0, (-1))] h47 Q
      have bc_h47 : ∀ k j : Int, 0 ≤ k → k < 94 → h47 k j = h44 k j := fun k j k0 k1 => xp48.2 k j k0 (Or.inl k1)
      have kx_h47 : ∀ k j : Int, 148 ≤ k → k ≤ 150 → h47 k j = h44 k j := fun k j k0 k1 => xp48.2 k j (by omega) (Or.inr ⟨by omega, by omega⟩)
      have agP : my_ag F5 h h47 := (my_ag.fr (F := F5) gh47 rfl)
      refine w_iconst gz_117_64 (by decide) ?_
      refine w_iceq (t := 93) gz_117_65 rfl (fun u59 => ?_) (fun u59 => by exfalso; omega)
      refine w_iconst gz_117_93 (by decide) ?_
      refine w_istore (ls' := [(2, 0), (0, x1), (0, x2), (0, x3), (0, x4), (0, v34), (0, 0)]) gz_117_94 gm_117 rfl rfl rfl ?_
      refine w_iload gz_117_96 rfl ?_
      refine w_ifeq (t := 119) gz_117_98 rfl (fun u60 => ?_) (fun u60 => by exfalso; omega)
      refine w_iconst gz_117_119 (by decide) ?_
      have bfE : ∀ k j : Int, 0 ≤ k → k < 94 → h47 k j = h k j := fun k j k0 k1 => ((bc_h47 k j k0 k1).trans ((my_cp_ne fh44 (by omega)).trans ((my_cp_ne fh40 (by omega)).trans (bg_fr frh5 (by decide +kernel) k j k0 (Or.inl k1)))))
      exact w_iret gz_117_120 gm_117 (k1 h47 (gh47) (by omega) (by omega) (by omega) (by omega) (by omega) (by omega) (by first | exact bfE | assumption | omega) Ln_h47)
    ·
      have gh49 : my_fr [(2, 11), (2, 12), (2, 13), (2, 14), (2, 15), (2, 16), (7, 0), (7, 1), (7, 2), (7, 3), (7, 4), (7, 5), (8, 0), (8, 1), (30, -1), (31, -1), (41, -1), (42, -1), (43, -1), (44, -1)] h h49 := my_fr.tr gh44 (frh49.mo rfl)
      have Ln_h49 : Ln h49 := Ln_ag (my_ag.fr frh49 rfl) Ln_h44
      show wp l rho (d + 7) 117 64 [(2, 0), (0, x1), (0, x2), (0, x3), (0, x4), (0, v34), (9, 0)] [(0, v50)] h49 Q
      have bc_h49 : ∀ k j : Int, 0 ≤ k → k < 94 → h49 k j = h44 k j := fun k j k0 k1 => xp58 k j k0 (Or.inl k1) (by omega)
      have kx_h49 : ∀ k j : Int, 148 ≤ k → k ≤ 150 → h49 k j = h44 k j := fun k j k0 k1 => xp58 k j (by omega) (Or.inr ⟨by omega, by omega⟩) (by omega)
      have pp61 := xp57
      have agP : my_ag F5 h h49 := (my_ag.fr (F := F5) gh49 rfl)
      refine w_iconst gz_117_64 (by decide) ?_
      refine w_iceq (t := 93) gz_117_65 rfl (fun u61 => ?_) (fun u61 => ?_)
      ·
        refine w_iconst gz_117_93 (by decide) ?_
        refine w_istore (ls' := [(2, 0), (0, x1), (0, x2), (0, x3), (0, x4), (0, v34), (0, 0)]) gz_117_94 gm_117 rfl rfl rfl ?_
        refine w_iload gz_117_96 rfl ?_
        refine w_ifeq (t := 119) gz_117_98 rfl (fun u62 => ?_) (fun u62 => by exfalso; omega)
        refine w_iconst gz_117_119 (by decide) ?_
        have bfE : ∀ k j : Int, 0 ≤ k → k < 94 → h49 k j = h k j := fun k j k0 k1 => ((bc_h49 k j k0 k1).trans ((my_cp_ne fh44 (by omega)).trans ((my_cp_ne fh40 (by omega)).trans (bg_fr frh5 (by decide +kernel) k j k0 (Or.inl k1)))))
        exact w_iret gz_117_120 gm_117 (k1 h49 (gh49) (by omega) (by omega) (by omega) (by omega) (by omega) (by omega) (by first | exact bfE | assumption | omega) Ln_h49)
      ·
        refine w_aload_n gz_117_68 rfl ?_
        refine w_getX (v := 94) gz_117_69 is_0 rd_9 rfl (by decide) rfl ?_
        refine w_aload_n gz_117_72 rfl ?_
        refine w_getX (v := 145) gz_117_73 is_0 rd_9 rfl (by decide) rfl ?_
        refine w_iload_n gz_117_76 rfl ?_
        refine w_iconst gz_117_77 (by decide) ?_
        refine w_iload_n gz_117_78 rfl ?_
        refine w_iload_n gz_117_79 rfl ?_
        refine w_iload gz_117_80 rfl ?_
        refine w_inv (k := 0) (as := [(0, v34), (0, x3), (0, x2), (0, 0), (0, x1), (2, 145)]) (r := []) (x := 94) (ls0 := [(2, 94), (2, 145), (0, x1), (0, 0), (0, x2), (0, x3), (0, v34)]) gz_117_82 gm_114 rfl is_94 rd_2 rfl rfl rfl rfl rfl (c_Desk_putOn5 (d := d) (x1 := 145) (x2 := x1) (x3 := 0) (x4 := x2) (x5 := x3) (x6 := v34) is_145 Ln_h49 (LwA_ag n_Ln agP hlw) (pp61.2) ((by unfold zqXf; omega)) (fun h65 frh65 xp66 => ?_) (fun h67 v68 frh67 w69 w70 w71 w72 w73 xp74 xp75 xp76 => ?_))
        ·
          have gh65 : my_fr [(2, 11), (2, 12), (2, 13), (2, 14), (2, 15), (2, 16), (7, 0), (7, 1), (7, 2), (7, 3), (7, 4), (7, 5), (8, 0), (8, 1), (30, -1), (31, -1), (41, -1), (42, -1), (43, -1), (44, -1)] h h65 := my_fr.tr gh49 (frh65.mo rfl)
          have Ln_h65 : Ln h65 := Ln_ag (my_ag.fr frh65 rfl) Ln_h49
          show wp l rho (d + 7) 117 85 [(2, 0), (0, x1), (0, x2), (0, x3), (0, x4), (0, v34), (9, 0)] [(0, (-1))] h65 Q
          have bc_h65 : ∀ k j : Int, 0 ≤ k → k < 94 → h65 k j = h49 k j := fun k j k0 k1 => xp66.2 k j k0 (Or.inl k1)
          have kx_h65 : ∀ k j : Int, 148 ≤ k → k ≤ 150 → h65 k j = h49 k j := fun k j k0 k1 => xp66.2 k j (by omega) (Or.inr ⟨by omega, by omega⟩)
          have agP : my_ag F5 h h65 := (my_ag.fr (F := F5) gh65 rfl)
          refine w_iconst gz_117_85 (by decide) ?_
          refine w_iceq (t := 93) gz_117_86 rfl (fun u77 => ?_) (fun u77 => by exfalso; omega)
          refine w_iconst gz_117_93 (by decide) ?_
          refine w_istore (ls' := [(2, 0), (0, x1), (0, x2), (0, x3), (0, x4), (0, v34), (0, 0)]) gz_117_94 gm_117 rfl rfl rfl ?_
          refine w_iload gz_117_96 rfl ?_
          refine w_ifeq (t := 119) gz_117_98 rfl (fun u78 => ?_) (fun u78 => by exfalso; omega)
          refine w_iconst gz_117_119 (by decide) ?_
          have bfE : ∀ k j : Int, 0 ≤ k → k < 94 → h65 k j = h k j := fun k j k0 k1 => ((bc_h65 k j k0 k1).trans ((bc_h49 k j k0 k1).trans ((my_cp_ne fh44 (by omega)).trans ((my_cp_ne fh40 (by omega)).trans (bg_fr frh5 (by decide +kernel) k j k0 (Or.inl k1))))))
          exact w_iret gz_117_120 gm_117 (k1 h65 (gh65) (by omega) (by omega) (by omega) (by omega) (by omega) (by omega) (by first | exact bfE | assumption | omega) Ln_h65)
        ·
          have gh67 : my_fr [(2, 11), (2, 12), (2, 13), (2, 14), (2, 15), (2, 16), (7, 0), (7, 1), (7, 2), (7, 3), (7, 4), (7, 5), (8, 0), (8, 1), (30, -1), (31, -1), (41, -1), (42, -1), (43, -1), (44, -1)] h h67 := my_fr.tr gh49 (frh67.mo rfl)
          have Ln_h67 : Ln h67 := Ln_ag (my_ag.fr frh67 rfl) Ln_h49
          show wp l rho (d + 7) 117 85 [(2, 0), (0, x1), (0, x2), (0, x3), (0, x4), (0, v34), (9, 0)] [(0, v68)] h67 Q
          have bc_h67 : ∀ k j : Int, 0 ≤ k → k < 94 → h67 k j = h49 k j := fun k j k0 k1 => xp76 k j k0 (Or.inl k1) (by omega)
          have kx_h67 : ∀ k j : Int, 148 ≤ k → k ≤ 150 → h67 k j = h49 k j := fun k j k0 k1 => xp76 k j (by omega) (Or.inr ⟨by omega, by omega⟩) (by omega)
          have pp82 := xp75
          have agP : my_ag F5 h h67 := (my_ag.fr (F := F5) gh67 rfl)
          refine w_iconst gz_117_85 (by decide) ?_
          refine w_iceq (t := 93) gz_117_86 rfl (fun u79 => ?_) (fun u79 => ?_)
          ·
            refine w_iconst gz_117_93 (by decide) ?_
            refine w_istore (ls' := [(2, 0), (0, x1), (0, x2), (0, x3), (0, x4), (0, v34), (0, 0)]) gz_117_94 gm_117 rfl rfl rfl ?_
            refine w_iload gz_117_96 rfl ?_
            refine w_ifeq (t := 119) gz_117_98 rfl (fun u80 => ?_) (fun u80 => by exfalso; omega)
            refine w_iconst gz_117_119 (by decide) ?_
            have bfE : ∀ k j : Int, 0 ≤ k → k < 94 → h67 k j = h k j := fun k j k0 k1 => ((bc_h67 k j k0 k1).trans ((bc_h49 k j k0 k1).trans ((my_cp_ne fh44 (by omega)).trans ((my_cp_ne fh40 (by omega)).trans (bg_fr frh5 (by decide +kernel) k j k0 (Or.inl k1))))))
            exact w_iret gz_117_120 gm_117 (k1 h67 (gh67) (by omega) (by omega) (by omega) (by omega) (by omega) (by omega) (by first | exact bfE | assumption | omega) Ln_h67)
          ·
            refine w_iconst gz_117_89 (by decide) ?_
            refine w_goto (t := 94) gz_117_90 rfl ?_
            refine w_istore (ls' := [(2, 0), (0, x1), (0, x2), (0, x3), (0, x4), (0, v34), (0, 1)]) gz_117_94 gm_117 rfl rfl rfl ?_
            refine w_iload gz_117_96 rfl ?_
            refine w_ifeq (t := 119) gz_117_98 rfl (fun u81 => by exfalso; omega) (fun u81 => ?_)
            refine w_aload_n gz_117_101 rfl ?_
            refine w_getX (v := 145) gz_117_102 is_0 rd_9 rfl (by decide) rfl ?_
            refine w_aload_n gz_117_105 rfl ?_
            refine w_getX (v := 7) gz_117_106 is_0 rd_9 rfl (by decide) rfl ?_
            refine w_inv (k := 1) (as := [(2, 7)]) (r := []) (x := 145) (ls0 := [(2, 145), (2, 7), (9, 0)]) gz_117_109 gm_116 rfl is_145 rd_6 rfl rfl rfl rfl rfl (c_Rows_same5 (d := (d + 6)) (x0 := 145) (x1 := 7) is_145 is_7 (fun xp84 => ?_) (fun xp85 => ?_))
            ·
              show wp l rho (d + 7) 117 112 [(2, 0), (0, x1), (0, x2), (0, x3), (0, x4), (0, v34), (0, 1)] [(0, 0)] h67 Q
              refine w_ifeq (t := 119) gz_117_112 rfl (fun u86 => ?_) (fun u86 => by exfalso; omega)
              refine w_iconst gz_117_119 (by decide) ?_
              have bfE : ∀ k j : Int, 0 ≤ k → k < 94 → h67 k j = h k j := fun k j k0 k1 => ((bc_h67 k j k0 k1).trans ((bc_h49 k j k0 k1).trans ((my_cp_ne fh44 (by omega)).trans ((my_cp_ne fh40 (by omega)).trans (bg_fr frh5 (by decide +kernel) k j k0 (Or.inl k1))))))
              exact w_iret gz_117_120 gm_117 (k1 h67 (gh67) (by omega) (by omega) (by omega) (by omega) (by omega) (by omega) (by first | exact bfE | assumption | omega) Ln_h67)
            ·
              show wp l rho (d + 7) 117 112 [(2, 0), (0, x1), (0, x2), (0, x3), (0, x4), (0, v34), (0, 1)] [(0, 1)] h67 Q
              refine w_ifeq (t := 119) gz_117_112 rfl (fun u87 => by exfalso; omega) (fun u87 => ?_)
              refine w_iconst gz_117_115 (by decide) ?_
              refine w_goto (t := 120) gz_117_116 rfl ?_
              have bfE : ∀ k j : Int, 0 ≤ k → k < 94 → h67 k j = h k j := fun k j k0 k1 => ((bc_h67 k j k0 k1).trans ((bc_h49 k j k0 k1).trans ((my_cp_ne fh44 (by omega)).trans ((my_cp_ne fh40 (by omega)).trans (bg_fr frh5 (by decide +kernel) k j k0 (Or.inl k1))))))
              exact w_iret gz_117_120 gm_117 (k2 h67 (gh67) (by omega) (by omega) (by omega) (by omega) (by omega) (by omega) (by first | exact bfE | assumption | omega) Ln_h67)
end MYNThroughWindow_way5
