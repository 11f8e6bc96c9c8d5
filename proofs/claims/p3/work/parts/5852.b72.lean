/-! contracts, printed by wip/gen/gy.py -/
section MYNThroughWindow_span5
theorem c_ThroughWindow_span5 {l : Launch} {rho : Nat → Int32} {d : Nat} {h : my_H} {Q : my_H → my_V → Prop} {x1 x2 x3 x4 : Int} (k0 : ∀ (h' : my_H), my_fr [(26, -1), (27, -1)] h h' → ¬ (zySp (zqCA h) x1 x2 x3 x4 ∧ qOut (h 8) x1 x2 x3 x4 20 ≤ 0) → ((∀ j : Int, h' 3 j = h 3 j) ∧ ∀ j : Int, h' 4 j = h 4 j) → Q h' (0, 0)) (k1 : ∀ (h' : my_H), my_fr [(26, -1), (27, -1)] h h' → 0 ≤ x1 → x1 ≤ 2 → 0 ≤ x2 → x2 ≤ 3 → 0 ≤ x3 → x3 ≤ 19 → 0 ≤ x4 → x4 ≤ 19 → zySp (zqCA h) x1 x2 x3 x4 ∧ qOut (h 8) x1 x2 x3 x4 20 ≤ 0 → h' 3 = zyU (h 3) (4 * x1 + x2) x3 ∧ h' 4 = zyU (h 4) (4 * x1 + x2) x4 → Q h' (0, 1)) : wp l rho (d + 2) 26 0 [(2, 0), (0, x1), (0, x2), (0, x3), (0, x4)] [] h Q := by
  refine w_aload_n gz_26_0 rfl ?_
  refine w_getX (v := 1) gz_26_1 is_0 rd_9 rfl (by decide) rfl ?_
  refine w_iload_n gz_26_4 rfl ?_
  refine w_iload_n gz_26_5 rfl ?_
  refine w_inv (k := 0) (as := [(0, x2), (0, x1)]) (r := []) (x := 1) (ls0 := [(2, 1), (0, x1), (0, x2)]) gz_26_6 gm_27 rfl is_1 rd_3 rfl rfl rfl rfl rfl ?_
  refine w_aload_n gz_27_0 rfl ?_
  refine w_iload_n gz_27_1 rfl ?_
  refine w_inv (k := 0) (as := [(0, x1)]) (r := []) (x := 1) (ls0 := [(2, 1), (0, x1)]) gz_27_2 gm_13 rfl is_1 rd_3 rfl rfl rfl rfl rfl ?_
  refine w_iload_n gz_13_0 rfl ?_
  refine w_iflt (t := 22) gz_13_1 rfl (fun u2 => ?_) (fun u2 => ?_)
  ·
    refine w_iconst gz_13_22 (by decide) ?_
    refine w_bret gz_13_23 gm_13 (by omega) (by omega) ?_
    show wp l rho (d + 1) 27 5 [(2, 1), (0, x1), (0, x2)] [(0, 0)] h _
    refine w_ifeq (t := 26) gz_27_5 rfl (fun u3 => ?_) (fun u3 => by exfalso; omega)
    refine w_iconst gz_27_26 (by decide) ?_
    refine w_bret gz_27_27 gm_27 (by omega) (by omega) ?_
    show wp l rho (d + 2) 26 9 [(2, 0), (0, x1), (0, x2), (0, x3), (0, x4)] [(0, 0)] h Q
    refine w_ifeq (t := 36) gz_26_9 rfl (fun u4 => ?_) (fun u4 => by exfalso; omega)
    refine w_iconst gz_26_36 (by decide) ?_
    exact w_bret gz_26_37 gm_26 (by omega) (by omega) (k0 h (my_fr.rf) (by first | exact ⟨(show ((0 ≤ x1 ∧ x1 ≤ 2) ∧ 0 ≤ x2 ∧ x2 < h 2 x1) ∧ (0 ≤ x3 ∧ x3 ≤ 19) ∧ x3 ≤ x4 ∧ x4 ≤ 19 by omega), by omega⟩ | exact sp_3 f51 f66 (by omega) (by omega) | exact (fun z => by have z1 : ((0 ≤ x1 ∧ x1 ≤ 2) ∧ 0 ≤ x2 ∧ x2 < h 2 x1) ∧ (0 ≤ x3 ∧ x3 ≤ 19) ∧ x3 ≤ x4 ∧ x4 ≤ 19 := z.1; omega) | exact (fun z => by have q := z.2; omega) | exact ⟨fun _ => rfl, fun _ => rfl⟩ | assumption | omega) (by first | exact ⟨(show ((0 ≤ x1 ∧ x1 ≤ 2) ∧ 0 ≤ x2 ∧ x2 < h 2 x1) ∧ (0 ≤ x3 ∧ x3 ≤ 19) ∧ x3 ≤ x4 ∧ x4 ≤ 19 by omega), by omega⟩ | exact sp_3 f51 f66 (by omega) (by omega) | exact (fun z => by have z1 : ((0 ≤ x1 ∧ x1 ≤ 2) ∧ 0 ≤ x2 ∧ x2 < h 2 x1) ∧ (0 ≤ x3 ∧ x3 ≤ 19) ∧ x3 ≤ x4 ∧ x4 ≤ 19 := z.1; omega) | exact (fun z => by have q := z.2; omega) | exact ⟨fun _ => rfl, fun _ => rfl⟩ | assumption | omega))
  ·
    refine w_iload_n gz_13_4 rfl ?_
    refine w_iconst gz_13_5 (by decide) ?_
    refine w_icge (t := 22) gz_13_6 rfl (fun u5 => ?_) (fun u5 => ?_)
    ·
      refine w_iconst gz_13_22 (by decide) ?_
      refine w_bret gz_13_23 gm_13 (by omega) (by omega) ?_
      show wp l rho (d + 1) 27 5 [(2, 1), (0, x1), (0, x2)] [(0, 0)] h _
      refine w_ifeq (t := 26) gz_27_5 rfl (fun u6 => ?_) (fun u6 => by exfalso; omega)
      refine w_iconst gz_27_26 (by decide) ?_
      refine w_bret gz_27_27 gm_27 (by omega) (by omega) ?_
      show wp l rho (d + 2) 26 9 [(2, 0), (0, x1), (0, x2), (0, x3), (0, x4)] [(0, 0)] h Q
      refine w_ifeq (t := 36) gz_26_9 rfl (fun u7 => ?_) (fun u7 => by exfalso; omega)
      refine w_iconst gz_26_36 (by decide) ?_
      exact w_bret gz_26_37 gm_26 (by omega) (by omega) (k0 h (my_fr.rf) (by first | exact ⟨(show ((0 ≤ x1 ∧ x1 ≤ 2) ∧ 0 ≤ x2 ∧ x2 < h 2 x1) ∧ (0 ≤ x3 ∧ x3 ≤ 19) ∧ x3 ≤ x4 ∧ x4 ≤ 19 by omega), by omega⟩ | exact sp_3 f51 f66 (by omega) (by omega) | exact (fun z => by have z1 : ((0 ≤ x1 ∧ x1 ≤ 2) ∧ 0 ≤ x2 ∧ x2 < h 2 x1) ∧ (0 ≤ x3 ∧ x3 ≤ 19) ∧ x3 ≤ x4 ∧ x4 ≤ 19 := z.1; omega) | exact (fun z => by have q := z.2; omega) | exact ⟨fun _ => rfl, fun _ => rfl⟩ | assumption | omega) (by first | exact ⟨(show ((0 ≤ x1 ∧ x1 ≤ 2) ∧ 0 ≤ x2 ∧ x2 < h 2 x1) ∧ (0 ≤ x3 ∧ x3 ≤ 19) ∧ x3 ≤ x4 ∧ x4 ≤ 19 by omega), by omega⟩ | exact sp_3 f51 f66 (by omega) (by omega) | exact (fun z => by have z1 : ((0 ≤ x1 ∧ x1 ≤ 2) ∧ 0 ≤ x2 ∧ x2 < h 2 x1) ∧ (0 ≤ x3 ∧ x3 ≤ 19) ∧ x3 ≤ x4 ∧ x4 ≤ 19 := z.1; omega) | exact (fun z => by have q := z.2; omega) | exact ⟨fun _ => rfl, fun _ => rfl⟩ | assumption | omega))
    ·
      refine w_aload_n gz_13_9 rfl ?_
      refine w_getX (v := 2) gz_13_10 is_1 rd_3 rfl (by decide) rfl ?_
      refine w_iload_n gz_13_13 rfl ?_
      refine w_iald gz_13_14 is_2 rd_25 (by omega) (by omega) (fun v9 ev9 pv9 qv9 => ?_)
      refine w_ifle (t := 22) gz_13_15 rfl (fun u10 => ?_) (fun u10 => ?_)
      ·
        refine w_iconst gz_13_22 (by decide) ?_
        refine w_bret gz_13_23 gm_13 (by omega) (by omega) ?_
        show wp l rho (d + 1) 27 5 [(2, 1), (0, x1), (0, x2)] [(0, 0)] h _
        refine w_ifeq (t := 26) gz_27_5 rfl (fun u11 => ?_) (fun u11 => by exfalso; omega)
        refine w_iconst gz_27_26 (by decide) ?_
        refine w_bret gz_27_27 gm_27 (by omega) (by omega) ?_
        show wp l rho (d + 2) 26 9 [(2, 0), (0, x1), (0, x2), (0, x3), (0, x4)] [(0, 0)] h Q
        refine w_ifeq (t := 36) gz_26_9 rfl (fun u12 => ?_) (fun u12 => by exfalso; omega)
        refine w_iconst gz_26_36 (by decide) ?_
        exact w_bret gz_26_37 gm_26 (by omega) (by omega) (k0 h (my_fr.rf) (by first | exact ⟨(show ((0 ≤ x1 ∧ x1 ≤ 2) ∧ 0 ≤ x2 ∧ x2 < h 2 x1) ∧ (0 ≤ x3 ∧ x3 ≤ 19) ∧ x3 ≤ x4 ∧ x4 ≤ 19 by omega), by omega⟩ | exact sp_3 f51 f66 (by omega) (by omega) | exact (fun z => by have z1 : ((0 ≤ x1 ∧ x1 ≤ 2) ∧ 0 ≤ x2 ∧ x2 < h 2 x1) ∧ (0 ≤ x3 ∧ x3 ≤ 19) ∧ x3 ≤ x4 ∧ x4 ≤ 19 := z.1; omega) | exact (fun z => by have q := z.2; omega) | exact ⟨fun _ => rfl, fun _ => rfl⟩ | assumption | omega) (by first | exact ⟨(show ((0 ≤ x1 ∧ x1 ≤ 2) ∧ 0 ≤ x2 ∧ x2 < h 2 x1) ∧ (0 ≤ x3 ∧ x3 ≤ 19) ∧ x3 ≤ x4 ∧ x4 ≤ 19 by omega), by omega⟩ | exact sp_3 f51 f66 (by omega) (by omega) | exact (fun z => by have z1 : ((0 ≤ x1 ∧ x1 ≤ 2) ∧ 0 ≤ x2 ∧ x2 < h 2 x1) ∧ (0 ≤ x3 ∧ x3 ≤ 19) ∧ x3 ≤ x4 ∧ x4 ≤ 19 := z.1; omega) | exact (fun z => by have q := z.2; omega) | exact ⟨fun _ => rfl, fun _ => rfl⟩ | assumption | omega))
      ·
        refine w_iconst gz_13_18 (by decide) ?_
        refine w_goto (t := 23) gz_13_19 rfl ?_
        refine w_bret gz_13_23 gm_13 (by omega) (by omega) ?_
        show wp l rho (d + 1) 27 5 [(2, 1), (0, x1), (0, x2)] [(0, 1)] h _
        refine w_ifeq (t := 26) gz_27_5 rfl (fun u13 => by exfalso; omega) (fun u13 => ?_)
        refine w_iload_n gz_27_8 rfl ?_
        refine w_iflt (t := 26) gz_27_9 rfl (fun u14 => ?_) (fun u14 => ?_)
        ·
          refine w_iconst gz_27_26 (by decide) ?_
          refine w_bret gz_27_27 gm_27 (by omega) (by omega) ?_
          show wp l rho (d + 2) 26 9 [(2, 0), (0, x1), (0, x2), (0, x3), (0, x4)] [(0, 0)] h Q
          refine w_ifeq (t := 36) gz_26_9 rfl (fun u15 => ?_) (fun u15 => by exfalso; omega)
          refine w_iconst gz_26_36 (by decide) ?_
          exact w_bret gz_26_37 gm_26 (by omega) (by omega) (k0 h (my_fr.rf) (by first | exact ⟨(show ((0 ≤ x1 ∧ x1 ≤ 2) ∧ 0 ≤ x2 ∧ x2 < h 2 x1) ∧ (0 ≤ x3 ∧ x3 ≤ 19) ∧ x3 ≤ x4 ∧ x4 ≤ 19 by omega), by omega⟩ | exact sp_3 f51 f66 (by omega) (by omega) | exact (fun z => by have z1 : ((0 ≤ x1 ∧ x1 ≤ 2) ∧ 0 ≤ x2 ∧ x2 < h 2 x1) ∧ (0 ≤ x3 ∧ x3 ≤ 19) ∧ x3 ≤ x4 ∧ x4 ≤ 19 := z.1; omega) | exact (fun z => by have q := z.2; omega) | exact ⟨fun _ => rfl, fun _ => rfl⟩ | assumption | omega) (by first | exact ⟨(show ((0 ≤ x1 ∧ x1 ≤ 2) ∧ 0 ≤ x2 ∧ x2 < h 2 x1) ∧ (0 ≤ x3 ∧ x3 ≤ 19) ∧ x3 ≤ x4 ∧ x4 ≤ 19 by omega), by omega⟩ | exact sp_3 f51 f66 (by omega) (by omega) | exact (fun z => by have z1 : ((0 ≤ x1 ∧ x1 ≤ 2) ∧ 0 ≤ x2 ∧ x2 < h 2 x1) ∧ (0 ≤ x3 ∧ x3 ≤ 19) ∧ x3 ≤ x4 ∧ x4 ≤ 19 := z.1; omega) | exact (fun z => by have q := z.2; omega) | exact ⟨fun _ => rfl, fun _ => rfl⟩ | assumption | omega))
        ·
          refine w_iload_n gz_27_12 rfl ?_
          refine w_aload_n gz_27_13 rfl ?_
          refine w_getX (v := 2) gz_27_14 is_1 rd_3 rfl (by decide) rfl ?_
          refine w_iload_n gz_27_17 rfl ?_
          refine w_iald gz_27_18 is_2 rd_25 (by omega) (by omega) (fun v17 ev17 pv17 qv17 => ?_)
          have zv17 := ev17.trans ev9.symm
          refine w_icge (t := 26) gz_27_19 rfl (fun u18 => ?_) (fun u18 => ?_)
          ·
            refine w_iconst gz_27_26 (by decide) ?_
            refine w_bret gz_27_27 gm_27 (by omega) (by omega) ?_
            show wp l rho (d + 2) 26 9 [(2, 0), (0, x1), (0, x2), (0, x3), (0, x4)] [(0, 0)] h Q
            refine w_ifeq (t := 36) gz_26_9 rfl (fun u19 => ?_) (fun u19 => by exfalso; omega)
            refine w_iconst gz_26_36 (by decide) ?_
            exact w_bret gz_26_37 gm_26 (by omega) (by omega) (k0 h (my_fr.rf) (by first | exact ⟨(show ((0 ≤ x1 ∧ x1 ≤ 2) ∧ 0 ≤ x2 ∧ x2 < h 2 x1) ∧ (0 ≤ x3 ∧ x3 ≤ 19) ∧ x3 ≤ x4 ∧ x4 ≤ 19 by omega), by omega⟩ | exact sp_3 f51 f66 (by omega) (by omega) | exact (fun z => by have z1 : ((0 ≤ x1 ∧ x1 ≤ 2) ∧ 0 ≤ x2 ∧ x2 < h 2 x1) ∧ (0 ≤ x3 ∧ x3 ≤ 19) ∧ x3 ≤ x4 ∧ x4 ≤ 19 := z.1; omega) | exact (fun z => by have q := z.2; omega) | exact ⟨fun _ => rfl, fun _ => rfl⟩ | assumption | omega) (by first | exact ⟨(show ((0 ≤ x1 ∧ x1 ≤ 2) ∧ 0 ≤ x2 ∧ x2 < h 2 x1) ∧ (0 ≤ x3 ∧ x3 ≤ 19) ∧ x3 ≤ x4 ∧ x4 ≤ 19 by omega), by omega⟩ | exact sp_3 f51 f66 (by omega) (by omega) | exact (fun z => by have z1 : ((0 ≤ x1 ∧ x1 ≤ 2) ∧ 0 ≤ x2 ∧ x2 < h 2 x1) ∧ (0 ≤ x3 ∧ x3 ≤ 19) ∧ x3 ≤ x4 ∧ x4 ≤ 19 := z.1; omega) | exact (fun z => by have q := z.2; omega) | exact ⟨fun _ => rfl, fun _ => rfl⟩ | assumption | omega))
          ·
            refine w_iconst gz_27_22 (by decide) ?_
            refine w_goto (t := 27) gz_27_23 rfl ?_
            refine w_bret gz_27_27 gm_27 (by omega) (by omega) ?_
            show wp l rho (d + 2) 26 9 [(2, 0), (0, x1), (0, x2), (0, x3), (0, x4)] [(0, 1)] h Q
            refine w_ifeq (t := 36) gz_26_9 rfl (fun u20 => by exfalso; omega) (fun u20 => ?_)
            refine w_iload_n gz_26_12 rfl ?_
            refine w_iload gz_26_13 rfl ?_
            refine w_inS (k := 0) (as := [(0, x4), (0, x3)]) (r := []) (ls0 := [(0, x3), (0, x4)]) gz_26_15 gm_28 rfl rfl rfl rfl rfl rfl ?_
            refine w_iload_n gz_28_0 rfl ?_
            refine w_iflt (t := 19) gz_28_1 rfl (fun u21 => ?_) (fun u21 => ?_)
            ·
              refine w_iconst gz_28_19 (by decide) ?_
              refine w_bret gz_28_20 gm_28 (by omega) (by omega) ?_
              show wp l rho (d + 2) 26 18 [(2, 0), (0, x1), (0, x2), (0, x3), (0, x4)] [(0, 0)] h Q
              refine w_ifeq (t := 36) gz_26_18 rfl (fun u22 => ?_) (fun u22 => by exfalso; omega)
              refine w_iconst gz_26_36 (by decide) ?_
              exact w_bret gz_26_37 gm_26 (by omega) (by omega) (k0 h (my_fr.rf) (by first | exact ⟨(show ((0 ≤ x1 ∧ x1 ≤ 2) ∧ 0 ≤ x2 ∧ x2 < h 2 x1) ∧ (0 ≤ x3 ∧ x3 ≤ 19) ∧ x3 ≤ x4 ∧ x4 ≤ 19 by omega), by omega⟩ | exact sp_3 f51 f66 (by omega) (by omega) | exact (fun z => by have z1 : ((0 ≤ x1 ∧ x1 ≤ 2) ∧ 0 ≤ x2 ∧ x2 < h 2 x1) ∧ (0 ≤ x3 ∧ x3 ≤ 19) ∧ x3 ≤ x4 ∧ x4 ≤ 19 := z.1; omega) | exact (fun z => by have q := z.2; omega) | exact ⟨fun _ => rfl, fun _ => rfl⟩ | assumption | omega) (by first | exact ⟨(show ((0 ≤ x1 ∧ x1 ≤ 2) ∧ 0 ≤ x2 ∧ x2 < h 2 x1) ∧ (0 ≤ x3 ∧ x3 ≤ 19) ∧ x3 ≤ x4 ∧ x4 ≤ 19 by omega), by omega⟩ | exact sp_3 f51 f66 (by omega) (by omega) | exact (fun z => by have z1 : ((0 ≤ x1 ∧ x1 ≤ 2) ∧ 0 ≤ x2 ∧ x2 < h 2 x1) ∧ (0 ≤ x3 ∧ x3 ≤ 19) ∧ x3 ≤ x4 ∧ x4 ≤ 19 := z.1; omega) | exact (fun z => by have q := z.2; omega) | exact ⟨fun _ => rfl, fun _ => rfl⟩ | assumption | omega))
            ·
              refine w_iload_n gz_28_4 rfl ?_
              refine w_iload_n gz_28_5 rfl ?_
              refine w_icgt (t := 19) gz_28_6 rfl (fun u23 => ?_) (fun u23 => ?_)
              ·
                refine w_iconst gz_28_19 (by decide) ?_
                refine w_bret gz_28_20 gm_28 (by omega) (by omega) ?_
                show wp l rho (d + 2) 26 18 [(2, 0), (0, x1), (0, x2), (0, x3), (0, x4)] [(0, 0)] h Q
                refine w_ifeq (t := 36) gz_26_18 rfl (fun u24 => ?_) (fun u24 => by exfalso; omega)
                refine w_iconst gz_26_36 (by decide) ?_
                exact w_bret gz_26_37 gm_26 (by omega) (by omega) (k0 h (my_fr.rf) (by first | exact ⟨(show ((0 ≤ x1 ∧ x1 ≤ 2) ∧ 0 ≤ x2 ∧ x2 < h 2 x1) ∧ (0 ≤ x3 ∧ x3 ≤ 19) ∧ x3 ≤ x4 ∧ x4 ≤ 19 by omega), by omega⟩ | exact sp_3 f51 f66 (by omega) (by omega) | exact (fun z => by have z1 : ((0 ≤ x1 ∧ x1 ≤ 2) ∧ 0 ≤ x2 ∧ x2 < h 2 x1) ∧ (0 ≤ x3 ∧ x3 ≤ 19) ∧ x3 ≤ x4 ∧ x4 ≤ 19 := z.1; omega) | exact (fun z => by have q := z.2; omega) | exact ⟨fun _ => rfl, fun _ => rfl⟩ | assumption | omega) (by first | exact ⟨(show ((0 ≤ x1 ∧ x1 ≤ 2) ∧ 0 ≤ x2 ∧ x2 < h 2 x1) ∧ (0 ≤ x3 ∧ x3 ≤ 19) ∧ x3 ≤ x4 ∧ x4 ≤ 19 by omega), by omega⟩ | exact sp_3 f51 f66 (by omega) (by omega) | exact (fun z => by have z1 : ((0 ≤ x1 ∧ x1 ≤ 2) ∧ 0 ≤ x2 ∧ x2 < h 2 x1) ∧ (0 ≤ x3 ∧ x3 ≤ 19) ∧ x3 ≤ x4 ∧ x4 ≤ 19 := z.1; omega) | exact (fun z => by have q := z.2; omega) | exact ⟨fun _ => rfl, fun _ => rfl⟩ | assumption | omega))
              ·
                refine w_iload_n gz_28_9 rfl ?_
                refine w_bipush gz_28_10 (by decide) ?_
                refine w_icge (t := 19) gz_28_12 rfl (fun u25 => ?_) (fun u25 => ?_)
                ·
                  refine w_iconst gz_28_19 (by decide) ?_
                  refine w_bret gz_28_20 gm_28 (by omega) (by omega) ?_
                  show wp l rho (d + 2) 26 18 [(2, 0), (0, x1), (0, x2), (0, x3), (0, x4)] [(0, 0)] h Q
                  refine w_ifeq (t := 36) gz_26_18 rfl (fun u26 => ?_) (fun u26 => by exfalso; omega)
                  refine w_iconst gz_26_36 (by decide) ?_
                  exact w_bret gz_26_37 gm_26 (by omega) (by omega) (k0 h (my_fr.rf) (by first | exact ⟨(show ((0 ≤ x1 ∧ x1 ≤ 2) ∧ 0 ≤ x2 ∧ x2 < h 2 x1) ∧ (0 ≤ x3 ∧ x3 ≤ 19) ∧ x3 ≤ x4 ∧ x4 ≤ 19 by omega), by omega⟩ | exact sp_3 f51 f66 (by omega) (by omega) | exact (fun z => by have z1 : ((0 ≤ x1 ∧ x1 ≤ 2) ∧ 0 ≤ x2 ∧ x2 < h 2 x1) ∧ (0 ≤ x3 ∧ x3 ≤ 19) ∧ x3 ≤ x4 ∧ x4 ≤ 19 := z.1; omega) | exact (fun z => by have q := z.2; omega) | exact ⟨fun _ => rfl, fun _ => rfl⟩ | assumption | omega) (by first | exact ⟨(show ((0 ≤ x1 ∧ x1 ≤ 2) ∧ 0 ≤ x2 ∧ x2 < h 2 x1) ∧ (0 ≤ x3 ∧ x3 ≤ 19) ∧ x3 ≤ x4 ∧ x4 ≤ 19 by omega), by omega⟩ | exact sp_3 f51 f66 (by omega) (by omega) | exact (fun z => by have z1 : ((0 ≤ x1 ∧ x1 ≤ 2) ∧ 0 ≤ x2 ∧ x2 < h 2 x1) ∧ (0 ≤ x3 ∧ x3 ≤ 19) ∧ x3 ≤ x4 ∧ x4 ≤ 19 := z.1; omega) | exact (fun z => by have q := z.2; omega) | exact ⟨fun _ => rfl, fun _ => rfl⟩ | assumption | omega))
                ·
                  refine w_iconst gz_28_15 (by decide) ?_
                  refine w_goto (t := 20) gz_28_16 rfl ?_
                  refine w_bret gz_28_20 gm_28 (by omega) (by omega) ?_
                  show wp l rho (d + 2) 26 18 [(2, 0), (0, x1), (0, x2), (0, x3), (0, x4)] [(0, 1)] h Q
                  refine w_ifeq (t := 36) gz_26_18 rfl (fun u27 => by exfalso; omega) (fun u27 => ?_)
                  refine w_aload_n gz_26_21 rfl ?_
                  refine w_getX (v := 7) gz_26_22 is_0 rd_9 rfl (by decide) rfl ?_
                  refine w_iload_n gz_26_25 rfl ?_
                  refine w_iload_n gz_26_26 rfl ?_
                  refine w_iload_n gz_26_27 rfl ?_
                  refine w_iload gz_26_28 rfl ?_
                  refine w_inv (k := 3) (as := [(0, x4), (0, x3), (0, x2), (0, x1)]) (r := []) (x := 7) (ls0 := [(2, 7), (0, x1), (0, x2), (0, x3), (0, x4), (9, 0), (9, 0), (9, 0)]) gz_26_30 gm_20 rfl is_7 rd_6 rfl rfl rfl rfl rfl (c_Rows_outside5 (d := d) (x0 := 7) (x1 := x1) (x2 := x2) (x3 := x3) (x4 := x4) is_7 (by omega) (by omega) (by omega) (by omega) (by omega) (by omega) (by omega) (by omega) (fun v29 w30 w31 xp32 => ?_))
                  show wp l rho (d + 2) 26 33 [(2, 0), (0, x1), (0, x2), (0, x3), (0, x4)] [(0, v29)] h Q
                  have ou8 : _ = qOut (h 8) x1 x2 x3 x4 20 := xp32
                  refine w_ifle (t := 38) gz_26_33 rfl (fun u33 => ?_) (fun u33 => ?_)
                  ·
                    refine w_aload_n gz_26_38 rfl ?_
                    refine w_getX (v := 1) gz_26_39 is_0 rd_9 rfl (by decide) rfl ?_
                    refine w_getX (v := 3) gz_26_42 is_1 rd_3 rfl (by decide) rfl ?_
                    refine w_iload_n gz_26_45 rfl ?_
                    refine w_iload_n gz_26_46 rfl ?_
                    refine w_inS (k := 0) (as := [(0, x2), (0, x1)]) (r := [(2, 3)]) (ls0 := [(0, x1), (0, x2)]) gz_26_47 gm_29 rfl rfl rfl rfl rfl rfl ?_
                    refine w_iload_n gz_29_0 rfl ?_
                    refine w_iconst gz_29_1 (by decide) ?_
                    refine w_imul gz_29_2 ⟨by omega, by omega⟩ ?_
                    refine w_iload_n gz_29_3 rfl ?_
                    refine w_iadd gz_29_4 ⟨by omega, by omega⟩ ?_
                    refine w_iret gz_29_5 gm_29 ?_
                    show wp l rho (d + 2) 26 50 [(2, 0), (0, x1), (0, x2), (0, x3), (0, x4)] [(0, ((x1 * 4) + x2)), (2, 3)] h Q
                    refine w_iload_n gz_26_50 rfl ?_
                    refine w_iast gz_26_51 is_3 rd_26 (by omega) (by omega) (by omega) (by omega) (fun h36 fh36 => ?_)
                    have gh36 : my_fr [(26, -1), (27, -1)] h h36 := my_fr.up my_fr.rf is_3 fh36 rfl
                    have f51 := fh36
                    refine w_aload_n gz_26_52 rfl ?_
                    refine w_getX (v := 1) gz_26_53 is_0 rd_9 rfl (by decide) rfl ?_
                    refine w_getX (v := 4) gz_26_56 is_1 rd_3 rfl (by decide) rfl ?_
                    refine w_iload_n gz_26_59 rfl ?_
                    refine w_iload_n gz_26_60 rfl ?_
                    refine w_inS (k := 0) (as := [(0, x2), (0, x1)]) (r := [(2, 4)]) (ls0 := [(0, x1), (0, x2)]) gz_26_61 gm_29 rfl rfl rfl rfl rfl rfl ?_
                    refine w_iload_n gz_29_0 rfl ?_
                    refine w_iconst gz_29_1 (by decide) ?_
                    refine w_imul gz_29_2 ⟨by omega, by omega⟩ ?_
                    refine w_iload_n gz_29_3 rfl ?_
                    refine w_iadd gz_29_4 ⟨by omega, by omega⟩ ?_
                    refine w_iret gz_29_5 gm_29 ?_
                    show wp l rho (d + 2) 26 64 [(2, 0), (0, x1), (0, x2), (0, x3), (0, x4)] [(0, ((x1 * 4) + x2)), (2, 4)] h36 Q
                    refine w_iload gz_26_64 rfl ?_
                    refine w_iast gz_26_66 is_4 rd_27 (by omega) (by omega) (by omega) (by omega) (fun h39 fh39 => ?_)
                    have gh39 : my_fr [(26, -1), (27, -1)] h h39 := my_fr.up gh36 is_4 fh39 rfl
                    have f66 := fh39
                    refine w_iconst gz_26_67 (by decide) ?_
                    exact w_bret gz_26_68 gm_26 (by omega) (by omega) (k1 h39 (gh39) (by omega) (by omega) (by omega) (by omega) (by omega) (by omega) (by omega) (by omega) (by first | exact ⟨(show ((0 ≤ x1 ∧ x1 ≤ 2) ∧ 0 ≤ x2 ∧ x2 < h 2 x1) ∧ (0 ≤ x3 ∧ x3 ≤ 19) ∧ x3 ≤ x4 ∧ x4 ≤ 19 by omega), by omega⟩ | exact sp_3 f51 f66 (by omega) (by omega) | exact (fun z => by have z1 : ((0 ≤ x1 ∧ x1 ≤ 2) ∧ 0 ≤ x2 ∧ x2 < h 2 x1) ∧ (0 ≤ x3 ∧ x3 ≤ 19) ∧ x3 ≤ x4 ∧ x4 ≤ 19 := z.1; omega) | exact (fun z => by have q := z.2; omega) | exact ⟨fun _ => rfl, fun _ => rfl⟩ | assumption | omega) (by first | exact ⟨(show ((0 ≤ x1 ∧ x1 ≤ 2) ∧ 0 ≤ x2 ∧ x2 < h 2 x1) ∧ (0 ≤ x3 ∧ x3 ≤ 19) ∧ x3 ≤ x4 ∧ x4 ≤ 19 by omega), by omega⟩ | exact sp_3 f51 f66 (by omega) (by omega) | exact (fun z => by have z1 : ((0 ≤ x1 ∧ x1 ≤ 2) ∧ 0 ≤ x2 ∧ x2 < h 2 x1) ∧ (0 ≤ x3 ∧ x3 ≤ 19) ∧ x3 ≤ x4 ∧ x4 ≤ 19 := z.1; omega) | exact (fun z => by have q := z.2; omega) | exact ⟨fun _ => rfl, fun _ => rfl⟩ | assumption | omega))
                  ·
                    refine w_iconst gz_26_36 (by decide) ?_
                    exact w_bret gz_26_37 gm_26 (by omega) (by omega) (k0 h (my_fr.rf) (by first | exact ⟨(show ((0 ≤ x1 ∧ x1 ≤ 2) ∧ 0 ≤ x2 ∧ x2 < h 2 x1) ∧ (0 ≤ x3 ∧ x3 ≤ 19) ∧ x3 ≤ x4 ∧ x4 ≤ 19 by omega), by omega⟩ | exact sp_3 f51 f66 (by omega) (by omega) | exact (fun z => by have z1 : ((0 ≤ x1 ∧ x1 ≤ 2) ∧ 0 ≤ x2 ∧ x2 < h 2 x1) ∧ (0 ≤ x3 ∧ x3 ≤ 19) ∧ x3 ≤ x4 ∧ x4 ≤ 19 := z.1; omega) | exact (fun z => by have q := z.2; omega) | exact ⟨fun _ => rfl, fun _ => rfl⟩ | assumption | omega) (by first | exact ⟨(show ((0 ≤ x1 ∧ x1 ≤ 2) ∧ 0 ≤ x2 ∧ x2 < h 2 x1) ∧ (0 ≤ x3 ∧ x3 ≤ 19) ∧ x3 ≤ x4 ∧ x4 ≤ 19 by omega), by omega⟩ | exact sp_3 f51 f66 (by omega) (by omega) | exact (fun z => by have z1 : ((0 ≤ x1 ∧ x1 ≤ 2) ∧ 0 ≤ x2 ∧ x2 < h 2 x1) ∧ (0 ≤ x3 ∧ x3 ≤ 19) ∧ x3 ≤ x4 ∧ x4 ≤ 19 := z.1; omega) | exact (fun z => by have q := z.2; omega) | exact ⟨fun _ => rfl, fun _ => rfl⟩ | assumption | omega))
theorem c_ThroughWindow_out5 {l : Launch} {rho : Nat → Int32} {d : Nat} {h : my_H} {Q : my_H → my_V → Prop} {x1 x2 : Int} (hwo : WOk h 7) (k0 : ∀ (h' : my_H), my_fr [(30, -1), (31, -1)] h h' → ¬ zyOut (zqCA h) (h 8) x1 x2 → (∀ k j : Int, 0 ≤ k → k < 94 → h' k j = h k j) → Q h' (0, 0)) (k1 : ∀ (h' : my_H), my_fr [(30, -1), (31, -1)] h h' → 0 ≤ x1 → x1 ≤ 2 → 0 ≤ x2 → x2 ≤ 19 → zyOut (zqCA h) (h 8) x1 x2 → zqAg (zqDrop (h 8) x1 x2) (h' 8) ∧ WOk h' 7 → (∀ k j : Int, 0 ≤ k → k < 94 → (k < 7 ∨ 9 < k) → h' k j = h k j) → Q h' (0, 1)) : wp l rho (d + 4) 24 0 [(2, 0), (0, x1), (0, x2)] [] h Q := by
  refine w_aload_n gz_24_0 rfl ?_
  refine w_getX (v := 1) gz_24_1 is_0 rd_9 rfl (by decide) rfl ?_
  refine w_iload_n gz_24_4 rfl ?_
  refine w_inv (k := 0) (as := [(0, x1)]) (r := []) (x := 1) (ls0 := [(2, 1), (0, x1)]) gz_24_5 gm_13 rfl is_1 rd_3 rfl rfl rfl rfl rfl ?_
  refine w_iload_n gz_13_0 rfl ?_
  refine w_iflt (t := 22) gz_13_1 rfl (fun u2 => ?_) (fun u2 => ?_)
  ·
    refine w_iconst gz_13_22 (by decide) ?_
    refine w_bret gz_13_23 gm_13 (by omega) (by omega) ?_
    show wp l rho (d + 4) 24 8 [(2, 0), (0, x1), (0, x2)] [(0, 0)] h Q
    refine w_ifeq (t := 23) gz_24_8 rfl (fun u3 => ?_) (fun u3 => by exfalso; omega)
    refine w_iconst gz_24_23 (by decide) ?_
    have bfE : ∀ k j : Int, 0 ≤ k → k < 94 → (k < 7 ∨ 9 < k) → h k j = h k j := fun k j k0 k1 k2 => rfl
    have agE : my_ag F5 h h := fun _ _ _ => rfl
    exact w_bret gz_24_24 gm_24 (by omega) (by omega) (k0 h (my_fr.rf) (by first | exact ⟨(show (0 ≤ x1 ∧ x1 ≤ 2 ∧ 0 < h 2 x1) ∧ (0 ≤ x2 ∧ x2 ≤ 19) ∧ h 8 (80 * x1 + 4 * x2) ≠ -1 by exact ⟨by omega, by omega, hh8⟩), la8.mp lf8⟩ | exact (fun z => lf8 (la8.mpr z.2)) | exact (fun z => by have z1 : (0 ≤ x1 ∧ x1 ≤ 2 ∧ 0 < h 2 x1) ∧ (0 ≤ x2 ∧ x2 ≤ 19) ∧ h 8 (80 * x1 + 4 * x2) ≠ -1 := z.1; omega) | exact bfE | exact bf9 | exact (fun _ _ _ _ => rfl) | exact cD_e agE hwo (by omega) (by omega) hh8 (la8.mp lf8) e146 q147 dz fc96 fc97 | assumption | omega) (by first | exact ⟨(show (0 ≤ x1 ∧ x1 ≤ 2 ∧ 0 < h 2 x1) ∧ (0 ≤ x2 ∧ x2 ≤ 19) ∧ h 8 (80 * x1 + 4 * x2) ≠ -1 by exact ⟨by omega, by omega, hh8⟩), la8.mp lf8⟩ | exact (fun z => lf8 (la8.mpr z.2)) | exact (fun z => by have z1 : (0 ≤ x1 ∧ x1 ≤ 2 ∧ 0 < h 2 x1) ∧ (0 ≤ x2 ∧ x2 ≤ 19) ∧ h 8 (80 * x1 + 4 * x2) ≠ -1 := z.1; omega) | exact bfE | exact bf9 | exact (fun _ _ _ _ => rfl) | exact cD_e agE hwo (by omega) (by omega) hh8 (la8.mp lf8) e146 q147 dz fc96 fc97 | assumption | omega))
  ·
    refine w_iload_n gz_13_4 rfl ?_
    refine w_iconst gz_13_5 (by decide) ?_
    refine w_icge (t := 22) gz_13_6 rfl (fun u4 => ?_) (fun u4 => ?_)
    ·
      refine w_iconst gz_13_22 (by decide) ?_
      refine w_bret gz_13_23 gm_13 (by omega) (by omega) ?_
      show wp l rho (d + 4) 24 8 [(2, 0), (0, x1), (0, x2)] [(0, 0)] h Q
      refine w_ifeq (t := 23) gz_24_8 rfl (fun u5 => ?_) (fun u5 => by exfalso; omega)
      refine w_iconst gz_24_23 (by decide) ?_
      have bfE : ∀ k j : Int, 0 ≤ k → k < 94 → (k < 7 ∨ 9 < k) → h k j = h k j := fun k j k0 k1 k2 => rfl
      have agE : my_ag F5 h h := fun _ _ _ => rfl
      exact w_bret gz_24_24 gm_24 (by omega) (by omega) (k0 h (my_fr.rf) (by first | exact ⟨(show (0 ≤ x1 ∧ x1 ≤ 2 ∧ 0 < h 2 x1) ∧ (0 ≤ x2 ∧ x2 ≤ 19) ∧ h 8 (80 * x1 + 4 * x2) ≠ -1 by exact ⟨by omega, by omega, hh8⟩), la8.mp lf8⟩ | exact (fun z => lf8 (la8.mpr z.2)) | exact (fun z => by have z1 : (0 ≤ x1 ∧ x1 ≤ 2 ∧ 0 < h 2 x1) ∧ (0 ≤ x2 ∧ x2 ≤ 19) ∧ h 8 (80 * x1 + 4 * x2) ≠ -1 := z.1; omega) | exact bfE | exact bf9 | exact (fun _ _ _ _ => rfl) | exact cD_e agE hwo (by omega) (by omega) hh8 (la8.mp lf8) e146 q147 dz fc96 fc97 | assumption | omega) (by first | exact ⟨(show (0 ≤ x1 ∧ x1 ≤ 2 ∧ 0 < h 2 x1) ∧ (0 ≤ x2 ∧ x2 ≤ 19) ∧ h 8 (80 * x1 + 4 * x2) ≠ -1 by exact ⟨by omega, by omega, hh8⟩), la8.mp lf8⟩ | exact (fun z => lf8 (la8.mpr z.2)) | exact (fun z => by have z1 : (0 ≤ x1 ∧ x1 ≤ 2 ∧ 0 < h 2 x1) ∧ (0 ≤ x2 ∧ x2 ≤ 19) ∧ h 8 (80 * x1 + 4 * x2) ≠ -1 := z.1; omega) | exact bfE | exact bf9 | exact (fun _ _ _ _ => rfl) | exact cD_e agE hwo (by omega) (by omega) hh8 (la8.mp lf8) e146 q147 dz fc96 fc97 | assumption | omega))
    ·
      refine w_aload_n gz_13_9 rfl ?_
      refine w_getX (v := 2) gz_13_10 is_1 rd_3 rfl (by decide) rfl ?_
      refine w_iload_n gz_13_13 rfl ?_
      refine w_iald gz_13_14 is_2 rd_25 (by omega) (by omega) (fun v7 ev7 pv7 qv7 => ?_)
      refine w_ifle (t := 22) gz_13_15 rfl (fun u8 => ?_) (fun u8 => ?_)
      ·
        refine w_iconst gz_13_22 (by decide) ?_
        refine w_bret gz_13_23 gm_13 (by omega) (by omega) ?_
        show wp l rho (d + 4) 24 8 [(2, 0), (0, x1), (0, x2)] [(0, 0)] h Q
        refine w_ifeq (t := 23) gz_24_8 rfl (fun u9 => ?_) (fun u9 => by exfalso; omega)
        refine w_iconst gz_24_23 (by decide) ?_
        have bfE : ∀ k j : Int, 0 ≤ k → k < 94 → (k < 7 ∨ 9 < k) → h k j = h k j := fun k j k0 k1 k2 => rfl
        have agE : my_ag F5 h h := fun _ _ _ => rfl
        exact w_bret gz_24_24 gm_24 (by omega) (by omega) (k0 h (my_fr.rf) (by first | exact ⟨(show (0 ≤ x1 ∧ x1 ≤ 2 ∧ 0 < h 2 x1) ∧ (0 ≤ x2 ∧ x2 ≤ 19) ∧ h 8 (80 * x1 + 4 * x2) ≠ -1 by exact ⟨by omega, by omega, hh8⟩), la8.mp lf8⟩ | exact (fun z => lf8 (la8.mpr z.2)) | exact (fun z => by have z1 : (0 ≤ x1 ∧ x1 ≤ 2 ∧ 0 < h 2 x1) ∧ (0 ≤ x2 ∧ x2 ≤ 19) ∧ h 8 (80 * x1 + 4 * x2) ≠ -1 := z.1; omega) | exact bfE | exact bf9 | exact (fun _ _ _ _ => rfl) | exact cD_e agE hwo (by omega) (by omega) hh8 (la8.mp lf8) e146 q147 dz fc96 fc97 | assumption | omega) (by first | exact ⟨(show (0 ≤ x1 ∧ x1 ≤ 2 ∧ 0 < h 2 x1) ∧ (0 ≤ x2 ∧ x2 ≤ 19) ∧ h 8 (80 * x1 + 4 * x2) ≠ -1 by exact ⟨by omega, by omega, hh8⟩), la8.mp lf8⟩ | exact (fun z => lf8 (la8.mpr z.2)) | exact (fun z => by have z1 : (0 ≤ x1 ∧ x1 ≤ 2 ∧ 0 < h 2 x1) ∧ (0 ≤ x2 ∧ x2 ≤ 19) ∧ h 8 (80 * x1 + 4 * x2) ≠ -1 := z.1; omega) | exact bfE | exact bf9 | exact (fun _ _ _ _ => rfl) | exact cD_e agE hwo (by omega) (by omega) hh8 (la8.mp lf8) e146 q147 dz fc96 fc97 | assumption | omega))
      ·
        refine w_iconst gz_13_18 (by decide) ?_
        refine w_goto (t := 23) gz_13_19 rfl ?_
        refine w_bret gz_13_23 gm_13 (by omega) (by omega) ?_
        show wp l rho (d + 4) 24 8 [(2, 0), (0, x1), (0, x2)] [(0, 1)] h Q
        refine w_ifeq (t := 23) gz_24_8 rfl (fun u10 => by exfalso; omega) (fun u10 => ?_)
        refine w_aload_n gz_24_11 rfl ?_
        refine w_getX (v := 7) gz_24_12 is_0 rd_9 rfl (by decide) rfl ?_
        refine w_iload_n gz_24_15 rfl ?_
        refine w_iload_n gz_24_16 rfl ?_
        refine w_inv (k := 0) (as := [(0, x2), (0, x1)]) (r := []) (x := 7) (ls0 := [(2, 7), (0, x1), (0, x2)]) gz_24_17 gm_15 rfl is_7 rd_6 rfl rfl rfl rfl rfl ?_
        refine w_iload_n gz_15_0 rfl ?_
        refine w_iflt (t := 31) gz_15_1 rfl (fun u12 => ?_) (fun u12 => ?_)
        ·
          refine w_iconst gz_15_31 (by decide) ?_
          refine w_bret gz_15_32 gm_15 (by omega) (by omega) ?_
          show wp l rho (d + 4) 24 20 [(2, 0), (0, x1), (0, x2)] [(0, 0)] h Q
          refine w_ifne (t := 25) gz_24_20 rfl (fun u13 => by exfalso; omega) (fun u13 => ?_)
          refine w_iconst gz_24_23 (by decide) ?_
          have bfE : ∀ k j : Int, 0 ≤ k → k < 94 → (k < 7 ∨ 9 < k) → h k j = h k j := fun k j k0 k1 k2 => rfl
          have agE : my_ag F5 h h := fun _ _ _ => rfl
          exact w_bret gz_24_24 gm_24 (by omega) (by omega) (k0 h (my_fr.rf) (by first | exact ⟨(show (0 ≤ x1 ∧ x1 ≤ 2 ∧ 0 < h 2 x1) ∧ (0 ≤ x2 ∧ x2 ≤ 19) ∧ h 8 (80 * x1 + 4 * x2) ≠ -1 by exact ⟨by omega, by omega, hh8⟩), la8.mp lf8⟩ | exact (fun z => lf8 (la8.mpr z.2)) | exact (fun z => by have z1 : (0 ≤ x1 ∧ x1 ≤ 2 ∧ 0 < h 2 x1) ∧ (0 ≤ x2 ∧ x2 ≤ 19) ∧ h 8 (80 * x1 + 4 * x2) ≠ -1 := z.1; omega) | exact bfE | exact bf9 | exact (fun _ _ _ _ => rfl) | exact cD_e agE hwo (by omega) (by omega) hh8 (la8.mp lf8) e146 q147 dz fc96 fc97 | assumption | omega) (by first | exact ⟨(show (0 ≤ x1 ∧ x1 ≤ 2 ∧ 0 < h 2 x1) ∧ (0 ≤ x2 ∧ x2 ≤ 19) ∧ h 8 (80 * x1 + 4 * x2) ≠ -1 by exact ⟨by omega, by omega, hh8⟩), la8.mp lf8⟩ | exact (fun z => lf8 (la8.mpr z.2)) | exact (fun z => by have z1 : (0 ≤ x1 ∧ x1 ≤ 2 ∧ 0 < h 2 x1) ∧ (0 ≤ x2 ∧ x2 ≤ 19) ∧ h 8 (80 * x1 + 4 * x2) ≠ -1 := z.1; omega) | exact bfE | exact bf9 | exact (fun _ _ _ _ => rfl) | exact cD_e agE hwo (by omega) (by omega) hh8 (la8.mp lf8) e146 q147 dz fc96 fc97 | assumption | omega))
        ·
          refine w_iload_n gz_15_4 rfl ?_
          refine w_bipush gz_15_5 (by decide) ?_
          refine w_icge (t := 31) gz_15_7 rfl (fun u14 => ?_) (fun u14 => ?_)
          ·
            refine w_iconst gz_15_31 (by decide) ?_
            refine w_bret gz_15_32 gm_15 (by omega) (by omega) ?_
            show wp l rho (d + 4) 24 20 [(2, 0), (0, x1), (0, x2)] [(0, 0)] h Q
            refine w_ifne (t := 25) gz_24_20 rfl (fun u15 => by exfalso; omega) (fun u15 => ?_)
            refine w_iconst gz_24_23 (by decide) ?_
            have bfE : ∀ k j : Int, 0 ≤ k → k < 94 → (k < 7 ∨ 9 < k) → h k j = h k j := fun k j k0 k1 k2 => rfl
            have agE : my_ag F5 h h := fun _ _ _ => rfl
            exact w_bret gz_24_24 gm_24 (by omega) (by omega) (k0 h (my_fr.rf) (by first | exact ⟨(show (0 ≤ x1 ∧ x1 ≤ 2 ∧ 0 < h 2 x1) ∧ (0 ≤ x2 ∧ x2 ≤ 19) ∧ h 8 (80 * x1 + 4 * x2) ≠ -1 by exact ⟨by omega, by omega, hh8⟩), la8.mp lf8⟩ | exact (fun z => lf8 (la8.mpr z.2)) | exact (fun z => by have z1 : (0 ≤ x1 ∧ x1 ≤ 2 ∧ 0 < h 2 x1) ∧ (0 ≤ x2 ∧ x2 ≤ 19) ∧ h 8 (80 * x1 + 4 * x2) ≠ -1 := z.1; omega) | exact bfE | exact bf9 | exact (fun _ _ _ _ => rfl) | exact cD_e agE hwo (by omega) (by omega) hh8 (la8.mp lf8) e146 q147 dz fc96 fc97 | assumption | omega) (by first | exact ⟨(show (0 ≤ x1 ∧ x1 ≤ 2 ∧ 0 < h 2 x1) ∧ (0 ≤ x2 ∧ x2 ≤ 19) ∧ h 8 (80 * x1 + 4 * x2) ≠ -1 by exact ⟨by omega, by omega, hh8⟩), la8.mp lf8⟩ | exact (fun z => lf8 (la8.mpr z.2)) | exact (fun z => by have z1 : (0 ≤ x1 ∧ x1 ≤ 2 ∧ 0 < h 2 x1) ∧ (0 ≤ x2 ∧ x2 ≤ 19) ∧ h 8 (80 * x1 + 4 * x2) ≠ -1 := z.1; omega) | exact bfE | exact bf9 | exact (fun _ _ _ _ => rfl) | exact cD_e agE hwo (by omega) (by omega) hh8 (la8.mp lf8) e146 q147 dz fc96 fc97 | assumption | omega))
          ·
            refine w_aload_n gz_15_10 rfl ?_
            refine w_getX (v := 8) gz_15_11 is_7 rd_6 rfl (by decide) rfl ?_
            refine w_iload_n gz_15_14 rfl ?_
            refine w_bipush gz_15_15 (by decide) ?_
            refine w_imul gz_15_17 ⟨by omega, by omega⟩ ?_
            refine w_iload_n gz_15_18 rfl ?_
            refine w_iadd gz_15_19 ⟨by omega, by omega⟩ ?_
            refine w_iconst gz_15_20 (by decide) ?_
            refine w_imul gz_15_21 ⟨by omega, by omega⟩ ?_
            refine w_iald gz_15_22 is_8 rd_30 (by omega) (by omega) (fun v17 ev17 pv17 qv17 => ?_)
            have hhas : h 8 (80 * x1 + 4 * x2) = v17 := by rw [show (80 * x1 + 4 * x2 : Int) = (((x1 * 20) + x2) * 4) by omega]; omega
            refine w_iconst gz_15_23 (by decide) ?_
            refine w_iceq (t := 31) gz_15_24 rfl (fun u18 => ?_) (fun u18 => ?_)
            ·
              refine w_iconst gz_15_31 (by decide) ?_
              refine w_bret gz_15_32 gm_15 (by omega) (by omega) ?_
              show wp l rho (d + 4) 24 20 [(2, 0), (0, x1), (0, x2)] [(0, 0)] h Q
              refine w_ifne (t := 25) gz_24_20 rfl (fun u19 => by exfalso; omega) (fun u19 => ?_)
              refine w_iconst gz_24_23 (by decide) ?_
              have bfE : ∀ k j : Int, 0 ≤ k → k < 94 → (k < 7 ∨ 9 < k) → h k j = h k j := fun k j k0 k1 k2 => rfl
              have agE : my_ag F5 h h := fun _ _ _ => rfl
              exact w_bret gz_24_24 gm_24 (by omega) (by omega) (k0 h (my_fr.rf) (by first | exact ⟨(show (0 ≤ x1 ∧ x1 ≤ 2 ∧ 0 < h 2 x1) ∧ (0 ≤ x2 ∧ x2 ≤ 19) ∧ h 8 (80 * x1 + 4 * x2) ≠ -1 by exact ⟨by omega, by omega, hh8⟩), la8.mp lf8⟩ | exact (fun z => lf8 (la8.mpr z.2)) | exact (fun z => by have z1 : (0 ≤ x1 ∧ x1 ≤ 2 ∧ 0 < h 2 x1) ∧ (0 ≤ x2 ∧ x2 ≤ 19) ∧ h 8 (80 * x1 + 4 * x2) ≠ -1 := z.1; omega) | exact bfE | exact bf9 | exact (fun _ _ _ _ => rfl) | exact cD_e agE hwo (by omega) (by omega) hh8 (la8.mp lf8) e146 q147 dz fc96 fc97 | assumption | omega) (by first | exact ⟨(show (0 ≤ x1 ∧ x1 ≤ 2 ∧ 0 < h 2 x1) ∧ (0 ≤ x2 ∧ x2 ≤ 19) ∧ h 8 (80 * x1 + 4 * x2) ≠ -1 by exact ⟨by omega, by omega, hh8⟩), la8.mp lf8⟩ | exact (fun z => lf8 (la8.mpr z.2)) | exact (fun z => by have z1 : (0 ≤ x1 ∧ x1 ≤ 2 ∧ 0 < h 2 x1) ∧ (0 ≤ x2 ∧ x2 ≤ 19) ∧ h 8 (80 * x1 + 4 * x2) ≠ -1 := z.1; omega) | exact bfE | exact bf9 | exact (fun _ _ _ _ => rfl) | exact cD_e agE hwo (by omega) (by omega) hh8 (la8.mp lf8) e146 q147 dz fc96 fc97 | assumption | omega))
            ·
              refine w_iconst gz_15_27 (by decide) ?_
              refine w_goto (t := 32) gz_15_28 rfl ?_
              refine w_bret gz_15_32 gm_15 (by omega) (by omega) ?_
              show wp l rho (d + 4) 24 20 [(2, 0), (0, x1), (0, x2)] [(0, 1)] h Q
              refine w_ifne (t := 25) gz_24_20 rfl (fun u20 => ?_) (fun u20 => by exfalso; omega)
              refine w_aload_n gz_24_25 rfl ?_
              refine w_getX (v := 145) gz_24_26 is_0 rd_9 rfl (by decide) rfl ?_
              refine w_aload_n gz_24_29 rfl ?_
              refine w_getX (v := 7) gz_24_30 is_0 rd_9 rfl (by decide) rfl ?_
              refine w_inv (k := 0) (as := [(2, 7)]) (r := []) (x := 145) (ls0 := [(2, 145), (2, 7)]) gz_24_33 gm_25 rfl is_145 rd_6 rfl rfl rfl rfl rfl ?_
              refine w_aload_n gz_25_0 rfl ?_
              refine w_getX (v := 8) gz_25_1 is_7 rd_6 rfl (by decide) rfl ?_
              refine w_iconst gz_25_4 (by decide) ?_
              refine w_aload_n gz_25_5 rfl ?_
              refine w_getX (v := 146) gz_25_6 is_145 rd_6 rfl (by decide) rfl ?_
              refine w_iconst gz_25_9 (by decide) ?_
              refine w_aload_n gz_25_10 rfl ?_
              refine w_getX (v := 146) gz_25_11 is_145 rd_6 rfl (by decide) rfl ?_
              refine v_alen (j := 240) gz_25_14 rfl is_146 rd_30 (by decide) ?_
              refine w_cpU gz_25_15 is_8 rd_30 is_146 rd_30 (by omega) (by omega) (by omega) (by omega) (by omega) rfl (by decide) (by decide) (fun h26 fh26 => ?_)
              have gh26 : my_fr [(30, -1), (31, -1)] h h26 := my_fr.cp my_fr.rf is_146 fh26 rfl
              have fc96 := fh26
              refine w_aload_n gz_25_18 rfl ?_
              refine w_getX (v := 9) gz_25_19 is_7 rd_6 rfl (by decide) rfl ?_
              refine w_iconst gz_25_22 (by decide) ?_
              refine w_aload_n gz_25_23 rfl ?_
              refine w_getX (v := 147) gz_25_24 is_145 rd_6 rfl (by decide) rfl ?_
              refine w_iconst gz_25_27 (by decide) ?_
              refine w_aload_n gz_25_28 rfl ?_
              refine w_getX (v := 147) gz_25_29 is_145 rd_6 rfl (by decide) rfl ?_
              refine v_alen (j := 3) gz_25_32 rfl is_147 rd_31 (by decide) ?_
              refine w_cpU gz_25_33 is_9 rd_31 is_147 rd_31 (by omega) (by omega) (by omega) (by omega) (by omega) rfl (by decide) (by decide) (fun h30 fh30 => ?_)
              have gh30 : my_fr [(30, -1), (31, -1)] h h30 := my_fr.cp gh26 is_147 fh30 rfl
              have fc97 := fh30
              refine w_vret gz_25_36 gm_25 ?_
              show wp l rho (d + 4) 24 36 [(2, 0), (0, x1), (0, x2)] [] h30 Q
              refine w_aload_n gz_24_36 rfl ?_
              refine w_getX (v := 145) gz_24_37 is_0 rd_9 rfl (by decide) rfl ?_
              refine w_iload_n gz_24_40 rfl ?_
              refine w_iload_n gz_24_41 rfl ?_
              have ca := fc96
              have cb := fc97
              have hh8 : h 8 (80 * x1 + 4 * x2) ≠ -1 := by omega
              have q146 : ∀ j : Int, 0 ≤ j → j < 240 → h30 146 j = h 8 j := fun j a b => (my_cp_ne cb (by omega)).trans ((my_cp_in ca (by omega) (by omega)).trans (by rw [show (0 : Int) + (j - 0) = j by omega]))
              have q147 : ∀ j : Int, 0 ≤ j → j < 3 → h30 147 j = h 9 j := fun j a b => (my_cp_in cb (by omega) (by omega)).trans (by rw [show (0 : Int) + (j - 0) = j by omega]; exact my_cp_ne ca (by omega))
              refine w_inv (k := 2) (as := [(0, x2), (0, x1)]) (r := []) (x := 145) (ls0 := [(2, 145), (0, x1), (0, x2), (9, 0), (9, 0)]) gz_24_42 gm_23 rfl is_145 rd_6 rfl rfl rfl rfl rfl (c_Rows_drop5 (d := (d + 2)) (x0 := 145) (x1 := x1) (x2 := x2) is_145 (by omega) (by omega) (by omega) (by omega) ((by rw [show h30 (145 + 2) x1 = h 9 x1 from q147 _ (by omega) (by omega)]; exact WOk_sz (x := 7) hwo x1 (by omega) (by omega))) (fun h32 frh32 fxh32 xp33 xp34 => ?_))
              have gh32 : my_fr [(30, -1), (31, -1)] h h32 := my_fr.tr gh30 (frh32.mo rfl)
              show wp l rho (d + 4) 24 45 [(2, 0), (0, x1), (0, x2)] [] h32 Q
              have dr := xp33
              have dz := xp34
              refine w_aload_n gz_24_45 rfl ?_
              refine w_getX (v := 1) gz_24_46 is_0 rd_9 rfl (by decide) rfl ?_
              refine w_aload_n gz_24_49 rfl ?_
              refine w_getX (v := 145) gz_24_50 is_0 rd_9 rfl (by decide) rfl ?_
              have bf9 : ∀ k j : Int, 0 ≤ k → k < 94 → h32 k j = h k j := fun k j k0 k1 => ((my_fx.at fxh32 (by omega)).trans ((my_cp_ne fh30 (by omega)).trans (my_cp_ne fh26 (by omega))))
              have ag9 : my_ag F5 h h32 := (my_ag.fr (F := F5) gh32 rfl)
              have e146 : zqAg (zqDrop (h 8) x1 x2) (h32 146) := fun j a b => (dr j).trans (zqDrop_a (S := h 8) (fun k c d => q146 k c d) j a b)
              have la8 := cD_l (y := 145) (w := x1) hwo (CA_ag ag9).1 (by omega) (by omega) e146
              refine w_inv (k := 0) (as := [(2, 145)]) (r := []) (x := 1) (ls0 := [(2, 1), (2, 145)]) gz_24_53 gm_18 rfl is_1 rd_3 rfl rfl rfl rfl rfl (c_Laws_hold5 (d := d) (x1 := 145) is_145 (fun xp37 => ?_) (fun xp38 => ?_))
              ·
                show wp l rho (d + 4) 24 56 [(2, 0), (0, x1), (0, x2)] [(0, 0)] h32 Q
                have lf8 := xp37
                refine w_ifne (t := 61) gz_24_56 rfl (fun u39 => by exfalso; omega) (fun u39 => ?_)
                refine w_iconst gz_24_59 (by decide) ?_
                have bfE : ∀ k j : Int, 0 ≤ k → k < 94 → (k < 7 ∨ 9 < k) → h32 k j = h k j := fun k j k0 k1 k2 => ((my_fx.at fxh32 (by omega)).trans ((my_cp_ne fh30 (by omega)).trans (my_cp_ne fh26 (by omega))))
                have agE : my_ag F5 h h32 := (my_ag.fr (F := F5) gh32 rfl)
                exact w_bret gz_24_60 gm_24 (by omega) (by omega) (k0 h32 (gh32) (by first | exact ⟨(show (0 ≤ x1 ∧ x1 ≤ 2 ∧ 0 < h 2 x1) ∧ (0 ≤ x2 ∧ x2 ≤ 19) ∧ h 8 (80 * x1 + 4 * x2) ≠ -1 by exact ⟨by omega, by omega, hh8⟩), la8.mp lf8⟩ | exact (fun z => lf8 (la8.mpr z.2)) | exact (fun z => by have z1 : (0 ≤ x1 ∧ x1 ≤ 2 ∧ 0 < h 2 x1) ∧ (0 ≤ x2 ∧ x2 ≤ 19) ∧ h 8 (80 * x1 + 4 * x2) ≠ -1 := z.1; omega) | exact bfE | exact bf9 | exact (fun _ _ _ _ => rfl) | exact cD_e agE hwo (by omega) (by omega) hh8 (la8.mp lf8) e146 q147 dz fc96 fc97 | assumption | omega) (by first | exact ⟨(show (0 ≤ x1 ∧ x1 ≤ 2 ∧ 0 < h 2 x1) ∧ (0 ≤ x2 ∧ x2 ≤ 19) ∧ h 8 (80 * x1 + 4 * x2) ≠ -1 by exact ⟨by omega, by omega, hh8⟩), la8.mp lf8⟩ | exact (fun z => lf8 (la8.mpr z.2)) | exact (fun z => by have z1 : (0 ≤ x1 ∧ x1 ≤ 2 ∧ 0 < h 2 x1) ∧ (0 ≤ x2 ∧ x2 ≤ 19) ∧ h 8 (80 * x1 + 4 * x2) ≠ -1 := z.1; omega) | exact bfE | exact bf9 | exact (fun _ _ _ _ => rfl) | exact cD_e agE hwo (by omega) (by omega) hh8 (la8.mp lf8) e146 q147 dz fc96 fc97 | assumption | omega))
              ·
                show wp l rho (d + 4) 24 56 [(2, 0), (0, x1), (0, x2)] [(0, 1)] h32 Q
                have lf8 := xp38
                refine w_ifne (t := 61) gz_24_56 rfl (fun u40 => ?_) (fun u40 => by exfalso; omega)
                refine w_aload_n gz_24_61 rfl ?_
                refine w_getX (v := 7) gz_24_62 is_0 rd_9 rfl (by decide) rfl ?_
                refine w_aload_n gz_24_65 rfl ?_
                refine w_getX (v := 145) gz_24_66 is_0 rd_9 rfl (by decide) rfl ?_
                refine w_inv (k := 0) (as := [(2, 145)]) (r := []) (x := 7) (ls0 := [(2, 7), (2, 145)]) gz_24_69 gm_25 rfl is_7 rd_6 rfl rfl rfl rfl rfl ?_
                refine w_aload_n gz_25_0 rfl ?_
                refine w_getX (v := 146) gz_25_1 is_145 rd_6 rfl (by decide) rfl ?_
                refine w_iconst gz_25_4 (by decide) ?_
                refine w_aload_n gz_25_5 rfl ?_
                refine w_getX (v := 8) gz_25_6 is_7 rd_6 rfl (by decide) rfl ?_
                refine w_iconst gz_25_9 (by decide) ?_
                refine w_aload_n gz_25_10 rfl ?_
                refine w_getX (v := 8) gz_25_11 is_7 rd_6 rfl (by decide) rfl ?_
                refine v_alen (j := 240) gz_25_14 rfl is_8 rd_30 (by decide) ?_
                refine w_cpU gz_25_15 is_146 rd_30 is_8 rd_30 (by omega) (by omega) (by omega) (by omega) (by omega) rfl (by decide) (by decide) (fun h46 fh46 => ?_)
                have gh46 : my_fr [(30, -1), (31, -1)] h h46 := my_fr.cp gh32 is_8 fh46 rfl
                have fc96 := fh46
                refine w_aload_n gz_25_18 rfl ?_
                refine w_getX (v := 147) gz_25_19 is_145 rd_6 rfl (by decide) rfl ?_
                refine w_iconst gz_25_22 (by decide) ?_
                refine w_aload_n gz_25_23 rfl ?_
                refine w_getX (v := 9) gz_25_24 is_7 rd_6 rfl (by decide) rfl ?_
                refine w_iconst gz_25_27 (by decide) ?_
                refine w_aload_n gz_25_28 rfl ?_
                refine w_getX (v := 9) gz_25_29 is_7 rd_6 rfl (by decide) rfl ?_
                refine v_alen (j := 3) gz_25_32 rfl is_9 rd_31 (by decide) ?_
                refine w_cpU gz_25_33 is_147 rd_31 is_9 rd_31 (by omega) (by omega) (by omega) (by omega) (by omega) rfl (by decide) (by decide) (fun h50 fh50 => ?_)
                have gh50 : my_fr [(30, -1), (31, -1)] h h50 := my_fr.cp gh46 is_9 fh50 rfl
                have fc97 := fh50
                refine w_vret gz_25_36 gm_25 ?_
                show wp l rho (d + 4) 24 72 [(2, 0), (0, x1), (0, x2)] [] h50 Q
                refine w_iconst gz_24_72 (by decide) ?_
                have bfE : ∀ k j : Int, 0 ≤ k → k < 94 → (k < 7 ∨ 9 < k) → h50 k j = h k j := fun k j k0 k1 k2 => ((my_cp_ne fh50 (by omega)).trans ((my_cp_ne fh46 (by omega)).trans ((my_fx.at fxh32 (by omega)).trans ((my_cp_ne fh30 (by omega)).trans (my_cp_ne fh26 (by omega))))))
                have agE : my_ag F5 h h50 := (my_ag.fr (F := F5) gh50 rfl)
                exact w_bret gz_24_73 gm_24 (by omega) (by omega) (k1 h50 (gh50) (by omega) (by omega) (by omega) (by omega) (by first | exact ⟨(show (0 ≤ x1 ∧ x1 ≤ 2 ∧ 0 < h 2 x1) ∧ (0 ≤ x2 ∧ x2 ≤ 19) ∧ h 8 (80 * x1 + 4 * x2) ≠ -1 by exact ⟨by omega, by omega, hh8⟩), la8.mp lf8⟩ | exact (fun z => lf8 (la8.mpr z.2)) | exact (fun z => by have z1 : (0 ≤ x1 ∧ x1 ≤ 2 ∧ 0 < h 2 x1) ∧ (0 ≤ x2 ∧ x2 ≤ 19) ∧ h 8 (80 * x1 + 4 * x2) ≠ -1 := z.1; omega) | exact bfE | exact bf9 | exact (fun _ _ _ _ => rfl) | exact cD_e agE hwo (by omega) (by omega) hh8 (la8.mp lf8) e146 q147 dz fc96 fc97 | assumption | omega) (by first | exact ⟨(show (0 ≤ x1 ∧ x1 ≤ 2 ∧ 0 < h 2 x1) ∧ (0 ≤ x2 ∧ x2 ≤ 19) ∧ h 8 (80 * x1 + 4 * x2) ≠ -1 by exact ⟨by omega, by omega, hh8⟩), la8.mp lf8⟩ | exact (fun z => lf8 (la8.mpr z.2)) | exact (fun z => by have z1 : (0 ≤ x1 ∧ x1 ≤ 2 ∧ 0 < h 2 x1) ∧ (0 ≤ x2 ∧ x2 ≤ 19) ∧ h 8 (80 * x1 + 4 * x2) ≠ -1 := z.1; omega) | exact bfE | exact bf9 | exact (fun _ _ _ _ => rfl) | exact cD_e agE hwo (by omega) (by omega) hh8 (la8.mp lf8) e146 q147 dz fc96 fc97 | assumption | omega) (by first | exact ⟨(show (0 ≤ x1 ∧ x1 ≤ 2 ∧ 0 < h 2 x1) ∧ (0 ≤ x2 ∧ x2 ≤ 19) ∧ h 8 (80 * x1 + 4 * x2) ≠ -1 by exact ⟨by omega, by omega, hh8⟩), la8.mp lf8⟩ | exact (fun z => lf8 (la8.mpr z.2)) | exact (fun z => by have z1 : (0 ≤ x1 ∧ x1 ≤ 2 ∧ 0 < h 2 x1) ∧ (0 ≤ x2 ∧ x2 ≤ 19) ∧ h 8 (80 * x1 + 4 * x2) ≠ -1 := z.1; omega) | exact bfE | exact bf9 | exact (fun _ _ _ _ => rfl) | exact cD_e agE hwo (by omega) (by omega) hh8 (la8.mp lf8) e146 q147 dz fc96 fc97 | assumption | omega))
theorem c_ThroughWindow_names5 {l : Launch} {rho : Nat → Int32} {d : Nat} {h : my_H} {Q : my_H → my_V → Prop} {x1 x2 x3 : Int} (hwo : WOk h 7) (k0 : ∀ (h' : my_H), my_fr [(28, -1)] h h' → ¬ (zyNm (zqCA h) x1 x2 x3 ∧ zqLf (zyN (zqCA h) x1 x2 x3) (h 8)) → (∀ j : Int, h' 5 j = h 5 j) → Q h' (0, 0)) (k1 : ∀ (h' : my_H), my_fr [(28, -1)] h h' → 0 ≤ x1 → x1 ≤ 2 → 1 ≤ x2 → x2 ≤ 3 → (-1) ≤ x3 → x3 ≤ 2 → zyNm (zqCA h) x1 x2 x3 ∧ zqLf (zyN (zqCA h) x1 x2 x3) (h 8) → h' 5 = zyU (h 5) (4 * x1 + x2) x3 → Q h' (0, 1)) : wp l rho (d + 4) 30 0 [(2, 0), (0, x1), (0, x2), (0, x3), (9, 0), (9, 0)] [] h Q := by
  refine w_aload_n gz_30_0 rfl ?_
  refine w_getX (v := 1) gz_30_1 is_0 rd_9 rfl (by decide) rfl ?_
  refine w_iload_n gz_30_4 rfl ?_
  refine w_iload_n gz_30_5 rfl ?_
  refine w_inv (k := 0) (as := [(0, x2), (0, x1)]) (r := []) (x := 1) (ls0 := [(2, 1), (0, x1), (0, x2)]) gz_30_6 gm_27 rfl is_1 rd_3 rfl rfl rfl rfl rfl ?_
  refine w_aload_n gz_27_0 rfl ?_
  refine w_iload_n gz_27_1 rfl ?_
  refine w_inv (k := 0) (as := [(0, x1)]) (r := []) (x := 1) (ls0 := [(2, 1), (0, x1)]) gz_27_2 gm_13 rfl is_1 rd_3 rfl rfl rfl rfl rfl ?_
  refine w_iload_n gz_13_0 rfl ?_
  refine w_iflt (t := 22) gz_13_1 rfl (fun u2 => ?_) (fun u2 => ?_)
  ·
    refine w_iconst gz_13_22 (by decide) ?_
    refine w_bret gz_13_23 gm_13 (by omega) (by omega) ?_
    show wp l rho (d + 3) 27 5 [(2, 1), (0, x1), (0, x2)] [(0, 0)] h _
    refine w_ifeq (t := 26) gz_27_5 rfl (fun u3 => ?_) (fun u3 => by exfalso; omega)
    refine w_iconst gz_27_26 (by decide) ?_
    refine w_bret gz_27_27 gm_27 (by omega) (by omega) ?_
    show wp l rho (d + 4) 30 9 [(2, 0), (0, x1), (0, x2), (0, x3), (9, 0), (9, 0)] [(0, 0)] h Q
    refine w_ifeq (t := 21) gz_30_9 rfl (fun u4 => ?_) (fun u4 => by exfalso; omega)
    refine w_iconst gz_30_21 (by decide) ?_
    exact w_bret gz_30_22 gm_30 (by omega) (by omega) (k0 h (my_fr.rf) (by first | exact ⟨(show ((0 ≤ x1 ∧ x1 ≤ 2) ∧ 0 ≤ x2 ∧ x2 < h 2 x1) ∧ x2 ≠ 0 ∧ (x3 = -1 ∨ (x3 ≠ x1 ∧ 0 ≤ x3 ∧ x3 ≤ 2 ∧ 0 < h 2 x3)) by omega), la8.mp lf8⟩ | exact zyU_up f70 (by omega) | exact (fun z => by have z1 : ((0 ≤ x1 ∧ x1 ≤ 2) ∧ 0 ≤ x2 ∧ x2 < h 2 x1) ∧ x2 ≠ 0 ∧ (x3 = -1 ∨ (x3 ≠ x1 ∧ 0 ≤ x3 ∧ x3 ≤ 2 ∧ 0 < h 2 x3)) := z.1; omega) | exact (fun z => lf8 (la8.mpr z.2)) | exact (fun _ => rfl) | exact up_back f70 f98 (by omega) (by omega) | assumption | omega) (by first | exact ⟨(show ((0 ≤ x1 ∧ x1 ≤ 2) ∧ 0 ≤ x2 ∧ x2 < h 2 x1) ∧ x2 ≠ 0 ∧ (x3 = -1 ∨ (x3 ≠ x1 ∧ 0 ≤ x3 ∧ x3 ≤ 2 ∧ 0 < h 2 x3)) by omega), la8.mp lf8⟩ | exact zyU_up f70 (by omega) | exact (fun z => by have z1 : ((0 ≤ x1 ∧ x1 ≤ 2) ∧ 0 ≤ x2 ∧ x2 < h 2 x1) ∧ x2 ≠ 0 ∧ (x3 = -1 ∨ (x3 ≠ x1 ∧ 0 ≤ x3 ∧ x3 ≤ 2 ∧ 0 < h 2 x3)) := z.1; omega) | exact (fun z => lf8 (la8.mpr z.2)) | exact (fun _ => rfl) | exact up_back f70 f98 (by omega) (by omega) | assumption | omega))
  ·
    refine w_iload_n gz_13_4 rfl ?_
    refine w_iconst gz_13_5 (by decide) ?_
    refine w_icge (t := 22) gz_13_6 rfl (fun u5 => ?_) (fun u5 => ?_)
    ·
      refine w_iconst gz_13_22 (by decide) ?_
      refine w_bret gz_13_23 gm_13 (by omega) (by omega) ?_
      show wp l rho (d + 3) 27 5 [(2, 1), (0, x1), (0, x2)] [(0, 0)] h _
      refine w_ifeq (t := 26) gz_27_5 rfl (fun u6 => ?_) (fun u6 => by exfalso; omega)
      refine w_iconst gz_27_26 (by decide) ?_
      refine w_bret gz_27_27 gm_27 (by omega) (by omega) ?_
      show wp l rho (d + 4) 30 9 [(2, 0), (0, x1), (0, x2), (0, x3), (9, 0), (9, 0)] [(0, 0)] h Q
      refine w_ifeq (t := 21) gz_30_9 rfl (fun u7 => ?_) (fun u7 => by exfalso; omega)
      refine w_iconst gz_30_21 (by decide) ?_
      exact w_bret gz_30_22 gm_30 (by omega) (by omega) (k0 h (my_fr.rf) (by first | exact ⟨(show ((0 ≤ x1 ∧ x1 ≤ 2) ∧ 0 ≤ x2 ∧ x2 < h 2 x1) ∧ x2 ≠ 0 ∧ (x3 = -1 ∨ (x3 ≠ x1 ∧ 0 ≤ x3 ∧ x3 ≤ 2 ∧ 0 < h 2 x3)) by omega), la8.mp lf8⟩ | exact zyU_up f70 (by omega) | exact (fun z => by have z1 : ((0 ≤ x1 ∧ x1 ≤ 2) ∧ 0 ≤ x2 ∧ x2 < h 2 x1) ∧ x2 ≠ 0 ∧ (x3 = -1 ∨ (x3 ≠ x1 ∧ 0 ≤ x3 ∧ x3 ≤ 2 ∧ 0 < h 2 x3)) := z.1; omega) | exact (fun z => lf8 (la8.mpr z.2)) | exact (fun _ => rfl) | exact up_back f70 f98 (by omega) (by omega) | assumption | omega) (by first | exact ⟨(show ((0 ≤ x1 ∧ x1 ≤ 2) ∧ 0 ≤ x2 ∧ x2 < h 2 x1) ∧ x2 ≠ 0 ∧ (x3 = -1 ∨ (x3 ≠ x1 ∧ 0 ≤ x3 ∧ x3 ≤ 2 ∧ 0 < h 2 x3)) by omega), la8.mp lf8⟩ | exact zyU_up f70 (by omega) | exact (fun z => by have z1 : ((0 ≤ x1 ∧ x1 ≤ 2) ∧ 0 ≤ x2 ∧ x2 < h 2 x1) ∧ x2 ≠ 0 ∧ (x3 = -1 ∨ (x3 ≠ x1 ∧ 0 ≤ x3 ∧ x3 ≤ 2 ∧ 0 < h 2 x3)) := z.1; omega) | exact (fun z => lf8 (la8.mpr z.2)) | exact (fun _ => rfl) | exact up_back f70 f98 (by omega) (by omega) | assumption | omega))
    ·
      refine w_aload_n gz_13_9 rfl ?_
      refine w_getX (v := 2) gz_13_10 is_1 rd_3 rfl (by decide) rfl ?_
      refine w_iload_n gz_13_13 rfl ?_
      refine w_iald gz_13_14 is_2 rd_25 (by omega) (by omega) (fun v9 ev9 pv9 qv9 => ?_)
      refine w_ifle (t := 22) gz_13_15 rfl (fun u10 => ?_) (fun u10 => ?_)
      ·
        refine w_iconst gz_13_22 (by decide) ?_
        refine w_bret gz_13_23 gm_13 (by omega) (by omega) ?_
        show wp l rho (d + 3) 27 5 [(2, 1), (0, x1), (0, x2)] [(0, 0)] h _
        refine w_ifeq (t := 26) gz_27_5 rfl (fun u11 => ?_) (fun u11 => by exfalso; omega)
        refine w_iconst gz_27_26 (by decide) ?_
        refine w_bret gz_27_27 gm_27 (by omega) (by omega) ?_
        show wp l rho (d + 4) 30 9 [(2, 0), (0, x1), (0, x2), (0, x3), (9, 0), (9, 0)] [(0, 0)] h Q
        refine w_ifeq (t := 21) gz_30_9 rfl (fun u12 => ?_) (fun u12 => by exfalso; omega)
        refine w_iconst gz_30_21 (by decide) ?_
        exact w_bret gz_30_22 gm_30 (by omega) (by omega) (k0 h (my_fr.rf) (by first | exact ⟨(show ((0 ≤ x1 ∧ x1 ≤ 2) ∧ 0 ≤ x2 ∧ x2 < h 2 x1) ∧ x2 ≠ 0 ∧ (x3 = -1 ∨ (x3 ≠ x1 ∧ 0 ≤ x3 ∧ x3 ≤ 2 ∧ 0 < h 2 x3)) by omega), la8.mp lf8⟩ | exact zyU_up f70 (by omega) | exact (fun z => by have z1 : ((0 ≤ x1 ∧ x1 ≤ 2) ∧ 0 ≤ x2 ∧ x2 < h 2 x1) ∧ x2 ≠ 0 ∧ (x3 = -1 ∨ (x3 ≠ x1 ∧ 0 ≤ x3 ∧ x3 ≤ 2 ∧ 0 < h 2 x3)) := z.1; omega) | exact (fun z => lf8 (la8.mpr z.2)) | exact (fun _ => rfl) | exact up_back f70 f98 (by omega) (by omega) | assumption | omega) (by first | exact ⟨(show ((0 ≤ x1 ∧ x1 ≤ 2) ∧ 0 ≤ x2 ∧ x2 < h 2 x1) ∧ x2 ≠ 0 ∧ (x3 = -1 ∨ (x3 ≠ x1 ∧ 0 ≤ x3 ∧ x3 ≤ 2 ∧ 0 < h 2 x3)) by omega), la8.mp lf8⟩ | exact zyU_up f70 (by omega) | exact (fun z => by have z1 : ((0 ≤ x1 ∧ x1 ≤ 2) ∧ 0 ≤ x2 ∧ x2 < h 2 x1) ∧ x2 ≠ 0 ∧ (x3 = -1 ∨ (x3 ≠ x1 ∧ 0 ≤ x3 ∧ x3 ≤ 2 ∧ 0 < h 2 x3)) := z.1; omega) | exact (fun z => lf8 (la8.mpr z.2)) | exact (fun _ => rfl) | exact up_back f70 f98 (by omega) (by omega) | assumption | omega))
      ·
        refine w_iconst gz_13_18 (by decide) ?_
        refine w_goto (t := 23) gz_13_19 rfl ?_
        refine w_bret gz_13_23 gm_13 (by omega) (by omega) ?_
        show wp l rho (d + 3) 27 5 [(2, 1), (0, x1), (0, x2)] [(0, 1)] h _
        refine w_ifeq (t := 26) gz_27_5 rfl (fun u13 => by exfalso; omega) (fun u13 => ?_)
        refine w_iload_n gz_27_8 rfl ?_
        refine w_iflt (t := 26) gz_27_9 rfl (fun u14 => ?_) (fun u14 => ?_)
        ·
          refine w_iconst gz_27_26 (by decide) ?_
          refine w_bret gz_27_27 gm_27 (by omega) (by omega) ?_
          show wp l rho (d + 4) 30 9 [(2, 0), (0, x1), (0, x2), (0, x3), (9, 0), (9, 0)] [(0, 0)] h Q
          refine w_ifeq (t := 21) gz_30_9 rfl (fun u15 => ?_) (fun u15 => by exfalso; omega)
          refine w_iconst gz_30_21 (by decide) ?_
          exact w_bret gz_30_22 gm_30 (by omega) (by omega) (k0 h (my_fr.rf) (by first | exact ⟨(show ((0 ≤ x1 ∧ x1 ≤ 2) ∧ 0 ≤ x2 ∧ x2 < h 2 x1) ∧ x2 ≠ 0 ∧ (x3 = -1 ∨ (x3 ≠ x1 ∧ 0 ≤ x3 ∧ x3 ≤ 2 ∧ 0 < h 2 x3)) by omega), la8.mp lf8⟩ | exact zyU_up f70 (by omega) | exact (fun z => by have z1 : ((0 ≤ x1 ∧ x1 ≤ 2) ∧ 0 ≤ x2 ∧ x2 < h 2 x1) ∧ x2 ≠ 0 ∧ (x3 = -1 ∨ (x3 ≠ x1 ∧ 0 ≤ x3 ∧ x3 ≤ 2 ∧ 0 < h 2 x3)) := z.1; omega) | exact (fun z => lf8 (la8.mpr z.2)) | exact (fun _ => rfl) | exact up_back f70 f98 (by omega) (by omega) | assumption | omega) (by first | exact ⟨(show ((0 ≤ x1 ∧ x1 ≤ 2) ∧ 0 ≤ x2 ∧ x2 < h 2 x1) ∧ x2 ≠ 0 ∧ (x3 = -1 ∨ (x3 ≠ x1 ∧ 0 ≤ x3 ∧ x3 ≤ 2 ∧ 0 < h 2 x3)) by omega), la8.mp lf8⟩ | exact zyU_up f70 (by omega) | exact (fun z => by have z1 : ((0 ≤ x1 ∧ x1 ≤ 2) ∧ 0 ≤ x2 ∧ x2 < h 2 x1) ∧ x2 ≠ 0 ∧ (x3 = -1 ∨ (x3 ≠ x1 ∧ 0 ≤ x3 ∧ x3 ≤ 2 ∧ 0 < h 2 x3)) := z.1; omega) | exact (fun z => lf8 (la8.mpr z.2)) | exact (fun _ => rfl) | exact up_back f70 f98 (by omega) (by omega) | assumption | omega))
        ·
          refine w_iload_n gz_27_12 rfl ?_
          refine w_aload_n gz_27_13 rfl ?_
          refine w_getX (v := 2) gz_27_14 is_1 rd_3 rfl (by decide) rfl ?_
          refine w_iload_n gz_27_17 rfl ?_
          refine w_iald gz_27_18 is_2 rd_25 (by omega) (by omega) (fun v17 ev17 pv17 qv17 => ?_)
          have zv17 := ev17.trans ev9.symm
          refine w_icge (t := 26) gz_27_19 rfl (fun u18 => ?_) (fun u18 => ?_)
          ·
            refine w_iconst gz_27_26 (by decide) ?_
            refine w_bret gz_27_27 gm_27 (by omega) (by omega) ?_
            show wp l rho (d + 4) 30 9 [(2, 0), (0, x1), (0, x2), (0, x3), (9, 0), (9, 0)] [(0, 0)] h Q
            refine w_ifeq (t := 21) gz_30_9 rfl (fun u19 => ?_) (fun u19 => by exfalso; omega)
            refine w_iconst gz_30_21 (by decide) ?_
            exact w_bret gz_30_22 gm_30 (by omega) (by omega) (k0 h (my_fr.rf) (by first | exact ⟨(show ((0 ≤ x1 ∧ x1 ≤ 2) ∧ 0 ≤ x2 ∧ x2 < h 2 x1) ∧ x2 ≠ 0 ∧ (x3 = -1 ∨ (x3 ≠ x1 ∧ 0 ≤ x3 ∧ x3 ≤ 2 ∧ 0 < h 2 x3)) by omega), la8.mp lf8⟩ | exact zyU_up f70 (by omega) | exact (fun z => by have z1 : ((0 ≤ x1 ∧ x1 ≤ 2) ∧ 0 ≤ x2 ∧ x2 < h 2 x1) ∧ x2 ≠ 0 ∧ (x3 = -1 ∨ (x3 ≠ x1 ∧ 0 ≤ x3 ∧ x3 ≤ 2 ∧ 0 < h 2 x3)) := z.1; omega) | exact (fun z => lf8 (la8.mpr z.2)) | exact (fun _ => rfl) | exact up_back f70 f98 (by omega) (by omega) | assumption | omega) (by first | exact ⟨(show ((0 ≤ x1 ∧ x1 ≤ 2) ∧ 0 ≤ x2 ∧ x2 < h 2 x1) ∧ x2 ≠ 0 ∧ (x3 = -1 ∨ (x3 ≠ x1 ∧ 0 ≤ x3 ∧ x3 ≤ 2 ∧ 0 < h 2 x3)) by omega), la8.mp lf8⟩ | exact zyU_up f70 (by omega) | exact (fun z => by have z1 : ((0 ≤ x1 ∧ x1 ≤ 2) ∧ 0 ≤ x2 ∧ x2 < h 2 x1) ∧ x2 ≠ 0 ∧ (x3 = -1 ∨ (x3 ≠ x1 ∧ 0 ≤ x3 ∧ x3 ≤ 2 ∧ 0 < h 2 x3)) := z.1; omega) | exact (fun z => lf8 (la8.mpr z.2)) | exact (fun _ => rfl) | exact up_back f70 f98 (by omega) (by omega) | assumption | omega))
          ·
            refine w_iconst gz_27_22 (by decide) ?_
            refine w_goto (t := 27) gz_27_23 rfl ?_
            refine w_bret gz_27_27 gm_27 (by omega) (by omega) ?_
            show wp l rho (d + 4) 30 9 [(2, 0), (0, x1), (0, x2), (0, x3), (9, 0), (9, 0)] [(0, 1)] h Q
            refine w_ifeq (t := 21) gz_30_9 rfl (fun u20 => by exfalso; omega) (fun u20 => ?_)
            refine w_iload_n gz_30_12 rfl ?_
            refine w_ifeq (t := 21) gz_30_13 rfl (fun u21 => ?_) (fun u21 => ?_)
            ·
              refine w_iconst gz_30_21 (by decide) ?_
              exact w_bret gz_30_22 gm_30 (by omega) (by omega) (k0 h (my_fr.rf) (by first | exact ⟨(show ((0 ≤ x1 ∧ x1 ≤ 2) ∧ 0 ≤ x2 ∧ x2 < h 2 x1) ∧ x2 ≠ 0 ∧ (x3 = -1 ∨ (x3 ≠ x1 ∧ 0 ≤ x3 ∧ x3 ≤ 2 ∧ 0 < h 2 x3)) by omega), la8.mp lf8⟩ | exact zyU_up f70 (by omega) | exact (fun z => by have z1 : ((0 ≤ x1 ∧ x1 ≤ 2) ∧ 0 ≤ x2 ∧ x2 < h 2 x1) ∧ x2 ≠ 0 ∧ (x3 = -1 ∨ (x3 ≠ x1 ∧ 0 ≤ x3 ∧ x3 ≤ 2 ∧ 0 < h 2 x3)) := z.1; omega) | exact (fun z => lf8 (la8.mpr z.2)) | exact (fun _ => rfl) | exact up_back f70 f98 (by omega) (by omega) | assumption | omega) (by first | exact ⟨(show ((0 ≤ x1 ∧ x1 ≤ 2) ∧ 0 ≤ x2 ∧ x2 < h 2 x1) ∧ x2 ≠ 0 ∧ (x3 = -1 ∨ (x3 ≠ x1 ∧ 0 ≤ x3 ∧ x3 ≤ 2 ∧ 0 < h 2 x3)) by omega), la8.mp lf8⟩ | exact zyU_up f70 (by omega) | exact (fun z => by have z1 : ((0 ≤ x1 ∧ x1 ≤ 2) ∧ 0 ≤ x2 ∧ x2 < h 2 x1) ∧ x2 ≠ 0 ∧ (x3 = -1 ∨ (x3 ≠ x1 ∧ 0 ≤ x3 ∧ x3 ≤ 2 ∧ 0 < h 2 x3)) := z.1; omega) | exact (fun z => lf8 (la8.mpr z.2)) | exact (fun _ => rfl) | exact up_back f70 f98 (by omega) (by omega) | assumption | omega))
            ·
              refine w_iload_n gz_30_16 rfl ?_
              refine w_iload_n gz_30_17 rfl ?_
              refine w_icne (t := 23) gz_30_18 rfl (fun u22 => ?_) (fun u22 => ?_)
              ·
                refine w_iload_n gz_30_23 rfl ?_
                refine w_iconst gz_30_24 (by decide) ?_
                refine w_iceq (t := 41) gz_30_25 rfl (fun u23 => ?_) (fun u23 => ?_)
                ·
                  refine w_iload_n gz_30_41 rfl ?_
                  refine w_iload_n gz_30_42 rfl ?_
                  refine w_inS (k := 0) (as := [(0, x2), (0, x1)]) (r := []) (ls0 := [(0, x1), (0, x2)]) gz_30_43 gm_29 rfl rfl rfl rfl rfl rfl ?_
                  refine w_iload_n gz_29_0 rfl ?_
                  refine w_iconst gz_29_1 (by decide) ?_
                  refine w_imul gz_29_2 ⟨by omega, by omega⟩ ?_
                  refine w_iload_n gz_29_3 rfl ?_
                  refine w_iadd gz_29_4 ⟨by omega, by omega⟩ ?_
                  refine w_iret gz_29_5 gm_29 ?_
                  show wp l rho (d + 4) 30 46 [(2, 0), (0, x1), (0, x2), (0, x3), (9, 0), (9, 0)] [(0, ((x1 * 4) + x2))] h Q
                  refine w_istore (ls' := [(2, 0), (0, x1), (0, x2), (0, x3), (0, ((x1 * 4) + x2)), (9, 0)]) gz_30_46 gm_30 rfl rfl rfl ?_
                  refine w_aload_n gz_30_48 rfl ?_
                  refine w_getX (v := 1) gz_30_49 is_0 rd_9 rfl (by decide) rfl ?_
                  refine w_getX (v := 5) gz_30_52 is_1 rd_3 rfl (by decide) rfl ?_
                  refine w_iload gz_30_55 rfl ?_
                  refine w_iald gz_30_57 is_5 rd_28 (by omega) (by omega) (fun v26 ev26 pv26 qv26 => ?_)
                  refine w_istore (ls' := [(2, 0), (0, x1), (0, x2), (0, x3), (0, ((x1 * 4) + x2)), (0, v26)]) gz_30_58 gm_30 rfl rfl rfl ?_
                  refine w_aload_n gz_30_60 rfl ?_
                  refine w_getX (v := 1) gz_30_61 is_0 rd_9 rfl (by decide) rfl ?_
                  refine w_getX (v := 5) gz_30_64 is_1 rd_3 rfl (by decide) rfl ?_
                  refine w_iload gz_30_67 rfl ?_
                  refine w_iload_n gz_30_69 rfl ?_
                  refine w_iast gz_30_70 is_5 rd_28 (by omega) (by omega) (by omega) (by omega) (fun h29 fh29 => ?_)
                  have gh29 : my_fr [(28, -1)] h h29 := my_fr.up my_fr.rf is_5 fh29 rfl
                  have f70 := fh29
                  refine w_aload_n gz_30_71 rfl ?_
                  refine w_getX (v := 1) gz_30_72 is_0 rd_9 rfl (by decide) rfl ?_
                  refine w_aload_n gz_30_75 rfl ?_
                  refine w_getX (v := 7) gz_30_76 is_0 rd_9 rfl (by decide) rfl ?_
                  have ma8 : zqCA h29 = zyN (zqCA h) x1 x2 x3 := cN_m f70 (by omega)
                  have la8 := cN_l hwo (by omega) (by omega) ma8 (fun j => my_up_ne f70 (by omega))
                  refine w_inv (k := 0) (as := [(2, 7)]) (r := []) (x := 1) (ls0 := [(2, 1), (2, 7)]) gz_30_79 gm_18 rfl is_1 rd_3 rfl rfl rfl rfl rfl (c_Laws_hold5 (d := d) (x1 := 7) is_7 (fun xp32 => ?_) (fun xp33 => ?_))
                  ·
                    show wp l rho (d + 4) 30 82 [(2, 0), (0, x1), (0, x2), (0, x3), (0, ((x1 * 4) + x2)), (0, v26)] [(0, 0)] h29 Q
                    have lf8 := xp32
                    refine w_ifeq (t := 87) gz_30_82 rfl (fun u34 => ?_) (fun u34 => by exfalso; omega)
                    refine w_aload_n gz_30_87 rfl ?_
                    refine w_getX (v := 1) gz_30_88 is_0 rd_9 rfl (by decide) rfl ?_
                    refine w_getX (v := 5) gz_30_91 is_1 rd_3 rfl (by decide) rfl ?_
                    refine w_iload gz_30_94 rfl ?_
                    refine w_iload gz_30_96 rfl ?_
                    refine w_iast gz_30_98 is_5 rd_28 (by omega) (by omega) (by omega) (by omega) (fun h37 fh37 => ?_)
                    have gh37 : my_fr [(28, -1)] h h37 := my_fr.up gh29 is_5 fh37 rfl
                    have f98 := fh37
                    refine w_iconst gz_30_99 (by decide) ?_
                    exact w_bret gz_30_100 gm_30 (by omega) (by omega) (k0 h37 (gh37) (by first | exact ⟨(show ((0 ≤ x1 ∧ x1 ≤ 2) ∧ 0 ≤ x2 ∧ x2 < h 2 x1) ∧ x2 ≠ 0 ∧ (x3 = -1 ∨ (x3 ≠ x1 ∧ 0 ≤ x3 ∧ x3 ≤ 2 ∧ 0 < h 2 x3)) by omega), la8.mp lf8⟩ | exact zyU_up f70 (by omega) | exact (fun z => by have z1 : ((0 ≤ x1 ∧ x1 ≤ 2) ∧ 0 ≤ x2 ∧ x2 < h 2 x1) ∧ x2 ≠ 0 ∧ (x3 = -1 ∨ (x3 ≠ x1 ∧ 0 ≤ x3 ∧ x3 ≤ 2 ∧ 0 < h 2 x3)) := z.1; omega) | exact (fun z => lf8 (la8.mpr z.2)) | exact (fun _ => rfl) | exact up_back f70 f98 (by omega) (by omega) | assumption | omega) (by first | exact ⟨(show ((0 ≤ x1 ∧ x1 ≤ 2) ∧ 0 ≤ x2 ∧ x2 < h 2 x1) ∧ x2 ≠ 0 ∧ (x3 = -1 ∨ (x3 ≠ x1 ∧ 0 ≤ x3 ∧ x3 ≤ 2 ∧ 0 < h 2 x3)) by omega), la8.mp lf8⟩ | exact zyU_up f70 (by omega) | exact (fun z => by have z1 : ((0 ≤ x1 ∧ x1 ≤ 2) ∧ 0 ≤ x2 ∧ x2 < h 2 x1) ∧ x2 ≠ 0 ∧ (x3 = -1 ∨ (x3 ≠ x1 ∧ 0 ≤ x3 ∧ x3 ≤ 2 ∧ 0 < h 2 x3)) := z.1; omega) | exact (fun z => lf8 (la8.mpr z.2)) | exact (fun _ => rfl) | exact up_back f70 f98 (by omega) (by omega) | assumption | omega))
                  ·
                    show wp l rho (d + 4) 30 82 [(2, 0), (0, x1), (0, x2), (0, x3), (0, ((x1 * 4) + x2)), (0, v26)] [(0, 1)] h29 Q
                    have lf8 := xp33
                    refine w_ifeq (t := 87) gz_30_82 rfl (fun u38 => by exfalso; omega) (fun u38 => ?_)
                    refine w_iconst gz_30_85 (by decide) ?_
                    exact w_bret gz_30_86 gm_30 (by omega) (by omega) (k1 h29 (gh29) (by omega) (by omega) (by omega) (by omega) (by omega) (by omega) (by first | exact ⟨(show ((0 ≤ x1 ∧ x1 ≤ 2) ∧ 0 ≤ x2 ∧ x2 < h 2 x1) ∧ x2 ≠ 0 ∧ (x3 = -1 ∨ (x3 ≠ x1 ∧ 0 ≤ x3 ∧ x3 ≤ 2 ∧ 0 < h 2 x3)) by omega), la8.mp lf8⟩ | exact zyU_up f70 (by omega) | exact (fun z => by have z1 : ((0 ≤ x1 ∧ x1 ≤ 2) ∧ 0 ≤ x2 ∧ x2 < h 2 x1) ∧ x2 ≠ 0 ∧ (x3 = -1 ∨ (x3 ≠ x1 ∧ 0 ≤ x3 ∧ x3 ≤ 2 ∧ 0 < h 2 x3)) := z.1; omega) | exact (fun z => lf8 (la8.mpr z.2)) | exact (fun _ => rfl) | exact up_back f70 f98 (by omega) (by omega) | assumption | omega) (by first | exact ⟨(show ((0 ≤ x1 ∧ x1 ≤ 2) ∧ 0 ≤ x2 ∧ x2 < h 2 x1) ∧ x2 ≠ 0 ∧ (x3 = -1 ∨ (x3 ≠ x1 ∧ 0 ≤ x3 ∧ x3 ≤ 2 ∧ 0 < h 2 x3)) by omega), la8.mp lf8⟩ | exact zyU_up f70 (by omega) | exact (fun z => by have z1 : ((0 ≤ x1 ∧ x1 ≤ 2) ∧ 0 ≤ x2 ∧ x2 < h 2 x1) ∧ x2 ≠ 0 ∧ (x3 = -1 ∨ (x3 ≠ x1 ∧ 0 ≤ x3 ∧ x3 ≤ 2 ∧ 0 < h 2 x3)) := z.1; omega) | exact (fun z => lf8 (la8.mpr z.2)) | exact (fun _ => rfl) | exact up_back f70 f98 (by omega) (by omega) | assumption | omega))
                ·
                  refine w_aload_n gz_30_28 rfl ?_
                  refine w_getX (v := 1) gz_30_29 is_0 rd_9 rfl (by decide) rfl ?_
                  refine w_iload_n gz_30_32 rfl ?_
                  refine w_inv (k := 0) (as := [(0, x3)]) (r := []) (x := 1) (ls0 := [(2, 1), (0, x3)]) gz_30_33 gm_13 rfl is_1 rd_3 rfl rfl rfl rfl rfl ?_
                  refine w_iload_n gz_13_0 rfl ?_
                  refine w_iflt (t := 22) gz_13_1 rfl (fun u40 => ?_) (fun u40 => ?_)
                  ·
                    refine w_iconst gz_13_22 (by decide) ?_
                    refine w_bret gz_13_23 gm_13 (by omega) (by omega) ?_
                    show wp l rho (d + 4) 30 36 [(2, 0), (0, x1), (0, x2), (0, x3), (9, 0), (9, 0)] [(0, 0)] h Q
                    refine w_ifne (t := 41) gz_30_36 rfl (fun u41 => by exfalso; omega) (fun u41 => ?_)
                    refine w_iconst gz_30_39 (by decide) ?_
                    exact w_bret gz_30_40 gm_30 (by omega) (by omega) (k0 h (my_fr.rf) (by first | exact ⟨(show ((0 ≤ x1 ∧ x1 ≤ 2) ∧ 0 ≤ x2 ∧ x2 < h 2 x1) ∧ x2 ≠ 0 ∧ (x3 = -1 ∨ (x3 ≠ x1 ∧ 0 ≤ x3 ∧ x3 ≤ 2 ∧ 0 < h 2 x3)) by omega), la8.mp lf8⟩ | exact zyU_up f70 (by omega) | exact (fun z => by have z1 : ((0 ≤ x1 ∧ x1 ≤ 2) ∧ 0 ≤ x2 ∧ x2 < h 2 x1) ∧ x2 ≠ 0 ∧ (x3 = -1 ∨ (x3 ≠ x1 ∧ 0 ≤ x3 ∧ x3 ≤ 2 ∧ 0 < h 2 x3)) := z.1; omega) | exact (fun z => lf8 (la8.mpr z.2)) | exact (fun _ => rfl) | exact up_back f70 f98 (by omega) (by omega) | assumption | omega) (by first | exact ⟨(show ((0 ≤ x1 ∧ x1 ≤ 2) ∧ 0 ≤ x2 ∧ x2 < h 2 x1) ∧ x2 ≠ 0 ∧ (x3 = -1 ∨ (x3 ≠ x1 ∧ 0 ≤ x3 ∧ x3 ≤ 2 ∧ 0 < h 2 x3)) by omega), la8.mp lf8⟩ | exact zyU_up f70 (by omega) | exact (fun z => by have z1 : ((0 ≤ x1 ∧ x1 ≤ 2) ∧ 0 ≤ x2 ∧ x2 < h 2 x1) ∧ x2 ≠ 0 ∧ (x3 = -1 ∨ (x3 ≠ x1 ∧ 0 ≤ x3 ∧ x3 ≤ 2 ∧ 0 < h 2 x3)) := z.1; omega) | exact (fun z => lf8 (la8.mpr z.2)) | exact (fun _ => rfl) | exact up_back f70 f98 (by omega) (by omega) | assumption | omega))
                  ·
                    refine w_iload_n gz_13_4 rfl ?_
                    refine w_iconst gz_13_5 (by decide) ?_
                    refine w_icge (t := 22) gz_13_6 rfl (fun u42 => ?_) (fun u42 => ?_)
                    ·
                      refine w_iconst gz_13_22 (by decide) ?_
                      refine w_bret gz_13_23 gm_13 (by omega) (by omega) ?_
                      show wp l rho (d + 4) 30 36 [(2, 0), (0, x1), (0, x2), (0, x3), (9, 0), (9, 0)] [(0, 0)] h Q
                      refine w_ifne (t := 41) gz_30_36 rfl (fun u43 => by exfalso; omega) (fun u43 => ?_)
                      refine w_iconst gz_30_39 (by decide) ?_
                      exact w_bret gz_30_40 gm_30 (by omega) (by omega) (k0 h (my_fr.rf) (by first | exact ⟨(show ((0 ≤ x1 ∧ x1 ≤ 2) ∧ 0 ≤ x2 ∧ x2 < h 2 x1) ∧ x2 ≠ 0 ∧ (x3 = -1 ∨ (x3 ≠ x1 ∧ 0 ≤ x3 ∧ x3 ≤ 2 ∧ 0 < h 2 x3)) by omega), la8.mp lf8⟩ | exact zyU_up f70 (by omega) | exact (fun z => by have z1 : ((0 ≤ x1 ∧ x1 ≤ 2) ∧ 0 ≤ x2 ∧ x2 < h 2 x1) ∧ x2 ≠ 0 ∧ (x3 = -1 ∨ (x3 ≠ x1 ∧ 0 ≤ x3 ∧ x3 ≤ 2 ∧ 0 < h 2 x3)) := z.1; omega) | exact (fun z => lf8 (la8.mpr z.2)) | exact (fun _ => rfl) | exact up_back f70 f98 (by omega) (by omega) | assumption | omega) (by first | exact ⟨(show ((0 ≤ x1 ∧ x1 ≤ 2) ∧ 0 ≤ x2 ∧ x2 < h 2 x1) ∧ x2 ≠ 0 ∧ (x3 = -1 ∨ (x3 ≠ x1 ∧ 0 ≤ x3 ∧ x3 ≤ 2 ∧ 0 < h 2 x3)) by omega), la8.mp lf8⟩ | exact zyU_up f70 (by omega) | exact (fun z => by have z1 : ((0 ≤ x1 ∧ x1 ≤ 2) ∧ 0 ≤ x2 ∧ x2 < h 2 x1) ∧ x2 ≠ 0 ∧ (x3 = -1 ∨ (x3 ≠ x1 ∧ 0 ≤ x3 ∧ x3 ≤ 2 ∧ 0 < h 2 x3)) := z.1; omega) | exact (fun z => lf8 (la8.mpr z.2)) | exact (fun _ => rfl) | exact up_back f70 f98 (by omega) (by omega) | assumption | omega))
                    ·
                      refine w_aload_n gz_13_9 rfl ?_
                      refine w_getX (v := 2) gz_13_10 is_1 rd_3 rfl (by decide) rfl ?_
                      refine w_iload_n gz_13_13 rfl ?_
                      refine w_iald gz_13_14 is_2 rd_25 (by omega) (by omega) (fun v45 ev45 pv45 qv45 => ?_)
                      refine w_ifle (t := 22) gz_13_15 rfl (fun u46 => ?_) (fun u46 => ?_)
                      ·
                        refine w_iconst gz_13_22 (by decide) ?_
                        refine w_bret gz_13_23 gm_13 (by omega) (by omega) ?_
                        show wp l rho (d + 4) 30 36 [(2, 0), (0, x1), (0, x2), (0, x3), (9, 0), (9, 0)] [(0, 0)] h Q
                        refine w_ifne (t := 41) gz_30_36 rfl (fun u47 => by exfalso; omega) (fun u47 => ?_)
                        refine w_iconst gz_30_39 (by decide) ?_
                        exact w_bret gz_30_40 gm_30 (by omega) (by omega) (k0 h (my_fr.rf) (by first | exact ⟨(show ((0 ≤ x1 ∧ x1 ≤ 2) ∧ 0 ≤ x2 ∧ x2 < h 2 x1) ∧ x2 ≠ 0 ∧ (x3 = -1 ∨ (x3 ≠ x1 ∧ 0 ≤ x3 ∧ x3 ≤ 2 ∧ 0 < h 2 x3)) by omega), la8.mp lf8⟩ | exact zyU_up f70 (by omega) | exact (fun z => by have z1 : ((0 ≤ x1 ∧ x1 ≤ 2) ∧ 0 ≤ x2 ∧ x2 < h 2 x1) ∧ x2 ≠ 0 ∧ (x3 = -1 ∨ (x3 ≠ x1 ∧ 0 ≤ x3 ∧ x3 ≤ 2 ∧ 0 < h 2 x3)) := z.1; omega) | exact (fun z => lf8 (la8.mpr z.2)) | exact (fun _ => rfl) | exact up_back f70 f98 (by omega) (by omega) | assumption | omega) (by first | exact ⟨(show ((0 ≤ x1 ∧ x1 ≤ 2) ∧ 0 ≤ x2 ∧ x2 < h 2 x1) ∧ x2 ≠ 0 ∧ (x3 = -1 ∨ (x3 ≠ x1 ∧ 0 ≤ x3 ∧ x3 ≤ 2 ∧ 0 < h 2 x3)) by omega), la8.mp lf8⟩ | exact zyU_up f70 (by omega) | exact (fun z => by have z1 : ((0 ≤ x1 ∧ x1 ≤ 2) ∧ 0 ≤ x2 ∧ x2 < h 2 x1) ∧ x2 ≠ 0 ∧ (x3 = -1 ∨ (x3 ≠ x1 ∧ 0 ≤ x3 ∧ x3 ≤ 2 ∧ 0 < h 2 x3)) := z.1; omega) | exact (fun z => lf8 (la8.mpr z.2)) | exact (fun _ => rfl) | exact up_back f70 f98 (by omega) (by omega) | assumption | omega))
                      ·
                        refine w_iconst gz_13_18 (by decide) ?_
                        refine w_goto (t := 23) gz_13_19 rfl ?_
                        refine w_bret gz_13_23 gm_13 (by omega) (by omega) ?_
                        show wp l rho (d + 4) 30 36 [(2, 0), (0, x1), (0, x2), (0, x3), (9, 0), (9, 0)] [(0, 1)] h Q
                        refine w_ifne (t := 41) gz_30_36 rfl (fun u48 => ?_) (fun u48 => by exfalso; omega)
                        refine w_iload_n gz_30_41 rfl ?_
                        refine w_iload_n gz_30_42 rfl ?_
                        refine w_inS (k := 0) (as := [(0, x2), (0, x1)]) (r := []) (ls0 := [(0, x1), (0, x2)]) gz_30_43 gm_29 rfl rfl rfl rfl rfl rfl ?_
                        refine w_iload_n gz_29_0 rfl ?_
                        refine w_iconst gz_29_1 (by decide) ?_
                        refine w_imul gz_29_2 ⟨by omega, by omega⟩ ?_
                        refine w_iload_n gz_29_3 rfl ?_
                        refine w_iadd gz_29_4 ⟨by omega, by omega⟩ ?_
                        refine w_iret gz_29_5 gm_29 ?_
                        show wp l rho (d + 4) 30 46 [(2, 0), (0, x1), (0, x2), (0, x3), (9, 0), (9, 0)] [(0, ((x1 * 4) + x2))] h Q
                        refine w_istore (ls' := [(2, 0), (0, x1), (0, x2), (0, x3), (0, ((x1 * 4) + x2)), (9, 0)]) gz_30_46 gm_30 rfl rfl rfl ?_
                        refine w_aload_n gz_30_48 rfl ?_
                        refine w_getX (v := 1) gz_30_49 is_0 rd_9 rfl (by decide) rfl ?_
                        refine w_getX (v := 5) gz_30_52 is_1 rd_3 rfl (by decide) rfl ?_
                        refine w_iload gz_30_55 rfl ?_
                        refine w_iald gz_30_57 is_5 rd_28 (by omega) (by omega) (fun v51 ev51 pv51 qv51 => ?_)
                        refine w_istore (ls' := [(2, 0), (0, x1), (0, x2), (0, x3), (0, ((x1 * 4) + x2)), (0, v51)]) gz_30_58 gm_30 rfl rfl rfl ?_
                        refine w_aload_n gz_30_60 rfl ?_
                        refine w_getX (v := 1) gz_30_61 is_0 rd_9 rfl (by decide) rfl ?_
                        refine w_getX (v := 5) gz_30_64 is_1 rd_3 rfl (by decide) rfl ?_
                        refine w_iload gz_30_67 rfl ?_
                        refine w_iload_n gz_30_69 rfl ?_
                        refine w_iast gz_30_70 is_5 rd_28 (by omega) (by omega) (by omega) (by omega) (fun h54 fh54 => ?_)
                        have gh54 : my_fr [(28, -1)] h h54 := my_fr.up my_fr.rf is_5 fh54 rfl
                        have f70 := fh54
                        refine w_aload_n gz_30_71 rfl ?_
                        refine w_getX (v := 1) gz_30_72 is_0 rd_9 rfl (by decide) rfl ?_
                        refine w_aload_n gz_30_75 rfl ?_
                        refine w_getX (v := 7) gz_30_76 is_0 rd_9 rfl (by decide) rfl ?_
                        have ma8 : zqCA h54 = zyN (zqCA h) x1 x2 x3 := cN_m f70 (by omega)
                        have la8 := cN_l hwo (by omega) (by omega) ma8 (fun j => my_up_ne f70 (by omega))
                        refine w_inv (k := 0) (as := [(2, 7)]) (r := []) (x := 1) (ls0 := [(2, 1), (2, 7)]) gz_30_79 gm_18 rfl is_1 rd_3 rfl rfl rfl rfl rfl (c_Laws_hold5 (d := d) (x1 := 7) is_7 (fun xp57 => ?_) (fun xp58 => ?_))
                        ·
                          show wp l rho (d + 4) 30 82 [(2, 0), (0, x1), (0, x2), (0, x3), (0, ((x1 * 4) + x2)), (0, v51)] [(0, 0)] h54 Q
                          have lf8 := xp57
                          refine w_ifeq (t := 87) gz_30_82 rfl (fun u59 => ?_) (fun u59 => by exfalso; omega)
                          refine w_aload_n gz_30_87 rfl ?_
                          refine w_getX (v := 1) gz_30_88 is_0 rd_9 rfl (by decide) rfl ?_
                          refine w_getX (v := 5) gz_30_91 is_1 rd_3 rfl (by decide) rfl ?_
                          refine w_iload gz_30_94 rfl ?_
                          refine w_iload gz_30_96 rfl ?_
                          refine w_iast gz_30_98 is_5 rd_28 (by omega) (by omega) (by omega) (by omega) (fun h62 fh62 => ?_)
                          have gh62 : my_fr [(28, -1)] h h62 := my_fr.up gh54 is_5 fh62 rfl
                          have f98 := fh62
                          refine w_iconst gz_30_99 (by decide) ?_
                          exact w_bret gz_30_100 gm_30 (by omega) (by omega) (k0 h62 (gh62) (by first | exact ⟨(show ((0 ≤ x1 ∧ x1 ≤ 2) ∧ 0 ≤ x2 ∧ x2 < h 2 x1) ∧ x2 ≠ 0 ∧ (x3 = -1 ∨ (x3 ≠ x1 ∧ 0 ≤ x3 ∧ x3 ≤ 2 ∧ 0 < h 2 x3)) by omega), la8.mp lf8⟩ | exact zyU_up f70 (by omega) | exact (fun z => by have z1 : ((0 ≤ x1 ∧ x1 ≤ 2) ∧ 0 ≤ x2 ∧ x2 < h 2 x1) ∧ x2 ≠ 0 ∧ (x3 = -1 ∨ (x3 ≠ x1 ∧ 0 ≤ x3 ∧ x3 ≤ 2 ∧ 0 < h 2 x3)) := z.1; omega) | exact (fun z => lf8 (la8.mpr z.2)) | exact (fun _ => rfl) | exact up_back f70 f98 (by omega) (by omega) | assumption | omega) (by first | exact ⟨(show ((0 ≤ x1 ∧ x1 ≤ 2) ∧ 0 ≤ x2 ∧ x2 < h 2 x1) ∧ x2 ≠ 0 ∧ (x3 = -1 ∨ (x3 ≠ x1 ∧ 0 ≤ x3 ∧ x3 ≤ 2 ∧ 0 < h 2 x3)) by omega), la8.mp lf8⟩ | exact zyU_up f70 (by omega) | exact (fun z => by have z1 : ((0 ≤ x1 ∧ x1 ≤ 2) ∧ 0 ≤ x2 ∧ x2 < h 2 x1) ∧ x2 ≠ 0 ∧ (x3 = -1 ∨ (x3 ≠ x1 ∧ 0 ≤ x3 ∧ x3 ≤ 2 ∧ 0 < h 2 x3)) := z.1; omega) | exact (fun z => lf8 (la8.mpr z.2)) | exact (fun _ => rfl) | exact up_back f70 f98 (by omega) (by omega) | assumption | omega))
                        ·
                          show wp l rho (d + 4) 30 82 [(2, 0), (0, x1), (0, x2), (0, x3), (0, ((x1 * 4) + x2)), (0, v51)] [(0, 1)] h54 Q
                          have lf8 := xp58
                          refine w_ifeq (t := 87) gz_30_82 rfl (fun u63 => by exfalso; omega) (fun u63 => ?_)
                          refine w_iconst gz_30_85 (by decide) ?_
                          exact w_bret gz_30_86 gm_30 (by omega) (by omega) (k1 h54 (gh54) (by omega) (by omega) (by omega) (by omega) (by omega) (by omega) (by first | exact ⟨(show ((0 ≤ x1 ∧ x1 ≤ 2) ∧ 0 ≤ x2 ∧ x2 < h 2 x1) ∧ x2 ≠ 0 ∧ (x3 = -1 ∨ (x3 ≠ x1 ∧ 0 ≤ x3 ∧ x3 ≤ 2 ∧ 0 < h 2 x3)) by omega), la8.mp lf8⟩ | exact zyU_up f70 (by omega) | exact (fun z => by have z1 : ((0 ≤ x1 ∧ x1 ≤ 2) ∧ 0 ≤ x2 ∧ x2 < h 2 x1) ∧ x2 ≠ 0 ∧ (x3 = -1 ∨ (x3 ≠ x1 ∧ 0 ≤ x3 ∧ x3 ≤ 2 ∧ 0 < h 2 x3)) := z.1; omega) | exact (fun z => lf8 (la8.mpr z.2)) | exact (fun _ => rfl) | exact up_back f70 f98 (by omega) (by omega) | assumption | omega) (by first | exact ⟨(show ((0 ≤ x1 ∧ x1 ≤ 2) ∧ 0 ≤ x2 ∧ x2 < h 2 x1) ∧ x2 ≠ 0 ∧ (x3 = -1 ∨ (x3 ≠ x1 ∧ 0 ≤ x3 ∧ x3 ≤ 2 ∧ 0 < h 2 x3)) by omega), la8.mp lf8⟩ | exact zyU_up f70 (by omega) | exact (fun z => by have z1 : ((0 ≤ x1 ∧ x1 ≤ 2) ∧ 0 ≤ x2 ∧ x2 < h 2 x1) ∧ x2 ≠ 0 ∧ (x3 = -1 ∨ (x3 ≠ x1 ∧ 0 ≤ x3 ∧ x3 ≤ 2 ∧ 0 < h 2 x3)) := z.1; omega) | exact (fun z => lf8 (la8.mpr z.2)) | exact (fun _ => rfl) | exact up_back f70 f98 (by omega) (by omega) | assumption | omega))
              ·
                refine w_iconst gz_30_21 (by decide) ?_
                exact w_bret gz_30_22 gm_30 (by omega) (by omega) (k0 h (my_fr.rf) (by first | exact ⟨(show ((0 ≤ x1 ∧ x1 ≤ 2) ∧ 0 ≤ x2 ∧ x2 < h 2 x1) ∧ x2 ≠ 0 ∧ (x3 = -1 ∨ (x3 ≠ x1 ∧ 0 ≤ x3 ∧ x3 ≤ 2 ∧ 0 < h 2 x3)) by omega), la8.mp lf8⟩ | exact zyU_up f70 (by omega) | exact (fun z => by have z1 : ((0 ≤ x1 ∧ x1 ≤ 2) ∧ 0 ≤ x2 ∧ x2 < h 2 x1) ∧ x2 ≠ 0 ∧ (x3 = -1 ∨ (x3 ≠ x1 ∧ 0 ≤ x3 ∧ x3 ≤ 2 ∧ 0 < h 2 x3)) := z.1; omega) | exact (fun z => lf8 (la8.mpr z.2)) | exact (fun _ => rfl) | exact up_back f70 f98 (by omega) (by omega) | assumption | omega) (by first | exact ⟨(show ((0 ≤ x1 ∧ x1 ≤ 2) ∧ 0 ≤ x2 ∧ x2 < h 2 x1) ∧ x2 ≠ 0 ∧ (x3 = -1 ∨ (x3 ≠ x1 ∧ 0 ≤ x3 ∧ x3 ≤ 2 ∧ 0 < h 2 x3)) by omega), la8.mp lf8⟩ | exact zyU_up f70 (by omega) | exact (fun z => by have z1 : ((0 ≤ x1 ∧ x1 ≤ 2) ∧ 0 ≤ x2 ∧ x2 < h 2 x1) ∧ x2 ≠ 0 ∧ (x3 = -1 ∨ (x3 ≠ x1 ∧ 0 ≤ x3 ∧ x3 ≤ 2 ∧ 0 < h 2 x3)) := z.1; omega) | exact (fun z => lf8 (la8.mpr z.2)) | exact (fun _ => rfl) | exact up_back f70 f98 (by omega) (by omega) | assumption | omega))
theorem c_ThroughWindow_once5 {l : Launch} {rho : Nat → Int32} {d : Nat} {h : my_H} {Q : my_H → my_V → Prop} {x1 x2 x3 : Int} (a3 : 0 ≤ x3) (b3 : x3 ≤ 1) (hwo : WOk h 7) (k0 : ∀ (h' : my_H), my_fr [(29, -1)] h h' → ¬ (zyOn (zqCA h) x1 x2 ∧ zqLf (zyO (zqCA h) x1 x2 x3) (h 8)) → (∀ j : Int, h' 6 j = h 6 j) → Q h' (0, 0)) (k1 : ∀ (h' : my_H), my_fr [(29, -1)] h h' → 0 ≤ x1 → x1 ≤ 2 → 1 ≤ x2 → x2 ≤ 3 → zyOn (zqCA h) x1 x2 ∧ zqLf (zyO (zqCA h) x1 x2 x3) (h 8) → h' 6 = zyU (h 6) (4 * x1 + x2) x3 → Q h' (0, 1)) : wp l rho (d + 4) 31 0 [(2, 0), (0, x1), (0, x2), (0, x3), (9, 0), (9, 0)] [] h Q := by
  refine w_aload_n gz_31_0 rfl ?_
  refine w_getX (v := 1) gz_31_1 is_0 rd_9 rfl (by decide) rfl ?_
  refine w_iload_n gz_31_4 rfl ?_
  refine w_iload_n gz_31_5 rfl ?_
  refine w_inv (k := 0) (as := [(0, x2), (0, x1)]) (r := []) (x := 1) (ls0 := [(2, 1), (0, x1), (0, x2)]) gz_31_6 gm_27 rfl is_1 rd_3 rfl rfl rfl rfl rfl ?_
  refine w_aload_n gz_27_0 rfl ?_
  refine w_iload_n gz_27_1 rfl ?_
  refine w_inv (k := 0) (as := [(0, x1)]) (r := []) (x := 1) (ls0 := [(2, 1), (0, x1)]) gz_27_2 gm_13 rfl is_1 rd_3 rfl rfl rfl rfl rfl ?_
  refine w_iload_n gz_13_0 rfl ?_
  refine w_iflt (t := 22) gz_13_1 rfl (fun u2 => ?_) (fun u2 => ?_)
  ·
    refine w_iconst gz_13_22 (by decide) ?_
    refine w_bret gz_13_23 gm_13 (by omega) (by omega) ?_
    show wp l rho (d + 3) 27 5 [(2, 1), (0, x1), (0, x2)] [(0, 0)] h _
    refine w_ifeq (t := 26) gz_27_5 rfl (fun u3 => ?_) (fun u3 => by exfalso; omega)
    refine w_iconst gz_27_26 (by decide) ?_
    refine w_bret gz_27_27 gm_27 (by omega) (by omega) ?_
    show wp l rho (d + 4) 31 9 [(2, 0), (0, x1), (0, x2), (0, x3), (9, 0), (9, 0)] [(0, 0)] h Q
    refine w_ifeq (t := 16) gz_31_9 rfl (fun u4 => ?_) (fun u4 => by exfalso; omega)
    refine w_iconst gz_31_16 (by decide) ?_
    exact w_bret gz_31_17 gm_31 (by omega) (by omega) (k0 h (my_fr.rf) (by first | exact ⟨(show ((0 ≤ x1 ∧ x1 ≤ 2) ∧ 0 ≤ x2 ∧ x2 < h 2 x1) ∧ x2 ≠ 0 by omega), la8.mp lf8⟩ | exact zyU_up f47 (by omega) | exact (fun z => by have z1 : ((0 ≤ x1 ∧ x1 ≤ 2) ∧ 0 ≤ x2 ∧ x2 < h 2 x1) ∧ x2 ≠ 0 := z.1; omega) | exact (fun z => lf8 (la8.mpr z.2)) | exact (fun _ => rfl) | exact up_back f47 f75 (by omega) (by omega) | assumption | omega) (by first | exact ⟨(show ((0 ≤ x1 ∧ x1 ≤ 2) ∧ 0 ≤ x2 ∧ x2 < h 2 x1) ∧ x2 ≠ 0 by omega), la8.mp lf8⟩ | exact zyU_up f47 (by omega) | exact (fun z => by have z1 : ((0 ≤ x1 ∧ x1 ≤ 2) ∧ 0 ≤ x2 ∧ x2 < h 2 x1) ∧ x2 ≠ 0 := z.1; omega) | exact (fun z => lf8 (la8.mpr z.2)) | exact (fun _ => rfl) | exact up_back f47 f75 (by omega) (by omega) | assumption | omega))
  ·
    refine w_iload_n gz_13_4 rfl ?_
    refine w_iconst gz_13_5 (by decide) ?_
    refine w_icge (t := 22) gz_13_6 rfl (fun u5 => ?_) (fun u5 => ?_)
    ·
      refine w_iconst gz_13_22 (by decide) ?_
      refine w_bret gz_13_23 gm_13 (by omega) (by omega) ?_
      show wp l rho (d + 3) 27 5 [(2, 1), (0, x1), (0, x2)] [(0, 0)] h _
      refine w_ifeq (t := 26) gz_27_5 rfl (fun u6 => ?_) (fun u6 => by exfalso; omega)
      refine w_iconst gz_27_26 (by decide) ?_
      refine w_bret gz_27_27 gm_27 (by omega) (by omega) ?_
      show wp l rho (d + 4) 31 9 [(2, 0), (0, x1), (0, x2), (0, x3), (9, 0), (9, 0)] [(0, 0)] h Q
      refine w_ifeq (t := 16) gz_31_9 rfl (fun u7 => ?_) (fun u7 => by exfalso; omega)
      refine w_iconst gz_31_16 (by decide) ?_
      exact w_bret gz_31_17 gm_31 (by omega) (by omega) (k0 h (my_fr.rf) (by first | exact ⟨(show ((0 ≤ x1 ∧ x1 ≤ 2) ∧ 0 ≤ x2 ∧ x2 < h 2 x1) ∧ x2 ≠ 0 by omega), la8.mp lf8⟩ | exact zyU_up f47 (by omega) | exact (fun z => by have z1 : ((0 ≤ x1 ∧ x1 ≤ 2) ∧ 0 ≤ x2 ∧ x2 < h 2 x1) ∧ x2 ≠ 0 := z.1; omega) | exact (fun z => lf8 (la8.mpr z.2)) | exact (fun _ => rfl) | exact up_back f47 f75 (by omega) (by omega) | assumption | omega) (by first | exact ⟨(show ((0 ≤ x1 ∧ x1 ≤ 2) ∧ 0 ≤ x2 ∧ x2 < h 2 x1) ∧ x2 ≠ 0 by omega), la8.mp lf8⟩ | exact zyU_up f47 (by omega) | exact (fun z => by have z1 : ((0 ≤ x1 ∧ x1 ≤ 2) ∧ 0 ≤ x2 ∧ x2 < h 2 x1) ∧ x2 ≠ 0 := z.1; omega) | exact (fun z => lf8 (la8.mpr z.2)) | exact (fun _ => rfl) | exact up_back f47 f75 (by omega) (by omega) | assumption | omega))
    ·
      refine w_aload_n gz_13_9 rfl ?_
      refine w_getX (v := 2) gz_13_10 is_1 rd_3 rfl (by decide) rfl ?_
      refine w_iload_n gz_13_13 rfl ?_
      refine w_iald gz_13_14 is_2 rd_25 (by omega) (by omega) (fun v9 ev9 pv9 qv9 => ?_)
      refine w_ifle (t := 22) gz_13_15 rfl (fun u10 => ?_) (fun u10 => ?_)
      ·
        refine w_iconst gz_13_22 (by decide) ?_
        refine w_bret gz_13_23 gm_13 (by omega) (by omega) ?_
        show wp l rho (d + 3) 27 5 [(2, 1), (0, x1), (0, x2)] [(0, 0)] h _
        refine w_ifeq (t := 26) gz_27_5 rfl (fun u11 => ?_) (fun u11 => by exfalso; omega)
        refine w_iconst gz_27_26 (by decide) ?_
        refine w_bret gz_27_27 gm_27 (by omega) (by omega) ?_
        show wp l rho (d + 4) 31 9 [(2, 0), (0, x1), (0, x2), (0, x3), (9, 0), (9, 0)] [(0, 0)] h Q
        refine w_ifeq (t := 16) gz_31_9 rfl (fun u12 => ?_) (fun u12 => by exfalso; omega)
        refine w_iconst gz_31_16 (by decide) ?_
        exact w_bret gz_31_17 gm_31 (by omega) (by omega) (k0 h (my_fr.rf) (by first | exact ⟨(show ((0 ≤ x1 ∧ x1 ≤ 2) ∧ 0 ≤ x2 ∧ x2 < h 2 x1) ∧ x2 ≠ 0 by omega), la8.mp lf8⟩ | exact zyU_up f47 (by omega) | exact (fun z => by have z1 : ((0 ≤ x1 ∧ x1 ≤ 2) ∧ 0 ≤ x2 ∧ x2 < h 2 x1) ∧ x2 ≠ 0 := z.1; omega) | exact (fun z => lf8 (la8.mpr z.2)) | exact (fun _ => rfl) | exact up_back f47 f75 (by omega) (by omega) | assumption | omega) (by first | exact ⟨(show ((0 ≤ x1 ∧ x1 ≤ 2) ∧ 0 ≤ x2 ∧ x2 < h 2 x1) ∧ x2 ≠ 0 by omega), la8.mp lf8⟩ | exact zyU_up f47 (by omega) | exact (fun z => by have z1 : ((0 ≤ x1 ∧ x1 ≤ 2) ∧ 0 ≤ x2 ∧ x2 < h 2 x1) ∧ x2 ≠ 0 := z.1; omega) | exact (fun z => lf8 (la8.mpr z.2)) | exact (fun _ => rfl) | exact up_back f47 f75 (by omega) (by omega) | assumption | omega))
      ·
        refine w_iconst gz_13_18 (by decide) ?_
        refine w_goto (t := 23) gz_13_19 rfl ?_
        refine w_bret gz_13_23 gm_13 (by omega) (by omega) ?_
        show wp l rho (d + 3) 27 5 [(2, 1), (0, x1), (0, x2)] [(0, 1)] h _
        refine w_ifeq (t := 26) gz_27_5 rfl (fun u13 => by exfalso; omega) (fun u13 => ?_)
        refine w_iload_n gz_27_8 rfl ?_
        refine w_iflt (t := 26) gz_27_9 rfl (fun u14 => ?_) (fun u14 => ?_)
        ·
          refine w_iconst gz_27_26 (by decide) ?_
          refine w_bret gz_27_27 gm_27 (by omega) (by omega) ?_
          show wp l rho (d + 4) 31 9 [(2, 0), (0, x1), (0, x2), (0, x3), (9, 0), (9, 0)] [(0, 0)] h Q
          refine w_ifeq (t := 16) gz_31_9 rfl (fun u15 => ?_) (fun u15 => by exfalso; omega)
          refine w_iconst gz_31_16 (by decide) ?_
          exact w_bret gz_31_17 gm_31 (by omega) (by omega) (k0 h (my_fr.rf) (by first | exact ⟨(show ((0 ≤ x1 ∧ x1 ≤ 2) ∧ 0 ≤ x2 ∧ x2 < h 2 x1) ∧ x2 ≠ 0 by omega), la8.mp lf8⟩ | exact zyU_up f47 (by omega) | exact (fun z => by have z1 : ((0 ≤ x1 ∧ x1 ≤ 2) ∧ 0 ≤ x2 ∧ x2 < h 2 x1) ∧ x2 ≠ 0 := z.1; omega) | exact (fun z => lf8 (la8.mpr z.2)) | exact (fun _ => rfl) | exact up_back f47 f75 (by omega) (by omega) | assumption | omega) (by first | exact ⟨(show ((0 ≤ x1 ∧ x1 ≤ 2) ∧ 0 ≤ x2 ∧ x2 < h 2 x1) ∧ x2 ≠ 0 by omega), la8.mp lf8⟩ | exact zyU_up f47 (by omega) | exact (fun z => by have z1 : ((0 ≤ x1 ∧ x1 ≤ 2) ∧ 0 ≤ x2 ∧ x2 < h 2 x1) ∧ x2 ≠ 0 := z.1; omega) | exact (fun z => lf8 (la8.mpr z.2)) | exact (fun _ => rfl) | exact up_back f47 f75 (by omega) (by omega) | assumption | omega))
        ·
          refine w_iload_n gz_27_12 rfl ?_
          refine w_aload_n gz_27_13 rfl ?_
          refine w_getX (v := 2) gz_27_14 is_1 rd_3 rfl (by decide) rfl ?_
          refine w_iload_n gz_27_17 rfl ?_
          refine w_iald gz_27_18 is_2 rd_25 (by omega) (by omega) (fun v17 ev17 pv17 qv17 => ?_)
          have zv17 := ev17.trans ev9.symm
          refine w_icge (t := 26) gz_27_19 rfl (fun u18 => ?_) (fun u18 => ?_)
          ·
            refine w_iconst gz_27_26 (by decide) ?_
            refine w_bret gz_27_27 gm_27 (by omega) (by omega) ?_
            show wp l rho (d + 4) 31 9 [(2, 0), (0, x1), (0, x2), (0, x3), (9, 0), (9, 0)] [(0, 0)] h Q
            refine w_ifeq (t := 16) gz_31_9 rfl (fun u19 => ?_) (fun u19 => by exfalso; omega)
            refine w_iconst gz_31_16 (by decide) ?_
            exact w_bret gz_31_17 gm_31 (by omega) (by omega) (k0 h (my_fr.rf) (by first | exact ⟨(show ((0 ≤ x1 ∧ x1 ≤ 2) ∧ 0 ≤ x2 ∧ x2 < h 2 x1) ∧ x2 ≠ 0 by omega), la8.mp lf8⟩ | exact zyU_up f47 (by omega) | exact (fun z => by have z1 : ((0 ≤ x1 ∧ x1 ≤ 2) ∧ 0 ≤ x2 ∧ x2 < h 2 x1) ∧ x2 ≠ 0 := z.1; omega) | exact (fun z => lf8 (la8.mpr z.2)) | exact (fun _ => rfl) | exact up_back f47 f75 (by omega) (by omega) | assumption | omega) (by first | exact ⟨(show ((0 ≤ x1 ∧ x1 ≤ 2) ∧ 0 ≤ x2 ∧ x2 < h 2 x1) ∧ x2 ≠ 0 by omega), la8.mp lf8⟩ | exact zyU_up f47 (by omega) | exact (fun z => by have z1 : ((0 ≤ x1 ∧ x1 ≤ 2) ∧ 0 ≤ x2 ∧ x2 < h 2 x1) ∧ x2 ≠ 0 := z.1; omega) | exact (fun z => lf8 (la8.mpr z.2)) | exact (fun _ => rfl) | exact up_back f47 f75 (by omega) (by omega) | assumption | omega))
          ·
            refine w_iconst gz_27_22 (by decide) ?_
            refine w_goto (t := 27) gz_27_23 rfl ?_
            refine w_bret gz_27_27 gm_27 (by omega) (by omega) ?_
            show wp l rho (d + 4) 31 9 [(2, 0), (0, x1), (0, x2), (0, x3), (9, 0), (9, 0)] [(0, 1)] h Q
            refine w_ifeq (t := 16) gz_31_9 rfl (fun u20 => by exfalso; omega) (fun u20 => ?_)
            refine w_iload_n gz_31_12 rfl ?_
            refine w_ifne (t := 18) gz_31_13 rfl (fun u21 => ?_) (fun u21 => ?_)
            ·
              refine w_iload_n gz_31_18 rfl ?_
              refine w_iload_n gz_31_19 rfl ?_
              refine w_inS (k := 0) (as := [(0, x2), (0, x1)]) (r := []) (ls0 := [(0, x1), (0, x2)]) gz_31_20 gm_29 rfl rfl rfl rfl rfl rfl ?_
              refine w_iload_n gz_29_0 rfl ?_
              refine w_iconst gz_29_1 (by decide) ?_
              refine w_imul gz_29_2 ⟨by omega, by omega⟩ ?_
              refine w_iload_n gz_29_3 rfl ?_
              refine w_iadd gz_29_4 ⟨by omega, by omega⟩ ?_
              refine w_iret gz_29_5 gm_29 ?_
              show wp l rho (d + 4) 31 23 [(2, 0), (0, x1), (0, x2), (0, x3), (9, 0), (9, 0)] [(0, ((x1 * 4) + x2))] h Q
              refine w_istore (ls' := [(2, 0), (0, x1), (0, x2), (0, x3), (0, ((x1 * 4) + x2)), (9, 0)]) gz_31_23 gm_31 rfl rfl rfl ?_
              refine w_aload_n gz_31_25 rfl ?_
              refine w_getX (v := 1) gz_31_26 is_0 rd_9 rfl (by decide) rfl ?_
              refine w_getX (v := 6) gz_31_29 is_1 rd_3 rfl (by decide) rfl ?_
              refine w_iload gz_31_32 rfl ?_
              refine w_bald gz_31_34 is_6 rd_29 (by omega) (by omega) (fun v24 ev24 pv24 qv24 => ?_)
              refine w_istore (ls' := [(2, 0), (0, x1), (0, x2), (0, x3), (0, ((x1 * 4) + x2)), (0, v24)]) gz_31_35 gm_31 rfl rfl rfl ?_
              refine w_aload_n gz_31_37 rfl ?_
              refine w_getX (v := 1) gz_31_38 is_0 rd_9 rfl (by decide) rfl ?_
              refine w_getX (v := 6) gz_31_41 is_1 rd_3 rfl (by decide) rfl ?_
              refine w_iload gz_31_44 rfl ?_
              refine w_iload_n gz_31_46 rfl ?_
              refine w_bast gz_31_47 is_6 rd_29 (by omega) (by omega) (by omega) (by omega) (fun h27 fh27 => ?_)
              have gh27 : my_fr [(29, -1)] h h27 := my_fr.up my_fr.rf is_6 fh27 rfl
              have f47 := fh27
              refine w_aload_n gz_31_48 rfl ?_
              refine w_getX (v := 1) gz_31_49 is_0 rd_9 rfl (by decide) rfl ?_
              refine w_aload_n gz_31_52 rfl ?_
              refine w_getX (v := 7) gz_31_53 is_0 rd_9 rfl (by decide) rfl ?_
              have ma8 : zqCA h27 = zyO (zqCA h) x1 x2 x3 := cO_m f47 (by omega)
              have la8 := cO_l hwo (by omega) (by omega) ma8 (fun j => my_up_ne f47 (by omega))
              refine w_inv (k := 0) (as := [(2, 7)]) (r := []) (x := 1) (ls0 := [(2, 1), (2, 7)]) gz_31_56 gm_18 rfl is_1 rd_3 rfl rfl rfl rfl rfl (c_Laws_hold5 (d := d) (x1 := 7) is_7 (fun xp30 => ?_) (fun xp31 => ?_))
              ·
                show wp l rho (d + 4) 31 59 [(2, 0), (0, x1), (0, x2), (0, x3), (0, ((x1 * 4) + x2)), (0, v24)] [(0, 0)] h27 Q
                have lf8 := xp30
                refine w_ifeq (t := 64) gz_31_59 rfl (fun u32 => ?_) (fun u32 => by exfalso; omega)
                refine w_aload_n gz_31_64 rfl ?_
                refine w_getX (v := 1) gz_31_65 is_0 rd_9 rfl (by decide) rfl ?_
                refine w_getX (v := 6) gz_31_68 is_1 rd_3 rfl (by decide) rfl ?_
                refine w_iload gz_31_71 rfl ?_
                refine w_iload gz_31_73 rfl ?_
                refine w_bast gz_31_75 is_6 rd_29 (by omega) (by omega) (by omega) (by omega) (fun h35 fh35 => ?_)
                have gh35 : my_fr [(29, -1)] h h35 := my_fr.up gh27 is_6 fh35 rfl
                have f75 := fh35
                refine w_iconst gz_31_76 (by decide) ?_
                exact w_bret gz_31_77 gm_31 (by omega) (by omega) (k0 h35 (gh35) (by first | exact ⟨(show ((0 ≤ x1 ∧ x1 ≤ 2) ∧ 0 ≤ x2 ∧ x2 < h 2 x1) ∧ x2 ≠ 0 by omega), la8.mp lf8⟩ | exact zyU_up f47 (by omega) | exact (fun z => by have z1 : ((0 ≤ x1 ∧ x1 ≤ 2) ∧ 0 ≤ x2 ∧ x2 < h 2 x1) ∧ x2 ≠ 0 := z.1; omega) | exact (fun z => lf8 (la8.mpr z.2)) | exact (fun _ => rfl) | exact up_back f47 f75 (by omega) (by omega) | assumption | omega) (by first | exact ⟨(show ((0 ≤ x1 ∧ x1 ≤ 2) ∧ 0 ≤ x2 ∧ x2 < h 2 x1) ∧ x2 ≠ 0 by omega), la8.mp lf8⟩ | exact zyU_up f47 (by omega) | exact (fun z => by have z1 : ((0 ≤ x1 ∧ x1 ≤ 2) ∧ 0 ≤ x2 ∧ x2 < h 2 x1) ∧ x2 ≠ 0 := z.1; omega) | exact (fun z => lf8 (la8.mpr z.2)) | exact (fun _ => rfl) | exact up_back f47 f75 (by omega) (by omega) | assumption | omega))
              ·
                show wp l rho (d + 4) 31 59 [(2, 0), (0, x1), (0, x2), (0, x3), (0, ((x1 * 4) + x2)), (0, v24)] [(0, 1)] h27 Q
                have lf8 := xp31
                refine w_ifeq (t := 64) gz_31_59 rfl (fun u36 => by exfalso; omega) (fun u36 => ?_)
                refine w_iconst gz_31_62 (by decide) ?_
                exact w_bret gz_31_63 gm_31 (by omega) (by omega) (k1 h27 (gh27) (by omega) (by omega) (by omega) (by omega) (by first | exact ⟨(show ((0 ≤ x1 ∧ x1 ≤ 2) ∧ 0 ≤ x2 ∧ x2 < h 2 x1) ∧ x2 ≠ 0 by omega), la8.mp lf8⟩ | exact zyU_up f47 (by omega) | exact (fun z => by have z1 : ((0 ≤ x1 ∧ x1 ≤ 2) ∧ 0 ≤ x2 ∧ x2 < h 2 x1) ∧ x2 ≠ 0 := z.1; omega) | exact (fun z => lf8 (la8.mpr z.2)) | exact (fun _ => rfl) | exact up_back f47 f75 (by omega) (by omega) | assumption | omega) (by first | exact ⟨(show ((0 ≤ x1 ∧ x1 ≤ 2) ∧ 0 ≤ x2 ∧ x2 < h 2 x1) ∧ x2 ≠ 0 by omega), la8.mp lf8⟩ | exact zyU_up f47 (by omega) | exact (fun z => by have z1 : ((0 ≤ x1 ∧ x1 ≤ 2) ∧ 0 ≤ x2 ∧ x2 < h 2 x1) ∧ x2 ≠ 0 := z.1; omega) | exact (fun z => lf8 (la8.mpr z.2)) | exact (fun _ => rfl) | exact up_back f47 f75 (by omega) (by omega) | assumption | omega))
            ·
              refine w_iconst gz_31_16 (by decide) ?_
              exact w_bret gz_31_17 gm_31 (by omega) (by omega) (k0 h (my_fr.rf) (by first | exact ⟨(show ((0 ≤ x1 ∧ x1 ≤ 2) ∧ 0 ≤ x2 ∧ x2 < h 2 x1) ∧ x2 ≠ 0 by omega), la8.mp lf8⟩ | exact zyU_up f47 (by omega) | exact (fun z => by have z1 : ((0 ≤ x1 ∧ x1 ≤ 2) ∧ 0 ≤ x2 ∧ x2 < h 2 x1) ∧ x2 ≠ 0 := z.1; omega) | exact (fun z => lf8 (la8.mpr z.2)) | exact (fun _ => rfl) | exact up_back f47 f75 (by omega) (by omega) | assumption | omega) (by first | exact ⟨(show ((0 ≤ x1 ∧ x1 ≤ 2) ∧ 0 ≤ x2 ∧ x2 < h 2 x1) ∧ x2 ≠ 0 by omega), la8.mp lf8⟩ | exact zyU_up f47 (by omega) | exact (fun z => by have z1 : ((0 ≤ x1 ∧ x1 ≤ 2) ∧ 0 ≤ x2 ∧ x2 < h 2 x1) ∧ x2 ≠ 0 := z.1; omega) | exact (fun z => lf8 (la8.mpr z.2)) | exact (fun _ => rfl) | exact up_back f47 f75 (by omega) (by omega) | assumption | omega))
end MYNThroughWindow_span5
