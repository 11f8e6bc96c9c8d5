/-! contracts, printed by wip/gen/gy.py -/
section MYNView_copyCells5
theorem c_View_copyCells5 {l : Launch} {rho : Nat → Int32} {d : Nat} {h : my_H} {Q : my_H → my_V → Prop} {x0 x1 x2 x3 x4 : Int} (t0 : my_is 8 x0) (t1 : my_is 6 x1) (a2 : 0 ≤ x2) (b2 : x2 ≤ 239) (a3 : 0 ≤ x3) (b3 : x3 ≤ 186) (m3_0 : 0 ≤ x3 % 17) (m3_1 : x3 % 17 ≤ 8) (a4 : 0 ≤ x4) (b4 : x4 ≤ 4) (m4_0 : 0 ≤ x4 % 17) (m4_1 : x4 % 17 ≤ 4) (hw1 : x2 + x4 ≤ 240) (hw2 : x3 % 17 + x4 ≤ 8) (k0 : ∀ (h' : my_H), my_fr [(42, -1)] h h' → my_fx x0 3 h h' → CcI h h' x0 x1 x2 x3 x4 → Q h' (9, 0)) : wp l rho d 70 0 [(2, x0), (2, x1), (0, x2), (0, x3), (0, x4), (9, 0)] [] h Q := by
  have J3_0 : ∀ (n : Nat) (p3_0 : Int) (h3_0 : my_H), my_fr [(42, -1)] h h3_0 → my_fx x0 3 h h3_0 → 0 ≤ p3_0 → p3_0 ≤ 4 → p3_0 ≤ x4 → CcI h h3_0 x0 x1 x2 x3 p3_0 → 5 - p3_0 ≤ (n : Int) → wp l rho d 70 3 [(2, x0), (2, x1), (0, x2), (0, x3), (0, x4), (0, p3_0)] [] h3_0 Q := by
    intro n
    induction n with
    | zero => intro p3_0 h3_0 gh_3_0 gx_3_0 q0_3_0 q1_3_0 q2_3_0 cc_3_0 hm_3_0; exfalso; omega
    | succ n ih_3_0 =>
      intro p3_0 h3_0 gh_3_0 gx_3_0 q0_3_0 q1_3_0 q2_3_0 cc_3_0 hm_3_0
      refine w_iload gz_70_3 rfl ?_
      refine w_iload gz_70_5 rfl ?_
      refine w_icge (t := 50) gz_70_7 rfl (fun u1 => ?_) (fun u1 => ?_)
      ·
        exact w_vret gz_70_50 gm_70 (k0 h3_0 (gh_3_0) (gx_3_0) (by first | (rw [show x4 = p3_0 by omega]; exact cc_3_0) | assumption | omega))
      ·
        refine w_aload_n gz_70_10 rfl ?_
        refine w_getX (v := (x0 + 1)) gz_70_11 t0 rd_8 rfl (by decide) rfl ?_
        refine w_iload_n gz_70_14 rfl ?_
        refine w_iload gz_70_15 rfl ?_
        refine w_iadd gz_70_17 ⟨by omega, by omega⟩ ?_
        refine w_aload_n gz_70_18 rfl ?_
        refine w_getX (v := (x1 + 1)) gz_70_19 t1 rd_6 rfl (by decide) rfl ?_
        refine w_iload_n gz_70_22 rfl ?_
        refine w_iload gz_70_23 rfl ?_
        refine w_iadd gz_70_25 ⟨by omega, by omega⟩ ?_
        have hi4 : 0 ≤ (x2 + p3_0) := by omega
        have hi5 : (x2 + p3_0) ≤ 239 := by omega
        refine w_iald gz_70_26 (ix_6_1 t1) rd_30 (by omega) (by omega) (fun v6 ev6 pv6 qv6 => ?_)
        have ea : v6 = h (x1 + 1) (x2 + p3_0) := by
          have z := my_fr.at (j := x2 + p3_0) gh_3_0 (ix_6_1 t1) rfl
          rw [← z, show x2 + p3_0 = (x2 + p3_0) by omega]
          omega
        have hi7 : 0 ≤ (x3 + p3_0) := by omega
        have hi8 : (x3 + p3_0) ≤ 203 := by omega
        refine w_gstV gz_70_27 (ix_8_1 t0) rd_42 (by omega) (by omega) (by omega) (fun h9 fh9 => ?_)
        have gh9 : my_fr [(42, -1)] h h9 := my_fr.up gh_3_0 (ix_8_1 t0) fh9 rfl
        have gxh9 : my_fx x0 3 h h9 := my_fx.up gx_3_0 fh9 (by omega)
        refine w_aload_n gz_70_28 rfl ?_
        refine w_getX (v := (x0 + 1)) gz_70_29 t0 rd_8 rfl (by decide) rfl ?_
        refine w_iload_n gz_70_32 rfl ?_
        refine w_bipush gz_70_33 (by decide) ?_
        refine w_iadd gz_70_35 ⟨by omega, by omega⟩ ?_
        refine w_iload gz_70_36 rfl ?_
        refine w_iadd gz_70_38 ⟨by omega, by omega⟩ ?_
        refine w_iload_n gz_70_39 rfl ?_
        refine w_iload gz_70_40 rfl ?_
        refine w_iadd gz_70_42 ⟨by omega, by omega⟩ ?_
        have hi11 : 0 ≤ ((x3 + 8) + p3_0) := by omega
        have hi12 : ((x3 + 8) + p3_0) ≤ 203 := by omega
        have hi13 : 0 ≤ (x2 + p3_0) := by omega
        have hi14 : (x2 + p3_0) ≤ 239 := by omega
        refine w_gstS gz_70_43 (ix_8_1 t0) rd_42 (by omega) (by omega) (by omega) (by omega) (by omega) (by omega) (fun h15 fh15 => ?_)
        have gh15 : my_fr [(42, -1)] h h15 := my_fr.up gh9 (ix_8_1 t0) fh15 rfl
        have gxh15 : my_fx x0 3 h h15 := my_fx.up gxh9 fh15 (by omega)
        refine w_iinc (ls' := [(2, x0), (2, x1), (0, x2), (0, x3), (0, x4), (0, (p3_0 + 1))]) gz_70_44 rfl gm_70 rfl rfl rfl ⟨by omega, by omega⟩ ?_
        refine w_goto (t := 3) gz_70_47 rfl ?_
        exact ih_3_0 ((p3_0 + 1)) h15 (gh15) (gxh15) (by omega) (by omega) (by omega) (by first | exact CcI_0 | exact CcI_s cc_3_0 (by omega) (by omega) fh9 ea fh15 (by omega) | assumption | omega) (by omega)
  refine w_iconst gz_70_0 (by decide) ?_
  refine w_istore (ls' := [(2, x0), (2, x1), (0, x2), (0, x3), (0, x4), (0, 0)]) gz_70_1 gm_70 rfl rfl rfl ?_
  exact J3_0 5 (0) h (my_fr.rf) (my_fx.rf) (by omega) (by omega) (by omega) (by first | exact CcI_0 | exact CcI_s cc_3_0 (by omega) (by omega) no_such_saying ea no_such_saying (by omega) | assumption | omega) (by omega)
end MYNView_copyCells5
