/-! contracts, printed by wip/gen/gy.py -/
section MYNLaws_isElsewhere5
theorem c_Laws_isElsewhere5 {l : Launch} {rho : Nat → Int32} {d : Nat} {h : my_H} {Q : my_H → my_V → Prop} {x0 x1 x2 x3 x4 : Int} (t0 : my_is 6 x0) (a1 : 0 ≤ x1) (b1 : x1 ≤ 2) (a2 : 0 ≤ x2) (b2 : x2 ≤ 19) (a3 : 0 ≤ x3) (b3 : x3 ≤ 3) (a4 : 0 ≤ x4) (b4 : x4 ≤ 19) (k0 : ¬ qElse (h (x0 + 1)) x1 x2 x3 x4 → Q h (0, 0)) (k1 : qElse (h (x0 + 1)) x1 x2 x3 x4 → Q h (0, 1)) : wp l rho (d + 1) 103 0 [(2, x0), (0, x1), (0, x2), (0, x3), (0, x4), (9, 0), (9, 0)] [] h Q := by
  have J3_0 : ∀ (n : Nat) (p3_0 : Int), 0 ≤ p3_0 → p3_0 ≤ 20 → (∀ k : Int, 0 ≤ k → k < p3_0 → k ≠ x2 → h (x0 + 1) (80 * x1 + 4 * k) ≠ -1 → h (x0 + 1) (80 * x1 + 4 * k + x3) ≠ x4) → 21 - p3_0 ≤ (n : Int) → wp l rho (d + 1) 103 3 [(2, x0), (0, x1), (0, x2), (0, x3), (0, x4), (0, p3_0), (9, 0)] [] h Q := by
    intro n
    induction n with
    | zero => intro p3_0 q0_3_0 q1_3_0 ne_3_0 hm_3_0; exfalso; omega
    | succ n ih_3_0 =>
      intro p3_0 q0_3_0 q1_3_0 ne_3_0 hm_3_0
      refine w_iload gz_103_3 rfl ?_
      refine w_bipush gz_103_5 (by decide) ?_
      refine w_icge (t := 57) gz_103_7 rfl (fun u1 => ?_) (fun u1 => ?_)
      ·
        refine w_iconst gz_103_57 (by decide) ?_
        exact w_bret gz_103_58 gm_103 (by omega) (by omega) (k0 (by first | exact ⟨p3_0, by omega, by omega, by omega, by omega, by omega⟩ | exact (fun ⟨k, a, b, c, d, e⟩ => ne_3_0 k a (by omega) c d e) | assumption | omega))
      ·
        refine w_iload_n gz_103_10 rfl ?_
        refine w_iload gz_103_11 rfl ?_
        refine w_inS (k := 0) (as := [(0, p3_0), (0, x1)]) (r := []) (ls0 := [(0, x1), (0, p3_0)]) gz_103_13 gm_17 rfl rfl rfl rfl rfl rfl ?_
        refine w_iload_n gz_17_0 rfl ?_
        refine w_bipush gz_17_1 (by decide) ?_
        refine w_imul gz_17_3 ⟨by omega, by omega⟩ ?_
        refine w_iload_n gz_17_4 rfl ?_
        refine w_iadd gz_17_5 ⟨by omega, by omega⟩ ?_
        refine w_iconst gz_17_6 (by decide) ?_
        refine w_imul gz_17_7 ⟨by omega, by omega⟩ ?_
        refine w_iret gz_17_8 gm_17 ?_
        show wp l rho (d + 1) 103 16 [(2, x0), (0, x1), (0, x2), (0, x3), (0, x4), (0, p3_0), (9, 0)] [(0, (((x1 * 20) + p3_0) * 4))] h Q
        refine w_istore (ls' := [(2, x0), (0, x1), (0, x2), (0, x3), (0, x4), (0, p3_0), (0, (((x1 * 20) + p3_0) * 4))]) gz_103_16 gm_103 rfl rfl rfl ?_
        refine w_iload gz_103_18 rfl ?_
        refine w_iload_n gz_103_20 rfl ?_
        refine w_iceq (t := 51) gz_103_21 rfl (fun u2 => ?_) (fun u2 => ?_)
        ·
          refine w_iinc (ls' := [(2, x0), (0, x1), (0, x2), (0, x3), (0, x4), (0, (p3_0 + 1)), (0, (((x1 * 20) + p3_0) * 4))]) gz_103_51 rfl gm_103 rfl rfl rfl ⟨by omega, by omega⟩ ?_
          refine w_goto (t := 3) gz_103_54 rfl ?_
          refine w_weak (ls' := [(2, x0), (0, x1), (0, x2), (0, x3), (0, x4), (0, (p3_0 + 1)), (9, 0)]) (wk_e (wk_e (wk_e (wk_e (wk_e (wk_e (wk_9 wk_n))))))) ?_
          exact ih_3_0 ((p3_0 + 1)) (by omega) (by omega) (by first | exact st_0 | exact st_1 ne_3_0 (fun a b => by omega) | omega) (by omega)
        ·
          refine w_aload_n gz_103_24 rfl ?_
          refine w_getX (v := (x0 + 1)) gz_103_25 t0 rd_6 rfl (by decide) rfl ?_
          refine w_iload gz_103_28 rfl ?_
          refine w_iald gz_103_30 (ix_6_1 t0) rd_30 (by omega) (by omega) (fun v4 ev4 pv4 qv4 => ?_)
          have c31 : h (x0 + 1) (80 * x1 + 4 * p3_0) = v4 := by
            rw [show 80 * x1 + 4 * p3_0 = (((x1 * 20) + p3_0) * 4) by omega]
            omega
          refine w_iconst gz_103_31 (by decide) ?_
          refine w_iceq (t := 51) gz_103_32 rfl (fun u5 => ?_) (fun u5 => ?_)
          ·
            refine w_iinc (ls' := [(2, x0), (0, x1), (0, x2), (0, x3), (0, x4), (0, (p3_0 + 1)), (0, (((x1 * 20) + p3_0) * 4))]) gz_103_51 rfl gm_103 rfl rfl rfl ⟨by omega, by omega⟩ ?_
            refine w_goto (t := 3) gz_103_54 rfl ?_
            refine w_weak (ls' := [(2, x0), (0, x1), (0, x2), (0, x3), (0, x4), (0, (p3_0 + 1)), (9, 0)]) (wk_e (wk_e (wk_e (wk_e (wk_e (wk_e (wk_9 wk_n))))))) ?_
            exact ih_3_0 ((p3_0 + 1)) (by omega) (by omega) (by first | exact st_0 | exact st_1 ne_3_0 (fun a b => by omega) | omega) (by omega)
          ·
            refine w_aload_n gz_103_35 rfl ?_
            refine w_getX (v := (x0 + 1)) gz_103_36 t0 rd_6 rfl (by decide) rfl ?_
            refine w_iload gz_103_39 rfl ?_
            refine w_iload_n gz_103_41 rfl ?_
            refine w_iadd gz_103_42 ⟨by omega, by omega⟩ ?_
            refine w_iald gz_103_43 (ix_6_1 t0) rd_30 (by omega) (by omega) (fun v7 ev7 pv7 qv7 => ?_)
            have c44 : h (x0 + 1) (80 * x1 + 4 * p3_0 + x3) = v7 := by
              rw [show 80 * x1 + 4 * p3_0 + x3 = ((((x1 * 20) + p3_0) * 4) + x3) by omega]
              omega
            refine w_iload gz_103_44 rfl ?_
            refine w_icne (t := 51) gz_103_46 rfl (fun u8 => ?_) (fun u8 => ?_)
            ·
              refine w_iinc (ls' := [(2, x0), (0, x1), (0, x2), (0, x3), (0, x4), (0, (p3_0 + 1)), (0, (((x1 * 20) + p3_0) * 4))]) gz_103_51 rfl gm_103 rfl rfl rfl ⟨by omega, by omega⟩ ?_
              refine w_goto (t := 3) gz_103_54 rfl ?_
              refine w_weak (ls' := [(2, x0), (0, x1), (0, x2), (0, x3), (0, x4), (0, (p3_0 + 1)), (9, 0)]) (wk_e (wk_e (wk_e (wk_e (wk_e (wk_e (wk_9 wk_n))))))) ?_
              exact ih_3_0 ((p3_0 + 1)) (by omega) (by omega) (by first | exact st_0 | exact st_1 ne_3_0 (fun a b => by omega) | omega) (by omega)
            ·
              refine w_iconst gz_103_49 (by decide) ?_
              exact w_bret gz_103_50 gm_103 (by omega) (by omega) (k1 (by first | exact ⟨p3_0, by omega, by omega, by omega, by omega, by omega⟩ | exact (fun ⟨k, a, b, c, d, e⟩ => ne_3_0 k a (by omega) c d e) | assumption | omega))
  refine w_iconst gz_103_0 (by decide) ?_
  refine w_istore (ls' := [(2, x0), (0, x1), (0, x2), (0, x3), (0, x4), (0, 0), (9, 0)]) gz_103_1 gm_103 rfl rfl rfl ?_
  exact J3_0 21 (0) (by omega) (by omega) (by first | exact st_0 | exact st_1 ne_3_0 (fun a b => by omega) | omega) (by omega)
theorem c_Rows_outside5 {l : Launch} {rho : Nat → Int32} {d : Nat} {h : my_H} {Q : my_H → my_V → Prop} {x0 x1 x2 x3 x4 : Int} (t0 : my_is 6 x0) (a1 : 0 ≤ x1) (b1 : x1 ≤ 2) (a2 : 0 ≤ x2) (b2 : x2 ≤ 3) (a3 : 0 ≤ x3) (b3 : x3 ≤ 19) (a4 : 0 ≤ x4) (b4 : x4 ≤ 19) (k0 : ∀ (y : Int), 0 ≤ y → y ≤ 20 → y = qOut (h (x0 + 1)) x1 x2 x3 x4 20 → Q h (0, y)) : wp l rho (d + 1) 20 0 [(2, x0), (0, x1), (0, x2), (0, x3), (0, x4), (9, 0), (9, 0), (9, 0)] [] h Q := by
  have J6_0 : ∀ (n : Nat) (p6_0 p6_1 : Int), 0 ≤ p6_0 → p6_0 ≤ 20 → 0 ≤ p6_1 → p6_1 ≤ 20 → p6_0 ≤ p6_1 → p6_0 = qOut (h (x0 + 1)) x1 x2 x3 x4 p6_1.toNat → 21 - p6_1 ≤ (n : Int) → wp l rho (d + 1) 20 6 [(2, x0), (0, x1), (0, x2), (0, x3), (0, x4), (0, p6_0), (0, p6_1), (9, 0)] [] h Q := by
    intro n
    induction n with
    | zero => intro p6_0 p6_1 q0_6_0 q1_6_0 q2_6_0 q3_6_0 q4_6_0 ou_6_0 hm_6_0; exfalso; omega
    | succ n ih_6_0 =>
      intro p6_0 p6_1 q0_6_0 q1_6_0 q2_6_0 q3_6_0 q4_6_0 ou_6_0 hm_6_0
      refine w_iload gz_20_6 rfl ?_
      refine w_bipush gz_20_8 (by decide) ?_
      refine w_icge (t := 68) gz_20_10 rfl (fun u1 => ?_) (fun u1 => ?_)
      ·
        refine w_iload gz_20_68 rfl ?_
        exact w_iret gz_20_70 gm_20 (k0 (p6_0) (by omega) (by omega) (by first | (have q := ou_6_0; rw [show p6_1 = 20 by omega] at q; exact q) | assumption | omega))
      ·
        refine w_iload_n gz_20_13 rfl ?_
        refine w_iload gz_20_14 rfl ?_
        refine w_inS (k := 0) (as := [(0, p6_1), (0, x1)]) (r := []) (ls0 := [(0, x1), (0, p6_1)]) gz_20_16 gm_17 rfl rfl rfl rfl rfl rfl ?_
        refine w_iload_n gz_17_0 rfl ?_
        refine w_bipush gz_17_1 (by decide) ?_
        refine w_imul gz_17_3 ⟨by omega, by omega⟩ ?_
        refine w_iload_n gz_17_4 rfl ?_
        refine w_iadd gz_17_5 ⟨by omega, by omega⟩ ?_
        refine w_iconst gz_17_6 (by decide) ?_
        refine w_imul gz_17_7 ⟨by omega, by omega⟩ ?_
        refine w_iret gz_17_8 gm_17 ?_
        show wp l rho (d + 1) 20 19 [(2, x0), (0, x1), (0, x2), (0, x3), (0, x4), (0, p6_0), (0, p6_1), (9, 0)] [(0, (((x1 * 20) + p6_1) * 4))] h Q
        refine w_istore (ls' := [(2, x0), (0, x1), (0, x2), (0, x3), (0, x4), (0, p6_0), (0, p6_1), (0, (((x1 * 20) + p6_1) * 4))]) gz_20_19 gm_20 rfl rfl rfl ?_
        refine w_aload_n gz_20_21 rfl ?_
        refine w_getX (v := (x0 + 1)) gz_20_22 t0 rd_6 rfl (by decide) rfl ?_
        refine w_iload gz_20_25 rfl ?_
        refine w_iald gz_20_27 (ix_6_1 t0) rd_30 (by omega) (by omega) (fun v3 ev3 pv3 qv3 => ?_)
        have c28 : h (x0 + 1) (80 * x1 + 4 * p6_1) = v3 := by
          rw [show 80 * x1 + 4 * p6_1 = (((x1 * 20) + p6_1) * 4) by omega]
          omega
        refine w_iconst gz_20_28 (by decide) ?_
        refine w_iceq (t := 62) gz_20_29 rfl (fun u4 => ?_) (fun u4 => ?_)
        ·
          refine w_iinc (ls' := [(2, x0), (0, x1), (0, x2), (0, x3), (0, x4), (0, p6_0), (0, (p6_1 + 1)), (0, (((x1 * 20) + p6_1) * 4))]) gz_20_62 rfl gm_20 rfl rfl rfl ⟨by omega, by omega⟩ ?_
          refine w_goto (t := 6) gz_20_65 rfl ?_
          refine w_weak (ls' := [(2, x0), (0, x1), (0, x2), (0, x3), (0, x4), (0, p6_0), (0, (p6_1 + 1)), (9, 0)]) (wk_e (wk_e (wk_e (wk_e (wk_e (wk_e (wk_e (wk_9 wk_n)))))))) ?_
          exact ih_6_0 (p6_0) ((p6_1 + 1)) (by omega) (by omega) (by omega) (by omega) (by omega) (by first | rfl | exact (qOut_s (by omega) ou_6_0).1 (by omega) | exact (qOut_s (by omega) ou_6_0).2 (by omega) | omega) (by omega)
        ·
          refine w_aload_n gz_20_32 rfl ?_
          refine w_getX (v := (x0 + 1)) gz_20_33 t0 rd_6 rfl (by decide) rfl ?_
          refine w_iload gz_20_36 rfl ?_
          refine w_iload_n gz_20_38 rfl ?_
          refine w_iadd gz_20_39 ⟨by omega, by omega⟩ ?_
          refine w_iald gz_20_40 (ix_6_1 t0) rd_30 (by omega) (by omega) (fun v6 ev6 pv6 qv6 => ?_)
          have c41 : h (x0 + 1) (80 * x1 + 4 * p6_1 + x2) = v6 := by
            rw [show 80 * x1 + 4 * p6_1 + x2 = ((((x1 * 20) + p6_1) * 4) + x2) by omega]
            omega
          refine w_iload_n gz_20_41 rfl ?_
          refine w_iclt (t := 59) gz_20_42 rfl (fun u7 => ?_) (fun u7 => ?_)
          ·
            refine w_iinc (ls' := [(2, x0), (0, x1), (0, x2), (0, x3), (0, x4), (0, (p6_0 + 1)), (0, p6_1), (0, (((x1 * 20) + p6_1) * 4))]) gz_20_59 rfl gm_20 rfl rfl rfl ⟨by omega, by omega⟩ ?_
            refine w_iinc (ls' := [(2, x0), (0, x1), (0, x2), (0, x3), (0, x4), (0, (p6_0 + 1)), (0, (p6_1 + 1)), (0, (((x1 * 20) + p6_1) * 4))]) gz_20_62 rfl gm_20 rfl rfl rfl ⟨by omega, by omega⟩ ?_
            refine w_goto (t := 6) gz_20_65 rfl ?_
            refine w_weak (ls' := [(2, x0), (0, x1), (0, x2), (0, x3), (0, x4), (0, (p6_0 + 1)), (0, (p6_1 + 1)), (9, 0)]) (wk_e (wk_e (wk_e (wk_e (wk_e (wk_e (wk_e (wk_9 wk_n)))))))) ?_
            exact ih_6_0 ((p6_0 + 1)) ((p6_1 + 1)) (by omega) (by omega) (by omega) (by omega) (by omega) (by first | rfl | exact (qOut_s (by omega) ou_6_0).1 (by omega) | exact (qOut_s (by omega) ou_6_0).2 (by omega) | omega) (by omega)
          ·
            refine w_aload_n gz_20_45 rfl ?_
            refine w_getX (v := (x0 + 1)) gz_20_46 t0 rd_6 rfl (by decide) rfl ?_
            refine w_iload gz_20_49 rfl ?_
            refine w_iload_n gz_20_51 rfl ?_
            refine w_iadd gz_20_52 ⟨by omega, by omega⟩ ?_
            refine w_iald gz_20_53 (ix_6_1 t0) rd_30 (by omega) (by omega) (fun v9 ev9 pv9 qv9 => ?_)
            have c54 : h (x0 + 1) (80 * x1 + 4 * p6_1 + x2) = v9 := by
              rw [show 80 * x1 + 4 * p6_1 + x2 = ((((x1 * 20) + p6_1) * 4) + x2) by omega]
              omega
            refine w_iload gz_20_54 rfl ?_
            refine w_icle (t := 62) gz_20_56 rfl (fun u10 => ?_) (fun u10 => ?_)
            ·
              refine w_iinc (ls' := [(2, x0), (0, x1), (0, x2), (0, x3), (0, x4), (0, p6_0), (0, (p6_1 + 1)), (0, (((x1 * 20) + p6_1) * 4))]) gz_20_62 rfl gm_20 rfl rfl rfl ⟨by omega, by omega⟩ ?_
              refine w_goto (t := 6) gz_20_65 rfl ?_
              refine w_weak (ls' := [(2, x0), (0, x1), (0, x2), (0, x3), (0, x4), (0, p6_0), (0, (p6_1 + 1)), (9, 0)]) (wk_e (wk_e (wk_e (wk_e (wk_e (wk_e (wk_e (wk_9 wk_n)))))))) ?_
              exact ih_6_0 (p6_0) ((p6_1 + 1)) (by omega) (by omega) (by omega) (by omega) (by omega) (by first | rfl | exact (qOut_s (by omega) ou_6_0).1 (by omega) | exact (qOut_s (by omega) ou_6_0).2 (by omega) | omega) (by omega)
            ·
              refine w_iinc (ls' := [(2, x0), (0, x1), (0, x2), (0, x3), (0, x4), (0, (p6_0 + 1)), (0, p6_1), (0, (((x1 * 20) + p6_1) * 4))]) gz_20_59 rfl gm_20 rfl rfl rfl ⟨by omega, by omega⟩ ?_
              refine w_iinc (ls' := [(2, x0), (0, x1), (0, x2), (0, x3), (0, x4), (0, (p6_0 + 1)), (0, (p6_1 + 1)), (0, (((x1 * 20) + p6_1) * 4))]) gz_20_62 rfl gm_20 rfl rfl rfl ⟨by omega, by omega⟩ ?_
              refine w_goto (t := 6) gz_20_65 rfl ?_
              refine w_weak (ls' := [(2, x0), (0, x1), (0, x2), (0, x3), (0, x4), (0, (p6_0 + 1)), (0, (p6_1 + 1)), (9, 0)]) (wk_e (wk_e (wk_e (wk_e (wk_e (wk_e (wk_e (wk_9 wk_n)))))))) ?_
              exact ih_6_0 ((p6_0 + 1)) ((p6_1 + 1)) (by omega) (by omega) (by omega) (by omega) (by omega) (by first | rfl | exact (qOut_s (by omega) ou_6_0).1 (by omega) | exact (qOut_s (by omega) ou_6_0).2 (by omega) | omega) (by omega)
  refine w_iconst gz_20_0 (by decide) ?_
  refine w_istore (ls' := [(2, x0), (0, x1), (0, x2), (0, x3), (0, x4), (0, 0), (9, 0), (9, 0)]) gz_20_1 gm_20 rfl rfl rfl ?_
  refine w_iconst gz_20_3 (by decide) ?_
  refine w_istore (ls' := [(2, x0), (0, x1), (0, x2), (0, x3), (0, x4), (0, 0), (0, 0), (9, 0)]) gz_20_4 gm_20 rfl rfl rfl ?_
  exact J6_0 21 (0) (0) (by omega) (by omega) (by omega) (by omega) (by omega) (by first | rfl | exact (qOut_s (by omega) ou_6_0).1 (by omega) | exact (qOut_s (by omega) ou_6_0).2 (by omega) | omega) (by omega)
theorem c_Laws_namesKeys5 {l : Launch} {rho : Nat → Int32} {d : Nat} {h : my_H} {Q : my_H → my_V → Prop} {x0 x1 x2 x3 : Int} (t0 : my_is 6 x0) (a1 : 0 ≤ x1) (b1 : x1 ≤ 2) (a2 : 0 ≤ x2) (b2 : x2 ≤ 3) (a3 : 0 ≤ x3) (b3 : x3 ≤ 2) (k0 : qNm (h (x0 + 1)) x1 x2 x3 → Q h (0, 0)) (k1 : ¬ qNm (h (x0 + 1)) x1 x2 x3 → Q h (0, 1)) : wp l rho (d + 1) 21 0 [(2, x0), (0, x1), (0, x2), (0, x3), (9, 0), (9, 0)] [] h Q := by
  have J3_0 : ∀ (n : Nat) (p3_0 : Int), 0 ≤ p3_0 → p3_0 ≤ 20 → (∀ k : Int, 0 ≤ k → k < p3_0 → h (x0 + 1) (80 * x1 + 4 * k) ≠ -1 → zqHas (h (x0 + 1)) x3 (h (x0 + 1) (80 * x1 + 4 * k + x2))) → 21 - p3_0 ≤ (n : Int) → wp l rho (d + 1) 21 3 [(2, x0), (0, x1), (0, x2), (0, x3), (0, p3_0), (9, 0)] [] h Q := by
    intro n
    induction n with
    | zero => intro p3_0 q0_3_0 q1_3_0 nm_3_0 hm_3_0; exfalso; omega
    | succ n ih_3_0 =>
      intro p3_0 q0_3_0 q1_3_0 nm_3_0 hm_3_0
      refine w_iload gz_21_3 rfl ?_
      refine w_bipush gz_21_5 (by decide) ?_
      refine w_icge (t := 54) gz_21_7 rfl (fun u1 => ?_) (fun u1 => ?_)
      ·
        refine w_iconst gz_21_54 (by decide) ?_
        exact w_bret gz_21_55 gm_21 (by omega) (by omega) (k1 (by first | exact (fun ⟨k, a, b, c, d⟩ => d (nm_3_0 k a (by omega) c)) | exact ⟨p3_0, by omega, by omega, by omega, by rw [c40]; exact hasn 0 (by omega)⟩ | exact ⟨p3_0, by omega, by omega, by omega, by rw [c40]; exact (fun z => by omega)⟩ | assumption | omega))
      ·
        refine w_iload_n gz_21_10 rfl ?_
        refine w_iload gz_21_11 rfl ?_
        refine w_inS (k := 0) (as := [(0, p3_0), (0, x1)]) (r := []) (ls0 := [(0, x1), (0, p3_0)]) gz_21_13 gm_17 rfl rfl rfl rfl rfl rfl ?_
        refine w_iload_n gz_17_0 rfl ?_
        refine w_bipush gz_17_1 (by decide) ?_
        refine w_imul gz_17_3 ⟨by omega, by omega⟩ ?_
        refine w_iload_n gz_17_4 rfl ?_
        refine w_iadd gz_17_5 ⟨by omega, by omega⟩ ?_
        refine w_iconst gz_17_6 (by decide) ?_
        refine w_imul gz_17_7 ⟨by omega, by omega⟩ ?_
        refine w_iret gz_17_8 gm_17 ?_
        show wp l rho (d + 1) 21 16 [(2, x0), (0, x1), (0, x2), (0, x3), (0, p3_0), (9, 0)] [(0, (((x1 * 20) + p3_0) * 4))] h Q
        refine w_istore (ls' := [(2, x0), (0, x1), (0, x2), (0, x3), (0, p3_0), (0, (((x1 * 20) + p3_0) * 4))]) gz_21_16 gm_21 rfl rfl rfl ?_
        refine w_aload_n gz_21_18 rfl ?_
        refine w_getX (v := (x0 + 1)) gz_21_19 t0 rd_6 rfl (by decide) rfl ?_
        refine w_iload gz_21_22 rfl ?_
        refine w_iald gz_21_24 (ix_6_1 t0) rd_30 (by omega) (by omega) (fun v3 ev3 pv3 qv3 => ?_)
        have c25 : h (x0 + 1) (80 * x1 + 4 * p3_0) = v3 := by
          rw [show 80 * x1 + 4 * p3_0 = (((x1 * 20) + p3_0) * 4) by omega]
          omega
        refine w_iconst gz_21_25 (by decide) ?_
        refine w_iceq (t := 48) gz_21_26 rfl (fun u4 => ?_) (fun u4 => ?_)
        ·
          refine w_iinc (ls' := [(2, x0), (0, x1), (0, x2), (0, x3), (0, (p3_0 + 1)), (0, (((x1 * 20) + p3_0) * 4))]) gz_21_48 rfl gm_21 rfl rfl rfl ⟨by omega, by omega⟩ ?_
          refine w_goto (t := 3) gz_21_51 rfl ?_
          refine w_weak (ls' := [(2, x0), (0, x1), (0, x2), (0, x3), (0, (p3_0 + 1)), (9, 0)]) (wk_e (wk_e (wk_e (wk_e (wk_e (wk_9 wk_n)))))) ?_
          exact ih_3_0 ((p3_0 + 1)) (by omega) (by omega) (by first | exact st_0 | exact st_1 nm_3_0 (fun c => absurd c (by omega)) | exact st_1 nm_3_0 (fun _ => by rw [c40]; exact ⟨by omega, by omega, has_ix (((x1 * 20) + p3_0) * 4) (by omega) (by omega)⟩) | omega) (by omega)
        ·
          refine w_aload_n gz_21_29 rfl ?_
          refine w_iload_n gz_21_30 rfl ?_
          refine w_aload_n gz_21_31 rfl ?_
          refine w_getX (v := (x0 + 1)) gz_21_32 t0 rd_6 rfl (by decide) rfl ?_
          refine w_iload gz_21_35 rfl ?_
          refine w_iload_n gz_21_37 rfl ?_
          refine w_iadd gz_21_38 ⟨by omega, by omega⟩ ?_
          refine w_iald gz_21_39 (ix_6_1 t0) rd_30 (by omega) (by omega) (fun v6 ev6 pv6 qv6 => ?_)
          have c40 : h (x0 + 1) (80 * x1 + 4 * p3_0 + x2) = v6 := by
            rw [show 80 * x1 + 4 * p3_0 + x2 = ((((x1 * 20) + p3_0) * 4) + x2) by omega]
            omega
          refine w_inv (k := 0) (as := [(0, v6), (0, x3)]) (r := []) (x := x0) (ls0 := [(2, x0), (0, x3), (0, v6)]) gz_21_40 gm_15 rfl t0 rd_6 rfl rfl rfl rfl rfl ?_
          refine w_iload_n gz_15_0 rfl ?_
          refine w_iflt (t := 31) gz_15_1 rfl (fun u7 => ?_) (fun u7 => ?_)
          ·
            refine w_iconst gz_15_31 (by decide) ?_
            refine w_bret gz_15_32 gm_15 (by omega) (by omega) ?_
            show wp l rho (d + 1) 21 43 [(2, x0), (0, x1), (0, x2), (0, x3), (0, p3_0), (0, (((x1 * 20) + p3_0) * 4))] [(0, 0)] h Q
            refine w_ifne (t := 48) gz_21_43 rfl (fun u8 => by exfalso; omega) (fun u8 => ?_)
            refine w_iconst gz_21_46 (by decide) ?_
            exact w_bret gz_21_47 gm_21 (by omega) (by omega) (k0 (by first | exact (fun ⟨k, a, b, c, d⟩ => d (nm_3_0 k a (by omega) c)) | exact ⟨p3_0, by omega, by omega, by omega, by rw [c40]; exact hasn ((((x1 * 20) + p3_0) * 4) + x2) (by omega)⟩ | exact ⟨p3_0, by omega, by omega, by omega, by rw [c40]; exact (fun z => by omega)⟩ | assumption | omega))
          ·
            refine w_iload_n gz_15_4 rfl ?_
            refine w_bipush gz_15_5 (by decide) ?_
            refine w_icge (t := 31) gz_15_7 rfl (fun u9 => by exfalso; omega) (fun u9 => ?_)
            refine w_aload_n gz_15_10 rfl ?_
            refine w_getX (v := (x0 + 1)) gz_15_11 t0 rd_6 rfl (by decide) rfl ?_
            refine w_iload_n gz_15_14 rfl ?_
            refine w_bipush gz_15_15 (by decide) ?_
            refine w_imul gz_15_17 ⟨by omega, by omega⟩ ?_
            refine w_iload_n gz_15_18 rfl ?_
            refine w_iadd gz_15_19 ⟨by omega, by omega⟩ ?_
            refine w_iconst gz_15_20 (by decide) ?_
            refine w_imul gz_15_21 ⟨by omega, by omega⟩ ?_
            refine w_iald gz_15_22 (ix_6_1 t0) rd_30 (by omega) (by omega) (fun v11 ev11 pv11 qv11 => ?_)
            refine w_iconst gz_15_23 (by decide) ?_
            refine w_iceq (t := 31) gz_15_24 rfl (fun u12 => ?_) (fun u12 => ?_)
            ·
              refine w_iconst gz_15_31 (by decide) ?_
              refine w_bret gz_15_32 gm_15 (by omega) (by omega) ?_
              show wp l rho (d + 1) 21 43 [(2, x0), (0, x1), (0, x2), (0, x3), (0, p3_0), (0, (((x1 * 20) + p3_0) * 4))] [(0, 0)] h Q
              refine w_ifne (t := 48) gz_21_43 rfl (fun u13 => by exfalso; omega) (fun u13 => ?_)
              refine w_iconst gz_21_46 (by decide) ?_
              exact w_bret gz_21_47 gm_21 (by omega) (by omega) (k0 (by first | exact (fun ⟨k, a, b, c, d⟩ => d (nm_3_0 k a (by omega) c)) | exact ⟨p3_0, by omega, by omega, by omega, by rw [c40]; exact hasn (((x3 * 20) + v6) * 4) (by omega)⟩ | exact ⟨p3_0, by omega, by omega, by omega, by rw [c40]; exact (fun z => by omega)⟩ | assumption | omega))
            ·
              refine w_iconst gz_15_27 (by decide) ?_
              refine w_goto (t := 32) gz_15_28 rfl ?_
              refine w_bret gz_15_32 gm_15 (by omega) (by omega) ?_
              show wp l rho (d + 1) 21 43 [(2, x0), (0, x1), (0, x2), (0, x3), (0, p3_0), (0, (((x1 * 20) + p3_0) * 4))] [(0, 1)] h Q
              refine w_ifne (t := 48) gz_21_43 rfl (fun u14 => ?_) (fun u14 => by exfalso; omega)
              refine w_iinc (ls' := [(2, x0), (0, x1), (0, x2), (0, x3), (0, (p3_0 + 1)), (0, (((x1 * 20) + p3_0) * 4))]) gz_21_48 rfl gm_21 rfl rfl rfl ⟨by omega, by omega⟩ ?_
              refine w_goto (t := 3) gz_21_51 rfl ?_
              refine w_weak (ls' := [(2, x0), (0, x1), (0, x2), (0, x3), (0, (p3_0 + 1)), (9, 0)]) (wk_e (wk_e (wk_e (wk_e (wk_e (wk_9 wk_n)))))) ?_
              exact ih_3_0 ((p3_0 + 1)) (by omega) (by omega) (by first | exact st_0 | exact st_1 nm_3_0 (fun c => absurd c (by omega)) | exact st_1 nm_3_0 (fun _ => by rw [c40]; exact ⟨by omega, by omega, has_ix (((x3 * 20) + v6) * 4) (by omega) (by omega)⟩) | omega) (by omega)
  refine w_iconst gz_21_0 (by decide) ?_
  refine w_istore (ls' := [(2, x0), (0, x1), (0, x2), (0, x3), (0, 0), (9, 0)]) gz_21_1 gm_21 rfl rfl rfl ?_
  exact J3_0 21 (0) (by omega) (by omega) (by first | exact st_0 | exact st_1 nm_3_0 (fun c => absurd c (by omega)) | exact st_1 nm_3_0 (fun _ => by rw [c40]; exact ⟨by omega, by omega, has_ix (((x3 * 20) + v6) * 4) (by omega) (by omega)⟩) | omega) (by omega)
theorem c_Laws_isSingle5 {l : Launch} {rho : Nat → Int32} {d : Nat} {h : my_H} {Q : my_H → my_V → Prop} {x0 x1 x2 : Int} (t0 : my_is 6 x0) (a1 : 0 ≤ x1) (b1 : x1 ≤ 2) (a2 : 0 ≤ x2) (b2 : x2 ≤ 3) (k0 : qOn (h (x0 + 1)) x1 x2 → Q h (0, 0)) (k1 : ¬ qOn (h (x0 + 1)) x1 x2 → Q h (0, 1)) : wp l rho (d + 1) 22 0 [(2, x0), (0, x1), (0, x2), (9, 0), (9, 0), (9, 0), (9, 0)] [] h Q := by
  have J5_0 : ∀ (n : Nat) (p5_0 p5_1 : Int), 0 ≤ p5_1 → p5_1 ≤ 20 → qUn (h (x0 + 1)) x1 x2 p5_1 → qMet (h (x0 + 1)) x1 x2 p5_1 p5_0 → 21 - p5_1 ≤ (n : Int) → wp l rho (d + 1) 22 5 [(2, x0), (0, x1), (0, x2), (0, p5_0), (0, p5_1), (9, 0), (9, 0)] [] h Q := by
    intro n
    induction n with
    | zero => intro p5_0 p5_1 q0_5_0 q1_5_0 un_5_0 mt_5_0 hm_5_0; exfalso; omega
    | succ n ih_5_0 =>
      intro p5_0 p5_1 q0_5_0 q1_5_0 un_5_0 mt_5_0 hm_5_0
      refine w_iload gz_22_5 rfl ?_
      refine w_bipush gz_22_7 (by decide) ?_
      refine w_icge (t := 64) gz_22_9 rfl (fun u1 => ?_) (fun u1 => ?_)
      ·
        refine w_iconst gz_22_64 (by decide) ?_
        exact w_bret gz_22_65 gm_22 (by omega) (by omega) (k1 (by first | exact qOn_n un_5_0 (by omega) | exact qOn_y (by omega) mt_5_0 (by omega) c41 (by omega) (by omega) ebn (by omega) | assumption | omega))
      ·
        refine w_iload_n gz_22_12 rfl ?_
        refine w_iload gz_22_13 rfl ?_
        refine w_inS (k := 0) (as := [(0, p5_1), (0, x1)]) (r := []) (ls0 := [(0, x1), (0, p5_1)]) gz_22_15 gm_17 rfl rfl rfl rfl rfl rfl ?_
        refine w_iload_n gz_17_0 rfl ?_
        refine w_bipush gz_17_1 (by decide) ?_
        refine w_imul gz_17_3 ⟨by omega, by omega⟩ ?_
        refine w_iload_n gz_17_4 rfl ?_
        refine w_iadd gz_17_5 ⟨by omega, by omega⟩ ?_
        refine w_iconst gz_17_6 (by decide) ?_
        refine w_imul gz_17_7 ⟨by omega, by omega⟩ ?_
        refine w_iret gz_17_8 gm_17 ?_
        show wp l rho (d + 1) 22 18 [(2, x0), (0, x1), (0, x2), (0, p5_0), (0, p5_1), (9, 0), (9, 0)] [(0, (((x1 * 20) + p5_1) * 4))] h Q
        refine w_istore (ls' := [(2, x0), (0, x1), (0, x2), (0, p5_0), (0, p5_1), (0, (((x1 * 20) + p5_1) * 4)), (9, 0)]) gz_22_18 gm_22 rfl rfl rfl ?_
        refine w_aload_n gz_22_20 rfl ?_
        refine w_getX (v := (x0 + 1)) gz_22_21 t0 rd_6 rfl (by decide) rfl ?_
        refine w_iload gz_22_24 rfl ?_
        refine w_iald gz_22_26 (ix_6_1 t0) rd_30 (by omega) (by omega) (fun v3 ev3 pv3 qv3 => ?_)
        have c27 : h (x0 + 1) (80 * x1 + 4 * p5_1) = v3 := by
          rw [show 80 * x1 + 4 * p5_1 = (((x1 * 20) + p5_1) * 4) by omega]
          omega
        refine w_iconst gz_22_27 (by decide) ?_
        refine w_iceq (t := 58) gz_22_28 rfl (fun u4 => ?_) (fun u4 => ?_)
        ·
          refine w_iinc (ls' := [(2, x0), (0, x1), (0, x2), (0, p5_0), (0, (p5_1 + 1)), (0, (((x1 * 20) + p5_1) * 4)), (9, 0)]) gz_22_58 rfl gm_22 rfl rfl rfl ⟨by omega, by omega⟩ ?_
          refine w_goto (t := 5) gz_22_61 rfl ?_
          refine w_weak (ls' := [(2, x0), (0, x1), (0, x2), (0, p5_0), (0, (p5_1 + 1)), (9, 0), (9, 0)]) (wk_e (wk_e (wk_e (wk_e (wk_e (wk_9 (wk_9 wk_n))))))) ?_
          exact ih_5_0 (p5_0) ((p5_1 + 1)) (by omega) (by omega) (by first | exact qUn_0 | exact qUn_n un_5_0 (by omega) | exact qUn_y un_5_0 mt_5_0 c41 (by omega) (by omega) ebn (by omega) | omega) (by first | exact qMet_0 | exact qMet_n mt_5_0 (by omega) | (have q := qMet_y (by omega) mt_5_0 (by omega) c41 (by omega) (by omega); rw [evv, ← e0, ← ep5_0] at q; exact q) | omega) (by omega)
        ·
          refine w_iconst gz_22_31 (by decide) ?_
          refine w_aload_n gz_22_32 rfl ?_
          refine w_getX (v := (x0 + 1)) gz_22_33 t0 rd_6 rfl (by decide) rfl ?_
          refine w_iload gz_22_36 rfl ?_
          refine w_iload_n gz_22_38 rfl ?_
          refine w_iadd gz_22_39 ⟨by omega, by omega⟩ ?_
          refine w_iald gz_22_40 (ix_6_1 t0) rd_30 (by omega) (by omega) (fun v6 ev6 pv6 qv6 => ?_)
          obtain ⟨vv, evv⟩ : ∃ z : Int, z = v6 := ⟨_, rfl⟩
          have c41 : h (x0 + 1) (80 * x1 + 4 * p5_1 + x2) = vv := by
            rw [show 80 * x1 + 4 * p5_1 + x2 = ((((x1 * 20) + p5_1) * 4) + x2) by omega]
            omega
          refine w_ishlX gz_22_41 (fun v7 ev7 pv7 qv7 => ?_)
          refine w_istore (ls' := [(2, x0), (0, x1), (0, x2), (0, p5_0), (0, p5_1), (0, (((x1 * 20) + p5_1) * 4)), (0, v7)]) gz_22_42 gm_22 rfl rfl rfl ?_
          refine w_iload_n gz_22_44 rfl ?_
          refine w_iload gz_22_45 rfl ?_
          refine w_iandX gz_22_47 (fun v8 ev8 pv8 qv8 => ?_)
          have ebn : v8 = bnd p5_0 (bsl 1 vv) := by rw [evv, ← ev7]; exact ev8
          refine w_ifeq (t := 53) gz_22_48 rfl (fun u9 => ?_) (fun u9 => ?_)
          ·
            refine w_iload_n gz_22_53 rfl ?_
            refine w_iload gz_22_54 rfl ?_
            refine w_iorX gz_22_56 (fun v10 ev10 pv10 qv10 => ?_)
            refine w_istore_n (ls' := [(2, x0), (0, x1), (0, x2), (0, v10), (0, p5_1), (0, (((x1 * 20) + p5_1) * 4)), (0, v7)]) gz_22_57 gm_22 rfl rfl rfl ?_
            refine w_iinc (ls' := [(2, x0), (0, x1), (0, x2), (0, v10), (0, (p5_1 + 1)), (0, (((x1 * 20) + p5_1) * 4)), (0, v7)]) gz_22_58 rfl gm_22 rfl rfl rfl ⟨by omega, by omega⟩ ?_
            refine w_goto (t := 5) gz_22_61 rfl ?_
            refine w_weak (ls' := [(2, x0), (0, x1), (0, x2), (0, v10), (0, (p5_1 + 1)), (9, 0), (9, 0)]) (wk_e (wk_e (wk_e (wk_e (wk_e (wk_9 (wk_9 wk_n))))))) ?_
            exact ih_5_0 (v10) ((p5_1 + 1)) (by omega) (by omega) (by first | exact qUn_0 | exact qUn_n un_5_0 (by omega) | exact qUn_y un_5_0 mt_5_0 c41 (by omega) (by omega) ebn (by omega) | omega) (by first | exact qMet_0 | exact qMet_n mt_5_0 (by omega) | (have q := qMet_y (by omega) mt_5_0 (by omega) c41 (by omega) (by omega); rw [evv, ← ev7, ← ev10] at q; exact q) | omega) (by omega)
          ·
            refine w_iconst gz_22_51 (by decide) ?_
            exact w_bret gz_22_52 gm_22 (by omega) (by omega) (k0 (by first | exact qOn_n un_5_0 (by omega) | exact qOn_y (by omega) mt_5_0 (by omega) c41 (by omega) (by omega) ebn (by omega) | assumption | omega))
  refine w_iconst gz_22_0 (by decide) ?_
  refine w_istore_n (ls' := [(2, x0), (0, x1), (0, x2), (0, 0), (9, 0), (9, 0), (9, 0)]) gz_22_1 gm_22 rfl rfl rfl ?_
  refine w_iconst gz_22_2 (by decide) ?_
  refine w_istore (ls' := [(2, x0), (0, x1), (0, x2), (0, 0), (0, 0), (9, 0), (9, 0)]) gz_22_3 gm_22 rfl rfl rfl ?_
  exact J5_0 21 (0) (0) (by omega) (by omega) (by first | exact qUn_0 | exact qUn_n un_5_0 (by omega) | exact qUn_y un_5_0 mt_5_0 c41 (by omega) (by omega) ebn (by omega) | omega) (by first | exact qMet_0 | exact qMet_n mt_5_0 (by omega) | (have q := qMet_y (by omega) mt_5_0 (by omega) c41 (by omega) (by omega); rw [evv, ← e0, ← e0] at q; exact q) | omega) (by omega)
theorem c_Laws_allow5 {l : Launch} {rho : Nat → Int32} {d : Nat} {h : my_H} {Q : my_H → my_V → Prop} {x1 x2 x3 x4 x5 : Int} (t1 : my_is 6 x1) (a2 : 0 ≤ x2) (b2 : x2 ≤ 2) (a3 : 0 ≤ x3) (b3 : x3 ≤ 19) (a4 : 0 ≤ x4) (b4 : x4 ≤ 3) (a5 : 0 ≤ x5) (b5 : x5 ≤ 19) (k0 : ¬ zqOk (zqCA h) (h (x1 + 1)) x2 x3 x4 x5 → Q h (0, 0)) (k1 : zqOk (zqCA h) (h (x1 + 1)) x2 x3 x4 x5 → Q h (0, 1)) : wp l rho (d + 2) 102 0 [(2, 1), (2, x1), (0, x2), (0, x3), (0, x4), (0, x5), (9, 0)] [] h Q := by
  refine w_iload_n gz_102_0 rfl ?_
  refine w_iload gz_102_1 rfl ?_
  refine w_inS (k := 0) (as := [(0, x4), (0, x2)]) (r := []) (ls0 := [(0, x2), (0, x4)]) gz_102_3 gm_29 rfl rfl rfl rfl rfl rfl ?_
  refine w_iload_n gz_29_0 rfl ?_
  refine w_iconst gz_29_1 (by decide) ?_
  refine w_imul gz_29_2 ⟨by omega, by omega⟩ ?_
  refine w_iload_n gz_29_3 rfl ?_
  refine w_iadd gz_29_4 ⟨by omega, by omega⟩ ?_
  refine w_iret gz_29_5 gm_29 ?_
  show wp l rho (d + 2) 102 6 [(2, 1), (2, x1), (0, x2), (0, x3), (0, x4), (0, x5), (9, 0)] [(0, ((x2 * 4) + x4))] h Q
  refine w_istore (ls' := [(2, 1), (2, x1), (0, x2), (0, x3), (0, x4), (0, x5), (0, ((x2 * 4) + x4))]) gz_102_6 gm_102 rfl rfl rfl ?_
  refine w_iload gz_102_8 rfl ?_
  refine w_aload_n gz_102_10 rfl ?_
  refine w_getX (v := 3) gz_102_11 is_1 rd_3 rfl (by decide) rfl ?_
  refine w_iload gz_102_14 rfl ?_
  refine w_iald gz_102_16 is_3 rd_26 (by omega) (by omega) (fun v2 ev2 pv2 qv2 => ?_)
  obtain ⟨nf, enf⟩ : ∃ z : Int, z = v2 := ⟨_, rfl⟩
  have c17 : h 3 (4 * x2 + x4) = nf := by
    rw [show 4 * x2 + x4 = ((x2 * 4) + x4) by omega]
    omega
  refine w_iclt (t := 32) gz_102_17 rfl (fun u3 => ?_) (fun u3 => ?_)
  ·
    refine w_iconst gz_102_32 (by decide) ?_
    exact w_bret gz_102_33 gm_102 (by omega) (by omega) (k0 (by first | exact okI c17 c29 c41 c70 (by omega) (by omega) c63 (Or.inl (by omega)) | exact okI c17 c29 c41 c70 (by omega) (by omega) c63 (Or.inr el) | exact okN1 c17 (by omega) | exact okN2 c29 (by omega) | exact okN3 c41 (by omega) (fun z => hasn ((x2 * 4) + x4) (by omega) z) | exact okN4 c70 (by omega) el | assumption | omega))
  ·
    refine w_iload gz_102_20 rfl ?_
    refine w_aload_n gz_102_22 rfl ?_
    refine w_getX (v := 4) gz_102_23 is_1 rd_3 rfl (by decide) rfl ?_
    refine w_iload gz_102_26 rfl ?_
    refine w_iald gz_102_28 is_4 rd_27 (by omega) (by omega) (fun v5 ev5 pv5 qv5 => ?_)
    obtain ⟨nt, ent⟩ : ∃ z : Int, z = v5 := ⟨_, rfl⟩
    have c29 : h 4 (4 * x2 + x4) = nt := by
      rw [show 4 * x2 + x4 = ((x2 * 4) + x4) by omega]
      omega
    refine w_icle (t := 34) gz_102_29 rfl (fun u6 => ?_) (fun u6 => ?_)
    ·
      refine w_aload_n gz_102_34 rfl ?_
      refine w_getX (v := 5) gz_102_35 is_1 rd_3 rfl (by decide) rfl ?_
      refine w_iload gz_102_38 rfl ?_
      refine w_iald gz_102_40 is_5 rd_28 (by omega) (by omega) (fun v8 ev8 pv8 qv8 => ?_)
      obtain ⟨nn, enn⟩ : ∃ z : Int, z = v8 := ⟨_, rfl⟩
      have c41 : h 5 (4 * x2 + x4) = nn := by
        rw [show 4 * x2 + x4 = ((x2 * 4) + x4) by omega]
        omega
      refine w_iconst gz_102_41 (by decide) ?_
      refine w_iceq (t := 63) gz_102_42 rfl (fun u9 => ?_) (fun u9 => ?_)
      ·
        have c63 : nn = -1 ∨ zqHas (h (x1 + 1)) nn x5 := by first | exact Or.inl (by omega) | exact Or.inr ⟨by omega, by omega, has_ix ((x2 * 4) + x4) (by omega) (by omega)⟩
        refine w_aload_n gz_102_63 rfl ?_
        refine w_getX (v := 6) gz_102_64 is_1 rd_3 rfl (by decide) rfl ?_
        refine w_iload gz_102_67 rfl ?_
        refine w_bald gz_102_69 is_6 rd_29 (by omega) (by omega) (fun v11 ev11 pv11 qv11 => ?_)
        obtain ⟨no, eno⟩ : ∃ z : Int, z = v11 := ⟨_, rfl⟩
        have c70 : h 6 (4 * x2 + x4) = no := by
          rw [show 4 * x2 + x4 = ((x2 * 4) + x4) by omega]
          omega
        refine w_ifeq (t := 86) gz_102_70 rfl (fun u12 => ?_) (fun u12 => ?_)
        ·
          refine w_iconst gz_102_86 (by decide) ?_
          refine w_goto (t := 91) gz_102_87 rfl ?_
          exact w_bret gz_102_91 gm_102 (by omega) (by omega) (k1 (by first | exact okI c17 c29 c41 c70 (by omega) (by omega) c63 (Or.inl (by omega)) | exact okI c17 c29 c41 c70 (by omega) (by omega) c63 (Or.inr el) | exact okN1 c17 (by omega) | exact okN2 c29 (by omega) | exact okN3 c41 (by omega) (fun z => hasn ((x2 * 4) + x4) (by omega) z) | exact okN4 c70 (by omega) el | assumption | omega))
        ·
          refine w_aload_n gz_102_73 rfl ?_
          refine w_iload_n gz_102_74 rfl ?_
          refine w_iload_n gz_102_75 rfl ?_
          refine w_iload gz_102_76 rfl ?_
          refine w_iload gz_102_78 rfl ?_
          refine w_inS (k := 2) (as := [(0, x5), (0, x4), (0, x3), (0, x2), (2, x1)]) (r := []) (ls0 := [(2, x1), (0, x2), (0, x3), (0, x4), (0, x5), (9, 0), (9, 0)]) gz_102_80 gm_103 rfl rfl rfl rfl rfl rfl (c_Laws_isElsewhere5 (d := d) (x0 := x1) (x1 := x2) (x2 := x3) (x3 := x4) (x4 := x5) t1 (by omega) (by omega) (by omega) (by omega) (by omega) (by omega) (by omega) (by omega) (fun xp13 => ?_) (fun xp14 => ?_))
          ·
            show wp l rho (d + 2) 102 83 [(2, 1), (2, x1), (0, x2), (0, x3), (0, x4), (0, x5), (0, ((x2 * 4) + x4))] [(0, 0)] h Q
            have el := xp13
            refine w_ifne (t := 90) gz_102_83 rfl (fun u15 => by exfalso; omega) (fun u15 => ?_)
            refine w_iconst gz_102_86 (by decide) ?_
            refine w_goto (t := 91) gz_102_87 rfl ?_
            exact w_bret gz_102_91 gm_102 (by omega) (by omega) (k1 (by first | exact okI c17 c29 c41 c70 (by omega) (by omega) c63 (Or.inl (by omega)) | exact okI c17 c29 c41 c70 (by omega) (by omega) c63 (Or.inr el) | exact okN1 c17 (by omega) | exact okN2 c29 (by omega) | exact okN3 c41 (by omega) (fun z => hasn ((x2 * 4) + x4) (by omega) z) | exact okN4 c70 (by omega) el | assumption | omega))
          ·
            show wp l rho (d + 2) 102 83 [(2, 1), (2, x1), (0, x2), (0, x3), (0, x4), (0, x5), (0, ((x2 * 4) + x4))] [(0, 1)] h Q
            have el := xp14
            refine w_ifne (t := 90) gz_102_83 rfl (fun u16 => ?_) (fun u16 => by exfalso; omega)
            refine w_iconst gz_102_90 (by decide) ?_
            exact w_bret gz_102_91 gm_102 (by omega) (by omega) (k0 (by first | exact okI c17 c29 c41 c70 (by omega) (by omega) c63 (Or.inl (by omega)) | exact okI c17 c29 c41 c70 (by omega) (by omega) c63 (Or.inr el) | exact okN1 c17 (by omega) | exact okN2 c29 (by omega) | exact okN3 c41 (by omega) (fun z => hasn ((x2 * 4) + x4) (by omega) z) | exact okN4 c70 (by omega) el | assumption | omega))
      ·
        refine w_aload_n gz_102_45 rfl ?_
        refine w_aload_n gz_102_46 rfl ?_
        refine w_getX (v := 5) gz_102_47 is_1 rd_3 rfl (by decide) rfl ?_
        refine w_iload gz_102_50 rfl ?_
        refine w_iald gz_102_52 is_5 rd_28 (by omega) (by omega) (fun v18 ev18 pv18 qv18 => ?_)
        have zv18 := ev18.trans ev8.symm
        refine w_iload gz_102_53 rfl ?_
        refine w_inv (k := 0) (as := [(0, x5), (0, v18)]) (r := []) (x := x1) (ls0 := [(2, x1), (0, v18), (0, x5)]) gz_102_55 gm_15 rfl t1 rd_6 rfl rfl rfl rfl rfl ?_
        refine w_iload_n gz_15_0 rfl ?_
        refine w_iflt (t := 31) gz_15_1 rfl (fun u19 => by exfalso; omega) (fun u19 => ?_)
        refine w_iload_n gz_15_4 rfl ?_
        refine w_bipush gz_15_5 (by decide) ?_
        refine w_icge (t := 31) gz_15_7 rfl (fun u20 => by exfalso; omega) (fun u20 => ?_)
        refine w_aload_n gz_15_10 rfl ?_
        refine w_getX (v := (x1 + 1)) gz_15_11 t1 rd_6 rfl (by decide) rfl ?_
        refine w_iload_n gz_15_14 rfl ?_
        refine w_bipush gz_15_15 (by decide) ?_
        refine w_imul gz_15_17 ⟨by omega, by omega⟩ ?_
        refine w_iload_n gz_15_18 rfl ?_
        refine w_iadd gz_15_19 ⟨by omega, by omega⟩ ?_
        refine w_iconst gz_15_20 (by decide) ?_
        refine w_imul gz_15_21 ⟨by omega, by omega⟩ ?_
        refine w_iald gz_15_22 (ix_6_1 t1) rd_30 (by omega) (by omega) (fun v22 ev22 pv22 qv22 => ?_)
        refine w_iconst gz_15_23 (by decide) ?_
        refine w_iceq (t := 31) gz_15_24 rfl (fun u23 => ?_) (fun u23 => ?_)
        ·
          refine w_iconst gz_15_31 (by decide) ?_
          refine w_bret gz_15_32 gm_15 (by omega) (by omega) ?_
          show wp l rho (d + 2) 102 58 [(2, 1), (2, x1), (0, x2), (0, x3), (0, x4), (0, x5), (0, ((x2 * 4) + x4))] [(0, 0)] h Q
          refine w_ifne (t := 63) gz_102_58 rfl (fun u24 => by exfalso; omega) (fun u24 => ?_)
          refine w_iconst gz_102_61 (by decide) ?_
          exact w_bret gz_102_62 gm_102 (by omega) (by omega) (k0 (by first | exact okI c17 c29 c41 c70 (by omega) (by omega) c63 (Or.inl (by omega)) | exact okI c17 c29 c41 c70 (by omega) (by omega) c63 (Or.inr el) | exact okN1 c17 (by omega) | exact okN2 c29 (by omega) | exact okN3 c41 (by omega) (fun z => hasn (((v18 * 20) + x5) * 4) (by omega) z) | exact okN4 c70 (by omega) el | assumption | omega))
        ·
          refine w_iconst gz_15_27 (by decide) ?_
          refine w_goto (t := 32) gz_15_28 rfl ?_
          refine w_bret gz_15_32 gm_15 (by omega) (by omega) ?_
          show wp l rho (d + 2) 102 58 [(2, 1), (2, x1), (0, x2), (0, x3), (0, x4), (0, x5), (0, ((x2 * 4) + x4))] [(0, 1)] h Q
          refine w_ifne (t := 63) gz_102_58 rfl (fun u25 => ?_) (fun u25 => by exfalso; omega)
          have c63 : nn = -1 ∨ zqHas (h (x1 + 1)) nn x5 := by first | exact Or.inl (by omega) | exact Or.inr ⟨by omega, by omega, has_ix (((v18 * 20) + x5) * 4) (by omega) (by omega)⟩
          refine w_aload_n gz_102_63 rfl ?_
          refine w_getX (v := 6) gz_102_64 is_1 rd_3 rfl (by decide) rfl ?_
          refine w_iload gz_102_67 rfl ?_
          refine w_bald gz_102_69 is_6 rd_29 (by omega) (by omega) (fun v27 ev27 pv27 qv27 => ?_)
          obtain ⟨no, eno⟩ : ∃ z : Int, z = v27 := ⟨_, rfl⟩
          have c70 : h 6 (4 * x2 + x4) = no := by
            rw [show 4 * x2 + x4 = ((x2 * 4) + x4) by omega]
            omega
          refine w_ifeq (t := 86) gz_102_70 rfl (fun u28 => ?_) (fun u28 => ?_)
          ·
            refine w_iconst gz_102_86 (by decide) ?_
            refine w_goto (t := 91) gz_102_87 rfl ?_
            exact w_bret gz_102_91 gm_102 (by omega) (by omega) (k1 (by first | exact okI c17 c29 c41 c70 (by omega) (by omega) c63 (Or.inl (by omega)) | exact okI c17 c29 c41 c70 (by omega) (by omega) c63 (Or.inr el) | exact okN1 c17 (by omega) | exact okN2 c29 (by omega) | exact okN3 c41 (by omega) (fun z => hasn ((x2 * 4) + x4) (by omega) z) | exact okN4 c70 (by omega) el | assumption | omega))
          ·
            refine w_aload_n gz_102_73 rfl ?_
            refine w_iload_n gz_102_74 rfl ?_
            refine w_iload_n gz_102_75 rfl ?_
            refine w_iload gz_102_76 rfl ?_
            refine w_iload gz_102_78 rfl ?_
            refine w_inS (k := 2) (as := [(0, x5), (0, x4), (0, x3), (0, x2), (2, x1)]) (r := []) (ls0 := [(2, x1), (0, x2), (0, x3), (0, x4), (0, x5), (9, 0), (9, 0)]) gz_102_80 gm_103 rfl rfl rfl rfl rfl rfl (c_Laws_isElsewhere5 (d := d) (x0 := x1) (x1 := x2) (x2 := x3) (x3 := x4) (x4 := x5) t1 (by omega) (by omega) (by omega) (by omega) (by omega) (by omega) (by omega) (by omega) (fun xp29 => ?_) (fun xp30 => ?_))
            ·
              show wp l rho (d + 2) 102 83 [(2, 1), (2, x1), (0, x2), (0, x3), (0, x4), (0, x5), (0, ((x2 * 4) + x4))] [(0, 0)] h Q
              have el := xp29
              refine w_ifne (t := 90) gz_102_83 rfl (fun u31 => by exfalso; omega) (fun u31 => ?_)
              refine w_iconst gz_102_86 (by decide) ?_
              refine w_goto (t := 91) gz_102_87 rfl ?_
              exact w_bret gz_102_91 gm_102 (by omega) (by omega) (k1 (by first | exact okI c17 c29 c41 c70 (by omega) (by omega) c63 (Or.inl (by omega)) | exact okI c17 c29 c41 c70 (by omega) (by omega) c63 (Or.inr el) | exact okN1 c17 (by omega) | exact okN2 c29 (by omega) | exact okN3 c41 (by omega) (fun z => hasn ((x2 * 4) + x4) (by omega) z) | exact okN4 c70 (by omega) el | assumption | omega))
            ·
              show wp l rho (d + 2) 102 83 [(2, 1), (2, x1), (0, x2), (0, x3), (0, x4), (0, x5), (0, ((x2 * 4) + x4))] [(0, 1)] h Q
              have el := xp30
              refine w_ifne (t := 90) gz_102_83 rfl (fun u32 => ?_) (fun u32 => by exfalso; omega)
              refine w_iconst gz_102_90 (by decide) ?_
              exact w_bret gz_102_91 gm_102 (by omega) (by omega) (k0 (by first | exact okI c17 c29 c41 c70 (by omega) (by omega) c63 (Or.inl (by omega)) | exact okI c17 c29 c41 c70 (by omega) (by omega) c63 (Or.inr el) | exact okN1 c17 (by omega) | exact okN2 c29 (by omega) | exact okN3 c41 (by omega) (fun z => hasn ((x2 * 4) + x4) (by omega) z) | exact okN4 c70 (by omega) el | assumption | omega))
    ·
      refine w_iconst gz_102_32 (by decide) ?_
      exact w_bret gz_102_33 gm_102 (by omega) (by omega) (k0 (by first | exact okI c17 c29 c41 c70 (by omega) (by omega) c63 (Or.inl (by omega)) | exact okI c17 c29 c41 c70 (by omega) (by omega) c63 (Or.inr el) | exact okN1 c17 (by omega) | exact okN2 c29 (by omega) | exact okN3 c41 (by omega) (fun z => hasn ((x2 * 4) + x4) (by omega) z) | exact okN4 c70 (by omega) el | assumption | omega))
theorem c_Laws_firstBroken5 {l : Launch} {rho : Nat → Int32} {d : Nat} {h : my_H} {Q : my_H → my_V → Prop} {x1 : Int} (t1 : my_is 6 x1) (k0 : qLaw (zqCA h) (h (x1 + 1)) → Q h (0, (-1))) (k1 : ∀ (y : Int), 1 ≤ y → y ≤ 47 → (∃ p : Int, 0 ≤ p ∧ p < 12 ∧ (∀ q : Int, 0 ≤ q → q < p → zqKd (zqCA h) (h (x1 + 1)) (q / 4) (q % 4) = 0) ∧ zqKd (zqCA h) (h (x1 + 1)) (p / 4) (p % 4) ≠ 0 ∧ y = 4 * p + zqKd (zqCA h) (h (x1 + 1)) (p / 4) (p % 4)) → Q h (0, y)) : wp l rho (d + 2) 19 0 [(2, 1), (2, x1), (9, 0), (9, 0), (9, 0), (9, 0)] [] h Q := by
  have J2_0 : ∀ (n : Nat) (p2_0 : Int), 0 ≤ p2_0 → p2_0 ≤ 12 → (∀ p : Int, 0 ≤ p → p < p2_0 → zqKd (zqCA h) (h (x1 + 1)) (p / 4) (p % 4) = 0) → 13 - p2_0 ≤ (n : Int) → wp l rho (d + 2) 19 2 [(2, 1), (2, x1), (0, p2_0), (9, 0), (9, 0), (9, 0)] [] h Q := by
    intro n
    induction n with
    | zero => intro p2_0 q0_2_0 q1_2_0 ok_2_0 hm_2_0; exfalso; omega
    | succ n ih_2_0 =>
      intro p2_0 q0_2_0 q1_2_0 ok_2_0 hm_2_0
      refine w_iload_n gz_19_2 rfl ?_
      refine w_aload_n gz_19_3 rfl ?_
      refine w_getX (v := 5) gz_19_4 is_1 rd_3 rfl (by decide) rfl ?_
      refine v_alen (j := 12) gz_19_7 rfl is_5 rd_28 (by decide) ?_
      refine w_icge (t := 123) gz_19_8 rfl (fun u2 => ?_) (fun u2 => ?_)
      ·
        refine w_iconst gz_19_123 (by decide) ?_
        exact w_iret gz_19_124 gm_19 (k0 (by first | exact (fun p a b => ok_2_0 p a (by omega)) | (have K := kd_1 (w := p2_0 / 4) (c := p2_0 % 4) (by omega) ou2 (by omega); exact ⟨p2_0, by omega, by omega, ok_2_0, by omega, by omega⟩) | (have K := kd_2 (w := p2_0 / 4) (c := p2_0 % 4) (by omega) ou2 (by omega) (by show h 5 p2_0 ≠ -1; omega) (by show qNm _ _ _ (h 5 p2_0); rw [c57]; exact nm); exact ⟨p2_0, by omega, by omega, ok_2_0, by omega, by omega⟩) | (have K := kd_3 (w := p2_0 / 4) (c := p2_0 % 4) (by omega) ou2 (by omega) (by first | exact Or.inl (by show h 5 p2_0 = -1; omega) | exact Or.inr (by show ¬ qNm _ _ _ (h 5 p2_0); rw [c57]; exact nm)) (by show h 6 p2_0 = 1; omega) on; exact ⟨p2_0, by omega, by omega, ok_2_0, by omega, by omega⟩) | assumption | omega))
      ·
        refine w_iload_n gz_19_11 rfl ?_
        refine w_iconst gz_19_12 (by decide) ?_
        refine w_idiv gz_19_13 (by omega) (by decide) ?_
        refine w_istore_n (ls' := [(2, 1), (2, x1), (0, p2_0), (0, (p2_0 / 4)), (9, 0), (9, 0)]) gz_19_14 gm_19 rfl rfl rfl ?_
        refine w_iload_n gz_19_15 rfl ?_
        refine w_iconst gz_19_16 (by decide) ?_
        refine w_irem gz_19_17 (by omega) (by decide) ?_
        refine w_istore (ls' := [(2, 1), (2, x1), (0, p2_0), (0, (p2_0 / 4)), (0, (p2_0 % 4)), (9, 0)]) gz_19_18 gm_19 rfl rfl rfl ?_
        refine w_iconst gz_19_20 (by decide) ?_
        refine w_istore (ls' := [(2, 1), (2, x1), (0, p2_0), (0, (p2_0 / 4)), (0, (p2_0 % 4)), (0, 0)]) gz_19_21 gm_19 rfl rfl rfl ?_
        refine w_aload_n gz_19_23 rfl ?_
        refine w_iload_n gz_19_24 rfl ?_
        refine w_iload gz_19_25 rfl ?_
        refine w_aload_n gz_19_27 rfl ?_
        refine w_getX (v := 3) gz_19_28 is_1 rd_3 rfl (by decide) rfl ?_
        refine w_iload_n gz_19_31 rfl ?_
        refine w_iald gz_19_32 is_3 rd_26 (by omega) (by omega) (fun v4 ev4 pv4 qv4 => ?_)
        obtain ⟨nf, enf⟩ : ∃ z : Int, z = v4 := ⟨_, rfl⟩
        have c32 : h 3 (p2_0) = nf := by
          rw [show p2_0 = p2_0 by omega]
          omega
        refine w_aload_n gz_19_33 rfl ?_
        refine w_getX (v := 4) gz_19_34 is_1 rd_3 rfl (by decide) rfl ?_
        refine w_iload_n gz_19_37 rfl ?_
        refine w_iald gz_19_38 is_4 rd_27 (by omega) (by omega) (fun v6 ev6 pv6 qv6 => ?_)
        obtain ⟨nt, ent⟩ : ∃ z : Int, z = v6 := ⟨_, rfl⟩
        have c38 : h 4 (p2_0) = nt := by
          rw [show p2_0 = p2_0 by omega]
          omega
        refine w_inv (k := 3) (as := [(0, v6), (0, v4), (0, (p2_0 % 4)), (0, (p2_0 / 4))]) (r := []) (x := x1) (ls0 := [(2, x1), (0, (p2_0 / 4)), (0, (p2_0 % 4)), (0, v4), (0, v6), (9, 0), (9, 0), (9, 0)]) gz_19_39 gm_20 rfl t1 rd_6 rfl rfl rfl rfl rfl (c_Rows_outside5 (d := d) (x0 := x1) (x1 := (p2_0 / 4)) (x2 := (p2_0 % 4)) (x3 := v4) (x4 := v6) t1 (by omega) (by omega) (by omega) (by omega) (by omega) (by omega) (by omega) (by omega) (fun v7 w8 w9 xp10 => ?_))
        show wp l rho (d + 2) 19 42 [(2, 1), (2, x1), (0, p2_0), (0, (p2_0 / 4)), (0, (p2_0 % 4)), (0, 0)] [(0, v7)] h Q
        have ou := xp10
        obtain ⟨ny, eny⟩ : ∃ z : Int, z = v7 := ⟨_, rfl⟩
        have ou2 : ny = qOut (h (x1 + 1)) (p2_0 / 4) (p2_0 % 4) ((zqCA h).2.1 p2_0) ((zqCA h).2.2.1 p2_0) 20 := by
          show ny = qOut (h (x1 + 1)) (p2_0 / 4) (p2_0 % 4) (h 3 p2_0) (h 4 p2_0) 20
          rw [eny, c32, c38, enf, ent]
          exact ou
        refine w_ifle (t := 51) gz_19_42 rfl (fun u11 => ?_) (fun u11 => ?_)
        ·
          refine w_aload_n gz_19_51 rfl ?_
          refine w_getX (v := 5) gz_19_52 is_1 rd_3 rfl (by decide) rfl ?_
          refine w_iload_n gz_19_55 rfl ?_
          refine w_iald gz_19_56 is_5 rd_28 (by omega) (by omega) (fun v13 ev13 pv13 qv13 => ?_)
          obtain ⟨nn, enn⟩ : ∃ z : Int, z = v13 := ⟨_, rfl⟩
          have c57 : h 5 (p2_0) = nn := by
            rw [show p2_0 = p2_0 by omega]
            omega
          refine w_iconst gz_19_57 (by decide) ?_
          refine w_iceq (t := 83) gz_19_58 rfl (fun u14 => ?_) (fun u14 => ?_)
          ·
            refine w_aload_n gz_19_83 rfl ?_
            refine w_getX (v := 6) gz_19_84 is_1 rd_3 rfl (by decide) rfl ?_
            refine w_iload_n gz_19_87 rfl ?_
            refine w_bald gz_19_88 is_6 rd_29 (by omega) (by omega) (fun v16 ev16 pv16 qv16 => ?_)
            obtain ⟨no, eno⟩ : ∃ z : Int, z = v16 := ⟨_, rfl⟩
            have c89 : h 6 (p2_0) = no := by
              rw [show p2_0 = p2_0 by omega]
              omega
            refine w_ifeq (t := 105) gz_19_89 rfl (fun u17 => ?_) (fun u17 => ?_)
            ·
              refine w_iload gz_19_105 rfl ?_
              refine w_ifeq (t := 117) gz_19_107 rfl (fun u18 => ?_) (fun u18 => by exfalso; omega)
              refine w_iinc (ls' := [(2, 1), (2, x1), (0, (p2_0 + 1)), (0, (p2_0 / 4)), (0, (p2_0 % 4)), (0, 0)]) gz_19_117 rfl gm_19 rfl rfl rfl ⟨by omega, by omega⟩ ?_
              refine w_goto (t := 2) gz_19_120 rfl ?_
              refine w_weak (ls' := [(2, 1), (2, x1), (0, (p2_0 + 1)), (9, 0), (9, 0), (9, 0)]) (wk_e (wk_e (wk_e (wk_9 (wk_9 (wk_9 wk_n)))))) ?_
              exact ih_2_0 ((p2_0 + 1)) (by omega) (by omega) (by first | exact st_0 | exact st_1 ok_2_0 (kd_0 (w := p2_0 / 4) (c := p2_0 % 4) (by omega) ou2 (by omega) (by first | exact Or.inl (by show h 5 p2_0 = -1; omega) | exact Or.inr (by show ¬ qNm _ _ _ (h 5 p2_0); rw [c57]; exact nm)) (by first | exact Or.inl (by show h 6 p2_0 ≠ 1; omega) | exact Or.inr on)) | omega) (by omega)
            ·
              refine w_aload_n gz_19_92 rfl ?_
              refine w_iload_n gz_19_93 rfl ?_
              refine w_iload gz_19_94 rfl ?_
              refine w_inS (k := 4) (as := [(0, (p2_0 % 4)), (0, (p2_0 / 4)), (2, x1)]) (r := []) (ls0 := [(2, x1), (0, (p2_0 / 4)), (0, (p2_0 % 4)), (9, 0), (9, 0), (9, 0), (9, 0)]) gz_19_96 gm_22 rfl rfl rfl rfl rfl rfl (c_Laws_isSingle5 (d := d) (x0 := x1) (x1 := (p2_0 / 4)) (x2 := (p2_0 % 4)) t1 (by omega) (by omega) (by omega) (by omega) (fun xp19 => ?_) (fun xp20 => ?_))
              ·
                show wp l rho (d + 2) 19 99 [(2, 1), (2, x1), (0, p2_0), (0, (p2_0 / 4)), (0, (p2_0 % 4)), (0, 0)] [(0, 0)] h Q
                have on := xp19
                refine w_ifne (t := 105) gz_19_99 rfl (fun u21 => by exfalso; omega) (fun u21 => ?_)
                refine w_iconst gz_19_102 (by decide) ?_
                refine w_istore (ls' := [(2, 1), (2, x1), (0, p2_0), (0, (p2_0 / 4)), (0, (p2_0 % 4)), (0, 3)]) gz_19_103 gm_19 rfl rfl rfl ?_
                refine w_iload gz_19_105 rfl ?_
                refine w_ifeq (t := 117) gz_19_107 rfl (fun u22 => by exfalso; omega) (fun u22 => ?_)
                refine w_iconst gz_19_110 (by decide) ?_
                refine w_iload_n gz_19_111 rfl ?_
                refine w_imul gz_19_112 ⟨by omega, by omega⟩ ?_
                refine w_iload gz_19_113 rfl ?_
                refine w_iadd gz_19_115 ⟨by omega, by omega⟩ ?_
                exact w_iret gz_19_116 gm_19 (k1 (((4 * p2_0) + 3)) (by omega) (by omega) (by first | exact (fun p a b => ok_2_0 p a (by omega)) | (have K := kd_1 (w := p2_0 / 4) (c := p2_0 % 4) (by omega) ou2 (by omega); exact ⟨p2_0, by omega, by omega, ok_2_0, by omega, by omega⟩) | (have K := kd_2 (w := p2_0 / 4) (c := p2_0 % 4) (by omega) ou2 (by omega) (by show h 5 p2_0 ≠ -1; omega) (by show qNm _ _ _ (h 5 p2_0); rw [c57]; exact nm); exact ⟨p2_0, by omega, by omega, ok_2_0, by omega, by omega⟩) | (have K := kd_3 (w := p2_0 / 4) (c := p2_0 % 4) (by omega) ou2 (by omega) (by first | exact Or.inl (by show h 5 p2_0 = -1; omega) | exact Or.inr (by show ¬ qNm _ _ _ (h 5 p2_0); rw [c57]; exact nm)) (by show h 6 p2_0 = 1; omega) on; exact ⟨p2_0, by omega, by omega, ok_2_0, by omega, by omega⟩) | assumption | omega))
              ·
                show wp l rho (d + 2) 19 99 [(2, 1), (2, x1), (0, p2_0), (0, (p2_0 / 4)), (0, (p2_0 % 4)), (0, 0)] [(0, 1)] h Q
                have on := xp20
                refine w_ifne (t := 105) gz_19_99 rfl (fun u23 => ?_) (fun u23 => by exfalso; omega)
                refine w_iload gz_19_105 rfl ?_
                refine w_ifeq (t := 117) gz_19_107 rfl (fun u24 => ?_) (fun u24 => by exfalso; omega)
                refine w_iinc (ls' := [(2, 1), (2, x1), (0, (p2_0 + 1)), (0, (p2_0 / 4)), (0, (p2_0 % 4)), (0, 0)]) gz_19_117 rfl gm_19 rfl rfl rfl ⟨by omega, by omega⟩ ?_
                refine w_goto (t := 2) gz_19_120 rfl ?_
                refine w_weak (ls' := [(2, 1), (2, x1), (0, (p2_0 + 1)), (9, 0), (9, 0), (9, 0)]) (wk_e (wk_e (wk_e (wk_9 (wk_9 (wk_9 wk_n)))))) ?_
                exact ih_2_0 ((p2_0 + 1)) (by omega) (by omega) (by first | exact st_0 | exact st_1 ok_2_0 (kd_0 (w := p2_0 / 4) (c := p2_0 % 4) (by omega) ou2 (by omega) (by first | exact Or.inl (by show h 5 p2_0 = -1; omega) | exact Or.inr (by show ¬ qNm _ _ _ (h 5 p2_0); rw [c57]; exact nm)) (by first | exact Or.inl (by show h 6 p2_0 ≠ 1; omega) | exact Or.inr on)) | omega) (by omega)
          ·
            refine w_aload_n gz_19_61 rfl ?_
            refine w_iload_n gz_19_62 rfl ?_
            refine w_iload gz_19_63 rfl ?_
            refine w_aload_n gz_19_65 rfl ?_
            refine w_getX (v := 5) gz_19_66 is_1 rd_3 rfl (by decide) rfl ?_
            refine w_iload_n gz_19_69 rfl ?_
            refine w_iald gz_19_70 is_5 rd_28 (by omega) (by omega) (fun v26 ev26 pv26 qv26 => ?_)
            have zv26 := ev26.trans ev13.symm
            refine w_inS (k := 2) (as := [(0, v26), (0, (p2_0 % 4)), (0, (p2_0 / 4)), (2, x1)]) (r := []) (ls0 := [(2, x1), (0, (p2_0 / 4)), (0, (p2_0 % 4)), (0, v26), (9, 0), (9, 0)]) gz_19_71 gm_21 rfl rfl rfl rfl rfl rfl (c_Laws_namesKeys5 (d := d) (x0 := x1) (x1 := (p2_0 / 4)) (x2 := (p2_0 % 4)) (x3 := v26) t1 (by omega) (by omega) (by omega) (by omega) (by omega) (by omega) (fun xp27 => ?_) (fun xp28 => ?_))
            ·
              show wp l rho (d + 2) 19 74 [(2, 1), (2, x1), (0, p2_0), (0, (p2_0 / 4)), (0, (p2_0 % 4)), (0, 0)] [(0, 0)] h Q
              have nm := xp27
              rw [show v26 = nn by omega] at nm
              refine w_ifne (t := 83) gz_19_74 rfl (fun u29 => by exfalso; omega) (fun u29 => ?_)
              refine w_iconst gz_19_77 (by decide) ?_
              refine w_istore (ls' := [(2, 1), (2, x1), (0, p2_0), (0, (p2_0 / 4)), (0, (p2_0 % 4)), (0, 2)]) gz_19_78 gm_19 rfl rfl rfl ?_
              refine w_goto (t := 105) gz_19_80 rfl ?_
              refine w_iload gz_19_105 rfl ?_
              refine w_ifeq (t := 117) gz_19_107 rfl (fun u30 => by exfalso; omega) (fun u30 => ?_)
              refine w_iconst gz_19_110 (by decide) ?_
              refine w_iload_n gz_19_111 rfl ?_
              refine w_imul gz_19_112 ⟨by omega, by omega⟩ ?_
              refine w_iload gz_19_113 rfl ?_
              refine w_iadd gz_19_115 ⟨by omega, by omega⟩ ?_
              exact w_iret gz_19_116 gm_19 (k1 (((4 * p2_0) + 2)) (by omega) (by omega) (by first | exact (fun p a b => ok_2_0 p a (by omega)) | (have K := kd_1 (w := p2_0 / 4) (c := p2_0 % 4) (by omega) ou2 (by omega); exact ⟨p2_0, by omega, by omega, ok_2_0, by omega, by omega⟩) | (have K := kd_2 (w := p2_0 / 4) (c := p2_0 % 4) (by omega) ou2 (by omega) (by show h 5 p2_0 ≠ -1; omega) (by show qNm _ _ _ (h 5 p2_0); rw [c57]; exact nm); exact ⟨p2_0, by omega, by omega, ok_2_0, by omega, by omega⟩) | (have K := kd_3 (w := p2_0 / 4) (c := p2_0 % 4) (by omega) ou2 (by omega) (by first | exact Or.inl (by show h 5 p2_0 = -1; omega) | exact Or.inr (by show ¬ qNm _ _ _ (h 5 p2_0); rw [c57]; exact nm)) (by show h 6 p2_0 = 1; omega) on; exact ⟨p2_0, by omega, by omega, ok_2_0, by omega, by omega⟩) | assumption | omega))
            ·
              show wp l rho (d + 2) 19 74 [(2, 1), (2, x1), (0, p2_0), (0, (p2_0 / 4)), (0, (p2_0 % 4)), (0, 0)] [(0, 1)] h Q
              have nm := xp28
              rw [show v26 = nn by omega] at nm
              refine w_ifne (t := 83) gz_19_74 rfl (fun u31 => ?_) (fun u31 => by exfalso; omega)
              refine w_aload_n gz_19_83 rfl ?_
              refine w_getX (v := 6) gz_19_84 is_1 rd_3 rfl (by decide) rfl ?_
              refine w_iload_n gz_19_87 rfl ?_
              refine w_bald gz_19_88 is_6 rd_29 (by omega) (by omega) (fun v33 ev33 pv33 qv33 => ?_)
              obtain ⟨no, eno⟩ : ∃ z : Int, z = v33 := ⟨_, rfl⟩
              have c89 : h 6 (p2_0) = no := by
                rw [show p2_0 = p2_0 by omega]
                omega
              refine w_ifeq (t := 105) gz_19_89 rfl (fun u34 => ?_) (fun u34 => ?_)
              ·
                refine w_iload gz_19_105 rfl ?_
                refine w_ifeq (t := 117) gz_19_107 rfl (fun u35 => ?_) (fun u35 => by exfalso; omega)
                refine w_iinc (ls' := [(2, 1), (2, x1), (0, (p2_0 + 1)), (0, (p2_0 / 4)), (0, (p2_0 % 4)), (0, 0)]) gz_19_117 rfl gm_19 rfl rfl rfl ⟨by omega, by omega⟩ ?_
                refine w_goto (t := 2) gz_19_120 rfl ?_
                refine w_weak (ls' := [(2, 1), (2, x1), (0, (p2_0 + 1)), (9, 0), (9, 0), (9, 0)]) (wk_e (wk_e (wk_e (wk_9 (wk_9 (wk_9 wk_n)))))) ?_
                exact ih_2_0 ((p2_0 + 1)) (by omega) (by omega) (by first | exact st_0 | exact st_1 ok_2_0 (kd_0 (w := p2_0 / 4) (c := p2_0 % 4) (by omega) ou2 (by omega) (by first | exact Or.inl (by show h 5 p2_0 = -1; omega) | exact Or.inr (by show ¬ qNm _ _ _ (h 5 p2_0); rw [c57]; exact nm)) (by first | exact Or.inl (by show h 6 p2_0 ≠ 1; omega) | exact Or.inr on)) | omega) (by omega)
              ·
                refine w_aload_n gz_19_92 rfl ?_
                refine w_iload_n gz_19_93 rfl ?_
                refine w_iload gz_19_94 rfl ?_
                refine w_inS (k := 4) (as := [(0, (p2_0 % 4)), (0, (p2_0 / 4)), (2, x1)]) (r := []) (ls0 := [(2, x1), (0, (p2_0 / 4)), (0, (p2_0 % 4)), (9, 0), (9, 0), (9, 0), (9, 0)]) gz_19_96 gm_22 rfl rfl rfl rfl rfl rfl (c_Laws_isSingle5 (d := d) (x0 := x1) (x1 := (p2_0 / 4)) (x2 := (p2_0 % 4)) t1 (by omega) (by omega) (by omega) (by omega) (fun xp36 => ?_) (fun xp37 => ?_))
                ·
                  show wp l rho (d + 2) 19 99 [(2, 1), (2, x1), (0, p2_0), (0, (p2_0 / 4)), (0, (p2_0 % 4)), (0, 0)] [(0, 0)] h Q
                  have on := xp36
                  refine w_ifne (t := 105) gz_19_99 rfl (fun u38 => by exfalso; omega) (fun u38 => ?_)
                  refine w_iconst gz_19_102 (by decide) ?_
                  refine w_istore (ls' := [(2, 1), (2, x1), (0, p2_0), (0, (p2_0 / 4)), (0, (p2_0 % 4)), (0, 3)]) gz_19_103 gm_19 rfl rfl rfl ?_
                  refine w_iload gz_19_105 rfl ?_
                  refine w_ifeq (t := 117) gz_19_107 rfl (fun u39 => by exfalso; omega) (fun u39 => ?_)
                  refine w_iconst gz_19_110 (by decide) ?_
                  refine w_iload_n gz_19_111 rfl ?_
                  refine w_imul gz_19_112 ⟨by omega, by omega⟩ ?_
                  refine w_iload gz_19_113 rfl ?_
                  refine w_iadd gz_19_115 ⟨by omega, by omega⟩ ?_
                  exact w_iret gz_19_116 gm_19 (k1 (((4 * p2_0) + 3)) (by omega) (by omega) (by first | exact (fun p a b => ok_2_0 p a (by omega)) | (have K := kd_1 (w := p2_0 / 4) (c := p2_0 % 4) (by omega) ou2 (by omega); exact ⟨p2_0, by omega, by omega, ok_2_0, by omega, by omega⟩) | (have K := kd_2 (w := p2_0 / 4) (c := p2_0 % 4) (by omega) ou2 (by omega) (by show h 5 p2_0 ≠ -1; omega) (by show qNm _ _ _ (h 5 p2_0); rw [c57]; exact nm); exact ⟨p2_0, by omega, by omega, ok_2_0, by omega, by omega⟩) | (have K := kd_3 (w := p2_0 / 4) (c := p2_0 % 4) (by omega) ou2 (by omega) (by first | exact Or.inl (by show h 5 p2_0 = -1; omega) | exact Or.inr (by show ¬ qNm _ _ _ (h 5 p2_0); rw [c57]; exact nm)) (by show h 6 p2_0 = 1; omega) on; exact ⟨p2_0, by omega, by omega, ok_2_0, by omega, by omega⟩) | assumption | omega))
                ·
                  show wp l rho (d + 2) 19 99 [(2, 1), (2, x1), (0, p2_0), (0, (p2_0 / 4)), (0, (p2_0 % 4)), (0, 0)] [(0, 1)] h Q
                  have on := xp37
                  refine w_ifne (t := 105) gz_19_99 rfl (fun u40 => ?_) (fun u40 => by exfalso; omega)
                  refine w_iload gz_19_105 rfl ?_
                  refine w_ifeq (t := 117) gz_19_107 rfl (fun u41 => ?_) (fun u41 => by exfalso; omega)
                  refine w_iinc (ls' := [(2, 1), (2, x1), (0, (p2_0 + 1)), (0, (p2_0 / 4)), (0, (p2_0 % 4)), (0, 0)]) gz_19_117 rfl gm_19 rfl rfl rfl ⟨by omega, by omega⟩ ?_
                  refine w_goto (t := 2) gz_19_120 rfl ?_
                  refine w_weak (ls' := [(2, 1), (2, x1), (0, (p2_0 + 1)), (9, 0), (9, 0), (9, 0)]) (wk_e (wk_e (wk_e (wk_9 (wk_9 (wk_9 wk_n)))))) ?_
                  exact ih_2_0 ((p2_0 + 1)) (by omega) (by omega) (by first | exact st_0 | exact st_1 ok_2_0 (kd_0 (w := p2_0 / 4) (c := p2_0 % 4) (by omega) ou2 (by omega) (by first | exact Or.inl (by show h 5 p2_0 = -1; omega) | exact Or.inr (by show ¬ qNm _ _ _ (h 5 p2_0); rw [c57]; exact nm)) (by first | exact Or.inl (by show h 6 p2_0 ≠ 1; omega) | exact Or.inr on)) | omega) (by omega)
        ·
          refine w_iconst gz_19_45 (by decide) ?_
          refine w_istore (ls' := [(2, 1), (2, x1), (0, p2_0), (0, (p2_0 / 4)), (0, (p2_0 % 4)), (0, 1)]) gz_19_46 gm_19 rfl rfl rfl ?_
          refine w_goto (t := 105) gz_19_48 rfl ?_
          refine w_iload gz_19_105 rfl ?_
          refine w_ifeq (t := 117) gz_19_107 rfl (fun u42 => by exfalso; omega) (fun u42 => ?_)
          refine w_iconst gz_19_110 (by decide) ?_
          refine w_iload_n gz_19_111 rfl ?_
          refine w_imul gz_19_112 ⟨by omega, by omega⟩ ?_
          refine w_iload gz_19_113 rfl ?_
          refine w_iadd gz_19_115 ⟨by omega, by omega⟩ ?_
          exact w_iret gz_19_116 gm_19 (k1 (((4 * p2_0) + 1)) (by omega) (by omega) (by first | exact (fun p a b => ok_2_0 p a (by omega)) | (have K := kd_1 (w := p2_0 / 4) (c := p2_0 % 4) (by omega) ou2 (by omega); exact ⟨p2_0, by omega, by omega, ok_2_0, by omega, by omega⟩) | (have K := kd_2 (w := p2_0 / 4) (c := p2_0 % 4) (by omega) ou2 (by omega) (by show h 5 p2_0 ≠ -1; omega) (by show qNm _ _ _ (h 5 p2_0); rw [c57]; exact nm); exact ⟨p2_0, by omega, by omega, ok_2_0, by omega, by omega⟩) | (have K := kd_3 (w := p2_0 / 4) (c := p2_0 % 4) (by omega) ou2 (by omega) (by first | exact Or.inl (by show h 5 p2_0 = -1; omega) | exact Or.inr (by show ¬ qNm _ _ _ (h 5 p2_0); rw [c57]; exact nm)) (by show h 6 p2_0 = 1; omega) on; exact ⟨p2_0, by omega, by omega, ok_2_0, by omega, by omega⟩) | assumption | omega))
  refine w_iconst gz_19_0 (by decide) ?_
  refine w_istore_n (ls' := [(2, 1), (2, x1), (0, 0), (9, 0), (9, 0), (9, 0)]) gz_19_1 gm_19 rfl rfl rfl ?_
  exact J2_0 13 (0) (by omega) (by omega) (by first | exact st_0 | exact st_1 ok_2_0 (kd_0 (w := p2_0 / 4) (c := p2_0 % 4) (by omega) ou2 (by omega) (by first | exact Or.inl (by show h 5 p2_0 = -1; omega) | exact Or.inr (by show ¬ qNm _ _ _ (h 5 p2_0); rw [c57]; exact nm)) (by first | exact Or.inl (by show h 6 p2_0 ≠ 1; omega) | exact Or.inr on)) | omega) (by omega)
theorem c_Laws_hold5 {l : Launch} {rho : Nat → Int32} {d : Nat} {h : my_H} {Q : my_H → my_V → Prop} {x1 : Int} (t1 : my_is 6 x1) (k0 : ¬ qLaw (zqCA h) (h (x1 + 1)) → Q h (0, 0)) (k1 : qLaw (zqCA h) (h (x1 + 1)) → Q h (0, 1)) : wp l rho (d + 3) 18 0 [(2, 1), (2, x1)] [] h Q := by
  refine w_aload_n gz_18_0 rfl ?_
  refine w_aload_n gz_18_1 rfl ?_
  refine w_inv (k := 4) (as := [(2, x1)]) (r := []) (x := 1) (ls0 := [(2, 1), (2, x1), (9, 0), (9, 0), (9, 0), (9, 0)]) gz_18_2 gm_19 rfl is_1 rd_3 rfl rfl rfl rfl rfl (c_Laws_firstBroken5 (d := d) (x1 := x1) t1 (fun xp1 => ?_) (fun v2 w3 w4 xp5 => ?_))
  ·
    show wp l rho (d + 3) 18 5 [(2, 1), (2, x1)] [(0, (-1))] h Q
    have fb := xp1
    refine w_iconst gz_18_5 (by decide) ?_
    refine w_icne (t := 13) gz_18_6 rfl (fun u6 => by exfalso; omega) (fun u6 => ?_)
    refine w_iconst gz_18_9 (by decide) ?_
    refine w_goto (t := 14) gz_18_10 rfl ?_
    exact w_bret gz_18_14 gm_18 (by omega) (by omega) (k1 (by first | exact fb | exact (fun z => by obtain ⟨p, a, b, c, d, e⟩ := fb; exact d (z p a b)) | assumption | omega))
  ·
    show wp l rho (d + 3) 18 5 [(2, 1), (2, x1)] [(0, v2)] h Q
    have fb := xp5
    refine w_iconst gz_18_5 (by decide) ?_
    refine w_icne (t := 13) gz_18_6 rfl (fun u7 => ?_) (fun u7 => by exfalso; omega)
    refine w_iconst gz_18_13 (by decide) ?_
    exact w_bret gz_18_14 gm_18 (by omega) (by omega) (k0 (by first | exact fb | exact (fun z => by obtain ⟨p, a, b, c, d, e⟩ := fb; exact d (z p a b)) | assumption | omega))
end MYNLaws_isElsewhere5
