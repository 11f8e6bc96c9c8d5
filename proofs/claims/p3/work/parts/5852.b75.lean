/-! contracts, printed by wip/gen/gy.py -/
section MYNRows_same5
theorem c_Rows_same5 {l : Launch} {rho : Nat → Int32} {d : Nat} {h : my_H} {Q : my_H → my_V → Prop} {x0 x1 : Int} (t0 : my_is 6 x0) (t1 : my_is 6 x1) (k0 : ¬ zqAg (h (x0 + 1)) (h (x1 + 1)) → Q h (0, 0)) (k1 : zqAg (h (x0 + 1)) (h (x1 + 1)) → Q h (0, 1)) : wp l rho d 116 0 [(2, x0), (2, x1), (9, 0)] [] h Q := by
  have J2_0 : ∀ (n : Nat) (p2_0 : Int), 0 ≤ p2_0 → p2_0 ≤ 240 → (∀ j : Int, 0 ≤ j → j < p2_0 → h (x1 + 1) j = h (x0 + 1) j) → 241 - p2_0 ≤ (n : Int) → wp l rho d 116 2 [(2, x0), (2, x1), (0, p2_0)] [] h Q := by
    intro n
    induction n with
    | zero => intro p2_0 q0_2_0 q1_2_0 sm_2_0 hm_2_0; exfalso; omega
    | succ n ih_2_0 =>
      intro p2_0 q0_2_0 q1_2_0 sm_2_0 hm_2_0
      refine w_iload_n gz_116_2 rfl ?_
      refine w_aload_n gz_116_3 rfl ?_
      refine w_getX (v := (x0 + 1)) gz_116_4 t0 rd_6 rfl (by decide) rfl ?_
      refine v_alen (j := 240) gz_116_7 rfl (ix_6_1 t0) rd_30 (by decide) ?_
      refine w_icge (t := 34) gz_116_8 rfl (fun u2 => ?_) (fun u2 => ?_)
      ·
        refine w_iconst gz_116_34 (by decide) ?_
        exact w_bret gz_116_35 gm_116 (by omega) (by omega) (k1 (by first | exact (fun j a b => sm_2_0 j a (by omega)) | exact (fun z => by have q := z p2_0 (by omega) (by omega); omega) | assumption | omega))
      ·
        refine w_aload_n gz_116_11 rfl ?_
        refine w_getX (v := (x0 + 1)) gz_116_12 t0 rd_6 rfl (by decide) rfl ?_
        refine w_iload_n gz_116_15 rfl ?_
        refine w_iald gz_116_16 (ix_6_1 t0) rd_30 (by omega) (by omega) (fun v4 ev4 pv4 qv4 => ?_)
        refine w_aload_n gz_116_17 rfl ?_
        refine w_getX (v := (x1 + 1)) gz_116_18 t1 rd_6 rfl (by decide) rfl ?_
        refine w_iload_n gz_116_21 rfl ?_
        refine w_iald gz_116_22 (ix_6_1 t1) rd_30 (by omega) (by omega) (fun v6 ev6 pv6 qv6 => ?_)
        refine w_iceq (t := 28) gz_116_23 rfl (fun u7 => ?_) (fun u7 => ?_)
        ·
          refine w_iinc (ls' := [(2, x0), (2, x1), (0, (p2_0 + 1))]) gz_116_28 rfl gm_116 rfl rfl rfl ⟨by omega, by omega⟩ ?_
          refine w_goto (t := 2) gz_116_31 rfl ?_
          exact ih_2_0 ((p2_0 + 1)) (by omega) (by omega) (by first | exact (fun j a b => absurd b (by omega)) | exact (fun j a b => by by_cases z : j = p2_0; (rw [z]; omega); exact sm_2_0 j a (by omega)) | assumption | omega) (by omega)
        ·
          refine w_iconst gz_116_26 (by decide) ?_
          exact w_bret gz_116_27 gm_116 (by omega) (by omega) (k0 (by first | exact (fun j a b => sm_2_0 j a (by omega)) | exact (fun z => by have q := z p2_0 (by omega) (by omega); omega) | assumption | omega))
  refine w_iconst gz_116_0 (by decide) ?_
  refine w_istore_n (ls' := [(2, x0), (2, x1), (0, 0)]) gz_116_1 gm_116 rfl rfl rfl ?_
  exact J2_0 241 (0) (by omega) (by omega) (by first | exact (fun j a b => absurd b (by omega)) | exact (fun j a b => by by_cases z : j = p2_0; (rw [z]; omega); exact sm_2_0 j a (by omega)) | assumption | omega) (by omega)
theorem c_Model_areAlike5 {l : Launch} {rho : Nat → Int32} {d : Nat} {h : my_H} {Q : my_H → my_V → Prop} {x1 x2 : Int} (a1 : 0 ≤ x1) (b1 : x1 ≤ 15) (a2 : 0 ≤ x2) (b2 : x2 ≤ 15) (k0 : ∀ (y : Int), 0 ≤ y → y ≤ 1 → (y = 1 ↔ zqAg (zqMS h x1) (zqMS h x2)) → Q h (0, y)) : wp l rho d 230 0 [(2, 151), (0, x1), (0, x2), (9, 0), (9, 0), (9, 0)] [] h Q := by
  refine v_knowA (x := 162) is_162 rd_61 (fun kT => ?_)
  refine v_knowA (x := 163) is_163 rd_62 (fun kV => ?_)
  refine v_knowA (x := 160) is_160 rd_59 (fun kN => ?_)
  refine v_knowA (x := 157) is_157 rd_56 (fun kC => ?_)
  have T : MTy h := ⟨kV, kT, kN, kC⟩
  have J5_0 : ∀ (n : Nat) (p5_0 p5_1 : Int), 0 ≤ p5_0 → p5_0 ≤ 1 → 0 ≤ p5_1 → p5_1 ≤ 60 → (p5_0 = 1 → AkJ h x1 x2 p5_1) → (p5_0 = 0 → ¬ zqAg (zqMS h x1) (zqMS h x2)) → 61 - p5_1 ≤ (n : Int) → wp l rho d 230 5 [(2, 151), (0, x1), (0, x2), (0, p5_0), (0, p5_1), (9, 0)] [] h Q := by
    intro n
    induction n with
    | zero => intro p5_0 p5_1 q0_5_0 q1_5_0 q2_5_0 q3_5_0 al_5_0 an_5_0 hm_5_0; exfalso; omega
    | succ n ih_5_0 =>
      intro p5_0 p5_1 q0_5_0 q1_5_0 q2_5_0 q3_5_0 al_5_0 an_5_0 hm_5_0
      have J126_0 : ∀ (p126_0 p126_1 : Int), 0 ≤ p126_0 → p126_0 ≤ 1 → p5_1 ≤ 59 → 0 ≤ p126_1 → p126_1 ≤ 4 → p126_0 ≤ p5_0 → (p126_0 = 1 → AkJ h x1 x2 (p5_1 + 1)) → (p126_0 = 0 → ¬ zqAg (zqMS h x1) (zqMS h x2)) → wp l rho d 230 126 [(2, 151), (0, x1), (0, x2), (0, p126_0), (0, p5_1), (0, p126_1)] [] h Q := by
        intro p126_0 p126_1 q0_126_0 q1_126_0 q2_126_0 q3_126_0 q4_126_0 q5_126_0 cl_126_0 cn_126_0
        refine w_iinc (ls' := [(2, 151), (0, x1), (0, x2), (0, p126_0), (0, (p5_1 + 1)), (0, p126_1)]) gz_230_126 rfl gm_230 rfl rfl rfl ⟨by omega, by omega⟩ ?_
        refine w_goto (t := 5) gz_230_129 rfl ?_
        refine w_weak (ls' := [(2, 151), (0, x1), (0, x2), (0, p126_0), (0, (p5_1 + 1)), (9, 0)]) (wk_e (wk_e (wk_e (wk_e (wk_e (wk_9 wk_n)))))) ?_
        exact ih_5_0 (p126_0) ((p5_1 + 1)) (by omega) (by omega) (by omega) (by omega) (by first | exact (fun _ => AkJ_0) | exact cl_126_0 | assumption | omega) (by first | exact (fun z => absurd z (by omega)) | exact cn_126_0 | assumption | omega) (by omega)
      have J52_0 : ∀ (n : Nat) (p52_0 p52_1 : Int), 0 ≤ p52_0 → p52_0 ≤ 1 → p5_1 ≤ 59 → 0 ≤ p52_1 → p52_1 ≤ 4 → p52_0 ≤ p5_0 → (p52_0 = 1 → AkJ h x1 x2 p5_1 ∧ AkK h x1 x2 p5_1 p52_1) → (p52_0 = 0 → ¬ zqAg (zqMS h x1) (zqMS h x2)) → 5 - p52_1 ≤ (n : Int) → wp l rho d 230 52 [(2, 151), (0, x1), (0, x2), (0, p52_0), (0, p5_1), (0, p52_1)] [] h Q := by
        intro n
        induction n with
        | zero => intro p52_0 p52_1 q0_52_0 q1_52_0 q2_52_0 q3_52_0 q4_52_0 q5_52_0 bl_52_0 bn_52_0 hm_52_0; exfalso; omega
        | succ n ih_52_0 =>
          intro p52_0 p52_1 q0_52_0 q1_52_0 q2_52_0 q3_52_0 q4_52_0 q5_52_0 bl_52_0 bn_52_0 hm_52_0
          refine w_iload gz_230_52 rfl ?_
          refine w_iconst gz_230_54 (by decide) ?_
          refine w_icge (t := 126) gz_230_55 rfl (fun u1 => ?_) (fun u1 => ?_)
          ·
            exact J126_0 (p52_0) (p52_1) (by omega) (by omega) (by omega) (by omega) (by omega) (by omega) (by first | exact (fun z => absurd z (by omega)) | exact (fun _ => AkJ_s (by omega) (bl_52_0 (by omega)).1 (bl_52_0 (by omega)).2 (by omega)) | assumption | omega) (by first | exact bn_52_0 | exact (fun z => absurd z (by omega)) | assumption | omega)
          ·
            refine w_iload_n gz_230_58 rfl ?_
            refine w_ifeq (t := 126) gz_230_59 rfl (fun u2 => ?_) (fun u2 => ?_)
            ·
              exact J126_0 (p52_0) (p52_1) (by omega) (by omega) (by omega) (by omega) (by omega) (by omega) (by first | exact (fun z => absurd z (by omega)) | exact (fun _ => AkJ_s (by omega) (bl_52_0 (by omega)).1 (bl_52_0 (by omega)).2 (by omega)) | assumption | omega) (by first | exact bn_52_0 | exact (fun z => absurd z (by omega)) | assumption | omega)
            ·
              refine w_aload_n gz_230_62 rfl ?_
              refine w_getX (v := 162) gz_230_63 is_151 rd_10 rfl (by decide) rfl ?_
              refine w_bipush gz_230_66 (by decide) ?_
              refine w_iload_n gz_230_68 rfl ?_
              refine w_imul gz_230_69 ⟨by omega, by omega⟩ ?_
              refine w_iload gz_230_70 rfl ?_
              refine w_iadd gz_230_72 ⟨by omega, by omega⟩ ?_
              refine w_bald gz_230_73 is_162 rd_61 (by omega) (by omega) (fun v4 ev4 pv4 qv4 => ?_)
              refine w_ifeq (t := 126) gz_230_74 rfl (fun u5 => ?_) (fun u5 => ?_)
              ·
                exact J126_0 (p52_0) (p52_1) (by omega) (by omega) (by omega) (by omega) (by omega) (by omega) (by first | exact (fun z => absurd z (by omega)) | exact (fun _ => AkJ_s (by omega) (bl_52_0 (by omega)).1 (bl_52_0 (by omega)).2 (by omega)) | assumption | omega) (by first | exact bn_52_0 | exact (fun z => absurd z (by omega)) | assumption | omega)
              ·
                refine w_aload_n gz_230_77 rfl ?_
                refine w_getX (v := 163) gz_230_78 is_151 rd_10 rfl (by decide) rfl ?_
                refine w_iconst gz_230_81 (by decide) ?_
                refine w_bipush gz_230_82 (by decide) ?_
                refine w_iload_n gz_230_84 rfl ?_
                refine w_imul gz_230_85 ⟨by omega, by omega⟩ ?_
                refine w_iload gz_230_86 rfl ?_
                refine w_iadd gz_230_88 ⟨by omega, by omega⟩ ?_
                refine w_imul gz_230_89 ⟨by omega, by omega⟩ ?_
                refine w_iload gz_230_90 rfl ?_
                refine w_iadd gz_230_92 ⟨by omega, by omega⟩ ?_
                refine w_iald gz_230_93 is_163 rd_62 (by omega) (by omega) (fun v7 ev7 pv7 qv7 => ?_)
                refine w_aload_n gz_230_94 rfl ?_
                refine w_getX (v := 163) gz_230_95 is_151 rd_10 rfl (by decide) rfl ?_
                refine w_iconst gz_230_98 (by decide) ?_
                refine w_bipush gz_230_99 (by decide) ?_
                refine w_iload_n gz_230_101 rfl ?_
                refine w_imul gz_230_102 ⟨by omega, by omega⟩ ?_
                refine w_iload gz_230_103 rfl ?_
                refine w_iadd gz_230_105 ⟨by omega, by omega⟩ ?_
                refine w_imul gz_230_106 ⟨by omega, by omega⟩ ?_
                refine w_iload gz_230_107 rfl ?_
                refine w_iadd gz_230_109 ⟨by omega, by omega⟩ ?_
                refine w_iald gz_230_110 is_163 rd_62 (by omega) (by omega) (fun v9 ev9 pv9 qv9 => ?_)
                refine w_icne (t := 118) gz_230_111 rfl (fun u10 => ?_) (fun u10 => ?_)
                ·
                  refine w_iconst gz_230_118 (by decide) ?_
                  refine w_istore_n (ls' := [(2, 151), (0, x1), (0, x2), (0, 0), (0, p5_1), (0, p52_1)]) gz_230_119 gm_230 rfl rfl rfl ?_
                  refine w_iinc (ls' := [(2, 151), (0, x1), (0, x2), (0, 0), (0, p5_1), (0, (p52_1 + 1))]) gz_230_120 rfl gm_230 rfl rfl rfl ⟨by omega, by omega⟩ ?_
                  refine w_goto (t := 52) gz_230_123 rfl ?_
                  exact ih_52_0 (0) ((p52_1 + 1)) (by omega) (by omega) (by omega) (by omega) (by omega) (by omega) (by first | exact (fun z => absurd z (by omega)) | exact (fun _ => ⟨al_5_0 (by omega), AkK_0 (by omega)⟩) | exact (fun _ => ⟨(bl_52_0 (by omega)).1, AkK_s (bl_52_0 (by omega)).2 (by omega)⟩) | assumption | omega) (by first | exact (fun z => absurd z (by omega)) | exact (fun _ => an_5_0 (by omega)) | exact (fun _ => Ak_n1 T (by omega) (by omega) (by omega) (by omega) (by omega) (by omega) (k := p5_1) (by omega)) | exact (fun _ => Ak_n2 (by omega) (by omega) (by omega) (by omega) (bl_52_0 (by omega)).2 (by omega) (by omega)) | assumption | omega) (by omega)
                ·
                  refine w_iconst gz_230_114 (by decide) ?_
                  refine w_goto (t := 119) gz_230_115 rfl ?_
                  refine w_istore_n (ls' := [(2, 151), (0, x1), (0, x2), (0, 1), (0, p5_1), (0, p52_1)]) gz_230_119 gm_230 rfl rfl rfl ?_
                  refine w_iinc (ls' := [(2, 151), (0, x1), (0, x2), (0, 1), (0, p5_1), (0, (p52_1 + 1))]) gz_230_120 rfl gm_230 rfl rfl rfl ⟨by omega, by omega⟩ ?_
                  refine w_goto (t := 52) gz_230_123 rfl ?_
                  exact ih_52_0 (1) ((p52_1 + 1)) (by omega) (by omega) (by omega) (by omega) (by omega) (by omega) (by first | exact (fun z => absurd z (by omega)) | exact (fun _ => ⟨al_5_0 (by omega), AkK_0 (by omega)⟩) | exact (fun _ => ⟨(bl_52_0 (by omega)).1, AkK_s (bl_52_0 (by omega)).2 (by omega)⟩) | assumption | omega) (by first | exact (fun z => absurd z (by omega)) | exact (fun _ => an_5_0 (by omega)) | exact (fun _ => Ak_n1 T (by omega) (by omega) (by omega) (by omega) (by omega) (by omega) (k := p5_1) (by omega)) | exact (fun _ => Ak_n2 (by omega) (by omega) (by omega) (by omega) (bl_52_0 (by omega)).2 (by omega) (by omega)) | assumption | omega) (by omega)
      refine w_iload gz_230_5 rfl ?_
      refine w_bipush gz_230_7 (by decide) ?_
      refine w_icge (t := 132) gz_230_9 rfl (fun u11 => ?_) (fun u11 => ?_)
      ·
        refine w_iload_n gz_230_132 rfl ?_
        exact w_bret gz_230_133 gm_230 (by omega) (by omega) (k0 (p5_0) (by omega) (by omega) (by first | exact ⟨fun z => Ak_e (by have q := al_5_0 z; rw [show p5_1 = 60 by omega] at q; exact q), fun z => Decidable.byContradiction (fun y => an_5_0 (by omega) z)⟩ | assumption | omega))
      ·
        refine w_iload_n gz_230_12 rfl ?_
        refine w_ifeq (t := 47) gz_230_13 rfl (fun u12 => ?_) (fun u12 => ?_)
        ·
          refine w_iconst gz_230_47 (by decide) ?_
          refine w_istore_n (ls' := [(2, 151), (0, x1), (0, x2), (0, 0), (0, p5_1), (9, 0)]) gz_230_48 gm_230 rfl rfl rfl ?_
          refine w_iconst gz_230_49 (by decide) ?_
          refine w_istore (ls' := [(2, 151), (0, x1), (0, x2), (0, 0), (0, p5_1), (0, 0)]) gz_230_50 gm_230 rfl rfl rfl ?_
          exact J52_0 5 (0) (0) (by omega) (by omega) (by omega) (by omega) (by omega) (by omega) (by first | exact (fun z => absurd z (by omega)) | exact (fun _ => ⟨al_5_0 (by omega), AkK_0 (by omega)⟩) | exact (fun _ => ⟨(bl_52_0 (by omega)).1, AkK_s (bl_52_0 (by omega)).2 (by omega)⟩) | assumption | omega) (by first | exact (fun z => absurd z (by omega)) | exact (fun _ => an_5_0 (by omega)) | exact (fun _ => Ak_n1 T (by omega) (by omega) (by omega) (by omega) (by omega) (by omega) (k := p5_1) (by omega)) | exact (fun _ => Ak_n2 (by omega) (by omega) (by omega) (by omega) (bl_52_0 (by omega)).2 (by omega) (by omega)) | assumption | omega) (by omega)
        ·
          refine w_aload_n gz_230_16 rfl ?_
          refine w_getX (v := 162) gz_230_17 is_151 rd_10 rfl (by decide) rfl ?_
          refine w_bipush gz_230_20 (by decide) ?_
          refine w_iload_n gz_230_22 rfl ?_
          refine w_imul gz_230_23 ⟨by omega, by omega⟩ ?_
          refine w_iload gz_230_24 rfl ?_
          refine w_iadd gz_230_26 ⟨by omega, by omega⟩ ?_
          refine w_bald gz_230_27 is_162 rd_61 (by omega) (by omega) (fun v14 ev14 pv14 qv14 => ?_)
          refine w_aload_n gz_230_28 rfl ?_
          refine w_getX (v := 162) gz_230_29 is_151 rd_10 rfl (by decide) rfl ?_
          refine w_bipush gz_230_32 (by decide) ?_
          refine w_iload_n gz_230_34 rfl ?_
          refine w_imul gz_230_35 ⟨by omega, by omega⟩ ?_
          refine w_iload gz_230_36 rfl ?_
          refine w_iadd gz_230_38 ⟨by omega, by omega⟩ ?_
          refine w_bald gz_230_39 is_162 rd_61 (by omega) (by omega) (fun v16 ev16 pv16 qv16 => ?_)
          refine w_icne (t := 47) gz_230_40 rfl (fun u17 => ?_) (fun u17 => ?_)
          ·
            refine w_iconst gz_230_47 (by decide) ?_
            refine w_istore_n (ls' := [(2, 151), (0, x1), (0, x2), (0, 0), (0, p5_1), (9, 0)]) gz_230_48 gm_230 rfl rfl rfl ?_
            refine w_iconst gz_230_49 (by decide) ?_
            refine w_istore (ls' := [(2, 151), (0, x1), (0, x2), (0, 0), (0, p5_1), (0, 0)]) gz_230_50 gm_230 rfl rfl rfl ?_
            exact J52_0 5 (0) (0) (by omega) (by omega) (by omega) (by omega) (by omega) (by omega) (by first | exact (fun z => absurd z (by omega)) | exact (fun _ => ⟨al_5_0 (by omega), AkK_0 (by omega)⟩) | exact (fun _ => ⟨(bl_52_0 (by omega)).1, AkK_s (bl_52_0 (by omega)).2 (by omega)⟩) | assumption | omega) (by first | exact (fun z => absurd z (by omega)) | exact (fun _ => an_5_0 (by omega)) | exact (fun _ => Ak_n1 T (by omega) (by omega) (by omega) (by omega) (by omega) (by omega) (k := p5_1) (by omega)) | exact (fun _ => Ak_n2 (by omega) (by omega) (by omega) (by omega) (bl_52_0 (by omega)).2 (by omega) (by omega)) | assumption | omega) (by omega)
          ·
            refine w_iconst gz_230_43 (by decide) ?_
            refine w_goto (t := 48) gz_230_44 rfl ?_
            refine w_istore_n (ls' := [(2, 151), (0, x1), (0, x2), (0, 1), (0, p5_1), (9, 0)]) gz_230_48 gm_230 rfl rfl rfl ?_
            refine w_iconst gz_230_49 (by decide) ?_
            refine w_istore (ls' := [(2, 151), (0, x1), (0, x2), (0, 1), (0, p5_1), (0, 0)]) gz_230_50 gm_230 rfl rfl rfl ?_
            exact J52_0 5 (1) (0) (by omega) (by omega) (by omega) (by omega) (by omega) (by omega) (by first | exact (fun z => absurd z (by omega)) | exact (fun _ => ⟨al_5_0 (by omega), AkK_0 (by omega)⟩) | exact (fun _ => ⟨(bl_52_0 (by omega)).1, AkK_s (bl_52_0 (by omega)).2 (by omega)⟩) | assumption | omega) (by first | exact (fun z => absurd z (by omega)) | exact (fun _ => an_5_0 (by omega)) | exact (fun _ => Ak_n1 T (by omega) (by omega) (by omega) (by omega) (by omega) (by omega) (k := p5_1) (by omega)) | exact (fun _ => Ak_n2 (by omega) (by omega) (by omega) (by omega) (bl_52_0 (by omega)).2 (by omega) (by omega)) | assumption | omega) (by omega)
  refine w_iconst gz_230_0 (by decide) ?_
  refine w_istore_n (ls' := [(2, 151), (0, x1), (0, x2), (0, 1), (9, 0), (9, 0)]) gz_230_1 gm_230 rfl rfl rfl ?_
  refine w_iconst gz_230_2 (by decide) ?_
  refine w_istore (ls' := [(2, 151), (0, x1), (0, x2), (0, 1), (0, 0), (9, 0)]) gz_230_3 gm_230 rfl rfl rfl ?_
  exact J5_0 61 (1) (0) (by omega) (by omega) (by omega) (by omega) (by first | exact (fun _ => AkJ_0) | exact cl_126_0 | assumption | omega) (by first | exact (fun z => absurd z (by omega)) | exact cn_126_0 | assumption | omega) (by omega)
theorem c_ThroughWindow_moves5 {l : Launch} {rho : Nat → Int32} {d : Nat} {h : my_H} {Q : my_H → my_V → Prop} {x1 x2 x3 x4 : Int} (k0 : ¬ zySp (zqCA h) x1 x2 x3 x4 → Q h (0, (-1))) (k1 : ∀ (y : Int), 0 ≤ y → y ≤ 20 → 0 ≤ x1 → x1 ≤ 2 → 0 ≤ x2 → x2 ≤ 3 → 0 ≤ x3 → x3 ≤ 19 → 0 ≤ x4 → x4 ≤ 19 → zySp (zqCA h) x1 x2 x3 x4 ∧ y = qOut (h 8) x1 x2 x3 x4 20 → Q h (0, y)) : wp l rho (d + 2) 137 0 [(2, 0), (0, x1), (0, x2), (0, x3), (0, x4)] [] h Q := by
  refine w_aload_n gz_137_0 rfl ?_
  refine w_getX (v := 1) gz_137_1 is_0 rd_9 rfl (by decide) rfl ?_
  refine w_iload_n gz_137_4 rfl ?_
  refine w_iload_n gz_137_5 rfl ?_
  refine w_inv (k := 0) (as := [(0, x2), (0, x1)]) (r := []) (x := 1) (ls0 := [(2, 1), (0, x1), (0, x2)]) gz_137_6 gm_27 rfl is_1 rd_3 rfl rfl rfl rfl rfl ?_
  refine w_aload_n gz_27_0 rfl ?_
  refine w_iload_n gz_27_1 rfl ?_
  refine w_inv (k := 0) (as := [(0, x1)]) (r := []) (x := 1) (ls0 := [(2, 1), (0, x1)]) gz_27_2 gm_13 rfl is_1 rd_3 rfl rfl rfl rfl rfl ?_
  refine w_iload_n gz_13_0 rfl ?_
  refine w_iflt (t := 22) gz_13_1 rfl (fun u2 => ?_) (fun u2 => ?_)
  ·
    refine w_iconst gz_13_22 (by decide) ?_
    refine w_bret gz_13_23 gm_13 (by omega) (by omega) ?_
    show wp l rho (d + 1) 27 5 [(2, 1), (0, x1), (0, x2)] [(0, 0)] h _
    refine w_ifeq (t := 26) gz_27_5 rfl (fun u3 => ?_) (fun u3 => by exfalso; omega)
    refine w_iconst gz_27_26 (by decide) ?_
    refine w_bret gz_27_27 gm_27 (by omega) (by omega) ?_
    show wp l rho (d + 2) 137 9 [(2, 0), (0, x1), (0, x2), (0, x3), (0, x4)] [(0, 0)] h Q
    refine w_ifeq (t := 21) gz_137_9 rfl (fun u4 => ?_) (fun u4 => by exfalso; omega)
    refine w_iconst gz_137_21 (by decide) ?_
    exact w_iret gz_137_22 gm_137 (k0 (by first | exact ⟨(show ((0 ≤ x1 ∧ x1 ≤ 2) ∧ 0 ≤ x2 ∧ x2 < h 2 x1) ∧ (0 ≤ x3 ∧ x3 ≤ 19) ∧ x3 ≤ x4 ∧ x4 ≤ 19 by omega), ou8⟩ | exact (fun z => by have z1 : ((0 ≤ x1 ∧ x1 ≤ 2) ∧ 0 ≤ x2 ∧ x2 < h 2 x1) ∧ (0 ≤ x3 ∧ x3 ≤ 19) ∧ x3 ≤ x4 ∧ x4 ≤ 19 := z; omega) | assumption | omega))
  ·
    refine w_iload_n gz_13_4 rfl ?_
    refine w_iconst gz_13_5 (by decide) ?_
    refine w_icge (t := 22) gz_13_6 rfl (fun u5 => ?_) (fun u5 => ?_)
    ·
      refine w_iconst gz_13_22 (by decide) ?_
      refine w_bret gz_13_23 gm_13 (by omega) (by omega) ?_
      show wp l rho (d + 1) 27 5 [(2, 1), (0, x1), (0, x2)] [(0, 0)] h _
      refine w_ifeq (t := 26) gz_27_5 rfl (fun u6 => ?_) (fun u6 => by exfalso; omega)
      refine w_iconst gz_27_26 (by decide) ?_
      refine w_bret gz_27_27 gm_27 (by omega) (by omega) ?_
      show wp l rho (d + 2) 137 9 [(2, 0), (0, x1), (0, x2), (0, x3), (0, x4)] [(0, 0)] h Q
      refine w_ifeq (t := 21) gz_137_9 rfl (fun u7 => ?_) (fun u7 => by exfalso; omega)
      refine w_iconst gz_137_21 (by decide) ?_
      exact w_iret gz_137_22 gm_137 (k0 (by first | exact ⟨(show ((0 ≤ x1 ∧ x1 ≤ 2) ∧ 0 ≤ x2 ∧ x2 < h 2 x1) ∧ (0 ≤ x3 ∧ x3 ≤ 19) ∧ x3 ≤ x4 ∧ x4 ≤ 19 by omega), ou8⟩ | exact (fun z => by have z1 : ((0 ≤ x1 ∧ x1 ≤ 2) ∧ 0 ≤ x2 ∧ x2 < h 2 x1) ∧ (0 ≤ x3 ∧ x3 ≤ 19) ∧ x3 ≤ x4 ∧ x4 ≤ 19 := z; omega) | assumption | omega))
    ·
      refine w_aload_n gz_13_9 rfl ?_
      refine w_getX (v := 2) gz_13_10 is_1 rd_3 rfl (by decide) rfl ?_
      refine w_iload_n gz_13_13 rfl ?_
      refine w_iald gz_13_14 is_2 rd_25 (by omega) (by omega) (fun v9 ev9 pv9 qv9 => ?_)
      refine w_ifle (t := 22) gz_13_15 rfl (fun u10 => ?_) (fun u10 => ?_)
      ·
        refine w_iconst gz_13_22 (by decide) ?_
        refine w_bret gz_13_23 gm_13 (by omega) (by omega) ?_
        show wp l rho (d + 1) 27 5 [(2, 1), (0, x1), (0, x2)] [(0, 0)] h _
        refine w_ifeq (t := 26) gz_27_5 rfl (fun u11 => ?_) (fun u11 => by exfalso; omega)
        refine w_iconst gz_27_26 (by decide) ?_
        refine w_bret gz_27_27 gm_27 (by omega) (by omega) ?_
        show wp l rho (d + 2) 137 9 [(2, 0), (0, x1), (0, x2), (0, x3), (0, x4)] [(0, 0)] h Q
        refine w_ifeq (t := 21) gz_137_9 rfl (fun u12 => ?_) (fun u12 => by exfalso; omega)
        refine w_iconst gz_137_21 (by decide) ?_
        exact w_iret gz_137_22 gm_137 (k0 (by first | exact ⟨(show ((0 ≤ x1 ∧ x1 ≤ 2) ∧ 0 ≤ x2 ∧ x2 < h 2 x1) ∧ (0 ≤ x3 ∧ x3 ≤ 19) ∧ x3 ≤ x4 ∧ x4 ≤ 19 by omega), ou8⟩ | exact (fun z => by have z1 : ((0 ≤ x1 ∧ x1 ≤ 2) ∧ 0 ≤ x2 ∧ x2 < h 2 x1) ∧ (0 ≤ x3 ∧ x3 ≤ 19) ∧ x3 ≤ x4 ∧ x4 ≤ 19 := z; omega) | assumption | omega))
      ·
        refine w_iconst gz_13_18 (by decide) ?_
        refine w_goto (t := 23) gz_13_19 rfl ?_
        refine w_bret gz_13_23 gm_13 (by omega) (by omega) ?_
        show wp l rho (d + 1) 27 5 [(2, 1), (0, x1), (0, x2)] [(0, 1)] h _
        refine w_ifeq (t := 26) gz_27_5 rfl (fun u13 => by exfalso; omega) (fun u13 => ?_)
        refine w_iload_n gz_27_8 rfl ?_
        refine w_iflt (t := 26) gz_27_9 rfl (fun u14 => ?_) (fun u14 => ?_)
        ·
          refine w_iconst gz_27_26 (by decide) ?_
          refine w_bret gz_27_27 gm_27 (by omega) (by omega) ?_
          show wp l rho (d + 2) 137 9 [(2, 0), (0, x1), (0, x2), (0, x3), (0, x4)] [(0, 0)] h Q
          refine w_ifeq (t := 21) gz_137_9 rfl (fun u15 => ?_) (fun u15 => by exfalso; omega)
          refine w_iconst gz_137_21 (by decide) ?_
          exact w_iret gz_137_22 gm_137 (k0 (by first | exact ⟨(show ((0 ≤ x1 ∧ x1 ≤ 2) ∧ 0 ≤ x2 ∧ x2 < h 2 x1) ∧ (0 ≤ x3 ∧ x3 ≤ 19) ∧ x3 ≤ x4 ∧ x4 ≤ 19 by omega), ou8⟩ | exact (fun z => by have z1 : ((0 ≤ x1 ∧ x1 ≤ 2) ∧ 0 ≤ x2 ∧ x2 < h 2 x1) ∧ (0 ≤ x3 ∧ x3 ≤ 19) ∧ x3 ≤ x4 ∧ x4 ≤ 19 := z; omega) | assumption | omega))
        ·
          refine w_iload_n gz_27_12 rfl ?_
          refine w_aload_n gz_27_13 rfl ?_
          refine w_getX (v := 2) gz_27_14 is_1 rd_3 rfl (by decide) rfl ?_
          refine w_iload_n gz_27_17 rfl ?_
          refine w_iald gz_27_18 is_2 rd_25 (by omega) (by omega) (fun v17 ev17 pv17 qv17 => ?_)
          have zv17 := ev17.trans ev9.symm
          refine w_icge (t := 26) gz_27_19 rfl (fun u18 => ?_) (fun u18 => ?_)
          ·
            refine w_iconst gz_27_26 (by decide) ?_
            refine w_bret gz_27_27 gm_27 (by omega) (by omega) ?_
            show wp l rho (d + 2) 137 9 [(2, 0), (0, x1), (0, x2), (0, x3), (0, x4)] [(0, 0)] h Q
            refine w_ifeq (t := 21) gz_137_9 rfl (fun u19 => ?_) (fun u19 => by exfalso; omega)
            refine w_iconst gz_137_21 (by decide) ?_
            exact w_iret gz_137_22 gm_137 (k0 (by first | exact ⟨(show ((0 ≤ x1 ∧ x1 ≤ 2) ∧ 0 ≤ x2 ∧ x2 < h 2 x1) ∧ (0 ≤ x3 ∧ x3 ≤ 19) ∧ x3 ≤ x4 ∧ x4 ≤ 19 by omega), ou8⟩ | exact (fun z => by have z1 : ((0 ≤ x1 ∧ x1 ≤ 2) ∧ 0 ≤ x2 ∧ x2 < h 2 x1) ∧ (0 ≤ x3 ∧ x3 ≤ 19) ∧ x3 ≤ x4 ∧ x4 ≤ 19 := z; omega) | assumption | omega))
          ·
            refine w_iconst gz_27_22 (by decide) ?_
            refine w_goto (t := 27) gz_27_23 rfl ?_
            refine w_bret gz_27_27 gm_27 (by omega) (by omega) ?_
            show wp l rho (d + 2) 137 9 [(2, 0), (0, x1), (0, x2), (0, x3), (0, x4)] [(0, 1)] h Q
            refine w_ifeq (t := 21) gz_137_9 rfl (fun u20 => by exfalso; omega) (fun u20 => ?_)
            refine w_iload_n gz_137_12 rfl ?_
            refine w_iload gz_137_13 rfl ?_
            refine w_inS (k := 0) (as := [(0, x4), (0, x3)]) (r := []) (ls0 := [(0, x3), (0, x4)]) gz_137_15 gm_28 rfl rfl rfl rfl rfl rfl ?_
            refine w_iload_n gz_28_0 rfl ?_
            refine w_iflt (t := 19) gz_28_1 rfl (fun u21 => ?_) (fun u21 => ?_)
            ·
              refine w_iconst gz_28_19 (by decide) ?_
              refine w_bret gz_28_20 gm_28 (by omega) (by omega) ?_
              show wp l rho (d + 2) 137 18 [(2, 0), (0, x1), (0, x2), (0, x3), (0, x4)] [(0, 0)] h Q
              refine w_ifne (t := 23) gz_137_18 rfl (fun u22 => by exfalso; omega) (fun u22 => ?_)
              refine w_iconst gz_137_21 (by decide) ?_
              exact w_iret gz_137_22 gm_137 (k0 (by first | exact ⟨(show ((0 ≤ x1 ∧ x1 ≤ 2) ∧ 0 ≤ x2 ∧ x2 < h 2 x1) ∧ (0 ≤ x3 ∧ x3 ≤ 19) ∧ x3 ≤ x4 ∧ x4 ≤ 19 by omega), ou8⟩ | exact (fun z => by have z1 : ((0 ≤ x1 ∧ x1 ≤ 2) ∧ 0 ≤ x2 ∧ x2 < h 2 x1) ∧ (0 ≤ x3 ∧ x3 ≤ 19) ∧ x3 ≤ x4 ∧ x4 ≤ 19 := z; omega) | assumption | omega))
            ·
              refine w_iload_n gz_28_4 rfl ?_
              refine w_iload_n gz_28_5 rfl ?_
              refine w_icgt (t := 19) gz_28_6 rfl (fun u23 => ?_) (fun u23 => ?_)
              ·
                refine w_iconst gz_28_19 (by decide) ?_
                refine w_bret gz_28_20 gm_28 (by omega) (by omega) ?_
                show wp l rho (d + 2) 137 18 [(2, 0), (0, x1), (0, x2), (0, x3), (0, x4)] [(0, 0)] h Q
                refine w_ifne (t := 23) gz_137_18 rfl (fun u24 => by exfalso; omega) (fun u24 => ?_)
                refine w_iconst gz_137_21 (by decide) ?_
                exact w_iret gz_137_22 gm_137 (k0 (by first | exact ⟨(show ((0 ≤ x1 ∧ x1 ≤ 2) ∧ 0 ≤ x2 ∧ x2 < h 2 x1) ∧ (0 ≤ x3 ∧ x3 ≤ 19) ∧ x3 ≤ x4 ∧ x4 ≤ 19 by omega), ou8⟩ | exact (fun z => by have z1 : ((0 ≤ x1 ∧ x1 ≤ 2) ∧ 0 ≤ x2 ∧ x2 < h 2 x1) ∧ (0 ≤ x3 ∧ x3 ≤ 19) ∧ x3 ≤ x4 ∧ x4 ≤ 19 := z; omega) | assumption | omega))
              ·
                refine w_iload_n gz_28_9 rfl ?_
                refine w_bipush gz_28_10 (by decide) ?_
                refine w_icge (t := 19) gz_28_12 rfl (fun u25 => ?_) (fun u25 => ?_)
                ·
                  refine w_iconst gz_28_19 (by decide) ?_
                  refine w_bret gz_28_20 gm_28 (by omega) (by omega) ?_
                  show wp l rho (d + 2) 137 18 [(2, 0), (0, x1), (0, x2), (0, x3), (0, x4)] [(0, 0)] h Q
                  refine w_ifne (t := 23) gz_137_18 rfl (fun u26 => by exfalso; omega) (fun u26 => ?_)
                  refine w_iconst gz_137_21 (by decide) ?_
                  exact w_iret gz_137_22 gm_137 (k0 (by first | exact ⟨(show ((0 ≤ x1 ∧ x1 ≤ 2) ∧ 0 ≤ x2 ∧ x2 < h 2 x1) ∧ (0 ≤ x3 ∧ x3 ≤ 19) ∧ x3 ≤ x4 ∧ x4 ≤ 19 by omega), ou8⟩ | exact (fun z => by have z1 : ((0 ≤ x1 ∧ x1 ≤ 2) ∧ 0 ≤ x2 ∧ x2 < h 2 x1) ∧ (0 ≤ x3 ∧ x3 ≤ 19) ∧ x3 ≤ x4 ∧ x4 ≤ 19 := z; omega) | assumption | omega))
                ·
                  refine w_iconst gz_28_15 (by decide) ?_
                  refine w_goto (t := 20) gz_28_16 rfl ?_
                  refine w_bret gz_28_20 gm_28 (by omega) (by omega) ?_
                  show wp l rho (d + 2) 137 18 [(2, 0), (0, x1), (0, x2), (0, x3), (0, x4)] [(0, 1)] h Q
                  refine w_ifne (t := 23) gz_137_18 rfl (fun u27 => ?_) (fun u27 => by exfalso; omega)
                  refine w_aload_n gz_137_23 rfl ?_
                  refine w_getX (v := 7) gz_137_24 is_0 rd_9 rfl (by decide) rfl ?_
                  refine w_iload_n gz_137_27 rfl ?_
                  refine w_iload_n gz_137_28 rfl ?_
                  refine w_iload_n gz_137_29 rfl ?_
                  refine w_iload gz_137_30 rfl ?_
                  refine w_inv (k := 3) (as := [(0, x4), (0, x3), (0, x2), (0, x1)]) (r := []) (x := 7) (ls0 := [(2, 7), (0, x1), (0, x2), (0, x3), (0, x4), (9, 0), (9, 0), (9, 0)]) gz_137_32 gm_20 rfl is_7 rd_6 rfl rfl rfl rfl rfl (c_Rows_outside5 (d := d) (x0 := 7) (x1 := x1) (x2 := x2) (x3 := x3) (x4 := x4) is_7 (by omega) (by omega) (by omega) (by omega) (by omega) (by omega) (by omega) (by omega) (fun v29 w30 w31 xp32 => ?_))
                  show wp l rho (d + 2) 137 35 [(2, 0), (0, x1), (0, x2), (0, x3), (0, x4)] [(0, v29)] h Q
                  have ou8 : _ = qOut (h 8) x1 x2 x3 x4 20 := xp32
                  exact w_iret gz_137_35 gm_137 (k1 (v29) (by omega) (by omega) (by omega) (by omega) (by omega) (by omega) (by omega) (by omega) (by omega) (by omega) (by first | exact ⟨(show ((0 ≤ x1 ∧ x1 ≤ 2) ∧ 0 ≤ x2 ∧ x2 < h 2 x1) ∧ (0 ≤ x3 ∧ x3 ≤ 19) ∧ x3 ≤ x4 ∧ x4 ≤ 19 by omega), ou8⟩ | exact (fun z => by have z1 : ((0 ≤ x1 ∧ x1 ≤ 2) ∧ 0 ≤ x2 ∧ x2 < h 2 x1) ∧ (0 ≤ x3 ∧ x3 ≤ 19) ∧ x3 ≤ x4 ∧ x4 ≤ 19 := z; omega) | assumption | omega))
end MYNRows_same5
