/-! contracts, printed by wip/gen/gy.py -/
section MYNModel_sortShown
theorem c_Model_sortShown {l : Launch} {rho : Nat → Int32} {d : Nat} {h : my_H} {Q : my_H → my_V → Prop} (k0 : ∀ (h' : my_H), my_fr [(80, -1), (81, -1), (82, -1)] h h' → Q h' (9, 0)) : wp l rho (d + 1) 199 0 [(2, 151), (9, 0), (9, 0)] [] h Q := by
  have J2_0 : ∀ (n : Nat) (p2_0 : Int) (h2_0 : my_H), my_fr [(80, -1), (81, -1), (82, -1)] h h2_0 → 0 ≤ p2_0 → p2_0 ≤ 10 → 11 - p2_0 ≤ (n : Int) → wp l rho (d + 1) 199 2 [(2, 151), (0, p2_0), (9, 0)] [] h2_0 Q := by
    intro n
    induction n with
    | zero => intro p2_0 h2_0 gh_2_0 q0_2_0 q1_2_0 hm_2_0; exfalso; omega
    | succ n ih_2_0 =>
      intro p2_0 h2_0 gh_2_0 q0_2_0 q1_2_0 hm_2_0
      have J14_0 : ∀ (n : Nat) (p14_0 p14_1 : Int) (h14_0 : my_H), my_fr [(80, -1), (81, -1), (82, -1)] h h14_0 → p2_0 ≤ 9 → 1 ≤ p14_0 → p14_0 ≤ 10 → 1 ≤ p14_1 → p14_1 ≤ 10 → p14_0 ≤ p14_1 → p2_0 ≤ (p14_0 - 1) → p2_0 ≤ (p14_1 - 1) → h14_0 151 37 = p14_1 → 11 - p14_0 ≤ (n : Int) → wp l rho (d + 1) 199 14 [(2, 151), (0, p2_0), (0, p14_0)] [] h14_0 Q := by
        intro n
        induction n with
        | zero => intro p14_0 p14_1 h14_0 gh_14_0 q0_14_0 q1_14_0 q2_14_0 q3_14_0 q4_14_0 q5_14_0 q6_14_0 q7_14_0 c151_37_14_0 hm_14_0; exfalso; omega
        | succ n ih_14_0 =>
          intro p14_0 p14_1 h14_0 gh_14_0 q0_14_0 q1_14_0 q2_14_0 q3_14_0 q4_14_0 q5_14_0 q6_14_0 q7_14_0 c151_37_14_0 hm_14_0
          have J37_0 : ∀ (h37_0 : my_H), my_fr [(80, -1), (81, -1), (82, -1)] h h37_0 → p2_0 ≤ 8 → p14_0 ≤ 9 → 2 ≤ p14_1 → p2_0 ≤ (p14_0 - 1) → p2_0 ≤ (p14_1 - 2) → p14_0 ≤ (p14_1 - 1) → h37_0 151 37 = p14_1 → wp l rho (d + 1) 199 37 [(2, 151), (0, p2_0), (0, p14_0)] [] h37_0 Q := by
            intro h37_0 gh_37_0 q0_37_0 q1_37_0 q2_37_0 q3_37_0 q4_37_0 q5_37_0 c151_37_37_0
            refine w_iinc (ls' := [(2, 151), (0, p2_0), (0, (p14_0 + 1))]) gz_199_37 rfl gm_199 rfl rfl rfl ⟨by omega, by omega⟩ ?_
            refine w_goto (t := 14) gz_199_40 rfl ?_
            exact ih_14_0 ((p14_0 + 1)) (p14_1) h37_0 (gh_37_0) (by omega) (by omega) (by omega) (by omega) (by omega) (by omega) (by omega) (by omega) (c151_37_37_0.trans (by omega)) (by omega)
          refine w_iload_n gz_199_14 rfl ?_
          refine w_aload_n gz_199_15 rfl ?_
          refine v_getI (j := 37) gz_199_16 rfl is_151 rd_10 rfl (fun v1 ev1 pv1 qv1 => ?_)
          have zv1 := ev1.trans c151_37_14_0
          refine w_icge (t := 43) gz_199_19 rfl (fun u2 => ?_) (fun u2 => ?_)
          ·
            refine w_iinc (ls' := [(2, 151), (0, (p2_0 + 1)), (0, p14_0)]) gz_199_43 rfl gm_199 rfl rfl rfl ⟨by omega, by omega⟩ ?_
            refine w_goto (t := 2) gz_199_46 rfl ?_
            refine w_weak (ls' := [(2, 151), (0, (p2_0 + 1)), (9, 0)]) (wk_e (wk_e (wk_9 wk_n))) ?_
            exact ih_2_0 ((p2_0 + 1)) h14_0 (gh_14_0) (by omega) (by omega) (by omega)
          ·
            refine w_aload_n gz_199_22 rfl ?_
            refine w_iload_n gz_199_23 rfl ?_
            refine w_iload_n gz_199_24 rfl ?_
            refine w_inv (k := 1) (as := [(0, p2_0), (0, p14_0)]) (r := []) (x := 151) (ls0 := [(2, 151), (0, p14_0), (0, p2_0), (9, 0)]) gz_199_25 gm_200 rfl is_151 rd_10 rfl rfl rfl rfl rfl (c_Model_isBefore (d := d) (x1 := p14_0) (x2 := p2_0) (by omega) (by omega) (by omega) (by omega) ?_ ?_)
            ·
              show wp l rho (d + 1) 199 28 [(2, 151), (0, p2_0), (0, p14_0)] [(0, 0)] h14_0 Q
              refine w_ifeq (t := 37) gz_199_28 rfl (fun u3 => ?_) (fun u3 => by exfalso; omega)
              exact J37_0 h14_0 (gh_14_0) (by omega) (by omega) (by omega) (by omega) (by omega) (by omega) (ev1.symm.trans (by omega))
            ·
              show wp l rho (d + 1) 199 28 [(2, 151), (0, p2_0), (0, p14_0)] [(0, 1)] h14_0 Q
              refine w_ifeq (t := 37) gz_199_28 rfl (fun u4 => by exfalso; omega) (fun u4 => ?_)
              refine w_aload_n gz_199_31 rfl ?_
              refine w_iload_n gz_199_32 rfl ?_
              refine w_iload_n gz_199_33 rfl ?_
              refine w_inv (k := 4) (as := [(0, p14_0), (0, p2_0)]) (r := []) (x := 151) (ls0 := [(2, 151), (0, p2_0), (0, p14_0), (9, 0), (9, 0), (9, 0), (9, 0)]) gz_199_34 gm_201 rfl is_151 rd_10 rfl rfl rfl rfl rfl (c_Model_swaps (d := d) (x1 := p2_0) (x2 := p14_0) (by omega) (by omega) (by omega) (by omega) (fun h5 frh5 => ?_))
              have gh5 : my_fr [(80, -1), (81, -1), (82, -1)] h h5 := my_fr.tr gh_14_0 (frh5.mo rfl)
              show wp l rho (d + 1) 199 37 [(2, 151), (0, p2_0), (0, p14_0)] [] h5 Q
              exact J37_0 h5 (gh5) (by omega) (by omega) (by omega) (by omega) (by omega) (by omega) (((my_fr.at frh5 is_151 rfl).trans ev1.symm).trans (by omega))
      refine w_iload_n gz_199_2 rfl ?_
      refine w_aload_n gz_199_3 rfl ?_
      refine v_getI (j := 37) gz_199_4 rfl is_151 rd_10 rfl (fun v6 ev6 pv6 qv6 => ?_)
      refine w_icge (t := 49) gz_199_7 rfl (fun u7 => ?_) (fun u7 => ?_)
      ·
        exact w_vret gz_199_49 gm_199 (k0 h2_0 (gh_2_0))
      ·
        refine w_iload_n gz_199_10 rfl ?_
        refine w_iconst gz_199_11 (by decide) ?_
        refine w_iadd gz_199_12 ⟨by omega, by omega⟩ ?_
        refine w_istore_n (ls' := [(2, 151), (0, p2_0), (0, (p2_0 + 1))]) gz_199_13 gm_199 rfl rfl rfl ?_
        exact J14_0 10 ((p2_0 + 1)) (v6) h2_0 (gh_2_0) (by omega) (by omega) (by omega) (by omega) (by omega) (by omega) (by omega) (by omega) (ev6.symm.trans (by omega)) (by omega)
  refine w_iconst gz_199_0 (by decide) ?_
  refine w_istore_n (ls' := [(2, 151), (0, 0), (9, 0)]) gz_199_1 gm_199 rfl rfl rfl ?_
  exact J2_0 11 (0) h (my_fr.rf) (by omega) (by omega) (by omega)
theorem c_Model_findWanted {l : Launch} {rho : Nat → Int32} {d : Nat} {h : my_H} {Q : my_H → my_V → Prop} {x1 x2 x3 x4 : Int} (a1 : (-1) ≤ x1) (b1 : x1 ≤ 2) (hv : x1 = 0 → 0 ≤ x4) (k0 : ∀ (h' : my_H), my_fr [(10, 46), (88, -1)] h h' → Q h' (9, 0)) : wp l rho (d + 1) 210 0 [(2, 151), (0, x1), (0, x2), (0, x3), (0, x4), (9, 0), (9, 0)] [] h Q := by
  have J169_0 : ∀ (n : Nat) (p169_0 p169_1 p169_2 p169_3 p169_4 : Int) (h169_0 : my_H), my_fr [(10, 46), (88, -1)] h h169_0 → (-1) ≤ p169_0 → p169_0 ≤ 2 → 0 ≤ p169_2 → p169_2 ≤ 11 → 0 ≤ p169_3 → p169_3 ≤ 10 → 0 ≤ p169_4 → p169_4 ≤ 11 → p169_0 ≤ (p169_4 + 1) → p169_0 ≤ x1 → p169_1 ≤ x2 → p169_2 ≤ (p169_0 + 11) → p169_2 ≤ p169_4 → p169_2 ≤ (x1 + 11) → p169_4 ≤ (p169_0 + 11) → p169_4 ≤ (x1 + 11) → x2 ≤ p169_1 → x1 ≤ p169_0 → x1 ≤ (p169_4 + 1) → h169_0 151 37 = p169_3 → h169_0 151 46 = p169_4 → 12 - p169_2 ≤ (n : Int) → wp l rho (d + 1) 210 169 [(2, 151), (0, p169_0), (0, p169_1), (0, x3), (0, x4), (0, p169_2), (9, 0)] [] h169_0 Q := by
    intro n
    induction n with
    | zero => intro p169_0 p169_1 p169_2 p169_3 p169_4 h169_0 gh_169_0 q0_169_0 q1_169_0 q2_169_0 q3_169_0 q4_169_0 q5_169_0 q6_169_0 q7_169_0 q8_169_0 q9_169_0 q10_169_0 q11_169_0 q12_169_0 q13_169_0 q14_169_0 q15_169_0 q16_169_0 q17_169_0 q18_169_0 c151_37_169_0 c151_46_169_0 hm_169_0; exfalso; omega
    | succ n ih_169_0 =>
      intro p169_0 p169_1 p169_2 p169_3 p169_4 h169_0 gh_169_0 q0_169_0 q1_169_0 q2_169_0 q3_169_0 q4_169_0 q5_169_0 q6_169_0 q7_169_0 q8_169_0 q9_169_0 q10_169_0 q11_169_0 q12_169_0 q13_169_0 q14_169_0 q15_169_0 q16_169_0 q17_169_0 q18_169_0 c151_37_169_0 c151_46_169_0 hm_169_0
      have J184_0 : ∀ (n : Nat) (p184_0 : Int) (h184_0 : my_H), my_fr [(10, 46), (88, -1)] h h184_0 → p169_2 ≤ 10 → 1 ≤ p184_0 → p184_0 ≤ 11 → 1 ≤ p169_4 → p184_0 ≤ (p169_0 + 11) → p184_0 ≤ p169_4 → p184_0 ≤ (x1 + 11) → p169_0 ≤ x1 → p169_1 ≤ x2 → p169_2 ≤ (p184_0 - 1) → p169_2 ≤ (p169_0 + 10) → p169_2 ≤ (p169_4 - 1) → p169_2 ≤ (x1 + 10) → p169_4 ≤ (p169_0 + 11) → p169_4 ≤ (x1 + 11) → x2 ≤ p169_1 → x1 ≤ p169_0 → h184_0 151 37 = p169_3 → h184_0 151 46 = p169_4 → 12 - p184_0 ≤ (n : Int) → wp l rho (d + 1) 210 184 [(2, 151), (0, p169_0), (0, p169_1), (0, x3), (0, x4), (0, p169_2), (0, p184_0)] [] h184_0 Q := by
        intro n
        induction n with
        | zero => intro p184_0 h184_0 gh_184_0 q0_184_0 q1_184_0 q2_184_0 q3_184_0 q4_184_0 q5_184_0 q6_184_0 q7_184_0 q8_184_0 q9_184_0 q10_184_0 q11_184_0 q12_184_0 q13_184_0 q14_184_0 q15_184_0 q16_184_0 c151_37_184_0 c151_46_184_0 hm_184_0; exfalso; omega
        | succ n ih_184_0 =>
          intro p184_0 h184_0 gh_184_0 q0_184_0 q1_184_0 q2_184_0 q3_184_0 q4_184_0 q5_184_0 q6_184_0 q7_184_0 q8_184_0 q9_184_0 q10_184_0 q11_184_0 q12_184_0 q13_184_0 q14_184_0 q15_184_0 q16_184_0 c151_37_184_0 c151_46_184_0 hm_184_0
          have J212_0 : ∀ (h212_0 : my_H), my_fr [(10, 46), (88, -1)] h h212_0 → p169_2 ≤ 9 → p184_0 ≤ 10 → 2 ≤ p169_4 → p169_0 ≤ x1 → p169_1 ≤ x2 → p169_2 ≤ (p184_0 - 1) → p169_2 ≤ (p169_4 - 2) → p184_0 ≤ (p169_0 + 10) → p184_0 ≤ (p169_4 - 1) → p184_0 ≤ (x1 + 10) → p169_4 ≤ (p169_0 + 11) → p169_4 ≤ (x1 + 11) → x2 ≤ p169_1 → x1 ≤ p169_0 → h212_0 151 37 = p169_3 → h212_0 151 46 = p169_4 → wp l rho (d + 1) 210 212 [(2, 151), (0, p169_0), (0, p169_1), (0, x3), (0, x4), (0, p169_2), (0, p184_0)] [] h212_0 Q := by
            intro h212_0 gh_212_0 q0_212_0 q1_212_0 q2_212_0 q3_212_0 q4_212_0 q5_212_0 q6_212_0 q7_212_0 q8_212_0 q9_212_0 q10_212_0 q11_212_0 q12_212_0 q13_212_0 c151_37_212_0 c151_46_212_0
            refine w_iinc (ls' := [(2, 151), (0, p169_0), (0, p169_1), (0, x3), (0, x4), (0, p169_2), (0, (p184_0 + 1))]) gz_210_212 rfl gm_210 rfl rfl rfl ⟨by omega, by omega⟩ ?_
            refine w_goto (t := 184) gz_210_215 rfl ?_
            exact ih_184_0 ((p184_0 + 1)) h212_0 (gh_212_0) (by omega) (by omega) (by omega) (by omega) (by omega) (by omega) (by omega) (by omega) (by omega) (by omega) (by omega) (by omega) (by omega) (by omega) (by omega) (by omega) (by omega) (c151_37_212_0.trans (by omega)) (c151_46_212_0.trans (by omega)) (by omega)
          refine w_iload gz_210_184 rfl ?_
          refine w_aload_n gz_210_186 rfl ?_
          refine v_getI (j := 46) gz_210_187 rfl is_151 rd_10 rfl (fun v1 ev1 pv1 qv1 => ?_)
          have zv1 := ev1.trans c151_46_184_0
          refine w_icge (t := 218) gz_210_190 rfl (fun u2 => ?_) (fun u2 => ?_)
          ·
            refine w_iinc (ls' := [(2, 151), (0, p169_0), (0, p169_1), (0, x3), (0, x4), (0, (p169_2 + 1)), (0, p184_0)]) gz_210_218 rfl gm_210 rfl rfl rfl ⟨by omega, by omega⟩ ?_
            refine w_goto (t := 169) gz_210_221 rfl ?_
            refine w_weak (ls' := [(2, 151), (0, p169_0), (0, p169_1), (0, x3), (0, x4), (0, (p169_2 + 1)), (9, 0)]) (wk_e (wk_e (wk_e (wk_e (wk_e (wk_e (wk_9 wk_n))))))) ?_
            exact ih_169_0 (p169_0) (p169_1) ((p169_2 + 1)) (p169_3) (v1) h184_0 (gh_184_0) (by omega) (by omega) (by omega) (by omega) (by omega) (by omega) (by omega) (by omega) (by omega) (by omega) (by omega) (by omega) (by omega) (by omega) (by omega) (by omega) (by omega) (by omega) (by omega) (c151_37_184_0.trans (by omega)) (ev1.symm.trans (by omega)) (by omega)
          ·
            refine w_aload_n gz_210_193 rfl ?_
            refine w_iload gz_210_194 rfl ?_
            refine w_iload gz_210_196 rfl ?_
            refine w_inv (k := 1) (as := [(0, p169_2), (0, p184_0)]) (r := []) (x := 151) (ls0 := [(2, 151), (0, p184_0), (0, p169_2), (9, 0)]) gz_210_198 gm_211 rfl is_151 rd_10 rfl rfl rfl rfl rfl (c_Model_isLess (d := d) (x1 := p184_0) (x2 := p169_2) (by omega) (by omega) (by omega) (by omega) ?_ (fun w3 w4 => ?_))
            ·
              show wp l rho (d + 1) 210 201 [(2, 151), (0, p169_0), (0, p169_1), (0, x3), (0, x4), (0, p169_2), (0, p184_0)] [(0, 0)] h184_0 Q
              refine w_ifeq (t := 212) gz_210_201 rfl (fun u5 => ?_) (fun u5 => by exfalso; omega)
              exact J212_0 h184_0 (gh_184_0) (by omega) (by omega) (by omega) (by omega) (by omega) (by omega) (by omega) (by omega) (by omega) (by omega) (by omega) (by omega) (by omega) (by omega) (c151_37_184_0.trans (by omega)) (ev1.symm.trans (by omega))
            ·
              show wp l rho (d + 1) 210 201 [(2, 151), (0, p169_0), (0, p169_1), (0, x3), (0, x4), (0, p169_2), (0, p184_0)] [(0, 1)] h184_0 Q
              refine w_ifeq (t := 212) gz_210_201 rfl (fun u6 => by exfalso; omega) (fun u6 => ?_)
              refine w_aload_n gz_210_204 rfl ?_
              refine w_iload gz_210_205 rfl ?_
              refine w_iload gz_210_207 rfl ?_
              refine w_inv (k := 2) (as := [(0, p184_0), (0, p169_2)]) (r := []) (x := 151) (ls0 := [(2, 151), (0, p169_2), (0, p184_0), (9, 0), (9, 0)]) gz_210_209 gm_212 rfl is_151 rd_10 rfl rfl rfl rfl rfl (c_Model_exchanges (d := d) (x1 := p169_2) (x2 := p184_0) (by omega) (by omega) (by omega) (by omega) (fun h7 frh7 => ?_))
              have gh7 : my_fr [(10, 46), (88, -1)] h h7 := my_fr.tr gh_184_0 (frh7.mo rfl)
              show wp l rho (d + 1) 210 212 [(2, 151), (0, p169_0), (0, p169_1), (0, x3), (0, x4), (0, p169_2), (0, p184_0)] [] h7 Q
              exact J212_0 h7 (gh7) (by omega) (by omega) (by omega) (by omega) (by omega) (by omega) (by omega) (by omega) (by omega) (by omega) (by omega) (by omega) (by omega) (by omega) (((my_fr.at frh7 is_151 rfl).trans c151_37_184_0).trans (by omega)) (((my_fr.at frh7 is_151 rfl).trans ev1.symm).trans (by omega))
      refine w_iload gz_210_169 rfl ?_
      refine w_aload_n gz_210_171 rfl ?_
      refine v_getI (j := 46) gz_210_172 rfl is_151 rd_10 rfl (fun v8 ev8 pv8 qv8 => ?_)
      have zv8 := ev8.trans c151_46_169_0
      refine w_icge (t := 224) gz_210_175 rfl (fun u9 => ?_) (fun u9 => ?_)
      ·
        exact w_vret gz_210_224 gm_210 (k0 h169_0 (gh_169_0))
      ·
        refine w_iload gz_210_178 rfl ?_
        refine w_iconst gz_210_180 (by decide) ?_
        refine w_iadd gz_210_181 ⟨by omega, by omega⟩ ?_
        refine w_istore (ls' := [(2, 151), (0, p169_0), (0, p169_1), (0, x3), (0, x4), (0, p169_2), (0, (p169_2 + 1))]) gz_210_182 gm_210 rfl rfl rfl ?_
        exact J184_0 11 ((p169_2 + 1)) h169_0 (gh_169_0) (by omega) (by omega) (by omega) (by omega) (by omega) (by omega) (by omega) (by omega) (by omega) (by omega) (by omega) (by omega) (by omega) (by omega) (by omega) (by omega) (by omega) (c151_37_169_0.trans (by omega)) (ev8.symm.trans (by omega)) (by omega)
  have J166_0 : ∀ (p166_0 p166_1 p166_2 p166_3 p166_4 : Int) (h166_0 : my_H), my_fr [(10, 46), (88, -1)] h h166_0 → (-1) ≤ p166_0 → p166_0 ≤ 2 → 0 ≤ p166_2 → p166_2 ≤ 10 → 0 ≤ p166_3 → p166_3 ≤ 10 → 0 ≤ p166_4 → p166_4 ≤ 11 → p166_0 ≤ (p166_4 + 1) → p166_0 ≤ x1 → p166_1 ≤ x2 → p166_4 ≤ (p166_0 + 11) → p166_4 ≤ (x1 + 11) → x2 ≤ p166_1 → x1 ≤ p166_0 → x1 ≤ (p166_4 + 1) → h166_0 151 37 = p166_3 → h166_0 151 46 = p166_4 → wp l rho (d + 1) 210 166 [(2, 151), (0, p166_0), (0, p166_1), (0, x3), (0, x4), (0, p166_2), (9, 0)] [] h166_0 Q := by
    intro p166_0 p166_1 p166_2 p166_3 p166_4 h166_0 gh_166_0 q0_166_0 q1_166_0 q2_166_0 q3_166_0 q4_166_0 q5_166_0 q6_166_0 q7_166_0 q8_166_0 q9_166_0 q10_166_0 q11_166_0 q12_166_0 q13_166_0 q14_166_0 q15_166_0 c151_37_166_0 c151_46_166_0
    refine w_iconst gz_210_166 (by decide) ?_
    refine w_istore (ls' := [(2, 151), (0, p166_0), (0, p166_1), (0, x3), (0, x4), (0, 0), (9, 0)]) gz_210_167 gm_210 rfl rfl rfl ?_
    exact J169_0 12 (p166_0) (p166_1) (0) (p166_3) (p166_4) h166_0 (gh_166_0) (by omega) (by omega) (by omega) (by omega) (by omega) (by omega) (by omega) (by omega) (by omega) (by omega) (by omega) (by omega) (by omega) (by omega) (by omega) (by omega) (by omega) (by omega) (by omega) (c151_37_166_0.trans (by omega)) (c151_46_166_0.trans (by omega)) (by omega)
  have J119_0 : ∀ (n : Nat) (p119_0 p119_1 p119_2 p119_3 : Int) (h119_0 : my_H), my_fr [(10, 46), (88, -1)] h h119_0 → 0 ≤ p119_1 → p119_1 ≤ 8 → 0 ≤ p119_3 → p119_3 ≤ 10 → 0 ≤ p119_2 → p119_2 ≤ 10 → 2 ≤ x1 → p119_0 ≤ x2 → x2 ≤ p119_0 → h119_0 151 37 = p119_2 → h119_0 151 46 = p119_3 → 9 - p119_1 ≤ (n : Int) → wp l rho (d + 1) 210 119 [(2, 151), (0, 2), (0, p119_0), (0, x3), (0, x4), (0, p119_1), (9, 0)] [] h119_0 Q := by
    intro n
    induction n with
    | zero => intro p119_0 p119_1 p119_2 p119_3 h119_0 gh_119_0 q0_119_0 q1_119_0 q2_119_0 q3_119_0 q4_119_0 q5_119_0 q6_119_0 q7_119_0 q8_119_0 c151_37_119_0 c151_46_119_0 hm_119_0; exfalso; omega
    | succ n ih_119_0 =>
      intro p119_0 p119_1 p119_2 p119_3 h119_0 gh_119_0 q0_119_0 q1_119_0 q2_119_0 q3_119_0 q4_119_0 q5_119_0 q6_119_0 q7_119_0 q8_119_0 c151_37_119_0 c151_46_119_0 hm_119_0
      refine w_iload gz_210_119 rfl ?_
      refine w_aload_n gz_210_121 rfl ?_
      refine v_getI (j := 27) gz_210_122 rfl is_151 rd_10 rfl (fun v10 ev10 pv10 qv10 => ?_)
      refine w_icge (t := 156) gz_210_125 rfl (fun u11 => ?_) (fun u11 => ?_)
      ·
        refine w_aload_n gz_210_156 rfl ?_
        refine w_dup gz_210_157 rfl ?_
        refine v_getI (j := 46) gz_210_158 rfl is_151 rd_10 rfl (fun v12 ev12 pv12 qv12 => ?_)
        have zv12 := ev12.trans c151_46_119_0
        refine w_iconst gz_210_161 (by decide) ?_
        refine w_iadd gz_210_162 ⟨by omega, by omega⟩ ?_
        refine v_putI (j := 46) gz_210_163 rfl is_151 rd_10 rfl (by omega) (by omega) rfl (fun h13 fh13 => ?_)
        have gh13 : my_fr [(10, 46), (88, -1)] h h13 := my_fr.up gh_119_0 is_151 fh13 rfl
        exact J166_0 (2) (p119_0) (p119_1) (p119_2) ((v12 + 1)) h13 (gh13) (by omega) (by omega) (by omega) (by omega) (by omega) (by omega) (by omega) (by omega) (by omega) (by omega) (by omega) (by omega) (by omega) (by omega) (by omega) (by omega) (((my_up_fld fh13 (by decide)).trans c151_37_119_0).trans (by omega)) ((my_up_self fh13).trans (by omega))
      ·
        refine w_aload_n gz_210_128 rfl ?_
        refine w_getX (v := 189) gz_210_129 is_151 rd_10 rfl (by decide) rfl ?_
        refine w_bipush gz_210_132 (by decide) ?_
        refine w_aload_n gz_210_134 rfl ?_
        refine v_getI (j := 46) gz_210_135 rfl is_151 rd_10 rfl (fun v15 ev15 pv15 qv15 => ?_)
        have zv15 := ev15.trans c151_46_119_0
        refine w_imul gz_210_138 ⟨by omega, by omega⟩ ?_
        refine w_iload gz_210_139 rfl ?_
        refine w_iadd gz_210_141 ⟨by omega, by omega⟩ ?_
        refine w_aload_n gz_210_142 rfl ?_
        refine w_getX (v := 188) gz_210_143 is_151 rd_10 rfl (by decide) rfl ?_
        refine w_iload gz_210_146 rfl ?_
        refine w_iald gz_210_148 is_188 rd_87 (by omega) (by omega) (fun v17 ev17 pv17 qv17 => ?_)
        refine w_iast gz_210_149 is_189 rd_88 (by omega) (by omega) (by omega) (by omega) (fun h18 fh18 => ?_)
        have gh18 : my_fr [(10, 46), (88, -1)] h h18 := my_fr.up gh_119_0 is_189 fh18 rfl
        refine w_iinc (ls' := [(2, 151), (0, 2), (0, p119_0), (0, x3), (0, x4), (0, (p119_1 + 1)), (9, 0)]) gz_210_150 rfl gm_210 rfl rfl rfl ⟨by omega, by omega⟩ ?_
        refine w_goto (t := 119) gz_210_153 rfl ?_
        exact ih_119_0 (p119_0) ((p119_1 + 1)) (p119_2) (v15) h18 (gh18) (by omega) (by omega) (by omega) (by omega) (by omega) (by omega) (by omega) (by omega) (by omega) (((my_up_role fh18 is_151 is_189 rfl).trans c151_37_119_0).trans (by omega)) (((my_up_role fh18 is_151 is_189 rfl).trans ev15.symm).trans (by omega)) (by omega)
  have J8_0 : ∀ (n : Nat) (p8_0 p8_1 p8_2 p8_3 : Int) (h8_0 : my_H), my_fr [(10, 46), (88, -1)] h h8_0 → (-1) ≤ p8_0 → p8_0 ≤ 2 → 0 ≤ p8_2 → p8_2 ≤ 10 → 0 ≤ p8_3 → p8_3 ≤ 10 → p8_0 ≤ x1 → p8_1 ≤ x2 → p8_3 ≤ p8_2 → x2 ≤ p8_1 → x1 ≤ p8_0 → h8_0 151 46 = p8_3 → 11 - p8_2 ≤ (n : Int) → wp l rho (d + 1) 210 8 [(2, 151), (0, p8_0), (0, p8_1), (0, x3), (0, x4), (0, p8_2), (9, 0)] [] h8_0 Q := by
    intro n
    induction n with
    | zero => intro p8_0 p8_1 p8_2 p8_3 h8_0 gh_8_0 q0_8_0 q1_8_0 q2_8_0 q3_8_0 q4_8_0 q5_8_0 q6_8_0 q7_8_0 q8_8_0 q9_8_0 q10_8_0 c151_46_8_0 hm_8_0; exfalso; omega
    | succ n ih_8_0 =>
      intro p8_0 p8_1 p8_2 p8_3 h8_0 gh_8_0 q0_8_0 q1_8_0 q2_8_0 q3_8_0 q4_8_0 q5_8_0 q6_8_0 q7_8_0 q8_8_0 q9_8_0 q10_8_0 c151_46_8_0 hm_8_0
      have J105_0 : ∀ (p105_0 p105_1 p105_2 : Int) (h105_0 : my_H), my_fr [(10, 46), (88, -1)] h h105_0 → (-1) ≤ p105_0 → p105_0 ≤ 2 → p8_2 ≤ 9 → 1 ≤ p105_1 → p105_1 ≤ 10 → 0 ≤ p105_2 → p105_2 ≤ 10 → p8_3 ≤ 9 → p105_0 ≤ (p105_2 + 1) → p105_0 ≤ p8_0 → p105_0 ≤ x1 → p105_2 ≤ p105_1 → p105_2 ≤ (p8_2 + 1) → p105_2 ≤ (p8_3 + 1) → p8_1 ≤ x2 → p8_2 ≤ (p105_1 - 1) → p8_3 ≤ (p105_1 - 1) → p8_3 ≤ p105_2 → p8_3 ≤ p8_2 → p8_0 ≤ p105_0 → p8_0 ≤ (p105_2 + 1) → p8_0 ≤ x1 → x2 ≤ p8_1 → x1 ≤ p105_0 → x1 ≤ (p105_2 + 1) → x1 ≤ p8_0 → h105_0 151 37 = p105_1 → h105_0 151 46 = p105_2 → wp l rho (d + 1) 210 105 [(2, 151), (0, p105_0), (0, p8_1), (0, x3), (0, x4), (0, p8_2), (9, 0)] [] h105_0 Q := by
        intro p105_0 p105_1 p105_2 h105_0 gh_105_0 q0_105_0 q1_105_0 q2_105_0 q3_105_0 q4_105_0 q5_105_0 q6_105_0 q7_105_0 q8_105_0 q9_105_0 q10_105_0 q11_105_0 q12_105_0 q13_105_0 q14_105_0 q15_105_0 q16_105_0 q17_105_0 q18_105_0 q19_105_0 q20_105_0 q21_105_0 q22_105_0 q23_105_0 q24_105_0 q25_105_0 c151_37_105_0 c151_46_105_0
        refine w_iinc (ls' := [(2, 151), (0, p105_0), (0, p8_1), (0, x3), (0, x4), (0, (p8_2 + 1)), (9, 0)]) gz_210_105 rfl gm_210 rfl rfl rfl ⟨by omega, by omega⟩ ?_
        refine w_goto (t := 8) gz_210_108 rfl ?_
        exact ih_8_0 (p105_0) (p8_1) ((p8_2 + 1)) (p105_2) h105_0 (gh_105_0) (by omega) (by omega) (by omega) (by omega) (by omega) (by omega) (by omega) (by omega) (by omega) (by omega) (by omega) (c151_46_105_0.trans (by omega)) (by omega)
      have J31_0 : ∀ (n : Nat) (p31_0 p31_1 p31_2 : Int) (h31_0 : my_H), my_fr [(10, 46), (88, -1)] h h31_0 → (-1) ≤ p31_0 → p31_0 ≤ 2 → p8_2 ≤ 9 → 0 ≤ p31_1 → p31_1 ≤ 8 → p8_3 ≤ 9 → 1 ≤ p31_2 → p31_2 ≤ 10 → p31_0 ≤ p8_0 → p31_0 ≤ x1 → p8_1 ≤ x2 → p8_2 ≤ (p31_2 - 1) → p8_3 ≤ (p31_2 - 1) → p8_3 ≤ p8_2 → p8_0 ≤ p31_0 → p8_0 ≤ x1 → x2 ≤ p8_1 → x1 ≤ p31_0 → x1 ≤ p8_0 → h31_0 151 37 = p31_2 → h31_0 151 46 = p8_3 → 9 - p31_1 ≤ (n : Int) → wp l rho (d + 1) 210 31 [(2, 151), (0, p31_0), (0, p8_1), (0, x3), (0, x4), (0, p8_2), (0, p31_1)] [] h31_0 Q := by
        intro n
        induction n with
        | zero => intro p31_0 p31_1 p31_2 h31_0 gh_31_0 q0_31_0 q1_31_0 q2_31_0 q3_31_0 q4_31_0 q5_31_0 q6_31_0 q7_31_0 q8_31_0 q9_31_0 q10_31_0 q11_31_0 q12_31_0 q13_31_0 q14_31_0 q15_31_0 q16_31_0 q17_31_0 q18_31_0 c151_37_31_0 c151_46_31_0 hm_31_0; exfalso; omega
        | succ n ih_31_0 =>
          intro p31_0 p31_1 p31_2 h31_0 gh_31_0 q0_31_0 q1_31_0 q2_31_0 q3_31_0 q4_31_0 q5_31_0 q6_31_0 q7_31_0 q8_31_0 q9_31_0 q10_31_0 q11_31_0 q12_31_0 q13_31_0 q14_31_0 q15_31_0 q16_31_0 q17_31_0 q18_31_0 c151_37_31_0 c151_46_31_0 hm_31_0
          refine w_iload gz_210_31 rfl ?_
          refine w_aload_n gz_210_33 rfl ?_
          refine v_getI (j := 27) gz_210_34 rfl is_151 rd_10 rfl (fun v19 ev19 pv19 qv19 => ?_)
          refine w_icge (t := 95) gz_210_37 rfl (fun u20 => ?_) (fun u20 => ?_)
          ·
            refine w_aload_n gz_210_95 rfl ?_
            refine w_dup gz_210_96 rfl ?_
            refine v_getI (j := 46) gz_210_97 rfl is_151 rd_10 rfl (fun v21 ev21 pv21 qv21 => ?_)
            have zv21 := ev21.trans c151_46_31_0
            refine w_iconst gz_210_100 (by decide) ?_
            refine w_iadd gz_210_101 ⟨by omega, by omega⟩ ?_
            refine v_putI (j := 46) gz_210_102 rfl is_151 rd_10 rfl (by omega) (by omega) rfl (fun h22 fh22 => ?_)
            have gh22 : my_fr [(10, 46), (88, -1)] h h22 := my_fr.up gh_31_0 is_151 fh22 rfl
            refine w_weak (ls' := [(2, 151), (0, p31_0), (0, p8_1), (0, x3), (0, x4), (0, p8_2), (9, 0)]) (wk_e (wk_e (wk_e (wk_e (wk_e (wk_e (wk_9 wk_n))))))) ?_
            exact J105_0 (p31_0) (p31_2) ((v21 + 1)) h22 (gh22) (by omega) (by omega) (by omega) (by omega) (by omega) (by omega) (by omega) (by omega) (by omega) (by omega) (by omega) (by omega) (by omega) (by omega) (by omega) (by omega) (by omega) (by omega) (by omega) (by omega) (by omega) (by omega) (by omega) (by omega) (by omega) (by omega) (((my_up_fld fh22 (by decide)).trans c151_37_31_0).trans (by omega)) ((my_up_self fh22).trans (by omega))
          ·
            refine w_aload_n gz_210_40 rfl ?_
            refine w_getX (v := 189) gz_210_41 is_151 rd_10 rfl (by decide) rfl ?_
            refine w_bipush gz_210_44 (by decide) ?_
            refine w_aload_n gz_210_46 rfl ?_
            refine v_getI (j := 46) gz_210_47 rfl is_151 rd_10 rfl (fun v24 ev24 pv24 qv24 => ?_)
            have zv24 := ev24.trans c151_46_31_0
            refine w_imul gz_210_50 ⟨by omega, by omega⟩ ?_
            refine w_iload gz_210_51 rfl ?_
            refine w_iadd gz_210_53 ⟨by omega, by omega⟩ ?_
            refine w_iload_n gz_210_54 rfl ?_
            refine w_ifne (t := 75) gz_210_55 rfl (fun u25 => ?_) (fun u25 => ?_)
            ·
              refine w_aload_n gz_210_75 rfl ?_
              refine w_getX (v := 182) gz_210_76 is_151 rd_10 rfl (by decide) rfl ?_
              refine w_bipush gz_210_79 (by decide) ?_
              refine w_iload gz_210_81 rfl ?_
              refine w_imul gz_210_83 ⟨by omega, by omega⟩ ?_
              refine w_iload gz_210_84 rfl ?_
              refine w_iadd gz_210_86 ⟨by omega, by omega⟩ ?_
              refine w_iald gz_210_87 is_182 rd_81 (by omega) (by omega) (fun v27 ev27 pv27 qv27 => ?_)
              have hi28 : 0 ≤ v27 := by omega
              refine w_iastU gz_210_88 is_189 rd_88 (by omega) (by omega) (by omega) (fun h29 fh29 => ?_)
              have gh29 : my_fr [(10, 46), (88, -1)] h h29 := my_fr.up gh_31_0 is_189 fh29 rfl
              refine w_iinc (ls' := [(2, 151), (0, p31_0), (0, p8_1), (0, x3), (0, x4), (0, p8_2), (0, (p31_1 + 1))]) gz_210_89 rfl gm_210 rfl rfl rfl ⟨by omega, by omega⟩ ?_
              refine w_goto (t := 31) gz_210_92 rfl ?_
              exact ih_31_0 (p31_0) ((p31_1 + 1)) (p31_2) h29 (gh29) (by omega) (by omega) (by omega) (by omega) (by omega) (by omega) (by omega) (by omega) (by omega) (by omega) (by omega) (by omega) (by omega) (by omega) (by omega) (by omega) (by omega) (by omega) (by omega) (((my_up_role fh29 is_151 is_189 rfl).trans c151_37_31_0).trans (by omega)) (((my_up_role fh29 is_151 is_189 rfl).trans ev24.symm).trans (by omega)) (by omega)
            ·
              refine w_iload gz_210_58 rfl ?_
              refine w_iload_n gz_210_60 rfl ?_
              refine w_icne (t := 75) gz_210_61 rfl (fun u30 => ?_) (fun u30 => ?_)
              ·
                refine w_aload_n gz_210_75 rfl ?_
                refine w_getX (v := 182) gz_210_76 is_151 rd_10 rfl (by decide) rfl ?_
                refine w_bipush gz_210_79 (by decide) ?_
                refine w_iload gz_210_81 rfl ?_
                refine w_imul gz_210_83 ⟨by omega, by omega⟩ ?_
                refine w_iload gz_210_84 rfl ?_
                refine w_iadd gz_210_86 ⟨by omega, by omega⟩ ?_
                refine w_iald gz_210_87 is_182 rd_81 (by omega) (by omega) (fun v32 ev32 pv32 qv32 => ?_)
                have hi33 : 0 ≤ v32 := by omega
                refine w_iastU gz_210_88 is_189 rd_88 (by omega) (by omega) (by omega) (fun h34 fh34 => ?_)
                have gh34 : my_fr [(10, 46), (88, -1)] h h34 := my_fr.up gh_31_0 is_189 fh34 rfl
                refine w_iinc (ls' := [(2, 151), (0, p31_0), (0, p8_1), (0, x3), (0, x4), (0, p8_2), (0, (p31_1 + 1))]) gz_210_89 rfl gm_210 rfl rfl rfl ⟨by omega, by omega⟩ ?_
                refine w_goto (t := 31) gz_210_92 rfl ?_
                exact ih_31_0 (p31_0) ((p31_1 + 1)) (p31_2) h34 (gh34) (by omega) (by omega) (by omega) (by omega) (by omega) (by omega) (by omega) (by omega) (by omega) (by omega) (by omega) (by omega) (by omega) (by omega) (by omega) (by omega) (by omega) (by omega) (by omega) (((my_up_role fh34 is_151 is_189 rfl).trans c151_37_31_0).trans (by omega)) (((my_up_role fh34 is_151 is_189 rfl).trans ev24.symm).trans (by omega)) (by omega)
              ·
                refine w_iload gz_210_64 rfl ?_
                refine w_iload_n gz_210_66 rfl ?_
                refine w_icne (t := 75) gz_210_67 rfl (fun u35 => ?_) (fun u35 => ?_)
                ·
                  refine w_aload_n gz_210_75 rfl ?_
                  refine w_getX (v := 182) gz_210_76 is_151 rd_10 rfl (by decide) rfl ?_
                  refine w_bipush gz_210_79 (by decide) ?_
                  refine w_iload gz_210_81 rfl ?_
                  refine w_imul gz_210_83 ⟨by omega, by omega⟩ ?_
                  refine w_iload gz_210_84 rfl ?_
                  refine w_iadd gz_210_86 ⟨by omega, by omega⟩ ?_
                  refine w_iald gz_210_87 is_182 rd_81 (by omega) (by omega) (fun v37 ev37 pv37 qv37 => ?_)
                  have hi38 : 0 ≤ v37 := by omega
                  refine w_iastU gz_210_88 is_189 rd_88 (by omega) (by omega) (by omega) (fun h39 fh39 => ?_)
                  have gh39 : my_fr [(10, 46), (88, -1)] h h39 := my_fr.up gh_31_0 is_189 fh39 rfl
                  refine w_iinc (ls' := [(2, 151), (0, p31_0), (0, p8_1), (0, x3), (0, x4), (0, p8_2), (0, (p31_1 + 1))]) gz_210_89 rfl gm_210 rfl rfl rfl ⟨by omega, by omega⟩ ?_
                  refine w_goto (t := 31) gz_210_92 rfl ?_
                  exact ih_31_0 (p31_0) ((p31_1 + 1)) (p31_2) h39 (gh39) (by omega) (by omega) (by omega) (by omega) (by omega) (by omega) (by omega) (by omega) (by omega) (by omega) (by omega) (by omega) (by omega) (by omega) (by omega) (by omega) (by omega) (by omega) (by omega) (((my_up_role fh39 is_151 is_189 rfl).trans c151_37_31_0).trans (by omega)) (((my_up_role fh39 is_151 is_189 rfl).trans ev24.symm).trans (by omega)) (by omega)
                ·
                  refine w_iload gz_210_70 rfl ?_
                  refine w_goto (t := 88) gz_210_72 rfl ?_
                  have hi40 : 0 ≤ x4 := by omega
                  refine w_iastU gz_210_88 is_189 rd_88 (by omega) (by omega) (by omega) (fun h41 fh41 => ?_)
                  have gh41 : my_fr [(10, 46), (88, -1)] h h41 := my_fr.up gh_31_0 is_189 fh41 rfl
                  refine w_iinc (ls' := [(2, 151), (0, p31_0), (0, p8_1), (0, x3), (0, x4), (0, p8_2), (0, (p31_1 + 1))]) gz_210_89 rfl gm_210 rfl rfl rfl ⟨by omega, by omega⟩ ?_
                  refine w_goto (t := 31) gz_210_92 rfl ?_
                  exact ih_31_0 (p31_0) ((p31_1 + 1)) (p31_2) h41 (gh41) (by omega) (by omega) (by omega) (by omega) (by omega) (by omega) (by omega) (by omega) (by omega) (by omega) (by omega) (by omega) (by omega) (by omega) (by omega) (by omega) (by omega) (by omega) (by omega) (((my_up_role fh41 is_151 is_189 rfl).trans c151_37_31_0).trans (by omega)) (((my_up_role fh41 is_151 is_189 rfl).trans ev24.symm).trans (by omega)) (by omega)
      have J28_0 : ∀ (p28_0 p28_1 : Int) (h28_0 : my_H), my_fr [(10, 46), (88, -1)] h h28_0 → (-1) ≤ p28_0 → p28_0 ≤ 2 → p8_2 ≤ 9 → p8_3 ≤ 9 → 1 ≤ p28_1 → p28_1 ≤ 10 → p28_0 ≤ p8_0 → p28_0 ≤ x1 → p8_1 ≤ x2 → p8_2 ≤ (p28_1 - 1) → p8_3 ≤ (p28_1 - 1) → p8_3 ≤ p8_2 → p8_0 ≤ p28_0 → p8_0 ≤ x1 → x2 ≤ p8_1 → x1 ≤ p28_0 → x1 ≤ p8_0 → h28_0 151 37 = p28_1 → h28_0 151 46 = p8_3 → wp l rho (d + 1) 210 28 [(2, 151), (0, p28_0), (0, p8_1), (0, x3), (0, x4), (0, p8_2), (9, 0)] [] h28_0 Q := by
        intro p28_0 p28_1 h28_0 gh_28_0 q0_28_0 q1_28_0 q2_28_0 q3_28_0 q4_28_0 q5_28_0 q6_28_0 q7_28_0 q8_28_0 q9_28_0 q10_28_0 q11_28_0 q12_28_0 q13_28_0 q14_28_0 q15_28_0 q16_28_0 c151_37_28_0 c151_46_28_0
        refine w_iconst gz_210_28 (by decide) ?_
        refine w_istore (ls' := [(2, 151), (0, p28_0), (0, p8_1), (0, x3), (0, x4), (0, p8_2), (0, 0)]) gz_210_29 gm_210 rfl rfl rfl ?_
        exact J31_0 9 (p28_0) (0) (p28_1) h28_0 (gh_28_0) (by omega) (by omega) (by omega) (by omega) (by omega) (by omega) (by omega) (by omega) (by omega) (by omega) (by omega) (by omega) (by omega) (by omega) (by omega) (by omega) (by omega) (by omega) (by omega) (c151_37_28_0.trans (by omega)) (c151_46_28_0.trans (by omega)) (by omega)
      refine w_iload gz_210_8 rfl ?_
      refine w_aload_n gz_210_10 rfl ?_
      refine v_getI (j := 37) gz_210_11 rfl is_151 rd_10 rfl (fun v42 ev42 pv42 qv42 => ?_)
      refine w_icge (t := 111) gz_210_14 rfl (fun u43 => ?_) (fun u43 => ?_)
      ·
        refine w_iload_n gz_210_111 rfl ?_
        refine w_iconst gz_210_112 (by decide) ?_
        refine w_icne (t := 166) gz_210_113 rfl (fun u44 => ?_) (fun u44 => ?_)
        ·
          exact J166_0 (p8_0) (p8_1) (p8_2) (v42) (p8_3) h8_0 (gh_8_0) (by omega) (by omega) (by omega) (by omega) (by omega) (by omega) (by omega) (by omega) (by omega) (by omega) (by omega) (by omega) (by omega) (by omega) (by omega) (by omega) (ev42.symm.trans (by omega)) (c151_46_8_0.trans (by omega))
        ·
          refine w_iconst gz_210_116 (by decide) ?_
          refine w_istore (ls' := [(2, 151), (0, p8_0), (0, p8_1), (0, x3), (0, x4), (0, 0), (9, 0)]) gz_210_117 gm_210 rfl rfl rfl ?_
          rw [show (p8_0 : Int) = 2 from by omega]
          exact J119_0 9 (p8_1) (0) (v42) (p8_3) h8_0 (gh_8_0) (by omega) (by omega) (by omega) (by omega) (by omega) (by omega) (by omega) (by omega) (by omega) (ev42.symm.trans (by omega)) (c151_46_8_0.trans (by omega)) (by omega)
      ·
        refine w_iload_n gz_210_17 rfl ?_
        refine w_iconst gz_210_18 (by decide) ?_
        refine w_icne (t := 28) gz_210_19 rfl (fun u45 => ?_) (fun u45 => ?_)
        ·
          exact J28_0 (p8_0) (v42) h8_0 (gh_8_0) (by omega) (by omega) (by omega) (by omega) (by omega) (by omega) (by omega) (by omega) (by omega) (by omega) (by omega) (by omega) (by omega) (by omega) (by omega) (by omega) (by omega) (ev42.symm.trans (by omega)) (c151_46_8_0.trans (by omega))
        ·
          refine w_iload gz_210_22 rfl ?_
          refine w_iload_n gz_210_24 rfl ?_
          refine w_iceq (t := 105) gz_210_25 rfl (fun u46 => ?_) (fun u46 => ?_)
          ·
            exact J105_0 (p8_0) (v42) (p8_3) h8_0 (gh_8_0) (by omega) (by omega) (by omega) (by omega) (by omega) (by omega) (by omega) (by omega) (by omega) (by omega) (by omega) (by omega) (by omega) (by omega) (by omega) (by omega) (by omega) (by omega) (by omega) (by omega) (by omega) (by omega) (by omega) (by omega) (by omega) (by omega) (ev42.symm.trans (by omega)) (c151_46_8_0.trans (by omega))
          ·
            exact J28_0 (p8_0) (v42) h8_0 (gh_8_0) (by omega) (by omega) (by omega) (by omega) (by omega) (by omega) (by omega) (by omega) (by omega) (by omega) (by omega) (by omega) (by omega) (by omega) (by omega) (by omega) (by omega) (ev42.symm.trans (by omega)) (c151_46_8_0.trans (by omega))
  refine w_aload_n gz_210_0 rfl ?_
  refine w_iconst gz_210_1 (by decide) ?_
  refine v_putI (j := 46) gz_210_2 rfl is_151 rd_10 rfl (by omega) (by omega) rfl (fun h47 fh47 => ?_)
  have gh47 : my_fr [(10, 46), (88, -1)] h h47 := my_fr.up my_fr.rf is_151 fh47 rfl
  refine w_iconst gz_210_5 (by decide) ?_
  refine w_istore (ls' := [(2, 151), (0, x1), (0, x2), (0, x3), (0, x4), (0, 0), (9, 0)]) gz_210_6 gm_210 rfl rfl rfl ?_
  exact J8_0 11 (x1) (x2) (0) (0) h47 (gh47) (by omega) (by omega) (by omega) (by omega) (by omega) (by omega) (by omega) (by omega) (by omega) (by omega) (by omega) ((my_up_self fh47).trans (by omega)) (by omega)
theorem c_Model_findComing {l : Launch} {rho : Nat → Int32} {d : Nat} {h : my_H} {Q : my_H → my_V → Prop} {x1 : Int} (a1 : 0 ≤ x1) (b1 : x1 ≤ 5) (n_Mw : Mw h) (hfp : Fp h x1) (k0 : ∀ (h' : my_H), my_fr [(10, 27), (10, 32), (10, 33), (73, -1), (74, -1), (75, -1), (76, -1), (77, -1), (78, -1), (79, -1), (94, -1)] h h' → Q h' (9, 0)) : wp l rho (d + 2) 217 0 [(2, 151), (0, x1), (9, 0), (9, 0)] [] h Q := by
  have J7_0 : ∀ (n : Nat) (p7_0 : Int) (h7_0 : my_H), my_fr [(10, 27), (10, 32), (10, 33), (73, -1), (74, -1), (75, -1), (76, -1), (77, -1), (78, -1), (79, -1), (94, -1)] h h7_0 → 0 ≤ p7_0 → p7_0 ≤ 4 → Mw h7_0 → 5 - p7_0 ≤ (n : Int) → wp l rho (d + 2) 217 7 [(2, 151), (0, x1), (0, p7_0), (9, 0)] [] h7_0 Q := by
    intro n
    induction n with
    | zero => intro p7_0 h7_0 gh_7_0 q0_7_0 q1_7_0 n_Mw_7_0 hm_7_0; exfalso; omega
    | succ n ih_7_0 =>
      intro p7_0 h7_0 gh_7_0 q0_7_0 q1_7_0 n_Mw_7_0 hm_7_0
      have J47_0 : ∀ (n : Nat) (p47_0 p47_1 p47_2 : Int) (h47_0 : my_H), my_fr [(10, 27), (10, 32), (10, 33), (73, -1), (74, -1), (75, -1), (76, -1), (77, -1), (78, -1), (79, -1), (94, -1)] h h47_0 → p7_0 ≤ 3 → (-1) ≤ p47_0 → p47_0 ≤ 7 → 0 ≤ p47_2 → p47_2 ≤ 2 → 0 ≤ p47_1 → p47_1 ≤ 8 → p47_0 ≤ (p47_1 - 1) → h47_0 151 27 = p47_1 → h47_0 151 33 = p47_2 → Mw h47_0 → p47_0 - (-2) ≤ (n : Int) → wp l rho (d + 2) 217 47 [(2, 151), (0, x1), (0, p7_0), (0, p47_0)] [] h47_0 Q := by
        intro n
        induction n with
        | zero => intro p47_0 p47_1 p47_2 h47_0 gh_47_0 q0_47_0 q1_47_0 q2_47_0 q3_47_0 q4_47_0 q5_47_0 q6_47_0 q7_47_0 c151_27_47_0 c151_33_47_0 n_Mw_47_0 hm_47_0; exfalso; omega
        | succ n ih_47_0 =>
          intro p47_0 p47_1 p47_2 h47_0 gh_47_0 q0_47_0 q1_47_0 q2_47_0 q3_47_0 q4_47_0 q5_47_0 q6_47_0 q7_47_0 c151_27_47_0 c151_33_47_0 n_Mw_47_0 hm_47_0
          have J90_0 : ∀ (p90_0 : Int) (h90_0 : my_H), my_fr [(10, 27), (10, 32), (10, 33), (73, -1), (74, -1), (75, -1), (76, -1), (77, -1), (78, -1), (79, -1), (94, -1)] h h90_0 → 0 ≤ p47_0 → 0 ≤ p90_0 → p90_0 ≤ 19 → 1 ≤ p47_1 → p47_0 ≤ (p47_1 - 1) → h90_0 151 27 = p47_1 → h90_0 151 33 = p47_2 → Mw h90_0 → wp l rho (d + 2) 217 90 [(2, 151), (0, x1), (0, p7_0), (0, p47_0)] [(0, p90_0), (0, p7_0), (2, 195)] h90_0 Q := by
            intro p90_0 h90_0 gh_90_0 q0_90_0 q1_90_0 q2_90_0 q3_90_0 q4_90_0 c151_27_90_0 c151_33_90_0 n_Mw_90_0
            refine w_iast gz_217_90 is_195 rd_94 (by omega) (by omega) (by omega) (by omega) (fun h1 fh1 => ?_)
            have gh1 : my_fr [(10, 27), (10, 32), (10, 33), (73, -1), (74, -1), (75, -1), (76, -1), (77, -1), (78, -1), (79, -1), (94, -1)] h h1 := my_fr.up gh_90_0 is_195 fh1 rfl
            have Mw_h1 : Mw h1 := Mw_ag (my_ag.up fh1 is_195 rfl) n_Mw_90_0
            refine w_iinc (ls' := [(2, 151), (0, x1), (0, p7_0), (0, (p47_0 + (-1)))]) gz_217_91 rfl gm_217 rfl rfl rfl ⟨by omega, by omega⟩ ?_
            refine w_goto (t := 47) gz_217_94 rfl ?_
            exact ih_47_0 ((p47_0 + (-1))) (p47_1) (p47_2) h1 (gh1) (by omega) (by omega) (by omega) (by omega) (by omega) (by omega) (by omega) (by omega) (((my_up_role fh1 is_151 is_195 rfl).trans c151_27_90_0).trans (by omega)) (((my_up_role fh1 is_151 is_195 rfl).trans c151_33_90_0).trans (by omega)) Mw_h1 (by omega)
          have J84_0 : ∀ (h84_0 : my_H), my_fr [(10, 27), (10, 32), (10, 33), (73, -1), (74, -1), (75, -1), (76, -1), (77, -1), (78, -1), (79, -1), (94, -1)] h h84_0 → 0 ≤ p47_0 → 1 ≤ p47_1 → p47_0 ≤ (p47_1 - 1) → h84_0 151 27 = p47_1 → h84_0 151 33 = p47_2 → Mw h84_0 → wp l rho (d + 2) 217 84 [(2, 151), (0, x1), (0, p7_0), (0, p47_0)] [(0, p7_0), (2, 195)] h84_0 Q := by
            intro h84_0 gh_84_0 q0_84_0 q1_84_0 q2_84_0 c151_27_84_0 c151_33_84_0 n_Mw_84_0
            refine w_aload_n gz_217_84 rfl ?_
            refine w_getX (v := 195) gz_217_85 is_151 rd_10 rfl (by decide) rfl ?_
            refine w_iload_n gz_217_88 rfl ?_
            refine w_iald gz_217_89 is_195 rd_94 (by omega) (by omega) (fun v3 ev3 pv3 qv3 => ?_)
            exact J90_0 (v3) h84_0 (gh_84_0) (by omega) (by omega) (by omega) (by omega) (by omega) (c151_27_84_0.trans (by omega)) (c151_33_84_0.trans (by omega)) n_Mw_84_0
          refine w_iload_n gz_217_47 rfl ?_
          refine w_iflt (t := 97) gz_217_48 rfl (fun u4 => ?_) (fun u4 => ?_)
          ·
            refine w_iinc (ls' := [(2, 151), (0, x1), (0, (p7_0 + 1)), (0, p47_0)]) gz_217_97 rfl gm_217 rfl rfl rfl ⟨by omega, by omega⟩ ?_
            refine w_goto (t := 7) gz_217_100 rfl ?_
            refine w_weak (ls' := [(2, 151), (0, x1), (0, (p7_0 + 1)), (9, 0)]) (wk_e (wk_e (wk_e (wk_9 wk_n)))) ?_
            exact ih_7_0 ((p7_0 + 1)) h47_0 (gh_47_0) (by omega) (by omega) n_Mw_47_0 (by omega)
          ·
            refine w_aload_n gz_217_51 rfl ?_
            refine w_getX (v := 195) gz_217_52 is_151 rd_10 rfl (by decide) rfl ?_
            refine w_iload_n gz_217_55 rfl ?_
            refine w_aload_n gz_217_56 rfl ?_
            refine w_getX (v := 176) gz_217_57 is_151 rd_10 rfl (by decide) rfl ?_
            refine w_iload_n gz_217_60 rfl ?_
            refine w_bald gz_217_61 is_176 rd_75 (by omega) (by omega) (fun v7 ev7 pv7 qv7 => ?_)
            refine w_ifeq (t := 84) gz_217_62 rfl (fun u8 => ?_) (fun u8 => ?_)
            ·
              exact J84_0 h47_0 (gh_47_0) (by omega) (by omega) (by omega) (c151_27_47_0.trans (by omega)) (c151_33_47_0.trans (by omega)) n_Mw_47_0
            ·
              refine w_aload_n gz_217_65 rfl ?_
              refine w_getX (v := 175) gz_217_66 is_151 rd_10 rfl (by decide) rfl ?_
              refine w_iload_n gz_217_69 rfl ?_
              refine w_iald gz_217_70 is_175 rd_74 (by omega) (by omega) (fun v10 ev10 pv10 qv10 => ?_)
              refine w_iload_n gz_217_71 rfl ?_
              refine w_icne (t := 84) gz_217_72 rfl (fun u11 => ?_) (fun u11 => ?_)
              ·
                exact J84_0 h47_0 (gh_47_0) (by omega) (by omega) (by omega) (c151_27_47_0.trans (by omega)) (c151_33_47_0.trans (by omega)) n_Mw_47_0
              ·
                refine w_aload_n gz_217_75 rfl ?_
                refine w_getX (v := 188) gz_217_76 is_151 rd_10 rfl (by decide) rfl ?_
                refine w_iload_n gz_217_79 rfl ?_
                refine w_iald gz_217_80 is_188 rd_87 (by omega) (by omega) (fun v13 ev13 pv13 qv13 => ?_)
                refine w_goto (t := 90) gz_217_81 rfl ?_
                exact J90_0 (v13) h47_0 (gh_47_0) (by omega) (by omega) (by omega) (by omega) (by omega) (c151_27_47_0.trans (by omega)) (c151_33_47_0.trans (by omega)) n_Mw_47_0
      have J39_0 : ∀ (p39_0 : Int) (h39_0 : my_H), my_fr [(10, 27), (10, 32), (10, 33), (73, -1), (74, -1), (75, -1), (76, -1), (77, -1), (78, -1), (79, -1), (94, -1)] h h39_0 → p7_0 ≤ 3 → 0 ≤ p39_0 → p39_0 ≤ 2 → h39_0 151 33 = p39_0 → Mw h39_0 → wp l rho (d + 2) 217 39 [(2, 151), (0, x1), (0, p7_0), (9, 0)] [(0, 0), (0, p7_0), (2, 195)] h39_0 Q := by
        intro p39_0 h39_0 gh_39_0 q0_39_0 q1_39_0 q2_39_0 c151_33_39_0 n_Mw_39_0
        refine w_iast gz_217_39 is_195 rd_94 (by omega) (by omega) (by omega) (by omega) (fun h14 fh14 => ?_)
        have gh14 : my_fr [(10, 27), (10, 32), (10, 33), (73, -1), (74, -1), (75, -1), (76, -1), (77, -1), (78, -1), (79, -1), (94, -1)] h h14 := my_fr.up gh_39_0 is_195 fh14 rfl
        have Mw_h14 : Mw h14 := Mw_ag (my_ag.up fh14 is_195 rfl) n_Mw_39_0
        refine w_aload_n gz_217_40 rfl ?_
        refine v_getI (j := 27) gz_217_41 rfl is_151 rd_10 rfl (fun v15 ev15 pv15 qv15 => ?_)
        refine w_iconst gz_217_44 (by decide) ?_
        refine w_isub gz_217_45 ⟨by omega, by omega⟩ ?_
        refine w_istore_n (ls' := [(2, 151), (0, x1), (0, p7_0), (0, (v15 - 1))]) gz_217_46 gm_217 rfl rfl rfl ?_
        exact J47_0 9 ((v15 - 1)) (v15) (p39_0) h14 (gh14) (by omega) (by omega) (by omega) (by omega) (by omega) (by omega) (by omega) (by omega) (ev15.symm.trans (by omega)) (((my_up_role fh14 is_151 is_195 rfl).trans c151_33_39_0).trans (by omega)) Mw_h14 (by omega)
      refine w_iload_n gz_217_7 rfl ?_
      refine w_iconst gz_217_8 (by decide) ?_
      refine w_icge (t := 103) gz_217_9 rfl (fun u16 => ?_) (fun u16 => ?_)
      ·
        exact w_vret gz_217_103 gm_217 (k0 h7_0 (gh_7_0))
      ·
        refine w_aload_n gz_217_12 rfl ?_
        refine w_getX (v := 195) gz_217_13 is_151 rd_10 rfl (by decide) rfl ?_
        refine w_iload_n gz_217_16 rfl ?_
        refine w_iload_n gz_217_17 rfl ?_
        refine w_aload_n gz_217_18 rfl ?_
        refine w_getX (v := 157) gz_217_19 is_151 rd_10 rfl (by decide) rfl ?_
        refine w_aload_n gz_217_22 rfl ?_
        refine v_getI (j := 33) gz_217_23 rfl is_151 rd_10 rfl (fun v19 ev19 pv19 qv19 => ?_)
        refine w_iald gz_217_26 is_157 rd_56 (by omega) (by omega) (fun v20 ev20 pv20 qv20 => ?_)
        refine w_icge (t := 38) gz_217_27 rfl (fun u21 => ?_) (fun u21 => ?_)
        ·
          refine w_iconst gz_217_38 (by decide) ?_
          exact J39_0 (v19) h7_0 (gh_7_0) (by omega) (by omega) (by omega) (ev19.symm.trans (by omega)) n_Mw_7_0
        ·
          refine w_aload_n gz_217_30 rfl ?_
          refine w_iload_n gz_217_31 rfl ?_
          refine w_inv (k := 1) (as := [(0, p7_0)]) (r := [(0, p7_0), (2, 195)]) (x := 151) (ls0 := [(2, 151), (0, p7_0), (9, 0)]) gz_217_32 gm_218 rfl is_151 rd_10 rfl rfl rfl rfl rfl (c_Model_fillOf2 (d := (d + 1)) (x1 := p7_0) (by omega) (by omega) ?_ (fun v22 w23 w24 w25 w26 => ?_))
          ·
            show wp l rho (d + 2) 217 35 [(2, 151), (0, x1), (0, p7_0), (9, 0)] [(0, 0), (0, p7_0), (2, 195)] h7_0 Q
            refine w_goto (t := 39) gz_217_35 rfl ?_
            exact J39_0 (v19) h7_0 (gh_7_0) (by omega) (by omega) (by omega) (ev19.symm.trans (by omega)) n_Mw_7_0
          ·
            show wp l rho (d + 2) 217 35 [(2, 151), (0, x1), (0, p7_0), (9, 0)] [(0, v22), (0, p7_0), (2, 195)] h7_0 Q
            refine w_goto (t := 39) gz_217_35 rfl ?_
            refine w_iast gz_217_39 is_195 rd_94 (by omega) (by omega) (by omega) (by omega) (fun h27 fh27 => ?_)
            have gh27 : my_fr [(10, 27), (10, 32), (10, 33), (73, -1), (74, -1), (75, -1), (76, -1), (77, -1), (78, -1), (79, -1), (94, -1)] h h27 := my_fr.up gh_7_0 is_195 fh27 rfl
            have Mw_h27 : Mw h27 := Mw_ag (my_ag.up fh27 is_195 rfl) n_Mw_7_0
            refine w_aload_n gz_217_40 rfl ?_
            refine v_getI (j := 27) gz_217_41 rfl is_151 rd_10 rfl (fun v28 ev28 pv28 qv28 => ?_)
            refine w_iconst gz_217_44 (by decide) ?_
            refine w_isub gz_217_45 ⟨by omega, by omega⟩ ?_
            refine w_istore_n (ls' := [(2, 151), (0, x1), (0, p7_0), (0, (v28 - 1))]) gz_217_46 gm_217 rfl rfl rfl ?_
            exact J47_0 9 ((v28 - 1)) (v28) (v19) h27 (gh27) (by omega) (by omega) (by omega) (by omega) (by omega) (by omega) (by omega) (by omega) (ev28.symm.trans (by omega)) (((my_up_role fh27 is_151 is_195 rfl).trans ev19.symm).trans (by omega)) Mw_h27 (by omega)
  refine w_aload_n gz_217_0 rfl ?_
  refine w_iload_n gz_217_1 rfl ?_
  refine w_inv (k := 2) (as := [(0, x1)]) (r := []) (x := 151) (ls0 := [(2, 151), (0, x1), (9, 0), (9, 0)]) gz_217_2 gm_179 rfl is_151 rd_10 rfl rfl rfl rfl rfl (c_Model_findColumns (d := d) (x1 := x1) (by omega) (by omega) n_Mw (by first | assumption | omega | (subst_vars; omega)) (by first | assumption | omega | (subst_vars; omega)) (fun h29 frh29 xp30 xp31 xp32 => ?_))
  have gh29 : my_fr [(10, 27), (10, 32), (10, 33), (73, -1), (74, -1), (75, -1), (76, -1), (77, -1), (78, -1), (79, -1), (94, -1)] h h29 := my_fr.tr my_fr.rf (frh29.mo rfl)
  have Mw_h29 : Mw h29 := Mw_ag (my_ag.fr frh29 rfl) n_Mw
  show wp l rho (d + 2) 217 5 [(2, 151), (0, x1), (9, 0), (9, 0)] [] h29 Q
  refine w_iconst gz_217_5 (by decide) ?_
  refine w_istore_n (ls' := [(2, 151), (0, x1), (0, 0), (9, 0)]) gz_217_6 gm_217 rfl rfl rfl ?_
  exact J7_0 5 (0) h29 (gh29) (by omega) (by omega) Mw_h29 (by omega)
theorem c_Model_mark2 {l : Launch} {rho : Nat → Int32} {d : Nat} {h : my_H} {Q : my_H → my_V → Prop} {x1 x2 : Int} (a2 : 0 ≤ x2) (b2 : x2 ≤ 1) (n_Rws : Rws h) (k0 : ∀ (h' : my_H), my_fr [(10, 0), (61, -1), (62, -1), (101, -1)] h h' → h' 151 0 = 0 → Rws h' → Q h' (0, 0)) (k1 : ∀ (h' : my_H), my_fr [(10, 0), (61, -1), (62, -1), (101, -1)] h h' → 0 ≤ x1 → x1 ≤ 3 → h' 151 0 = 0 → Rws h' → Q h' (0, 1)) : wp l rho (d + 4) 248 0 [(2, 151), (0, x1), (0, x2)] [] h Q := by
  have J39_0 : ∀ (p39_0 : Int) (h39_0 : my_H), my_fr [(10, 0), (61, -1), (62, -1), (101, -1)] h h39_0 → 0 ≤ x1 → x1 ≤ 3 → 0 ≤ p39_0 → p39_0 ≤ 1 → p39_0 ≤ x2 → x2 ≤ p39_0 → h39_0 151 0 = 0 → Rws h39_0 → wp l rho (d + 4) 248 39 [(2, 151), (0, x1), (0, p39_0)] [] h39_0 Q := by
    intro p39_0 h39_0 gh_39_0 q0_39_0 q1_39_0 q2_39_0 q3_39_0 q4_39_0 q5_39_0 c151_0_39_0 n_Rws_39_0
    refine w_aload_n gz_248_39 rfl ?_
    refine w_iload_n gz_248_40 rfl ?_
    refine w_ifeq (t := 50) gz_248_41 rfl (fun u1 => ?_) (fun u1 => ?_)
    ·
      refine w_iconst gz_248_50 (by decide) ?_
      refine w_iload_n gz_248_51 rfl ?_
      refine w_ifeq (t := 59) gz_248_52 rfl (fun u2 => ?_) (fun u2 => by exfalso; omega)
      refine w_iconst gz_248_59 (by decide) ?_
      refine w_iload_n gz_248_60 rfl ?_
      refine w_iadd gz_248_61 ⟨by omega, by omega⟩ ?_
      refine w_inv (k := 1) (as := [(0, (1 + x1)), (0, 0)]) (r := []) (x := 151) (ls0 := [(2, 151), (0, 0), (0, (1 + x1)), (9, 0)]) gz_248_62 gm_152 rfl is_151 rd_10 rfl rfl rfl rfl rfl (c_Model_copies2 (d := (d + 3)) (x1 := 0) (x2 := (1 + x1)) (by omega) (by omega) (by omega) (by omega) n_Rws_39_0 (fun h3 frh3 xp4 Rws_h3t5 => ?_))
      have gh3 : my_fr [(10, 0), (61, -1), (62, -1), (101, -1)] h h3 := my_fr.tr gh_39_0 (frh3.mo rfl)
      show wp l rho (d + 4) 248 65 [(2, 151), (0, x1), (0, p39_0)] [] h3 Q
      refine w_aload_n gz_248_65 rfl ?_
      refine w_getX (v := 202) gz_248_66 is_151 rd_10 rfl (by decide) rfl ?_
      refine w_iload_n gz_248_69 rfl ?_
      refine w_iconst gz_248_70 (by decide) ?_
      refine w_bast gz_248_71 is_202 rd_101 (by omega) (by omega) (by omega) (by omega) (fun h7 fh7 => ?_)
      have gh7 : my_fr [(10, 0), (61, -1), (62, -1), (101, -1)] h h7 := my_fr.up gh3 is_202 fh7 rfl
      have Rws_h7 : Rws h7 := Rws_ag (my_ag.up fh7 is_202 rfl) Rws_h3t5
      refine w_iconst gz_248_72 (by decide) ?_
      have c8 := ((my_up_role fh7 is_151 is_202 rfl).trans ((my_fr.at frh3 is_151 rfl).trans c151_0_39_0))
      exact w_bret gz_248_73 gm_248 (by omega) (by omega) (k1 h7 (gh7) (by omega) (by omega) (by omega) Rws_h7)
    ·
      refine w_iconst gz_248_44 (by decide) ?_
      refine w_iload_n gz_248_45 rfl ?_
      refine w_iadd gz_248_46 ⟨by omega, by omega⟩ ?_
      refine w_goto (t := 51) gz_248_47 rfl ?_
      refine w_iload_n gz_248_51 rfl ?_
      refine w_ifeq (t := 59) gz_248_52 rfl (fun u9 => by exfalso; omega) (fun u9 => ?_)
      refine w_iconst gz_248_55 (by decide) ?_
      refine w_goto (t := 62) gz_248_56 rfl ?_
      refine w_inv (k := 1) (as := [(0, 0), (0, (1 + x1))]) (r := []) (x := 151) (ls0 := [(2, 151), (0, (1 + x1)), (0, 0), (9, 0)]) gz_248_62 gm_152 rfl is_151 rd_10 rfl rfl rfl rfl rfl (c_Model_copies2 (d := (d + 3)) (x1 := (1 + x1)) (x2 := 0) (by omega) (by omega) (by omega) (by omega) n_Rws_39_0 (fun h10 frh10 xp11 Rws_h10t12 => ?_))
      have gh10 : my_fr [(10, 0), (61, -1), (62, -1), (101, -1)] h h10 := my_fr.tr gh_39_0 (frh10.mo rfl)
      show wp l rho (d + 4) 248 65 [(2, 151), (0, x1), (0, p39_0)] [] h10 Q
      refine w_aload_n gz_248_65 rfl ?_
      refine w_getX (v := 202) gz_248_66 is_151 rd_10 rfl (by decide) rfl ?_
      refine w_iload_n gz_248_69 rfl ?_
      refine w_iconst gz_248_70 (by decide) ?_
      refine w_bast gz_248_71 is_202 rd_101 (by omega) (by omega) (by omega) (by omega) (fun h14 fh14 => ?_)
      have gh14 : my_fr [(10, 0), (61, -1), (62, -1), (101, -1)] h h14 := my_fr.up gh10 is_202 fh14 rfl
      have Rws_h14 : Rws h14 := Rws_ag (my_ag.up fh14 is_202 rfl) Rws_h10t12
      refine w_iconst gz_248_72 (by decide) ?_
      have c15 := ((my_up_role fh14 is_151 is_202 rfl).trans ((my_fr.at frh10 is_151 rfl).trans c151_0_39_0))
      exact w_bret gz_248_73 gm_248 (by omega) (by omega) (k1 h14 (gh14) (by omega) (by omega) (by omega) Rws_h14)
  refine w_aload_n gz_248_0 rfl ?_
  refine w_iconst gz_248_1 (by decide) ?_
  refine v_putI (j := 0) gz_248_2 rfl is_151 rd_10 rfl (by omega) (by omega) rfl (fun h16 fh16 => ?_)
  have gh16 : my_fr [(10, 0), (61, -1), (62, -1), (101, -1)] h h16 := my_fr.up my_fr.rf is_151 fh16 rfl
  have Rws_h16 : Rws h16 := Rws_ag (my_ag.up fh16 is_151 rfl) n_Rws
  refine w_iload_n gz_248_5 rfl ?_
  refine w_iconst gz_248_6 (by decide) ?_
  refine w_iconst gz_248_7 (by decide) ?_
  refine w_inS (k := 0) (as := [(0, 3), (0, 0), (0, x1)]) (r := []) (ls0 := [(0, x1), (0, 0), (0, 3)]) gz_248_8 gm_147 rfl rfl rfl rfl rfl rfl ?_
  refine w_iload_n gz_147_0 rfl ?_
  refine w_iload_n gz_147_1 rfl ?_
  refine w_iclt (t := 14) gz_147_2 rfl (fun u17 => ?_) (fun u17 => ?_)
  ·
    refine w_iconst gz_147_14 (by decide) ?_
    refine w_bret gz_147_15 gm_147 (by omega) (by omega) ?_
    show wp l rho (d + 4) 248 11 [(2, 151), (0, x1), (0, x2)] [(0, 0)] h16 Q
    refine w_ifeq (t := 37) gz_248_11 rfl (fun u18 => ?_) (fun u18 => by exfalso; omega)
    refine w_iconst gz_248_37 (by decide) ?_
    have c19 := (my_up_self fh16)
    exact w_bret gz_248_38 gm_248 (by omega) (by omega) (k0 h16 (gh16) (by omega) Rws_h16)
  ·
    refine w_iload_n gz_147_5 rfl ?_
    refine w_iload_n gz_147_6 rfl ?_
    refine w_icgt (t := 14) gz_147_7 rfl (fun u20 => ?_) (fun u20 => ?_)
    ·
      refine w_iconst gz_147_14 (by decide) ?_
      refine w_bret gz_147_15 gm_147 (by omega) (by omega) ?_
      show wp l rho (d + 4) 248 11 [(2, 151), (0, x1), (0, x2)] [(0, 0)] h16 Q
      refine w_ifeq (t := 37) gz_248_11 rfl (fun u21 => ?_) (fun u21 => by exfalso; omega)
      refine w_iconst gz_248_37 (by decide) ?_
      have c22 := (my_up_self fh16)
      exact w_bret gz_248_38 gm_248 (by omega) (by omega) (k0 h16 (gh16) (by omega) Rws_h16)
    ·
      refine w_iconst gz_147_10 (by decide) ?_
      refine w_goto (t := 15) gz_147_11 rfl ?_
      refine w_bret gz_147_15 gm_147 (by omega) (by omega) ?_
      show wp l rho (d + 4) 248 11 [(2, 151), (0, x1), (0, x2)] [(0, 1)] h16 Q
      refine w_ifeq (t := 37) gz_248_11 rfl (fun u23 => by exfalso; omega) (fun u23 => ?_)
      refine w_iload_n gz_248_14 rfl ?_
      refine w_ifeq (t := 39) gz_248_15 rfl (fun u24 => ?_) (fun u24 => ?_)
      ·
        exact J39_0 (x2) h16 (gh16) (by omega) (by omega) (by omega) (by omega) (by omega) (by omega) ((my_up_self fh16).trans (by omega)) Rws_h16
      ·
        refine w_aload_n gz_248_18 rfl ?_
        refine w_getX (v := 202) gz_248_19 is_151 rd_10 rfl (by decide) rfl ?_
        refine w_iload_n gz_248_22 rfl ?_
        refine w_bald gz_248_23 is_202 rd_101 (by omega) (by omega) (fun v26 ev26 pv26 qv26 => ?_)
        refine w_ifeq (t := 37) gz_248_24 rfl (fun u27 => ?_) (fun u27 => ?_)
        ·
          refine w_iconst gz_248_37 (by decide) ?_
          have c28 := (my_up_self fh16)
          exact w_bret gz_248_38 gm_248 (by omega) (by omega) (k0 h16 (gh16) (by omega) Rws_h16)
        ·
          refine w_aload_n gz_248_27 rfl ?_
          refine w_iconst gz_248_28 (by decide) ?_
          refine w_iload_n gz_248_29 rfl ?_
          refine w_iadd gz_248_30 ⟨by omega, by omega⟩ ?_
          refine w_inv (k := 2) (as := [(0, (1 + x1))]) (r := []) (x := 151) (ls0 := [(2, 151), (0, (1 + x1)), (9, 0), (9, 0)]) gz_248_31 gm_155 rfl is_151 rd_10 rfl rfl rfl rfl rfl (c_Model_isLawful (d := d) (x1 := (1 + x1)) (by omega) (by omega) ?_ ?_)
          ·
            show wp l rho (d + 4) 248 34 [(2, 151), (0, x1), (0, x2)] [(0, 0)] h16 Q
            refine w_ifne (t := 39) gz_248_34 rfl (fun u29 => by exfalso; omega) (fun u29 => ?_)
            refine w_iconst gz_248_37 (by decide) ?_
            have c30 := (my_up_self fh16)
            exact w_bret gz_248_38 gm_248 (by omega) (by omega) (k0 h16 (gh16) (by omega) Rws_h16)
          ·
            show wp l rho (d + 4) 248 34 [(2, 151), (0, x1), (0, x2)] [(0, 1)] h16 Q
            refine w_ifne (t := 39) gz_248_34 rfl (fun u31 => ?_) (fun u31 => by exfalso; omega)
            exact J39_0 (x2) h16 (gh16) (by omega) (by omega) (by omega) (by omega) (by omega) (by omega) ((my_up_self fh16).trans (by omega)) Rws_h16
theorem c_Reader_takeWord_f0 {l : Launch} {rho : Nat → Int32} {d : Nat} {h : my_H} {Q : my_H → my_V → Prop} {x1 : Int} (s1 : 1 ≤ x1 ∧ x1 ≤ 12) (cf : h 82 9 = 0) (k0 : ∀ (h' : my_H), my_fr [(5, 5), (5, 6), (5, 7), (5, 8), (5, 9)] h h' → 1 ≤ h' 82 9 → h' 82 9 ≤ 16001 → Q h' (0, 0)) (k1 : ∀ (h' : my_H), my_fr [(5, 5), (5, 6), (5, 7), (5, 8), (5, 9)] h h' → h' 82 9 = 0 → Q h' (0, 1)) : wp l rho (d + 6) 40 0 [(2, 82), (3, x1)] [] h Q := by
  refine w_aload_n gz_40_0 rfl ?_
  refine w_aload3_n gz_40_1 rfl ?_
  refine w_inv (k := 1) (as := [(3, x1)]) (r := []) (x := 82) (ls0 := [(2, 82), (3, x1), (9, 0)]) gz_40_2 gm_41 rfl is_82 rd_5 rfl rfl rfl rfl rfl (c_Reader_isWord_f0 (d := (d + 1)) (x1 := x1) s1 (cf.trans (by omega)) (fun w1 => ?_) (fun w2 w3 => ?_))
  ·
    show wp l rho (d + 6) 40 5 [(2, 82), (3, x1)] [(0, 0)] h Q
    refine w_ifne (t := 15) gz_40_5 rfl (fun u4 => by exfalso; omega) (fun u4 => ?_)
    refine w_aload_n gz_40_8 rfl ?_
    refine w_iconst gz_40_9 (by decide) ?_
    refine w_inv (k := 0) (as := [(0, 1)]) (r := []) (x := 82) (ls0 := [(2, 82), (0, 1)]) gz_40_10 gm_42 rfl is_82 rd_5 rfl rfl rfl rfl rfl ?_
    refine w_aload_n gz_42_0 rfl ?_
    refine v_getI (j := 9) gz_42_1 rfl is_82 rd_5 rfl (fun v5 ev5 pv5 qv5 => ?_)
    have zv5 := ev5.trans cf
    refine w_ifne (t := 20) gz_42_4 rfl (fun u6 => by exfalso; omega) (fun u6 => ?_)
    refine w_aload_n gz_42_7 rfl ?_
    refine w_iload_n gz_42_8 rfl ?_
    refine w_bipush gz_42_9 (by decide) ?_
    refine w_aload_n gz_42_11 rfl ?_
    refine v_getI (j := 7) gz_42_12 rfl is_82 rd_5 rfl (fun v7 ev7 pv7 qv7 => ?_)
    refine w_imul gz_42_15 ⟨by omega, by omega⟩ ?_
    refine w_iadd gz_42_16 ⟨by omega, by omega⟩ ?_
    refine v_putI (j := 9) gz_42_17 rfl is_82 rd_5 rfl (by omega) (by omega) rfl (fun h8 fh8 => ?_)
    have gh8 : my_fr [(5, 5), (5, 6), (5, 7), (5, 8), (5, 9)] h h8 := my_fr.up my_fr.rf is_82 fh8 rfl
    refine w_vret gz_42_20 gm_42 ?_
    show wp l rho (d + 6) 40 13 [(2, 82), (3, x1)] [] h8 Q
    refine w_iconst gz_40_13 (by decide) ?_
    have c9 := (my_up_self fh8)
    exact w_bret gz_40_14 gm_40 (by omega) (by omega) (k0 h8 (gh8) (by omega) (by omega))
  ·
    show wp l rho (d + 6) 40 5 [(2, 82), (3, x1)] [(0, 1)] h Q
    refine w_ifne (t := 15) gz_40_5 rfl (fun u10 => ?_) (fun u10 => by exfalso; omega)
    refine w_aload_n gz_40_15 rfl ?_
    refine w_inv (k := 2) (as := []) (r := []) (x := 82) (ls0 := [(2, 82), (9, 0), (9, 0)]) gz_40_16 gm_37 rfl is_82 rd_5 rfl rfl rfl rfl rfl (c_Reader_nextToken_f0 (d := (d + 4))  (cf.trans (by omega)) (fun h11 frh11 w12 w13 w14 => ?_))
    have gh11 : my_fr [(5, 5), (5, 6), (5, 7), (5, 8), (5, 9)] h h11 := my_fr.tr my_fr.rf (frh11.mo rfl)
    show wp l rho (d + 6) 40 19 [(2, 82), (3, x1)] [] h11 Q
    refine w_iconst gz_40_19 (by decide) ?_
    have c15 := ((my_fr.at frh11 is_82 rfl).trans cf)
    exact w_bret gz_40_20 gm_40 (by omega) (by omega) (k1 h11 (gh11) (by omega))
theorem c_Reader_endPart_f0 {l : Launch} {rho : Nat → Int32} {d : Nat} {h : my_H} {Q : my_H → my_V → Prop} (cf : h 82 9 = 0) (k0 : ∀ (h' : my_H), my_fr [(5, 5), (5, 6), (5, 7), (5, 8), (5, 9)] h h' → 1 ≤ h' 82 9 → h' 82 9 ≤ 16001 → Q h' (9, 0)) (k1 : ∀ (h' : my_H), my_fr [(5, 5), (5, 6), (5, 7), (5, 8), (5, 9)] h h' → h' 82 9 = 0 → Q h' (9, 0)) : wp l rho (d + 3) 46 0 [(2, 82)] [] h Q := by
  refine w_aload_n gz_46_0 rfl ?_
  refine w_inv (k := 2) (as := []) (r := []) (x := 82) (ls0 := [(2, 82), (9, 0), (9, 0)]) gz_46_1 gm_37 rfl is_82 rd_5 rfl rfl rfl rfl rfl (c_Reader_nextToken_f0 (d := (d + 1))  (cf.trans (by omega)) (fun h1 frh1 w2 w3 w4 => ?_))
  have gh1 : my_fr [(5, 5), (5, 6), (5, 7), (5, 8), (5, 9)] h h1 := my_fr.tr my_fr.rf (frh1.mo rfl)
  show wp l rho (d + 3) 46 4 [(2, 82)] [] h1 Q
  refine w_aload_n gz_46_4 rfl ?_
  refine w_inv (k := 0) (as := []) (r := []) (x := 82) (ls0 := [(2, 82)]) gz_46_5 gm_47 rfl is_82 rd_5 rfl rfl rfl rfl rfl (c_Reader_endsHere_f0 (d := d)  (((my_fr.at frh1 is_82 rfl).trans cf).trans (by omega)) (fun h5 frh5 w6 w7 => ?_) (fun h8 frh8 w9 => ?_))
  ·
    have gh5 : my_fr [(5, 5), (5, 6), (5, 7), (5, 8), (5, 9)] h h5 := my_fr.tr gh1 (frh5.mo rfl)
    show wp l rho (d + 3) 46 8 [(2, 82)] [(0, 0)] h5 Q
    refine w_pop gz_46_8 rfl ?_
    have c10 := (rfl : h5 82 9 = h5 82 9)
    exact w_vret gz_46_9 gm_46 (k0 h5 (gh5) (by omega) (by omega))
  ·
    have gh8 : my_fr [(5, 5), (5, 6), (5, 7), (5, 8), (5, 9)] h h8 := my_fr.tr gh1 (frh8.mo rfl)
    show wp l rho (d + 3) 46 8 [(2, 82)] [(0, 1)] h8 Q
    refine w_pop gz_46_8 rfl ?_
    have c11 := w9
    exact w_vret gz_46_9 gm_46 (k1 h8 (gh8) (by omega))
theorem c_Reader_readFill_f0 {l : Launch} {rho : Nat → Int32} {d : Nat} {h : my_H} {Q : my_H → my_V → Prop} (cf : h 82 9 = 0) (k0 : ∀ (h' : my_H), my_fr [(5, 5), (5, 6), (5, 7), (5, 8), (5, 9), (38, -1)] h h' → 1 ≤ h' 82 9 → h' 82 9 ≤ 16004 → Q h' (9, 0)) (k1 : ∀ (h' : my_H), my_fr [(5, 5), (5, 6), (5, 7), (5, 8), (5, 9), (38, -1)] h h' → h' 82 9 = 0 → Q h' (9, 0)) : wp l rho (d + 3) 50 0 [(2, 82), (9, 0), (9, 0)] [] h Q := by
  refine w_aload_n gz_50_0 rfl ?_
  refine w_aload_n gz_50_1 rfl ?_
  refine v_getR (j := 2) gz_50_2 rfl is_82 rd_5 rfl (fun v1 ev1 tv1 => ?_)
  refine v_getI (j := 3) gz_50_5 rfl tv1 rd_4 rfl (fun v2 ev2 pv2 qv2 => ?_)
  refine w_inv (k := 1) (as := [(0, v2)]) (r := []) (x := 82) (ls0 := [(2, 82), (0, v2), (9, 0)]) gz_50_8 gm_51 rfl is_82 rd_5 rfl rfl rfl rfl rfl (c_Reader_takeNumber_f0 (d := d) (x1 := v2) (by omega) (by omega) (cf.trans (by omega)) (fun h3 frh3 w4 w5 => ?_) (fun h6 v7 frh6 w8 w9 w10 w11 w12 => ?_))
  ·
    have gh3 : my_fr [(5, 5), (5, 6), (5, 7), (5, 8), (5, 9), (38, -1)] h h3 := my_fr.tr my_fr.rf (frh3.mo rfl)
    show wp l rho (d + 3) 50 11 [(2, 82), (9, 0), (9, 0)] [(0, (-1))] h3 Q
    refine w_istore_n (ls' := [(2, 82), (0, (-1)), (9, 0)]) gz_50_11 gm_50 rfl rfl rfl ?_
    refine w_aload_n gz_50_12 rfl ?_
    refine w_bipush gz_50_13 (by decide) ?_
    refine w_inv (k := 1) (as := [(0, 20)]) (r := []) (x := 82) (ls0 := [(2, 82), (0, 20), (9, 0)]) gz_50_15 gm_51 rfl is_82 rd_5 rfl rfl rfl rfl rfl (c_Reader_takeNumber_f1 (d := d) (x1 := 20) (by omega) (by omega) ((h3 82 9)) ((rfl : h3 82 9 = h3 82 9)) (by omega) (by omega) (fun w13 w14 => ?_))
    show wp l rho (d + 3) 50 18 [(2, 82), (0, (-1)), (9, 0)] [(0, (-1))] h3 Q
    refine w_istore_n (ls' := [(2, 82), (0, (-1)), (0, (-1))]) gz_50_18 gm_50 rfl rfl rfl ?_
    refine w_aload_n gz_50_19 rfl ?_
    refine v_getI (j := 9) gz_50_20 rfl is_82 rd_5 rfl (fun v15 ev15 pv15 qv15 => ?_)
    have zv15 := ev15.trans (rfl : h3 82 9 = h3 82 9)
    refine w_ifne (t := 43) gz_50_23 rfl (fun u16 => ?_) (fun u16 => by exfalso; omega)
    have c17 := ev15.symm
    exact w_vret gz_50_43 gm_50 (k0 h3 (gh3) (by omega) (by omega))
  ·
    have gh6 : my_fr [(5, 5), (5, 6), (5, 7), (5, 8), (5, 9), (38, -1)] h h6 := my_fr.tr my_fr.rf (frh6.mo rfl)
    show wp l rho (d + 3) 50 11 [(2, 82), (9, 0), (9, 0)] [(0, v7)] h6 Q
    refine w_istore_n (ls' := [(2, 82), (0, v7), (9, 0)]) gz_50_11 gm_50 rfl rfl rfl ?_
    refine w_aload_n gz_50_12 rfl ?_
    refine w_bipush gz_50_13 (by decide) ?_
    refine w_inv (k := 1) (as := [(0, 20)]) (r := []) (x := 82) (ls0 := [(2, 82), (0, 20), (9, 0)]) gz_50_15 gm_51 rfl is_82 rd_5 rfl rfl rfl rfl rfl (c_Reader_takeNumber_f0 (d := d) (x1 := 20) (by omega) (by omega) (w12.trans (by omega)) (fun h18 frh18 w19 w20 => ?_) (fun h21 v22 frh21 w23 w24 w25 w26 w27 => ?_))
    ·
      have gh18 : my_fr [(5, 5), (5, 6), (5, 7), (5, 8), (5, 9), (38, -1)] h h18 := my_fr.tr gh6 (frh18.mo rfl)
      show wp l rho (d + 3) 50 18 [(2, 82), (0, v7), (9, 0)] [(0, (-1))] h18 Q
      refine w_istore_n (ls' := [(2, 82), (0, v7), (0, (-1))]) gz_50_18 gm_50 rfl rfl rfl ?_
      refine w_aload_n gz_50_19 rfl ?_
      refine v_getI (j := 9) gz_50_20 rfl is_82 rd_5 rfl (fun v28 ev28 pv28 qv28 => ?_)
      have zv28 := ev28.trans (rfl : h18 82 9 = h18 82 9)
      refine w_ifne (t := 43) gz_50_23 rfl (fun u29 => ?_) (fun u29 => by exfalso; omega)
      have c30 := ev28.symm
      exact w_vret gz_50_43 gm_50 (k0 h18 (gh18) (by omega) (by omega))
    ·
      have gh21 : my_fr [(5, 5), (5, 6), (5, 7), (5, 8), (5, 9), (38, -1)] h h21 := my_fr.tr gh6 (frh21.mo rfl)
      show wp l rho (d + 3) 50 18 [(2, 82), (0, v7), (9, 0)] [(0, v22)] h21 Q
      refine w_istore_n (ls' := [(2, 82), (0, v7), (0, v22)]) gz_50_18 gm_50 rfl rfl rfl ?_
      refine w_aload_n gz_50_19 rfl ?_
      refine v_getI (j := 9) gz_50_20 rfl is_82 rd_5 rfl (fun v31 ev31 pv31 qv31 => ?_)
      have zv31 := ev31.trans w27
      refine w_ifne (t := 43) gz_50_23 rfl (fun u32 => by exfalso; omega) (fun u32 => ?_)
      refine w_aload_n gz_50_26 rfl ?_
      refine w_inv (k := 0) (as := []) (r := []) (x := 82) (ls0 := [(2, 82)]) gz_50_27 gm_47 rfl is_82 rd_5 rfl rfl rfl rfl rfl (c_Reader_endsHere_f0 (d := d)  (ev31.symm.trans (by omega)) (fun h33 frh33 w34 w35 => ?_) (fun h36 frh36 w37 => ?_))
      ·
        have gh33 : my_fr [(5, 5), (5, 6), (5, 7), (5, 8), (5, 9), (38, -1)] h h33 := my_fr.tr gh21 (frh33.mo rfl)
        show wp l rho (d + 3) 50 30 [(2, 82), (0, v7), (0, v22)] [(0, 0)] h33 Q
        refine w_ifeq (t := 43) gz_50_30 rfl (fun u38 => ?_) (fun u38 => by exfalso; omega)
        have c39 := (rfl : h33 82 9 = h33 82 9)
        exact w_vret gz_50_43 gm_50 (k0 h33 (gh33) (by omega) (by omega))
      ·
        have gh36 : my_fr [(5, 5), (5, 6), (5, 7), (5, 8), (5, 9), (38, -1)] h h36 := my_fr.tr gh21 (frh36.mo rfl)
        show wp l rho (d + 3) 50 30 [(2, 82), (0, v7), (0, v22)] [(0, 1)] h36 Q
        refine w_ifeq (t := 43) gz_50_30 rfl (fun u40 => by exfalso; omega) (fun u40 => ?_)
        refine w_aload_n gz_50_33 rfl ?_
        refine v_getR (j := 2) gz_50_34 rfl is_82 rd_5 rfl (fun v41 ev41 tv41 => ?_)
        have zv41 : v1 = v41 := (ev41.trans ((my_fr.at frh36 is_82 rfl).trans ((my_fr.at frh21 is_82 rfl).trans ((my_fr.at frh6 is_82 rfl).trans ev1.symm)))).symm
        subst zv41
        refine w_getX (v := (v1 + 7)) gz_50_37 tv1 rd_4 rfl (by decide) rfl ?_
        refine w_iload_n gz_50_40 rfl ?_
        refine w_iload_n gz_50_41 rfl ?_
        refine w_iast gz_50_42 (ix_4_7 tv1) rd_38 (by omega) (by omega) (by omega) (by omega) (fun h43 fh43 => ?_)
        have gh43 : my_fr [(5, 5), (5, 6), (5, 7), (5, 8), (5, 9), (38, -1)] h h43 := my_fr.up gh36 (ix_4_7 tv1) fh43 rfl
        have c44 := ((my_up_role fh43 is_82 (ix_4_7 tv1) rfl).trans w37)
        exact w_vret gz_50_43 gm_50 (k1 h43 (gh43) (by omega))
theorem c_Reader_readCut_f0 {l : Launch} {rho : Nat → Int32} {d : Nat} {h : my_H} {Q : my_H → my_V → Prop} {wv : Int} (cf : h 82 9 = 0) (hwv : wv ≤ 5) (hwv0 : 0 ≤ wv) (n_Ln : Ln h) (n_Sp : Sp h wv) (n_St5 : St5 h) (k0 : ∀ (h' : my_H), my_fr [(4, 5), (4, 8), (4, 9), (5, 5), (5, 6), (5, 7), (5, 8), (5, 9), (32, -1), (33, -1), (34, -1), (35, -1)] h h' → 1 ≤ h' 82 9 → h' 82 9 ≤ 16004 → Ln h' → Sp h' wv → Q h' (9, 0)) (k1 : ∀ (h' : my_H), my_fr [(4, 5), (4, 8), (4, 9), (5, 5), (5, 6), (5, 7), (5, 8), (5, 9), (32, -1), (33, -1), (34, -1), (35, -1)] h h' → h' 82 9 = 0 → Ln h' → Sp h' wv → Q h' (9, 0)) : wp l rho (d + 7) 52 0 [(2, 82), (9, 0), (9, 0), (9, 0)] [] h Q := by
  refine w_aload_n gz_52_0 rfl ?_
  refine w_aload_n gz_52_1 rfl ?_
  refine v_getR (j := 2) gz_52_2 rfl is_82 rd_5 rfl (fun v1 ev1 tv1 => ?_)
  refine v_getI (j := 4) gz_52_5 rfl tv1 rd_4 rfl (fun v2 ev2 pv2 qv2 => ?_)
  refine w_inv (k := 1) (as := [(0, v2)]) (r := []) (x := 82) (ls0 := [(2, 82), (0, v2), (9, 0)]) gz_52_8 gm_51 rfl is_82 rd_5 rfl rfl rfl rfl rfl (c_Reader_takeNumber_f0 (d := (d + 4)) (x1 := v2) (by omega) (by omega) (cf.trans (by omega)) (fun h3 frh3 w4 w5 => ?_) (fun h6 v7 frh6 w8 w9 w10 w11 w12 => ?_))
  ·
    have gh3 : my_fr [(4, 5), (4, 8), (4, 9), (5, 5), (5, 6), (5, 7), (5, 8), (5, 9), (32, -1), (33, -1), (34, -1), (35, -1)] h h3 := my_fr.tr my_fr.rf (frh3.mo rfl)
    have Ln_h3 : Ln h3 := Ln_ag (my_ag.fr frh3 rfl) n_Ln
    have Sp_h3 : Sp h3 wv := Sp_ag (my_ag.fr frh3 rfl) hwv n_Ln n_Sp
    have St5_h3 : St5 h3 := St5_ag (my_ag.fr frh3 rfl) n_Ln n_St5
    show wp l rho (d + 7) 52 11 [(2, 82), (9, 0), (9, 0), (9, 0)] [(0, (-1))] h3 Q
    refine w_istore_n (ls' := [(2, 82), (0, (-1)), (9, 0), (9, 0)]) gz_52_11 gm_52 rfl rfl rfl ?_
    refine w_aload_n gz_52_12 rfl ?_
    refine w_ldcS gz_52_13 (by decide) ?_
    refine w_inv (k := 1) (as := [(3, ((9 : Nat) : Int))]) (r := []) (x := 82) (ls0 := [(2, 82), (3, ((9 : Nat) : Int)), (9, 0)]) gz_52_15 gm_41 rfl is_82 rd_5 rfl rfl rfl rfl rfl (c_Reader_isWord_f1 (d := (d + 2)) (x1 := ((9 : Nat) : Int)) (by decide) ((h3 82 9)) ((rfl : h3 82 9 = h3 82 9)) (by omega) (by omega) (fun w13 w14 => ?_) (fun w15 w16 w17 => ?_))
    ·
      show wp l rho (d + 7) 52 18 [(2, 82), (0, (-1)), (9, 0), (9, 0)] [(0, 0)] h3 Q
      refine w_ifeq (t := 25) gz_52_18 rfl (fun u18 => ?_) (fun u18 => by exfalso; omega)
      refine w_aload_n gz_52_25 rfl ?_
      refine w_ldcS gz_52_26 (by decide) ?_
      refine w_inv (k := 1) (as := [(3, ((10 : Nat) : Int))]) (r := []) (x := 82) (ls0 := [(2, 82), (3, ((10 : Nat) : Int)), (9, 0)]) gz_52_28 gm_41 rfl is_82 rd_5 rfl rfl rfl rfl rfl (c_Reader_isWord_f1 (d := (d + 2)) (x1 := ((10 : Nat) : Int)) (by decide) ((h3 82 9)) ((rfl : h3 82 9 = h3 82 9)) (by omega) (by omega) (fun w19 w20 => ?_) (fun w21 w22 w23 => ?_))
      ·
        show wp l rho (d + 7) 52 31 [(2, 82), (0, (-1)), (9, 0), (9, 0)] [(0, 0)] h3 Q
        refine w_ifeq (t := 38) gz_52_31 rfl (fun u24 => ?_) (fun u24 => by exfalso; omega)
        refine w_aload_n gz_52_38 rfl ?_
        refine w_ldcS gz_52_39 (by decide) ?_
        refine w_inv (k := 1) (as := [(3, ((11 : Nat) : Int))]) (r := []) (x := 82) (ls0 := [(2, 82), (3, ((11 : Nat) : Int)), (9, 0)]) gz_52_41 gm_41 rfl is_82 rd_5 rfl rfl rfl rfl rfl (c_Reader_isWord_f1 (d := (d + 2)) (x1 := ((11 : Nat) : Int)) (by decide) ((h3 82 9)) ((rfl : h3 82 9 = h3 82 9)) (by omega) (by omega) (fun w25 w26 => ?_) (fun w27 w28 w29 => ?_))
        ·
          show wp l rho (d + 7) 52 44 [(2, 82), (0, (-1)), (9, 0), (9, 0)] [(0, 0)] h3 Q
          refine w_ifeq (t := 51) gz_52_44 rfl (fun u30 => ?_) (fun u30 => by exfalso; omega)
          refine w_iconst gz_52_51 (by decide) ?_
          refine w_istore_n (ls' := [(2, 82), (0, (-1)), (0, (-1)), (9, 0)]) gz_52_52 gm_52 rfl rfl rfl ?_
          refine w_iload_n gz_52_53 rfl ?_
          refine w_iconst gz_52_54 (by decide) ?_
          refine w_icne (t := 66) gz_52_55 rfl (fun u31 => by exfalso; omega) (fun u31 => ?_)
          refine w_aload_n gz_52_58 rfl ?_
          refine w_iconst gz_52_59 (by decide) ?_
          refine w_inv (k := 0) (as := [(0, 1)]) (r := []) (x := 82) (ls0 := [(2, 82), (0, 1)]) gz_52_60 gm_42 rfl is_82 rd_5 rfl rfl rfl rfl rfl ?_
          refine w_aload_n gz_42_0 rfl ?_
          refine v_getI (j := 9) gz_42_1 rfl is_82 rd_5 rfl (fun v32 ev32 pv32 qv32 => ?_)
          have zv32 := ev32.trans (rfl : h3 82 9 = h3 82 9)
          refine w_ifne (t := 20) gz_42_4 rfl (fun u33 => ?_) (fun u33 => by exfalso; omega)
          refine w_vret gz_42_20 gm_42 ?_
          show wp l rho (d + 7) 52 63 [(2, 82), (0, (-1)), (0, (-1)), (9, 0)] [] h3 Q
          refine w_goto (t := 70) gz_52_63 rfl ?_
          refine w_aload_n gz_52_70 rfl ?_
          refine w_sipush gz_52_71 (by decide) ?_
          refine w_inv (k := 1) (as := [(0, 200)]) (r := []) (x := 82) (ls0 := [(2, 82), (0, 200), (9, 0)]) gz_52_74 gm_51 rfl is_82 rd_5 rfl rfl rfl rfl rfl (c_Reader_takeNumber_f1 (d := (d + 4)) (x1 := 200) (by omega) (by omega) (v32) (ev32.symm) (by omega) (by omega) (fun w34 w35 => ?_))
          show wp l rho (d + 7) 52 77 [(2, 82), (0, (-1)), (0, (-1)), (9, 0)] [(0, (-1))] h3 Q
          refine w_istore_n (ls' := [(2, 82), (0, (-1)), (0, (-1)), (0, (-1))]) gz_52_77 gm_52 rfl rfl rfl ?_
          refine w_aload_n gz_52_78 rfl ?_
          refine v_getI (j := 9) gz_52_79 rfl is_82 rd_5 rfl (fun v36 ev36 pv36 qv36 => ?_)
          have zv36 := ev36.trans ev32.symm
          refine w_ifne (t := 102) gz_52_82 rfl (fun u37 => ?_) (fun u37 => by exfalso; omega)
          have c38 := ev36.symm
          exact w_vret gz_52_102 gm_52 (k0 h3 (gh3) (by omega) (by omega) Ln_h3 Sp_h3)
        ·
          show wp l rho (d + 7) 52 44 [(2, 82), (0, (-1)), (9, 0), (9, 0)] [(0, 1)] h3 Q
          refine w_ifeq (t := 51) gz_52_44 rfl (fun u39 => by exfalso; omega) (fun u39 => ?_)
          refine w_iconst gz_52_47 (by decide) ?_
          refine w_goto (t := 52) gz_52_48 rfl ?_
          refine w_istore_n (ls' := [(2, 82), (0, (-1)), (0, 2), (9, 0)]) gz_52_52 gm_52 rfl rfl rfl ?_
          refine w_iload_n gz_52_53 rfl ?_
          refine w_iconst gz_52_54 (by decide) ?_
          refine w_icne (t := 66) gz_52_55 rfl (fun u40 => ?_) (fun u40 => by exfalso; omega)
          refine w_aload_n gz_52_66 rfl ?_
          refine w_inv (k := 2) (as := []) (r := []) (x := 82) (ls0 := [(2, 82), (9, 0), (9, 0)]) gz_52_67 gm_37 rfl is_82 rd_5 rfl rfl rfl rfl rfl (c_Reader_nextToken_f1 (d := (d + 5))  ((h3 82 9)) ((rfl : h3 82 9 = h3 82 9)) (by omega) (by omega) (fun h41 frh41 w42 w43 w44 w45 => ?_))
          have gh41 : my_fr [(4, 5), (4, 8), (4, 9), (5, 5), (5, 6), (5, 7), (5, 8), (5, 9), (32, -1), (33, -1), (34, -1), (35, -1)] h h41 := my_fr.tr gh3 (frh41.mo rfl)
          have Ln_h41 : Ln h41 := Ln_ag (my_ag.fr frh41 rfl) Ln_h3
          have Sp_h41 : Sp h41 wv := Sp_ag (my_ag.fr frh41 rfl) hwv Ln_h3 Sp_h3
          have St5_h41 : St5 h41 := St5_ag (my_ag.fr frh41 rfl) Ln_h3 St5_h3
          show wp l rho (d + 7) 52 70 [(2, 82), (0, (-1)), (0, 2), (9, 0)] [] h41 Q
          refine w_aload_n gz_52_70 rfl ?_
          refine w_sipush gz_52_71 (by decide) ?_
          refine w_inv (k := 1) (as := [(0, 200)]) (r := []) (x := 82) (ls0 := [(2, 82), (0, 200), (9, 0)]) gz_52_74 gm_51 rfl is_82 rd_5 rfl rfl rfl rfl rfl (c_Reader_takeNumber_f1 (d := (d + 4)) (x1 := 200) (by omega) (by omega) ((h3 82 9)) (((my_fr.at frh41 is_82 rfl).trans (rfl : h3 82 9 = h3 82 9))) (by omega) (by omega) (fun w46 w47 => ?_))
          show wp l rho (d + 7) 52 77 [(2, 82), (0, (-1)), (0, 2), (9, 0)] [(0, (-1))] h41 Q
          refine w_istore_n (ls' := [(2, 82), (0, (-1)), (0, 2), (0, (-1))]) gz_52_77 gm_52 rfl rfl rfl ?_
          refine w_aload_n gz_52_78 rfl ?_
          refine v_getI (j := 9) gz_52_79 rfl is_82 rd_5 rfl (fun v48 ev48 pv48 qv48 => ?_)
          have zv48 := ev48.trans ((my_fr.at frh41 is_82 rfl).trans (rfl : h3 82 9 = h3 82 9))
          refine w_ifne (t := 102) gz_52_82 rfl (fun u49 => ?_) (fun u49 => by exfalso; omega)
          have c50 := ev48.symm
          exact w_vret gz_52_102 gm_52 (k0 h41 (gh41) (by omega) (by omega) Ln_h41 Sp_h41)
      ·
        show wp l rho (d + 7) 52 31 [(2, 82), (0, (-1)), (9, 0), (9, 0)] [(0, 1)] h3 Q
        refine w_ifeq (t := 38) gz_52_31 rfl (fun u51 => by exfalso; omega) (fun u51 => ?_)
        refine w_iconst gz_52_34 (by decide) ?_
        refine w_goto (t := 52) gz_52_35 rfl ?_
        refine w_istore_n (ls' := [(2, 82), (0, (-1)), (0, 1), (9, 0)]) gz_52_52 gm_52 rfl rfl rfl ?_
        refine w_iload_n gz_52_53 rfl ?_
        refine w_iconst gz_52_54 (by decide) ?_
        refine w_icne (t := 66) gz_52_55 rfl (fun u52 => ?_) (fun u52 => by exfalso; omega)
        refine w_aload_n gz_52_66 rfl ?_
        refine w_inv (k := 2) (as := []) (r := []) (x := 82) (ls0 := [(2, 82), (9, 0), (9, 0)]) gz_52_67 gm_37 rfl is_82 rd_5 rfl rfl rfl rfl rfl (c_Reader_nextToken_f1 (d := (d + 5))  ((h3 82 9)) ((rfl : h3 82 9 = h3 82 9)) (by omega) (by omega) (fun h53 frh53 w54 w55 w56 w57 => ?_))
        have gh53 : my_fr [(4, 5), (4, 8), (4, 9), (5, 5), (5, 6), (5, 7), (5, 8), (5, 9), (32, -1), (33, -1), (34, -1), (35, -1)] h h53 := my_fr.tr gh3 (frh53.mo rfl)
        have Ln_h53 : Ln h53 := Ln_ag (my_ag.fr frh53 rfl) Ln_h3
        have Sp_h53 : Sp h53 wv := Sp_ag (my_ag.fr frh53 rfl) hwv Ln_h3 Sp_h3
        have St5_h53 : St5 h53 := St5_ag (my_ag.fr frh53 rfl) Ln_h3 St5_h3
        show wp l rho (d + 7) 52 70 [(2, 82), (0, (-1)), (0, 1), (9, 0)] [] h53 Q
        refine w_aload_n gz_52_70 rfl ?_
        refine w_sipush gz_52_71 (by decide) ?_
        refine w_inv (k := 1) (as := [(0, 200)]) (r := []) (x := 82) (ls0 := [(2, 82), (0, 200), (9, 0)]) gz_52_74 gm_51 rfl is_82 rd_5 rfl rfl rfl rfl rfl (c_Reader_takeNumber_f1 (d := (d + 4)) (x1 := 200) (by omega) (by omega) ((h3 82 9)) (((my_fr.at frh53 is_82 rfl).trans (rfl : h3 82 9 = h3 82 9))) (by omega) (by omega) (fun w58 w59 => ?_))
        show wp l rho (d + 7) 52 77 [(2, 82), (0, (-1)), (0, 1), (9, 0)] [(0, (-1))] h53 Q
        refine w_istore_n (ls' := [(2, 82), (0, (-1)), (0, 1), (0, (-1))]) gz_52_77 gm_52 rfl rfl rfl ?_
        refine w_aload_n gz_52_78 rfl ?_
        refine v_getI (j := 9) gz_52_79 rfl is_82 rd_5 rfl (fun v60 ev60 pv60 qv60 => ?_)
        have zv60 := ev60.trans ((my_fr.at frh53 is_82 rfl).trans (rfl : h3 82 9 = h3 82 9))
        refine w_ifne (t := 102) gz_52_82 rfl (fun u61 => ?_) (fun u61 => by exfalso; omega)
        have c62 := ev60.symm
        exact w_vret gz_52_102 gm_52 (k0 h53 (gh53) (by omega) (by omega) Ln_h53 Sp_h53)
    ·
      show wp l rho (d + 7) 52 18 [(2, 82), (0, (-1)), (9, 0), (9, 0)] [(0, 1)] h3 Q
      refine w_ifeq (t := 25) gz_52_18 rfl (fun u63 => by exfalso; omega) (fun u63 => ?_)
      refine w_iconst gz_52_21 (by decide) ?_
      refine w_goto (t := 52) gz_52_22 rfl ?_
      refine w_istore_n (ls' := [(2, 82), (0, (-1)), (0, 0), (9, 0)]) gz_52_52 gm_52 rfl rfl rfl ?_
      refine w_iload_n gz_52_53 rfl ?_
      refine w_iconst gz_52_54 (by decide) ?_
      refine w_icne (t := 66) gz_52_55 rfl (fun u64 => ?_) (fun u64 => by exfalso; omega)
      refine w_aload_n gz_52_66 rfl ?_
      refine w_inv (k := 2) (as := []) (r := []) (x := 82) (ls0 := [(2, 82), (9, 0), (9, 0)]) gz_52_67 gm_37 rfl is_82 rd_5 rfl rfl rfl rfl rfl (c_Reader_nextToken_f1 (d := (d + 5))  ((h3 82 9)) ((rfl : h3 82 9 = h3 82 9)) (by omega) (by omega) (fun h65 frh65 w66 w67 w68 w69 => ?_))
      have gh65 : my_fr [(4, 5), (4, 8), (4, 9), (5, 5), (5, 6), (5, 7), (5, 8), (5, 9), (32, -1), (33, -1), (34, -1), (35, -1)] h h65 := my_fr.tr gh3 (frh65.mo rfl)
      have Ln_h65 : Ln h65 := Ln_ag (my_ag.fr frh65 rfl) Ln_h3
      have Sp_h65 : Sp h65 wv := Sp_ag (my_ag.fr frh65 rfl) hwv Ln_h3 Sp_h3
      have St5_h65 : St5 h65 := St5_ag (my_ag.fr frh65 rfl) Ln_h3 St5_h3
      show wp l rho (d + 7) 52 70 [(2, 82), (0, (-1)), (0, 0), (9, 0)] [] h65 Q
      refine w_aload_n gz_52_70 rfl ?_
      refine w_sipush gz_52_71 (by decide) ?_
      refine w_inv (k := 1) (as := [(0, 200)]) (r := []) (x := 82) (ls0 := [(2, 82), (0, 200), (9, 0)]) gz_52_74 gm_51 rfl is_82 rd_5 rfl rfl rfl rfl rfl (c_Reader_takeNumber_f1 (d := (d + 4)) (x1 := 200) (by omega) (by omega) ((h3 82 9)) (((my_fr.at frh65 is_82 rfl).trans (rfl : h3 82 9 = h3 82 9))) (by omega) (by omega) (fun w70 w71 => ?_))
      show wp l rho (d + 7) 52 77 [(2, 82), (0, (-1)), (0, 0), (9, 0)] [(0, (-1))] h65 Q
      refine w_istore_n (ls' := [(2, 82), (0, (-1)), (0, 0), (0, (-1))]) gz_52_77 gm_52 rfl rfl rfl ?_
      refine w_aload_n gz_52_78 rfl ?_
      refine v_getI (j := 9) gz_52_79 rfl is_82 rd_5 rfl (fun v72 ev72 pv72 qv72 => ?_)
      have zv72 := ev72.trans ((my_fr.at frh65 is_82 rfl).trans (rfl : h3 82 9 = h3 82 9))
      refine w_ifne (t := 102) gz_52_82 rfl (fun u73 => ?_) (fun u73 => by exfalso; omega)
      have c74 := ev72.symm
      exact w_vret gz_52_102 gm_52 (k0 h65 (gh65) (by omega) (by omega) Ln_h65 Sp_h65)
  ·
    have gh6 : my_fr [(4, 5), (4, 8), (4, 9), (5, 5), (5, 6), (5, 7), (5, 8), (5, 9), (32, -1), (33, -1), (34, -1), (35, -1)] h h6 := my_fr.tr my_fr.rf (frh6.mo rfl)
    have Ln_h6 : Ln h6 := Ln_ag (my_ag.fr frh6 rfl) n_Ln
    have Sp_h6 : Sp h6 wv := Sp_ag (my_ag.fr frh6 rfl) hwv n_Ln n_Sp
    have St5_h6 : St5 h6 := St5_ag (my_ag.fr frh6 rfl) n_Ln n_St5
    show wp l rho (d + 7) 52 11 [(2, 82), (9, 0), (9, 0), (9, 0)] [(0, v7)] h6 Q
    refine w_istore_n (ls' := [(2, 82), (0, v7), (9, 0), (9, 0)]) gz_52_11 gm_52 rfl rfl rfl ?_
    refine w_aload_n gz_52_12 rfl ?_
    refine w_ldcS gz_52_13 (by decide) ?_
    refine w_inv (k := 1) (as := [(3, ((9 : Nat) : Int))]) (r := []) (x := 82) (ls0 := [(2, 82), (3, ((9 : Nat) : Int)), (9, 0)]) gz_52_15 gm_41 rfl is_82 rd_5 rfl rfl rfl rfl rfl (c_Reader_isWord_f0 (d := (d + 2)) (x1 := ((9 : Nat) : Int)) (by decide) (w12.trans (by omega)) (fun w75 => ?_) (fun w76 w77 => ?_))
    ·
      show wp l rho (d + 7) 52 18 [(2, 82), (0, v7), (9, 0), (9, 0)] [(0, 0)] h6 Q
      refine w_ifeq (t := 25) gz_52_18 rfl (fun u78 => ?_) (fun u78 => by exfalso; omega)
      refine w_aload_n gz_52_25 rfl ?_
      refine w_ldcS gz_52_26 (by decide) ?_
      refine w_inv (k := 1) (as := [(3, ((10 : Nat) : Int))]) (r := []) (x := 82) (ls0 := [(2, 82), (3, ((10 : Nat) : Int)), (9, 0)]) gz_52_28 gm_41 rfl is_82 rd_5 rfl rfl rfl rfl rfl (c_Reader_isWord_f0 (d := (d + 2)) (x1 := ((10 : Nat) : Int)) (by decide) (w12.trans (by omega)) (fun w79 => ?_) (fun w80 w81 => ?_))
      ·
        show wp l rho (d + 7) 52 31 [(2, 82), (0, v7), (9, 0), (9, 0)] [(0, 0)] h6 Q
        refine w_ifeq (t := 38) gz_52_31 rfl (fun u82 => ?_) (fun u82 => by exfalso; omega)
        refine w_aload_n gz_52_38 rfl ?_
        refine w_ldcS gz_52_39 (by decide) ?_
        refine w_inv (k := 1) (as := [(3, ((11 : Nat) : Int))]) (r := []) (x := 82) (ls0 := [(2, 82), (3, ((11 : Nat) : Int)), (9, 0)]) gz_52_41 gm_41 rfl is_82 rd_5 rfl rfl rfl rfl rfl (c_Reader_isWord_f0 (d := (d + 2)) (x1 := ((11 : Nat) : Int)) (by decide) (w12.trans (by omega)) (fun w83 => ?_) (fun w84 w85 => ?_))
        ·
          show wp l rho (d + 7) 52 44 [(2, 82), (0, v7), (9, 0), (9, 0)] [(0, 0)] h6 Q
          refine w_ifeq (t := 51) gz_52_44 rfl (fun u86 => ?_) (fun u86 => by exfalso; omega)
          refine w_iconst gz_52_51 (by decide) ?_
          refine w_istore_n (ls' := [(2, 82), (0, v7), (0, (-1)), (9, 0)]) gz_52_52 gm_52 rfl rfl rfl ?_
          refine w_iload_n gz_52_53 rfl ?_
          refine w_iconst gz_52_54 (by decide) ?_
          refine w_icne (t := 66) gz_52_55 rfl (fun u87 => by exfalso; omega) (fun u87 => ?_)
          refine w_aload_n gz_52_58 rfl ?_
          refine w_iconst gz_52_59 (by decide) ?_
          refine w_inv (k := 0) (as := [(0, 1)]) (r := []) (x := 82) (ls0 := [(2, 82), (0, 1)]) gz_52_60 gm_42 rfl is_82 rd_5 rfl rfl rfl rfl rfl ?_
          refine w_aload_n gz_42_0 rfl ?_
          refine v_getI (j := 9) gz_42_1 rfl is_82 rd_5 rfl (fun v88 ev88 pv88 qv88 => ?_)
          have zv88 := ev88.trans w12
          refine w_ifne (t := 20) gz_42_4 rfl (fun u89 => by exfalso; omega) (fun u89 => ?_)
          refine w_aload_n gz_42_7 rfl ?_
          refine w_iload_n gz_42_8 rfl ?_
          refine w_bipush gz_42_9 (by decide) ?_
          refine w_aload_n gz_42_11 rfl ?_
          refine v_getI (j := 7) gz_42_12 rfl is_82 rd_5 rfl (fun v90 ev90 pv90 qv90 => ?_)
          refine w_imul gz_42_15 ⟨by omega, by omega⟩ ?_
          refine w_iadd gz_42_16 ⟨by omega, by omega⟩ ?_
          refine v_putI (j := 9) gz_42_17 rfl is_82 rd_5 rfl (by omega) (by omega) rfl (fun h91 fh91 => ?_)
          have gh91 : my_fr [(4, 5), (4, 8), (4, 9), (5, 5), (5, 6), (5, 7), (5, 8), (5, 9), (32, -1), (33, -1), (34, -1), (35, -1)] h h91 := my_fr.up gh6 is_82 fh91 rfl
          have Ln_h91 : Ln h91 := Ln_ag (my_ag.up fh91 is_82 rfl) Ln_h6
          have Sp_h91 : Sp h91 wv := Sp_ag (my_ag.up fh91 is_82 rfl) hwv Ln_h6 Sp_h6
          have St5_h91 : St5 h91 := St5_ag (my_ag.up fh91 is_82 rfl) Ln_h6 St5_h6
          refine w_vret gz_42_20 gm_42 ?_
          show wp l rho (d + 7) 52 63 [(2, 82), (0, v7), (0, (-1)), (9, 0)] [] h91 Q
          refine w_goto (t := 70) gz_52_63 rfl ?_
          refine w_aload_n gz_52_70 rfl ?_
          refine w_sipush gz_52_71 (by decide) ?_
          refine w_inv (k := 1) (as := [(0, 200)]) (r := []) (x := 82) (ls0 := [(2, 82), (0, 200), (9, 0)]) gz_52_74 gm_51 rfl is_82 rd_5 rfl rfl rfl rfl rfl (c_Reader_takeNumber_f1 (d := (d + 4)) (x1 := 200) (by omega) (by omega) ((1 + (16 * v90))) ((my_up_self fh91)) (by omega) (by omega) (fun w92 w93 => ?_))
          show wp l rho (d + 7) 52 77 [(2, 82), (0, v7), (0, (-1)), (9, 0)] [(0, (-1))] h91 Q
          refine w_istore_n (ls' := [(2, 82), (0, v7), (0, (-1)), (0, (-1))]) gz_52_77 gm_52 rfl rfl rfl ?_
          refine w_aload_n gz_52_78 rfl ?_
          refine v_getI (j := 9) gz_52_79 rfl is_82 rd_5 rfl (fun v94 ev94 pv94 qv94 => ?_)
          have zv94 := ev94.trans (my_up_self fh91)
          refine w_ifne (t := 102) gz_52_82 rfl (fun u95 => ?_) (fun u95 => by exfalso; omega)
          have c96 := ev94.symm
          exact w_vret gz_52_102 gm_52 (k0 h91 (gh91) (by omega) (by omega) Ln_h91 Sp_h91)
        ·
          show wp l rho (d + 7) 52 44 [(2, 82), (0, v7), (9, 0), (9, 0)] [(0, 1)] h6 Q
          refine w_ifeq (t := 51) gz_52_44 rfl (fun u97 => by exfalso; omega) (fun u97 => ?_)
          refine w_iconst gz_52_47 (by decide) ?_
          refine w_goto (t := 52) gz_52_48 rfl ?_
          refine w_istore_n (ls' := [(2, 82), (0, v7), (0, 2), (9, 0)]) gz_52_52 gm_52 rfl rfl rfl ?_
          refine w_iload_n gz_52_53 rfl ?_
          refine w_iconst gz_52_54 (by decide) ?_
          refine w_icne (t := 66) gz_52_55 rfl (fun u98 => ?_) (fun u98 => by exfalso; omega)
          refine w_aload_n gz_52_66 rfl ?_
          refine w_inv (k := 2) (as := []) (r := []) (x := 82) (ls0 := [(2, 82), (9, 0), (9, 0)]) gz_52_67 gm_37 rfl is_82 rd_5 rfl rfl rfl rfl rfl (c_Reader_nextToken_f0 (d := (d + 5))  (w12.trans (by omega)) (fun h99 frh99 w100 w101 w102 => ?_))
          have gh99 : my_fr [(4, 5), (4, 8), (4, 9), (5, 5), (5, 6), (5, 7), (5, 8), (5, 9), (32, -1), (33, -1), (34, -1), (35, -1)] h h99 := my_fr.tr gh6 (frh99.mo rfl)
          have Ln_h99 : Ln h99 := Ln_ag (my_ag.fr frh99 rfl) Ln_h6
          have Sp_h99 : Sp h99 wv := Sp_ag (my_ag.fr frh99 rfl) hwv Ln_h6 Sp_h6
          have St5_h99 : St5 h99 := St5_ag (my_ag.fr frh99 rfl) Ln_h6 St5_h6
          show wp l rho (d + 7) 52 70 [(2, 82), (0, v7), (0, 2), (9, 0)] [] h99 Q
          refine w_aload_n gz_52_70 rfl ?_
          refine w_sipush gz_52_71 (by decide) ?_
          refine w_inv (k := 1) (as := [(0, 200)]) (r := []) (x := 82) (ls0 := [(2, 82), (0, 200), (9, 0)]) gz_52_74 gm_51 rfl is_82 rd_5 rfl rfl rfl rfl rfl (c_Reader_takeNumber_f0 (d := (d + 4)) (x1 := 200) (by omega) (by omega) (((my_fr.at frh99 is_82 rfl).trans w12).trans (by omega)) (fun h103 frh103 w104 w105 => ?_) (fun h106 v107 frh106 w108 w109 w110 w111 w112 => ?_))
          ·
            have gh103 : my_fr [(4, 5), (4, 8), (4, 9), (5, 5), (5, 6), (5, 7), (5, 8), (5, 9), (32, -1), (33, -1), (34, -1), (35, -1)] h h103 := my_fr.tr gh99 (frh103.mo rfl)
            have Ln_h103 : Ln h103 := Ln_ag (my_ag.fr frh103 rfl) Ln_h99
            have Sp_h103 : Sp h103 wv := Sp_ag (my_ag.fr frh103 rfl) hwv Ln_h99 Sp_h99
            have St5_h103 : St5 h103 := St5_ag (my_ag.fr frh103 rfl) Ln_h99 St5_h99
            show wp l rho (d + 7) 52 77 [(2, 82), (0, v7), (0, 2), (9, 0)] [(0, (-1))] h103 Q
            refine w_istore_n (ls' := [(2, 82), (0, v7), (0, 2), (0, (-1))]) gz_52_77 gm_52 rfl rfl rfl ?_
            refine w_aload_n gz_52_78 rfl ?_
            refine v_getI (j := 9) gz_52_79 rfl is_82 rd_5 rfl (fun v113 ev113 pv113 qv113 => ?_)
            have zv113 := ev113.trans (rfl : h103 82 9 = h103 82 9)
            refine w_ifne (t := 102) gz_52_82 rfl (fun u114 => ?_) (fun u114 => by exfalso; omega)
            have c115 := ev113.symm
            exact w_vret gz_52_102 gm_52 (k0 h103 (gh103) (by omega) (by omega) Ln_h103 Sp_h103)
          ·
            have gh106 : my_fr [(4, 5), (4, 8), (4, 9), (5, 5), (5, 6), (5, 7), (5, 8), (5, 9), (32, -1), (33, -1), (34, -1), (35, -1)] h h106 := my_fr.tr gh99 (frh106.mo rfl)
            have Ln_h106 : Ln h106 := Ln_ag (my_ag.fr frh106 rfl) Ln_h99
            have Sp_h106 : Sp h106 wv := Sp_ag (my_ag.fr frh106 rfl) hwv Ln_h99 Sp_h99
            have St5_h106 : St5 h106 := St5_ag (my_ag.fr frh106 rfl) Ln_h99 St5_h99
            show wp l rho (d + 7) 52 77 [(2, 82), (0, v7), (0, 2), (9, 0)] [(0, v107)] h106 Q
            refine w_istore_n (ls' := [(2, 82), (0, v7), (0, 2), (0, v107)]) gz_52_77 gm_52 rfl rfl rfl ?_
            refine w_aload_n gz_52_78 rfl ?_
            refine v_getI (j := 9) gz_52_79 rfl is_82 rd_5 rfl (fun v116 ev116 pv116 qv116 => ?_)
            have zv116 := ev116.trans w112
            refine w_ifne (t := 102) gz_52_82 rfl (fun u117 => by exfalso; omega) (fun u117 => ?_)
            refine w_aload_n gz_52_85 rfl ?_
            refine w_inv (k := 0) (as := []) (r := []) (x := 82) (ls0 := [(2, 82)]) gz_52_86 gm_47 rfl is_82 rd_5 rfl rfl rfl rfl rfl (c_Reader_endsHere_f0 (d := (d + 4))  (ev116.symm.trans (by omega)) (fun h118 frh118 w119 w120 => ?_) (fun h121 frh121 w122 => ?_))
            ·
              have gh118 : my_fr [(4, 5), (4, 8), (4, 9), (5, 5), (5, 6), (5, 7), (5, 8), (5, 9), (32, -1), (33, -1), (34, -1), (35, -1)] h h118 := my_fr.tr gh106 (frh118.mo rfl)
              have Ln_h118 : Ln h118 := Ln_ag (my_ag.fr frh118 rfl) Ln_h106
              have Sp_h118 : Sp h118 wv := Sp_ag (my_ag.fr frh118 rfl) hwv Ln_h106 Sp_h106
              have St5_h118 : St5 h118 := St5_ag (my_ag.fr frh118 rfl) Ln_h106 St5_h106
              show wp l rho (d + 7) 52 89 [(2, 82), (0, v7), (0, 2), (0, v107)] [(0, 0)] h118 Q
              refine w_ifeq (t := 102) gz_52_89 rfl (fun u123 => ?_) (fun u123 => by exfalso; omega)
              have c124 := (rfl : h118 82 9 = h118 82 9)
              exact w_vret gz_52_102 gm_52 (k0 h118 (gh118) (by omega) (by omega) Ln_h118 Sp_h118)
            ·
              have gh121 : my_fr [(4, 5), (4, 8), (4, 9), (5, 5), (5, 6), (5, 7), (5, 8), (5, 9), (32, -1), (33, -1), (34, -1), (35, -1)] h h121 := my_fr.tr gh106 (frh121.mo rfl)
              have Ln_h121 : Ln h121 := Ln_ag (my_ag.fr frh121 rfl) Ln_h106
              have Sp_h121 : Sp h121 wv := Sp_ag (my_ag.fr frh121 rfl) hwv Ln_h106 Sp_h106
              have St5_h121 : St5 h121 := St5_ag (my_ag.fr frh121 rfl) Ln_h106 St5_h106
              show wp l rho (d + 7) 52 89 [(2, 82), (0, v7), (0, 2), (0, v107)] [(0, 1)] h121 Q
              refine w_ifeq (t := 102) gz_52_89 rfl (fun u125 => by exfalso; omega) (fun u125 => ?_)
              refine w_aload_n gz_52_92 rfl ?_
              refine v_getR (j := 2) gz_52_93 rfl is_82 rd_5 rfl (fun v126 ev126 tv126 => ?_)
              have zv126 : v1 = v126 := (ev126.trans ((my_fr.at frh121 is_82 rfl).trans ((my_fr.at frh106 is_82 rfl).trans ((my_fr.at frh99 is_82 rfl).trans ((my_fr.at frh6 is_82 rfl).trans ev1.symm))))).symm
              subst zv126
              refine w_iload_n gz_52_96 rfl ?_
              refine w_iload_n gz_52_97 rfl ?_
              refine w_iload_n gz_52_98 rfl ?_
              have ce127 : h121 82 2 = v1 := ((my_fr.at frh121 is_82 rfl).trans ((my_fr.at frh106 is_82 rfl).trans ((my_fr.at frh99 is_82 rfl).trans ((my_fr.at frh6 is_82 rfl).trans ev1.symm))))
              have s5a := St5_h121
              have s5e : v1 = h121 82 2 := by first | assumption | omega
              unfold St5 at s5a
              rw [← s5e] at s5a
              refine w_inv (k := 0) (as := [(0, v107), (0, v7), (0, 2)]) (r := []) (x := v1) (ls0 := [(2, v1), (0, 2), (0, v7), (0, v107)]) gz_52_99 gm_53 rfl tv1 rd_4 rfl rfl rfl rfl rfl (c_Lens_addCut (d := (d + 5)) (x0 := v1) (x1 := 2) (x2 := v7) (x3 := v107) tv1 (by omega) (by omega) (by omega) (by omega) (by omega) (by omega) (by first | assumption | omega | (subst_vars; omega)) (fun h128 frh128 fxh128 w129 w130 xp131 => ?_))
              have gh128 : my_fr [(4, 5), (4, 8), (4, 9), (5, 5), (5, 6), (5, 7), (5, 8), (5, 9), (32, -1), (33, -1), (34, -1), (35, -1)] h h128 := my_fr.tr gh121 (frh128.mo rfl)
              have Ln_h128 : Ln h128 := Ln_fx fxh128 (by first | assumption | omega) Ln_h121
              show wp l rho (d + 7) 52 102 [(2, 82), (0, v7), (0, 2), (0, v107)] [] h128 Q
              have Sp_h128t132 : Sp h128 wv := Sp_add fxh128 (by first | assumption | omega) hwv Ln_h121 Sp_h121 xp131 (by have := St5_h121.1; omega) (by omega) (by omega)
              have c133 := ((my_fr.at frh128 is_82 rfl).trans w122)
              exact w_vret gz_52_102 gm_52 (k1 h128 (gh128) (by omega) Ln_h128 Sp_h128t132)
      ·
        show wp l rho (d + 7) 52 31 [(2, 82), (0, v7), (9, 0), (9, 0)] [(0, 1)] h6 Q
        refine w_ifeq (t := 38) gz_52_31 rfl (fun u134 => by exfalso; omega) (fun u134 => ?_)
        refine w_iconst gz_52_34 (by decide) ?_
        refine w_goto (t := 52) gz_52_35 rfl ?_
        refine w_istore_n (ls' := [(2, 82), (0, v7), (0, 1), (9, 0)]) gz_52_52 gm_52 rfl rfl rfl ?_
        refine w_iload_n gz_52_53 rfl ?_
        refine w_iconst gz_52_54 (by decide) ?_
        refine w_icne (t := 66) gz_52_55 rfl (fun u135 => ?_) (fun u135 => by exfalso; omega)
        refine w_aload_n gz_52_66 rfl ?_
        refine w_inv (k := 2) (as := []) (r := []) (x := 82) (ls0 := [(2, 82), (9, 0), (9, 0)]) gz_52_67 gm_37 rfl is_82 rd_5 rfl rfl rfl rfl rfl (c_Reader_nextToken_f0 (d := (d + 5))  (w12.trans (by omega)) (fun h136 frh136 w137 w138 w139 => ?_))
        have gh136 : my_fr [(4, 5), (4, 8), (4, 9), (5, 5), (5, 6), (5, 7), (5, 8), (5, 9), (32, -1), (33, -1), (34, -1), (35, -1)] h h136 := my_fr.tr gh6 (frh136.mo rfl)
        have Ln_h136 : Ln h136 := Ln_ag (my_ag.fr frh136 rfl) Ln_h6
        have Sp_h136 : Sp h136 wv := Sp_ag (my_ag.fr frh136 rfl) hwv Ln_h6 Sp_h6
        have St5_h136 : St5 h136 := St5_ag (my_ag.fr frh136 rfl) Ln_h6 St5_h6
        show wp l rho (d + 7) 52 70 [(2, 82), (0, v7), (0, 1), (9, 0)] [] h136 Q
        refine w_aload_n gz_52_70 rfl ?_
        refine w_sipush gz_52_71 (by decide) ?_
        refine w_inv (k := 1) (as := [(0, 200)]) (r := []) (x := 82) (ls0 := [(2, 82), (0, 200), (9, 0)]) gz_52_74 gm_51 rfl is_82 rd_5 rfl rfl rfl rfl rfl (c_Reader_takeNumber_f0 (d := (d + 4)) (x1 := 200) (by omega) (by omega) (((my_fr.at frh136 is_82 rfl).trans w12).trans (by omega)) (fun h140 frh140 w141 w142 => ?_) (fun h143 v144 frh143 w145 w146 w147 w148 w149 => ?_))
        ·
          have gh140 : my_fr [(4, 5), (4, 8), (4, 9), (5, 5), (5, 6), (5, 7), (5, 8), (5, 9), (32, -1), (33, -1), (34, -1), (35, -1)] h h140 := my_fr.tr gh136 (frh140.mo rfl)
          have Ln_h140 : Ln h140 := Ln_ag (my_ag.fr frh140 rfl) Ln_h136
          have Sp_h140 : Sp h140 wv := Sp_ag (my_ag.fr frh140 rfl) hwv Ln_h136 Sp_h136
          have St5_h140 : St5 h140 := St5_ag (my_ag.fr frh140 rfl) Ln_h136 St5_h136
          show wp l rho (d + 7) 52 77 [(2, 82), (0, v7), (0, 1), (9, 0)] [(0, (-1))] h140 Q
          refine w_istore_n (ls' := [(2, 82), (0, v7), (0, 1), (0, (-1))]) gz_52_77 gm_52 rfl rfl rfl ?_
          refine w_aload_n gz_52_78 rfl ?_
          refine v_getI (j := 9) gz_52_79 rfl is_82 rd_5 rfl (fun v150 ev150 pv150 qv150 => ?_)
          have zv150 := ev150.trans (rfl : h140 82 9 = h140 82 9)
          refine w_ifne (t := 102) gz_52_82 rfl (fun u151 => ?_) (fun u151 => by exfalso; omega)
          have c152 := ev150.symm
          exact w_vret gz_52_102 gm_52 (k0 h140 (gh140) (by omega) (by omega) Ln_h140 Sp_h140)
        ·
          have gh143 : my_fr [(4, 5), (4, 8), (4, 9), (5, 5), (5, 6), (5, 7), (5, 8), (5, 9), (32, -1), (33, -1), (34, -1), (35, -1)] h h143 := my_fr.tr gh136 (frh143.mo rfl)
          have Ln_h143 : Ln h143 := Ln_ag (my_ag.fr frh143 rfl) Ln_h136
          have Sp_h143 : Sp h143 wv := Sp_ag (my_ag.fr frh143 rfl) hwv Ln_h136 Sp_h136
          have St5_h143 : St5 h143 := St5_ag (my_ag.fr frh143 rfl) Ln_h136 St5_h136
          show wp l rho (d + 7) 52 77 [(2, 82), (0, v7), (0, 1), (9, 0)] [(0, v144)] h143 Q
          refine w_istore_n (ls' := [(2, 82), (0, v7), (0, 1), (0, v144)]) gz_52_77 gm_52 rfl rfl rfl ?_
          refine w_aload_n gz_52_78 rfl ?_
          refine v_getI (j := 9) gz_52_79 rfl is_82 rd_5 rfl (fun v153 ev153 pv153 qv153 => ?_)
          have zv153 := ev153.trans w149
          refine w_ifne (t := 102) gz_52_82 rfl (fun u154 => by exfalso; omega) (fun u154 => ?_)
          refine w_aload_n gz_52_85 rfl ?_
          refine w_inv (k := 0) (as := []) (r := []) (x := 82) (ls0 := [(2, 82)]) gz_52_86 gm_47 rfl is_82 rd_5 rfl rfl rfl rfl rfl (c_Reader_endsHere_f0 (d := (d + 4))  (ev153.symm.trans (by omega)) (fun h155 frh155 w156 w157 => ?_) (fun h158 frh158 w159 => ?_))
          ·
            have gh155 : my_fr [(4, 5), (4, 8), (4, 9), (5, 5), (5, 6), (5, 7), (5, 8), (5, 9), (32, -1), (33, -1), (34, -1), (35, -1)] h h155 := my_fr.tr gh143 (frh155.mo rfl)
            have Ln_h155 : Ln h155 := Ln_ag (my_ag.fr frh155 rfl) Ln_h143
            have Sp_h155 : Sp h155 wv := Sp_ag (my_ag.fr frh155 rfl) hwv Ln_h143 Sp_h143
            have St5_h155 : St5 h155 := St5_ag (my_ag.fr frh155 rfl) Ln_h143 St5_h143
            show wp l rho (d + 7) 52 89 [(2, 82), (0, v7), (0, 1), (0, v144)] [(0, 0)] h155 Q
            refine w_ifeq (t := 102) gz_52_89 rfl (fun u160 => ?_) (fun u160 => by exfalso; omega)
            have c161 := (rfl : h155 82 9 = h155 82 9)
            exact w_vret gz_52_102 gm_52 (k0 h155 (gh155) (by omega) (by omega) Ln_h155 Sp_h155)
          ·
            have gh158 : my_fr [(4, 5), (4, 8), (4, 9), (5, 5), (5, 6), (5, 7), (5, 8), (5, 9), (32, -1), (33, -1), (34, -1), (35, -1)] h h158 := my_fr.tr gh143 (frh158.mo rfl)
            have Ln_h158 : Ln h158 := Ln_ag (my_ag.fr frh158 rfl) Ln_h143
            have Sp_h158 : Sp h158 wv := Sp_ag (my_ag.fr frh158 rfl) hwv Ln_h143 Sp_h143
            have St5_h158 : St5 h158 := St5_ag (my_ag.fr frh158 rfl) Ln_h143 St5_h143
            show wp l rho (d + 7) 52 89 [(2, 82), (0, v7), (0, 1), (0, v144)] [(0, 1)] h158 Q
            refine w_ifeq (t := 102) gz_52_89 rfl (fun u162 => by exfalso; omega) (fun u162 => ?_)
            refine w_aload_n gz_52_92 rfl ?_
            refine v_getR (j := 2) gz_52_93 rfl is_82 rd_5 rfl (fun v163 ev163 tv163 => ?_)
            have zv163 : v1 = v163 := (ev163.trans ((my_fr.at frh158 is_82 rfl).trans ((my_fr.at frh143 is_82 rfl).trans ((my_fr.at frh136 is_82 rfl).trans ((my_fr.at frh6 is_82 rfl).trans ev1.symm))))).symm
            subst zv163
            refine w_iload_n gz_52_96 rfl ?_
            refine w_iload_n gz_52_97 rfl ?_
            refine w_iload_n gz_52_98 rfl ?_
            have ce164 : h158 82 2 = v1 := ((my_fr.at frh158 is_82 rfl).trans ((my_fr.at frh143 is_82 rfl).trans ((my_fr.at frh136 is_82 rfl).trans ((my_fr.at frh6 is_82 rfl).trans ev1.symm))))
            have s5a := St5_h158
            have s5e : v1 = h158 82 2 := by first | assumption | omega
            unfold St5 at s5a
            rw [← s5e] at s5a
            refine w_inv (k := 0) (as := [(0, v144), (0, v7), (0, 1)]) (r := []) (x := v1) (ls0 := [(2, v1), (0, 1), (0, v7), (0, v144)]) gz_52_99 gm_53 rfl tv1 rd_4 rfl rfl rfl rfl rfl (c_Lens_addCut (d := (d + 5)) (x0 := v1) (x1 := 1) (x2 := v7) (x3 := v144) tv1 (by omega) (by omega) (by omega) (by omega) (by omega) (by omega) (by first | assumption | omega | (subst_vars; omega)) (fun h165 frh165 fxh165 w166 w167 xp168 => ?_))
            have gh165 : my_fr [(4, 5), (4, 8), (4, 9), (5, 5), (5, 6), (5, 7), (5, 8), (5, 9), (32, -1), (33, -1), (34, -1), (35, -1)] h h165 := my_fr.tr gh158 (frh165.mo rfl)
            have Ln_h165 : Ln h165 := Ln_fx fxh165 (by first | assumption | omega) Ln_h158
            show wp l rho (d + 7) 52 102 [(2, 82), (0, v7), (0, 1), (0, v144)] [] h165 Q
            have Sp_h165t169 : Sp h165 wv := Sp_add fxh165 (by first | assumption | omega) hwv Ln_h158 Sp_h158 xp168 (by have := St5_h158.1; omega) (by omega) (by omega)
            have c170 := ((my_fr.at frh165 is_82 rfl).trans w159)
            exact w_vret gz_52_102 gm_52 (k1 h165 (gh165) (by omega) Ln_h165 Sp_h165t169)
    ·
      show wp l rho (d + 7) 52 18 [(2, 82), (0, v7), (9, 0), (9, 0)] [(0, 1)] h6 Q
      refine w_ifeq (t := 25) gz_52_18 rfl (fun u171 => by exfalso; omega) (fun u171 => ?_)
      refine w_iconst gz_52_21 (by decide) ?_
      refine w_goto (t := 52) gz_52_22 rfl ?_
      refine w_istore_n (ls' := [(2, 82), (0, v7), (0, 0), (9, 0)]) gz_52_52 gm_52 rfl rfl rfl ?_
      refine w_iload_n gz_52_53 rfl ?_
      refine w_iconst gz_52_54 (by decide) ?_
      refine w_icne (t := 66) gz_52_55 rfl (fun u172 => ?_) (fun u172 => by exfalso; omega)
      refine w_aload_n gz_52_66 rfl ?_
      refine w_inv (k := 2) (as := []) (r := []) (x := 82) (ls0 := [(2, 82), (9, 0), (9, 0)]) gz_52_67 gm_37 rfl is_82 rd_5 rfl rfl rfl rfl rfl (c_Reader_nextToken_f0 (d := (d + 5))  (w12.trans (by omega)) (fun h173 frh173 w174 w175 w176 => ?_))
      have gh173 : my_fr [(4, 5), (4, 8), (4, 9), (5, 5), (5, 6), (5, 7), (5, 8), (5, 9), (32, -1), (33, -1), (34, -1), (35, -1)] h h173 := my_fr.tr gh6 (frh173.mo rfl)
      have Ln_h173 : Ln h173 := Ln_ag (my_ag.fr frh173 rfl) Ln_h6
      have Sp_h173 : Sp h173 wv := Sp_ag (my_ag.fr frh173 rfl) hwv Ln_h6 Sp_h6
      have St5_h173 : St5 h173 := St5_ag (my_ag.fr frh173 rfl) Ln_h6 St5_h6
      show wp l rho (d + 7) 52 70 [(2, 82), (0, v7), (0, 0), (9, 0)] [] h173 Q
      refine w_aload_n gz_52_70 rfl ?_
      refine w_sipush gz_52_71 (by decide) ?_
      refine w_inv (k := 1) (as := [(0, 200)]) (r := []) (x := 82) (ls0 := [(2, 82), (0, 200), (9, 0)]) gz_52_74 gm_51 rfl is_82 rd_5 rfl rfl rfl rfl rfl (c_Reader_takeNumber_f0 (d := (d + 4)) (x1 := 200) (by omega) (by omega) (((my_fr.at frh173 is_82 rfl).trans w12).trans (by omega)) (fun h177 frh177 w178 w179 => ?_) (fun h180 v181 frh180 w182 w183 w184 w185 w186 => ?_))
      ·
        have gh177 : my_fr [(4, 5), (4, 8), (4, 9), (5, 5), (5, 6), (5, 7), (5, 8), (5, 9), (32, -1), (33, -1), (34, -1), (35, -1)] h h177 := my_fr.tr gh173 (frh177.mo rfl)
        have Ln_h177 : Ln h177 := Ln_ag (my_ag.fr frh177 rfl) Ln_h173
        have Sp_h177 : Sp h177 wv := Sp_ag (my_ag.fr frh177 rfl) hwv Ln_h173 Sp_h173
        have St5_h177 : St5 h177 := St5_ag (my_ag.fr frh177 rfl) Ln_h173 St5_h173
        show wp l rho (d + 7) 52 77 [(2, 82), (0, v7), (0, 0), (9, 0)] [(0, (-1))] h177 Q
        refine w_istore_n (ls' := [(2, 82), (0, v7), (0, 0), (0, (-1))]) gz_52_77 gm_52 rfl rfl rfl ?_
        refine w_aload_n gz_52_78 rfl ?_
        refine v_getI (j := 9) gz_52_79 rfl is_82 rd_5 rfl (fun v187 ev187 pv187 qv187 => ?_)
        have zv187 := ev187.trans (rfl : h177 82 9 = h177 82 9)
        refine w_ifne (t := 102) gz_52_82 rfl (fun u188 => ?_) (fun u188 => by exfalso; omega)
        have c189 := ev187.symm
        exact w_vret gz_52_102 gm_52 (k0 h177 (gh177) (by omega) (by omega) Ln_h177 Sp_h177)
      ·
        have gh180 : my_fr [(4, 5), (4, 8), (4, 9), (5, 5), (5, 6), (5, 7), (5, 8), (5, 9), (32, -1), (33, -1), (34, -1), (35, -1)] h h180 := my_fr.tr gh173 (frh180.mo rfl)
        have Ln_h180 : Ln h180 := Ln_ag (my_ag.fr frh180 rfl) Ln_h173
        have Sp_h180 : Sp h180 wv := Sp_ag (my_ag.fr frh180 rfl) hwv Ln_h173 Sp_h173
        have St5_h180 : St5 h180 := St5_ag (my_ag.fr frh180 rfl) Ln_h173 St5_h173
        show wp l rho (d + 7) 52 77 [(2, 82), (0, v7), (0, 0), (9, 0)] [(0, v181)] h180 Q
        refine w_istore_n (ls' := [(2, 82), (0, v7), (0, 0), (0, v181)]) gz_52_77 gm_52 rfl rfl rfl ?_
        refine w_aload_n gz_52_78 rfl ?_
        refine v_getI (j := 9) gz_52_79 rfl is_82 rd_5 rfl (fun v190 ev190 pv190 qv190 => ?_)
        have zv190 := ev190.trans w186
        refine w_ifne (t := 102) gz_52_82 rfl (fun u191 => by exfalso; omega) (fun u191 => ?_)
        refine w_aload_n gz_52_85 rfl ?_
        refine w_inv (k := 0) (as := []) (r := []) (x := 82) (ls0 := [(2, 82)]) gz_52_86 gm_47 rfl is_82 rd_5 rfl rfl rfl rfl rfl (c_Reader_endsHere_f0 (d := (d + 4))  (ev190.symm.trans (by omega)) (fun h192 frh192 w193 w194 => ?_) (fun h195 frh195 w196 => ?_))
        ·
          have gh192 : my_fr [(4, 5), (4, 8), (4, 9), (5, 5), (5, 6), (5, 7), (5, 8), (5, 9), (32, -1), (33, -1), (34, -1), (35, -1)] h h192 := my_fr.tr gh180 (frh192.mo rfl)
          have Ln_h192 : Ln h192 := Ln_ag (my_ag.fr frh192 rfl) Ln_h180
          have Sp_h192 : Sp h192 wv := Sp_ag (my_ag.fr frh192 rfl) hwv Ln_h180 Sp_h180
          have St5_h192 : St5 h192 := St5_ag (my_ag.fr frh192 rfl) Ln_h180 St5_h180
          show wp l rho (d + 7) 52 89 [(2, 82), (0, v7), (0, 0), (0, v181)] [(0, 0)] h192 Q
          refine w_ifeq (t := 102) gz_52_89 rfl (fun u197 => ?_) (fun u197 => by exfalso; omega)
          have c198 := (rfl : h192 82 9 = h192 82 9)
          exact w_vret gz_52_102 gm_52 (k0 h192 (gh192) (by omega) (by omega) Ln_h192 Sp_h192)
        ·
          have gh195 : my_fr [(4, 5), (4, 8), (4, 9), (5, 5), (5, 6), (5, 7), (5, 8), (5, 9), (32, -1), (33, -1), (34, -1), (35, -1)] h h195 := my_fr.tr gh180 (frh195.mo rfl)
          have Ln_h195 : Ln h195 := Ln_ag (my_ag.fr frh195 rfl) Ln_h180
          have Sp_h195 : Sp h195 wv := Sp_ag (my_ag.fr frh195 rfl) hwv Ln_h180 Sp_h180
          have St5_h195 : St5 h195 := St5_ag (my_ag.fr frh195 rfl) Ln_h180 St5_h180
          show wp l rho (d + 7) 52 89 [(2, 82), (0, v7), (0, 0), (0, v181)] [(0, 1)] h195 Q
          refine w_ifeq (t := 102) gz_52_89 rfl (fun u199 => by exfalso; omega) (fun u199 => ?_)
          refine w_aload_n gz_52_92 rfl ?_
          refine v_getR (j := 2) gz_52_93 rfl is_82 rd_5 rfl (fun v200 ev200 tv200 => ?_)
          have zv200 : v1 = v200 := (ev200.trans ((my_fr.at frh195 is_82 rfl).trans ((my_fr.at frh180 is_82 rfl).trans ((my_fr.at frh173 is_82 rfl).trans ((my_fr.at frh6 is_82 rfl).trans ev1.symm))))).symm
          subst zv200
          refine w_iload_n gz_52_96 rfl ?_
          refine w_iload_n gz_52_97 rfl ?_
          refine w_iload_n gz_52_98 rfl ?_
          have ce201 : h195 82 2 = v1 := ((my_fr.at frh195 is_82 rfl).trans ((my_fr.at frh180 is_82 rfl).trans ((my_fr.at frh173 is_82 rfl).trans ((my_fr.at frh6 is_82 rfl).trans ev1.symm))))
          have s5a := St5_h195
          have s5e : v1 = h195 82 2 := by first | assumption | omega
          unfold St5 at s5a
          rw [← s5e] at s5a
          refine w_inv (k := 0) (as := [(0, v181), (0, v7), (0, 0)]) (r := []) (x := v1) (ls0 := [(2, v1), (0, 0), (0, v7), (0, v181)]) gz_52_99 gm_53 rfl tv1 rd_4 rfl rfl rfl rfl rfl (c_Lens_addCut (d := (d + 5)) (x0 := v1) (x1 := 0) (x2 := v7) (x3 := v181) tv1 (by omega) (by omega) (by omega) (by omega) (by omega) (by omega) (by first | assumption | omega | (subst_vars; omega)) (fun h202 frh202 fxh202 w203 w204 xp205 => ?_))
          have gh202 : my_fr [(4, 5), (4, 8), (4, 9), (5, 5), (5, 6), (5, 7), (5, 8), (5, 9), (32, -1), (33, -1), (34, -1), (35, -1)] h h202 := my_fr.tr gh195 (frh202.mo rfl)
          have Ln_h202 : Ln h202 := Ln_fx fxh202 (by first | assumption | omega) Ln_h195
          show wp l rho (d + 7) 52 102 [(2, 82), (0, v7), (0, 0), (0, v181)] [] h202 Q
          have Sp_h202t206 : Sp h202 wv := Sp_add fxh202 (by first | assumption | omega) hwv Ln_h195 Sp_h195 xp205 (by have := St5_h195.1; omega) (by omega) (by omega)
          have c207 := ((my_fr.at frh202 is_82 rfl).trans w196)
          exact w_vret gz_52_102 gm_52 (k1 h202 (gh202) (by omega) Ln_h202 Sp_h202t206)
theorem c_Reader_readFew_f0 {l : Launch} {rho : Nat → Int32} {d : Nat} {h : my_H} {Q : my_H → my_V → Prop} {wv : Int} (cf : h 82 9 = 0) (hwv : wv ≤ 5) (hwv0 : 0 ≤ wv) (n_Ln : Ln h) (n_Sp : Sp h wv) (n_St5 : St5 h) (k0 : ∀ (h' : my_H), my_fr [(4, 4), (4, 5), (4, 9), (5, 5), (5, 6), (5, 7), (5, 8), (5, 9), (32, -1), (33, -1), (34, -1), (35, -1), (36, -1), (37, -1), (39, -1)] h h' → 1 ≤ h' 82 9 → h' 82 9 ≤ 16004 → Ln h' → Sp h' wv → Q h' (9, 0)) (k1 : ∀ (h' : my_H), my_fr [(4, 4), (4, 5), (4, 9), (5, 5), (5, 6), (5, 7), (5, 8), (5, 9), (32, -1), (33, -1), (34, -1), (35, -1), (36, -1), (37, -1), (39, -1)] h h' → h' 82 9 = 0 → Ln h' → Sp h' wv → Q h' (9, 0)) : wp l rho (d + 2) 56 0 [(2, 82), (9, 0), (9, 0)] [] h Q := by
  have J2_0 : ∀ (n : Nat) (p2_0 : Int) (h2_0 : my_H), my_fr [(4, 4), (4, 5), (4, 9), (5, 5), (5, 6), (5, 7), (5, 8), (5, 9), (32, -1), (33, -1), (34, -1), (35, -1), (36, -1), (37, -1), (39, -1)] h h2_0 → 0 ≤ p2_0 → p2_0 ≤ 8 → h2_0 82 9 = 0 → Ln h2_0 → Sp h2_0 wv → St5 h2_0 → Pk h2_0 p2_0 → 9 - p2_0 ≤ (n : Int) → wp l rho (d + 2) 56 2 [(2, 82), (0, p2_0), (9, 0)] [] h2_0 Q := by
    intro n
    induction n with
    | zero => intro p2_0 h2_0 gh_2_0 q0_2_0 q1_2_0 c82_9_2_0 n_Ln_2_0 n_Sp_2_0 n_St5_2_0 n_Pk_2_0 hm_2_0; exfalso; omega
    | succ n ih_2_0 =>
      intro p2_0 h2_0 gh_2_0 q0_2_0 q1_2_0 c82_9_2_0 n_Ln_2_0 n_Sp_2_0 n_St5_2_0 n_Pk_2_0 hm_2_0
      refine w_aload_n gz_56_2 rfl ?_
      refine w_aload_n gz_56_3 rfl ?_
      refine v_getR (j := 2) gz_56_4 rfl is_82 rd_5 rfl (fun v1 ev1 tv1 => ?_)
      refine v_getI (j := 4) gz_56_7 rfl tv1 rd_4 rfl (fun v2 ev2 pv2 qv2 => ?_)
      refine w_inv (k := 0) (as := [(0, v2)]) (r := []) (x := 82) (ls0 := [(2, 82), (0, v2)]) gz_56_10 gm_44 rfl is_82 rd_5 rfl rfl rfl rfl rfl ?_
      refine w_aload_n gz_44_0 rfl ?_
      refine v_getI (j := 6) gz_44_1 rfl is_82 rd_5 rfl (fun v3 ev3 pv3 qv3 => ?_)
      refine w_iconst gz_44_4 (by decide) ?_
      refine w_iceq (t := 15) gz_44_5 rfl (fun u4 => ?_) (fun u4 => ?_)
      ·
        refine w_aload_n gz_44_15 rfl ?_
        refine v_getI (j := 8) gz_44_16 rfl is_82 rd_5 rfl (fun v5 ev5 pv5 qv5 => ?_)
        refine w_iload_n gz_44_19 rfl ?_
        refine w_iclt (t := 30) gz_44_20 rfl (fun u6 => ?_) (fun u6 => ?_)
        ·
          refine w_aload_n gz_44_30 rfl ?_
          refine v_getI (j := 9) gz_44_31 rfl is_82 rd_5 rfl (fun v7 ev7 pv7 qv7 => ?_)
          have zv7 := ev7.trans c82_9_2_0
          refine w_ifne (t := 44) gz_44_34 rfl (fun u8 => by exfalso; omega) (fun u8 => ?_)
          refine w_aload_n gz_44_37 rfl ?_
          refine v_getI (j := 8) gz_44_38 rfl is_82 rd_5 rfl (fun v9 ev9 pv9 qv9 => ?_)
          have zv9 := ev9.trans ev5.symm
          refine w_goto (t := 45) gz_44_41 rfl ?_
          refine w_iret gz_44_45 gm_44 ?_
          show wp l rho (d + 2) 56 13 [(2, 82), (0, p2_0), (9, 0)] [(0, v9)] h2_0 Q
          refine w_istore_n (ls' := [(2, 82), (0, p2_0), (0, v9)]) gz_56_13 gm_56 rfl rfl rfl ?_
          refine w_iload_n gz_56_14 rfl ?_
          refine w_iconst gz_56_15 (by decide) ?_
          refine w_icne (t := 20) gz_56_16 rfl (fun u10 => ?_) (fun u10 => by exfalso; omega)
          refine w_aload_n gz_56_20 rfl ?_
          refine v_getR (j := 2) gz_56_21 rfl is_82 rd_5 rfl (fun v11 ev11 tv11 => ?_)
          have zv11 : v1 = v11 := (ev11.trans ev1.symm).symm
          subst zv11
          refine w_iload_n gz_56_24 rfl ?_
          refine w_iload_n gz_56_25 rfl ?_
          have ce12 : h2_0 82 2 = v1 := ev1.symm
          have s5a := n_St5_2_0
          have s5e : v1 = h2_0 82 2 := by first | assumption | omega
          unfold St5 at s5a
          rw [← s5e] at s5a
          refine w_inv (k := 1) (as := [(0, p2_0), (0, v9)]) (r := []) (x := v1) (ls0 := [(2, v1), (0, v9), (0, p2_0), (9, 0)]) gz_56_26 gm_57 rfl tv1 rd_4 rfl rfl rfl rfl rfl (c_Lens_isPicked (d := (d + 1)) (x0 := v1) (x1 := v9) (x2 := p2_0) tv1 (by omega) (by omega) (by omega) (by omega) (by first | assumption | omega | (subst_vars; omega)) (fun xp13 => ?_) (fun w14 => ?_))
          ·
            show wp l rho (d + 2) 56 29 [(2, 82), (0, p2_0), (0, v9)] [(0, 0)] h2_0 Q
            have np := xp13
            refine w_ifeq (t := 38) gz_56_29 rfl (fun u15 => ?_) (fun u15 => by exfalso; omega)
            refine w_aload_n gz_56_38 rfl ?_
            refine v_getR (j := 2) gz_56_39 rfl is_82 rd_5 rfl (fun v16 ev16 tv16 => ?_)
            have zv16 : v1 = v16 := (ev16.trans ev1.symm).symm
            subst zv16
            refine w_iload_n gz_56_42 rfl ?_
            refine w_iinc (ls' := [(2, 82), (0, (p2_0 + 1)), (0, v9)]) gz_56_43 rfl gm_56 rfl rfl rfl ⟨by omega, by omega⟩ ?_
            refine w_iload_n gz_56_46 rfl ?_
            have ce17 : h2_0 82 2 = v1 := ev1.symm
            have sv : v1 = h2_0 82 2 := by omega
            have pk7 := n_Pk_2_0
            refine v_knowA (x := (v1 + 5)) (ix_4_5 tv1) rd_36 (fun kA => ?_)
            have hp7 : p2_0 ≤ 7 := by
              rw [sv] at kA s5a
              have np2 := np
              rw [sv] at np2
              exact pick7 (f := fun i => h2_0 (h2_0 82 2 + 5) (h2_0 (h2_0 82 2) 9 * 8 + i)) (by omega) (fun i a b => kA _ (by omega) (by omega)) (fun i j a b c => pk7 i j a b c) (by omega) (by omega) (fun i a b => np2 i a b)
            have hi18 : 0 ≤ p2_0 := by omega
            have hi19 : p2_0 ≤ 7 := by omega
            refine w_inv (k := 0) (as := [(0, v9), (0, p2_0)]) (r := []) (x := v1) (ls0 := [(2, v1), (0, p2_0), (0, v9)]) gz_56_47 gm_58 rfl tv1 rd_4 rfl rfl rfl rfl rfl ?_
            refine w_aload_n gz_58_0 rfl ?_
            refine w_getX (v := (v1 + 5)) gz_58_1 tv1 rd_4 rfl (by decide) rfl ?_
            refine w_aload_n gz_58_4 rfl ?_
            refine v_getI (j := 9) gz_58_5 rfl tv1 rd_4 rfl (fun v21 ev21 pv21 qv21 => ?_)
            refine w_bipush gz_58_8 (by decide) ?_
            refine w_imul gz_58_10 ⟨by omega, by omega⟩ ?_
            refine w_iload_n gz_58_11 rfl ?_
            refine w_iadd gz_58_12 ⟨by omega, by omega⟩ ?_
            refine w_iload_n gz_58_13 rfl ?_
            have hi22 : 0 ≤ ((v21 * 8) + p2_0) := by omega
            have hi23 : ((v21 * 8) + p2_0) ≤ 47 := by omega
            refine w_iast gz_58_14 (ix_4_5 tv1) rd_36 (by omega) (by omega) (by omega) (by omega) (fun h24 fh24 => ?_)
            have gh24 : my_fr [(4, 4), (4, 5), (4, 9), (5, 5), (5, 6), (5, 7), (5, 8), (5, 9), (32, -1), (33, -1), (34, -1), (35, -1), (36, -1), (37, -1), (39, -1)] h h24 := my_fr.up gh_2_0 (ix_4_5 tv1) fh24 rfl
            have Ln_h24 : Ln h24 := Ln_ag (my_ag.up fh24 (ix_4_5 tv1) rfl) n_Ln_2_0
            have Sp_h24 : Sp h24 wv := Sp_ag (my_ag.up fh24 (ix_4_5 tv1) rfl) hwv n_Ln_2_0 n_Sp_2_0
            have St5_h24 : St5 h24 := St5_ag (my_ag.up fh24 (ix_4_5 tv1) rfl) n_Ln_2_0 n_St5_2_0
            refine w_vret gz_58_15 gm_58 ?_
            show wp l rho (d + 2) 56 50 [(2, 82), (0, (p2_0 + 1)), (0, v9)] [] h24 Q
            have Pk_h24t25 : Pk h24 (p2_0 + 1) := Pk_add n_Ln_2_0 n_Pk_2_0 sv (by omega) fh24 np
            refine w_aload_n gz_56_50 rfl ?_
            refine w_inv (k := 2) (as := []) (r := []) (x := 82) (ls0 := [(2, 82), (9, 0), (9, 0)]) gz_56_51 gm_37 rfl is_82 rd_5 rfl rfl rfl rfl rfl (c_Reader_nextToken_f0 (d := d)  (((my_up_role fh24 is_82 (ix_4_5 tv1) rfl).trans ev7.symm).trans (by omega)) (fun h26 frh26 w27 w28 w29 => ?_))
            have gh26 : my_fr [(4, 4), (4, 5), (4, 9), (5, 5), (5, 6), (5, 7), (5, 8), (5, 9), (32, -1), (33, -1), (34, -1), (35, -1), (36, -1), (37, -1), (39, -1)] h h26 := my_fr.tr gh24 (frh26.mo rfl)
            have Ln_h26 : Ln h26 := Ln_ag (my_ag.fr frh26 rfl) Ln_h24
            have Sp_h26 : Sp h26 wv := Sp_ag (my_ag.fr frh26 rfl) hwv Ln_h24 Sp_h24
            have St5_h26 : St5 h26 := St5_ag (my_ag.fr frh26 rfl) Ln_h24 St5_h24
            have Pk_h26 : Pk h26 (p2_0 + 1) := Pk_ag (my_ag.fr frh26 rfl) Ln_h24 Pk_h24t25
            show wp l rho (d + 2) 56 54 [(2, 82), (0, (p2_0 + 1)), (0, v9)] [] h26 Q
            refine w_aload_n gz_56_54 rfl ?_
            refine v_getI (j := 6) gz_56_55 rfl is_82 rd_5 rfl (fun v30 ev30 pv30 qv30 => ?_)
            have zv30 := ev30.trans (rfl : h26 82 6 = h26 82 6)
            refine w_iconst gz_56_58 (by decide) ?_
            refine w_iceq (t := 68) gz_56_59 rfl (fun u31 => ?_) (fun u31 => ?_)
            ·
              refine w_aload_n gz_56_68 rfl ?_
              refine w_inv (k := 2) (as := []) (r := []) (x := 82) (ls0 := [(2, 82), (9, 0), (9, 0)]) gz_56_69 gm_37 rfl is_82 rd_5 rfl rfl rfl rfl rfl (c_Reader_nextToken_f0 (d := d)  (((my_fr.at frh26 is_82 rfl).trans ((my_up_role fh24 is_82 (ix_4_5 tv1) rfl).trans ev7.symm)).trans (by omega)) (fun h32 frh32 w33 w34 w35 => ?_))
              have gh32 : my_fr [(4, 4), (4, 5), (4, 9), (5, 5), (5, 6), (5, 7), (5, 8), (5, 9), (32, -1), (33, -1), (34, -1), (35, -1), (36, -1), (37, -1), (39, -1)] h h32 := my_fr.tr gh26 (frh32.mo rfl)
              have Ln_h32 : Ln h32 := Ln_ag (my_ag.fr frh32 rfl) Ln_h26
              have Sp_h32 : Sp h32 wv := Sp_ag (my_ag.fr frh32 rfl) hwv Ln_h26 Sp_h26
              have St5_h32 : St5 h32 := St5_ag (my_ag.fr frh32 rfl) Ln_h26 St5_h26
              have Pk_h32 : Pk h32 (p2_0 + 1) := Pk_ag (my_ag.fr frh32 rfl) Ln_h26 Pk_h26
              show wp l rho (d + 2) 56 72 [(2, 82), (0, (p2_0 + 1)), (0, v9)] [] h32 Q
              refine w_aload_n gz_56_72 rfl ?_
              refine v_getR (j := 2) gz_56_73 rfl is_82 rd_5 rfl (fun v36 ev36 tv36 => ?_)
              have zv36 : v1 = v36 := (ev36.trans ((my_fr.at frh32 is_82 rfl).trans ((my_fr.at frh26 is_82 rfl).trans ((my_up_role fh24 is_82 (ix_4_5 tv1) rfl).trans ev1.symm)))).symm
              subst zv36
              refine w_iload_n gz_56_76 rfl ?_
              have ce37 : h32 82 2 = v1 := ((my_fr.at frh32 is_82 rfl).trans ((my_fr.at frh26 is_82 rfl).trans ((my_up_role fh24 is_82 (ix_4_5 tv1) rfl).trans ev1.symm)))
              have s5a := St5_h32
              have s5e : v1 = h32 82 2 := by first | assumption | omega
              unfold St5 at s5a
              rw [← s5e] at s5a
              have hi38 : 1 ≤ (p2_0 + 1) := by omega
              have hi39 : (p2_0 + 1) ≤ 8 := by omega
              refine w_inv (k := 1) (as := [(0, (p2_0 + 1))]) (r := []) (x := v1) (ls0 := [(2, v1), (0, (p2_0 + 1)), (9, 0)]) gz_56_77 gm_59 rfl tv1 rd_4 rfl rfl rfl rfl rfl (c_Lens_addFew (d := d) (x0 := v1) (x1 := (p2_0 + 1)) tv1 (by omega) (by omega) (by first | assumption | omega | (subst_vars; omega)) (fun h40 frh40 fxh40 w41 w42 w43 w44 xp45 => ?_))
              have gh40 : my_fr [(4, 4), (4, 5), (4, 9), (5, 5), (5, 6), (5, 7), (5, 8), (5, 9), (32, -1), (33, -1), (34, -1), (35, -1), (36, -1), (37, -1), (39, -1)] h h40 := my_fr.tr gh32 (frh40.mo rfl)
              have Ln_h40 : Ln h40 := Ln_fx fxh40 (by first | assumption | omega) Ln_h32
              show wp l rho (d + 2) 56 80 [(2, 82), (0, (p2_0 + 1)), (0, v9)] [] h40 Q
              have Sp_h40t46 : Sp h40 wv := Sp_add fxh40 (by first | assumption | omega) hwv Ln_h32 Sp_h32 xp45 (by have := St5_h32.1; omega) (by omega) (by omega)
              have c47 := ((my_fr.at frh40 is_82 rfl).trans ((my_fr.at frh32 is_82 rfl).trans ((my_fr.at frh26 is_82 rfl).trans ((my_up_role fh24 is_82 (ix_4_5 tv1) rfl).trans ev7.symm))))
              exact w_vret gz_56_80 gm_56 (k1 h40 (gh40) (by omega) Ln_h40 Sp_h40t46)
            ·
              refine w_iload_n gz_56_62 rfl ?_
              refine w_bipush gz_56_63 (by decide) ?_
              refine w_icle (t := 2) gz_56_65 rfl (fun u48 => ?_) (fun u48 => by exfalso; omega)
              refine w_weak (ls' := [(2, 82), (0, (p2_0 + 1)), (9, 0)]) (wk_e (wk_e (wk_9 wk_n))) ?_
              exact ih_2_0 ((p2_0 + 1)) h26 (gh26) (by omega) (by omega) (((my_fr.at frh26 is_82 rfl).trans ((my_up_role fh24 is_82 (ix_4_5 tv1) rfl).trans ev7.symm)).trans (by omega)) Ln_h26 Sp_h26 St5_h26 Pk_h26 (by omega)
          ·
            show wp l rho (d + 2) 56 29 [(2, 82), (0, p2_0), (0, v9)] [(0, 1)] h2_0 Q
            refine w_ifeq (t := 38) gz_56_29 rfl (fun u49 => by exfalso; omega) (fun u49 => ?_)
            refine w_aload_n gz_56_32 rfl ?_
            refine w_iconst gz_56_33 (by decide) ?_
            refine w_inv (k := 0) (as := [(0, 3)]) (r := []) (x := 82) (ls0 := [(2, 82), (0, 3)]) gz_56_34 gm_42 rfl is_82 rd_5 rfl rfl rfl rfl rfl ?_
            refine w_aload_n gz_42_0 rfl ?_
            refine v_getI (j := 9) gz_42_1 rfl is_82 rd_5 rfl (fun v50 ev50 pv50 qv50 => ?_)
            have zv50 := ev50.trans ev7.symm
            refine w_ifne (t := 20) gz_42_4 rfl (fun u51 => by exfalso; omega) (fun u51 => ?_)
            refine w_aload_n gz_42_7 rfl ?_
            refine w_iload_n gz_42_8 rfl ?_
            refine w_bipush gz_42_9 (by decide) ?_
            refine w_aload_n gz_42_11 rfl ?_
            refine v_getI (j := 7) gz_42_12 rfl is_82 rd_5 rfl (fun v52 ev52 pv52 qv52 => ?_)
            refine w_imul gz_42_15 ⟨by omega, by omega⟩ ?_
            refine w_iadd gz_42_16 ⟨by omega, by omega⟩ ?_
            refine v_putI (j := 9) gz_42_17 rfl is_82 rd_5 rfl (by omega) (by omega) rfl (fun h53 fh53 => ?_)
            have gh53 : my_fr [(4, 4), (4, 5), (4, 9), (5, 5), (5, 6), (5, 7), (5, 8), (5, 9), (32, -1), (33, -1), (34, -1), (35, -1), (36, -1), (37, -1), (39, -1)] h h53 := my_fr.up gh_2_0 is_82 fh53 rfl
            have Ln_h53 : Ln h53 := Ln_ag (my_ag.up fh53 is_82 rfl) n_Ln_2_0
            have Sp_h53 : Sp h53 wv := Sp_ag (my_ag.up fh53 is_82 rfl) hwv n_Ln_2_0 n_Sp_2_0
            have St5_h53 : St5 h53 := St5_ag (my_ag.up fh53 is_82 rfl) n_Ln_2_0 n_St5_2_0
            have Pk_h53 : Pk h53 p2_0 := Pk_ag (my_ag.up fh53 is_82 rfl) n_Ln_2_0 n_Pk_2_0
            refine w_vret gz_42_20 gm_42 ?_
            show wp l rho (d + 2) 56 37 [(2, 82), (0, p2_0), (0, v9)] [] h53 Q
            have c54 := (my_up_self fh53)
            exact w_vret gz_56_37 gm_56 (k0 h53 (gh53) (by omega) (by omega) Ln_h53 Sp_h53)
        ·
          refine w_aload_n gz_44_23 rfl ?_
          refine w_iconst gz_44_24 (by decide) ?_
          refine w_inv (k := 0) (as := [(0, 4)]) (r := []) (x := 82) (ls0 := [(2, 82), (0, 4)]) gz_44_25 gm_42 rfl is_82 rd_5 rfl rfl rfl rfl rfl ?_
          refine w_aload_n gz_42_0 rfl ?_
          refine v_getI (j := 9) gz_42_1 rfl is_82 rd_5 rfl (fun v55 ev55 pv55 qv55 => ?_)
          have zv55 := ev55.trans c82_9_2_0
          refine w_ifne (t := 20) gz_42_4 rfl (fun u56 => by exfalso; omega) (fun u56 => ?_)
          refine w_aload_n gz_42_7 rfl ?_
          refine w_iload_n gz_42_8 rfl ?_
          refine w_bipush gz_42_9 (by decide) ?_
          refine w_aload_n gz_42_11 rfl ?_
          refine v_getI (j := 7) gz_42_12 rfl is_82 rd_5 rfl (fun v57 ev57 pv57 qv57 => ?_)
          refine w_imul gz_42_15 ⟨by omega, by omega⟩ ?_
          refine w_iadd gz_42_16 ⟨by omega, by omega⟩ ?_
          refine v_putI (j := 9) gz_42_17 rfl is_82 rd_5 rfl (by omega) (by omega) rfl (fun h58 fh58 => ?_)
          have gh58 : my_fr [(4, 4), (4, 5), (4, 9), (5, 5), (5, 6), (5, 7), (5, 8), (5, 9), (32, -1), (33, -1), (34, -1), (35, -1), (36, -1), (37, -1), (39, -1)] h h58 := my_fr.up gh_2_0 is_82 fh58 rfl
          have Ln_h58 : Ln h58 := Ln_ag (my_ag.up fh58 is_82 rfl) n_Ln_2_0
          have Sp_h58 : Sp h58 wv := Sp_ag (my_ag.up fh58 is_82 rfl) hwv n_Ln_2_0 n_Sp_2_0
          have St5_h58 : St5 h58 := St5_ag (my_ag.up fh58 is_82 rfl) n_Ln_2_0 n_St5_2_0
          have Pk_h58 : Pk h58 p2_0 := Pk_ag (my_ag.up fh58 is_82 rfl) n_Ln_2_0 n_Pk_2_0
          refine w_vret gz_42_20 gm_42 ?_
          show wp l rho (d + 1) 44 28 [(2, 82), (0, v2)] [] h58 _
          refine w_iconst gz_44_28 (by decide) ?_
          refine w_iret gz_44_29 gm_44 ?_
          show wp l rho (d + 2) 56 13 [(2, 82), (0, p2_0), (9, 0)] [(0, (-1))] h58 Q
          refine w_istore_n (ls' := [(2, 82), (0, p2_0), (0, (-1))]) gz_56_13 gm_56 rfl rfl rfl ?_
          refine w_iload_n gz_56_14 rfl ?_
          refine w_iconst gz_56_15 (by decide) ?_
          refine w_icne (t := 20) gz_56_16 rfl (fun u59 => by exfalso; omega) (fun u59 => ?_)
          have c60 := (my_up_self fh58)
          exact w_vret gz_56_19 gm_56 (k0 h58 (gh58) (by omega) (by omega) Ln_h58 Sp_h58)
      ·
        refine w_aload_n gz_44_8 rfl ?_
        refine w_iconst gz_44_9 (by decide) ?_
        refine w_inv (k := 0) (as := [(0, 1)]) (r := []) (x := 82) (ls0 := [(2, 82), (0, 1)]) gz_44_10 gm_42 rfl is_82 rd_5 rfl rfl rfl rfl rfl ?_
        refine w_aload_n gz_42_0 rfl ?_
        refine v_getI (j := 9) gz_42_1 rfl is_82 rd_5 rfl (fun v61 ev61 pv61 qv61 => ?_)
        have zv61 := ev61.trans c82_9_2_0
        refine w_ifne (t := 20) gz_42_4 rfl (fun u62 => by exfalso; omega) (fun u62 => ?_)
        refine w_aload_n gz_42_7 rfl ?_
        refine w_iload_n gz_42_8 rfl ?_
        refine w_bipush gz_42_9 (by decide) ?_
        refine w_aload_n gz_42_11 rfl ?_
        refine v_getI (j := 7) gz_42_12 rfl is_82 rd_5 rfl (fun v63 ev63 pv63 qv63 => ?_)
        refine w_imul gz_42_15 ⟨by omega, by omega⟩ ?_
        refine w_iadd gz_42_16 ⟨by omega, by omega⟩ ?_
        refine v_putI (j := 9) gz_42_17 rfl is_82 rd_5 rfl (by omega) (by omega) rfl (fun h64 fh64 => ?_)
        have gh64 : my_fr [(4, 4), (4, 5), (4, 9), (5, 5), (5, 6), (5, 7), (5, 8), (5, 9), (32, -1), (33, -1), (34, -1), (35, -1), (36, -1), (37, -1), (39, -1)] h h64 := my_fr.up gh_2_0 is_82 fh64 rfl
        have Ln_h64 : Ln h64 := Ln_ag (my_ag.up fh64 is_82 rfl) n_Ln_2_0
        have Sp_h64 : Sp h64 wv := Sp_ag (my_ag.up fh64 is_82 rfl) hwv n_Ln_2_0 n_Sp_2_0
        have St5_h64 : St5 h64 := St5_ag (my_ag.up fh64 is_82 rfl) n_Ln_2_0 n_St5_2_0
        have Pk_h64 : Pk h64 p2_0 := Pk_ag (my_ag.up fh64 is_82 rfl) n_Ln_2_0 n_Pk_2_0
        refine w_vret gz_42_20 gm_42 ?_
        show wp l rho (d + 1) 44 13 [(2, 82), (0, v2)] [] h64 _
        refine w_iconst gz_44_13 (by decide) ?_
        refine w_iret gz_44_14 gm_44 ?_
        show wp l rho (d + 2) 56 13 [(2, 82), (0, p2_0), (9, 0)] [(0, (-1))] h64 Q
        refine w_istore_n (ls' := [(2, 82), (0, p2_0), (0, (-1))]) gz_56_13 gm_56 rfl rfl rfl ?_
        refine w_iload_n gz_56_14 rfl ?_
        refine w_iconst gz_56_15 (by decide) ?_
        refine w_icne (t := 20) gz_56_16 rfl (fun u65 => by exfalso; omega) (fun u65 => ?_)
        have c66 := (my_up_self fh64)
        exact w_vret gz_56_19 gm_56 (k0 h64 (gh64) (by omega) (by omega) Ln_h64 Sp_h64)
  refine w_iconst gz_56_0 (by decide) ?_
  refine w_istore_n (ls' := [(2, 82), (0, 0), (9, 0)]) gz_56_1 gm_56 rfl rfl rfl ?_
  exact J2_0 9 (0) h (my_fr.rf) (by omega) (by omega) (cf.trans (by omega)) n_Ln n_Sp n_St5 (fun i j a b c => absurd c (by omega)) (by omega)
theorem c_Reader_readJoin_f0 {l : Launch} {rho : Nat → Int32} {d : Nat} {h : my_H} {Q : my_H → my_V → Prop} {wv : Int} (cf : h 82 9 = 0) (hwv : wv ≤ 5) (hwv0 : 0 ≤ wv) (n_Ln : Ln h) (n_Sp : Sp h wv) (n_St5 : St5 h) (k0 : ∀ (h' : my_H), my_fr [(4, 4), (4, 5), (4, 6), (4, 8), (4, 9), (5, 5), (5, 6), (5, 7), (5, 8), (5, 9), (32, -1), (33, -1), (34, -1), (35, -1), (37, -1)] h h' → 1 ≤ h' 82 9 → h' 82 9 ≤ 16005 → Ln h' → Sp h' wv → Q h' (9, 0)) (k1 : ∀ (h' : my_H), my_fr [(4, 4), (4, 5), (4, 6), (4, 8), (4, 9), (5, 5), (5, 6), (5, 7), (5, 8), (5, 9), (32, -1), (33, -1), (34, -1), (35, -1), (37, -1)] h h' → h' 82 9 = 0 → Ln h' → Sp h' wv → Q h' (9, 0)) : wp l rho (d + 7) 60 0 [(2, 82), (9, 0), (9, 0), (9, 0)] [] h Q := by
  refine w_aload_n gz_60_0 rfl ?_
  refine w_inv (k := 1) (as := []) (r := []) (x := 82) (ls0 := [(2, 82), (9, 0)]) gz_60_1 gm_43 rfl is_82 rd_5 rfl rfl rfl rfl rfl (c_Reader_wallNumber_f0 (d := (d + 4))  (cf.trans (by omega)) (fun h1 frh1 w2 w3 xp4 => ?_) (fun h5 v6 frh5 w7 w8 w9 w10 w11 w12 xp13 => ?_))
  ·
    have gh1 : my_fr [(4, 4), (4, 5), (4, 6), (4, 8), (4, 9), (5, 5), (5, 6), (5, 7), (5, 8), (5, 9), (32, -1), (33, -1), (34, -1), (35, -1), (37, -1)] h h1 := my_fr.tr my_fr.rf (frh1.mo rfl)
    have Ln_h1 : Ln h1 := Ln_ag (my_ag.fr frh1 rfl) n_Ln
    have Sp_h1 : Sp h1 wv := Sp_ag (my_ag.fr frh1 rfl) hwv n_Ln n_Sp
    have St5_h1 : St5 h1 := St5_ag (my_ag.fr frh1 rfl) n_Ln n_St5
    show wp l rho (d + 7) 60 4 [(2, 82), (9, 0), (9, 0), (9, 0)] [(0, (-1))] h1 Q
    refine w_istore_n (ls' := [(2, 82), (0, (-1)), (9, 0), (9, 0)]) gz_60_4 gm_60 rfl rfl rfl ?_
    refine w_iload_n gz_60_5 rfl ?_
    refine w_iconst gz_60_6 (by decide) ?_
    refine w_icne (t := 11) gz_60_7 rfl (fun u14 => by exfalso; omega) (fun u14 => ?_)
    have c15 := (rfl : h1 82 9 = h1 82 9)
    exact w_vret gz_60_10 gm_60 (k0 h1 (gh1) (by omega) (by omega) Ln_h1 Sp_h1)
  ·
    have gh5 : my_fr [(4, 4), (4, 5), (4, 6), (4, 8), (4, 9), (5, 5), (5, 6), (5, 7), (5, 8), (5, 9), (32, -1), (33, -1), (34, -1), (35, -1), (37, -1)] h h5 := my_fr.tr my_fr.rf (frh5.mo rfl)
    have Ln_h5 : Ln h5 := Ln_ag (my_ag.fr frh5 rfl) n_Ln
    have Sp_h5 : Sp h5 wv := Sp_ag (my_ag.fr frh5 rfl) hwv n_Ln n_Sp
    have St5_h5 : St5 h5 := St5_ag (my_ag.fr frh5 rfl) n_Ln n_St5
    show wp l rho (d + 7) 60 4 [(2, 82), (9, 0), (9, 0), (9, 0)] [(0, v6)] h5 Q
    refine w_istore_n (ls' := [(2, 82), (0, v6), (9, 0), (9, 0)]) gz_60_4 gm_60 rfl rfl rfl ?_
    refine w_iload_n gz_60_5 rfl ?_
    refine w_iconst gz_60_6 (by decide) ?_
    refine w_icne (t := 11) gz_60_7 rfl (fun u16 => ?_) (fun u16 => by exfalso; omega)
    refine w_aload_n gz_60_11 rfl ?_
    refine w_getX (v := 1) gz_60_12 is_82 rd_5 rfl (by decide) rfl ?_
    refine w_getX (v := 2) gz_60_15 is_1 rd_3 rfl (by decide) rfl ?_
    refine w_iload_n gz_60_18 rfl ?_
    refine w_iald gz_60_19 is_2 rd_25 (by omega) (by omega) (fun v19 ev19 pv19 qv19 => ?_)
    refine w_istore_n (ls' := [(2, 82), (0, v6), (0, v19), (9, 0)]) gz_60_20 gm_60 rfl rfl rfl ?_
    refine w_aload_n gz_60_21 rfl ?_
    refine v_getR (j := 2) gz_60_22 rfl is_82 rd_5 rfl (fun v20 ev20 tv20 => ?_)
    have ce21 : h5 v20 4 = h v20 4 := ((my_fr.at frh5 tv20 rfl).trans (rfl : h v20 4 = h v20 4))
    refine v_getI (j := 4) gz_60_25 rfl tv20 rd_4 rfl (fun v22 ev22 pv22 qv22 => ?_)
    refine w_iload_n gz_60_28 rfl ?_
    refine w_iadd gz_60_29 ⟨by omega, by omega⟩ ?_
    refine w_iconst gz_60_30 (by decide) ?_
    refine w_isub gz_60_31 ⟨by omega, by omega⟩ ?_
    refine w_bipush gz_60_32 (by decide) ?_
    refine w_icle (t := 43) gz_60_34 rfl (fun u23 => ?_) (fun u23 => ?_)
    ·
      refine w_aload_n gz_60_43 rfl ?_
      refine w_inv (k := 2) (as := []) (r := []) (x := 82) (ls0 := [(2, 82), (9, 0), (9, 0)]) gz_60_44 gm_37 rfl is_82 rd_5 rfl rfl rfl rfl rfl (c_Reader_nextToken_f0 (d := (d + 5))  (w12.trans (by omega)) (fun h24 frh24 w25 w26 w27 => ?_))
      have gh24 : my_fr [(4, 4), (4, 5), (4, 6), (4, 8), (4, 9), (5, 5), (5, 6), (5, 7), (5, 8), (5, 9), (32, -1), (33, -1), (34, -1), (35, -1), (37, -1)] h h24 := my_fr.tr gh5 (frh24.mo rfl)
      have Ln_h24 : Ln h24 := Ln_ag (my_ag.fr frh24 rfl) Ln_h5
      have Sp_h24 : Sp h24 wv := Sp_ag (my_ag.fr frh24 rfl) hwv Ln_h5 Sp_h5
      have St5_h24 : St5 h24 := St5_ag (my_ag.fr frh24 rfl) Ln_h5 St5_h5
      show wp l rho (d + 7) 60 47 [(2, 82), (0, v6), (0, v19), (9, 0)] [] h24 Q
      refine w_aload_n gz_60_47 rfl ?_
      refine w_ldcS gz_60_48 (by decide) ?_
      refine w_inv (k := 0) (as := [(3, ((12 : Nat) : Int))]) (r := []) (x := 82) (ls0 := [(2, 82), (3, ((12 : Nat) : Int))]) gz_60_50 gm_40 rfl is_82 rd_5 rfl rfl rfl rfl rfl (c_Reader_takeWord_f0 (d := d) (x1 := ((12 : Nat) : Int)) (by decide) (((my_fr.at frh24 is_82 rfl).trans w12).trans (by omega)) (fun h28 frh28 w29 w30 => ?_) (fun h31 frh31 w32 => ?_))
      ·
        have gh28 : my_fr [(4, 4), (4, 5), (4, 6), (4, 8), (4, 9), (5, 5), (5, 6), (5, 7), (5, 8), (5, 9), (32, -1), (33, -1), (34, -1), (35, -1), (37, -1)] h h28 := my_fr.tr gh24 (frh28.mo rfl)
        have Ln_h28 : Ln h28 := Ln_ag (my_ag.fr frh28 rfl) Ln_h24
        have Sp_h28 : Sp h28 wv := Sp_ag (my_ag.fr frh28 rfl) hwv Ln_h24 Sp_h24
        have St5_h28 : St5 h28 := St5_ag (my_ag.fr frh28 rfl) Ln_h24 St5_h24
        show wp l rho (d + 7) 60 53 [(2, 82), (0, v6), (0, v19), (9, 0)] [(0, 0)] h28 Q
        refine w_ifne (t := 57) gz_60_53 rfl (fun u33 => by exfalso; omega) (fun u33 => ?_)
        have c34 := (rfl : h28 82 9 = h28 82 9)
        exact w_vret gz_60_56 gm_60 (k0 h28 (gh28) (by omega) (by omega) Ln_h28 Sp_h28)
      ·
        have gh31 : my_fr [(4, 4), (4, 5), (4, 6), (4, 8), (4, 9), (5, 5), (5, 6), (5, 7), (5, 8), (5, 9), (32, -1), (33, -1), (34, -1), (35, -1), (37, -1)] h h31 := my_fr.tr gh24 (frh31.mo rfl)
        have Ln_h31 : Ln h31 := Ln_ag (my_ag.fr frh31 rfl) Ln_h24
        have Sp_h31 : Sp h31 wv := Sp_ag (my_ag.fr frh31 rfl) hwv Ln_h24 Sp_h24
        have St5_h31 : St5 h31 := St5_ag (my_ag.fr frh31 rfl) Ln_h24 St5_h24
        show wp l rho (d + 7) 60 53 [(2, 82), (0, v6), (0, v19), (9, 0)] [(0, 1)] h31 Q
        refine w_ifne (t := 57) gz_60_53 rfl (fun u35 => ?_) (fun u35 => by exfalso; omega)
        refine w_aload_n gz_60_57 rfl ?_
        refine w_aload_n gz_60_58 rfl ?_
        refine v_getR (j := 2) gz_60_59 rfl is_82 rd_5 rfl (fun v36 ev36 tv36 => ?_)
        have zv36 : v20 = v36 := (ev36.trans ((my_fr.at frh31 is_82 rfl).trans ((my_fr.at frh24 is_82 rfl).trans ev20.symm))).symm
        subst zv36
        refine v_getI (j := 4) gz_60_62 rfl tv20 rd_4 rfl (fun v37 ev37 pv37 qv37 => ?_)
        have zv37 := ev37.trans ((my_fr.at frh31 tv20 rfl).trans ((my_fr.at frh24 tv20 rfl).trans ev22.symm))
        refine w_inv (k := 1) (as := [(0, v37)]) (r := []) (x := 82) (ls0 := [(2, 82), (0, v37), (9, 0)]) gz_60_65 gm_51 rfl is_82 rd_5 rfl rfl rfl rfl rfl (c_Reader_takeNumber_f0 (d := (d + 4)) (x1 := v37) (by omega) (by omega) (w32.trans (by omega)) (fun h38 frh38 w39 w40 => ?_) (fun h41 v42 frh41 w43 w44 w45 w46 w47 => ?_))
        ·
          have gh38 : my_fr [(4, 4), (4, 5), (4, 6), (4, 8), (4, 9), (5, 5), (5, 6), (5, 7), (5, 8), (5, 9), (32, -1), (33, -1), (34, -1), (35, -1), (37, -1)] h h38 := my_fr.tr gh31 (frh38.mo rfl)
          have Ln_h38 : Ln h38 := Ln_ag (my_ag.fr frh38 rfl) Ln_h31
          have Sp_h38 : Sp h38 wv := Sp_ag (my_ag.fr frh38 rfl) hwv Ln_h31 Sp_h31
          have St5_h38 : St5 h38 := St5_ag (my_ag.fr frh38 rfl) Ln_h31 St5_h31
          show wp l rho (d + 7) 60 68 [(2, 82), (0, v6), (0, v19), (9, 0)] [(0, (-1))] h38 Q
          refine w_istore_n (ls' := [(2, 82), (0, v6), (0, v19), (0, (-1))]) gz_60_68 gm_60 rfl rfl rfl ?_
          refine w_aload_n gz_60_69 rfl ?_
          refine v_getI (j := 9) gz_60_70 rfl is_82 rd_5 rfl (fun v48 ev48 pv48 qv48 => ?_)
          have zv48 := ev48.trans (rfl : h38 82 9 = h38 82 9)
          refine w_ifne (t := 93) gz_60_73 rfl (fun u49 => ?_) (fun u49 => by exfalso; omega)
          have c50 := ev48.symm
          exact w_vret gz_60_93 gm_60 (k0 h38 (gh38) (by omega) (by omega) Ln_h38 Sp_h38)
        ·
          have gh41 : my_fr [(4, 4), (4, 5), (4, 6), (4, 8), (4, 9), (5, 5), (5, 6), (5, 7), (5, 8), (5, 9), (32, -1), (33, -1), (34, -1), (35, -1), (37, -1)] h h41 := my_fr.tr gh31 (frh41.mo rfl)
          have Ln_h41 : Ln h41 := Ln_ag (my_ag.fr frh41 rfl) Ln_h31
          have Sp_h41 : Sp h41 wv := Sp_ag (my_ag.fr frh41 rfl) hwv Ln_h31 Sp_h31
          have St5_h41 : St5 h41 := St5_ag (my_ag.fr frh41 rfl) Ln_h31 St5_h31
          show wp l rho (d + 7) 60 68 [(2, 82), (0, v6), (0, v19), (9, 0)] [(0, v42)] h41 Q
          refine w_istore_n (ls' := [(2, 82), (0, v6), (0, v19), (0, v42)]) gz_60_68 gm_60 rfl rfl rfl ?_
          refine w_aload_n gz_60_69 rfl ?_
          refine v_getI (j := 9) gz_60_70 rfl is_82 rd_5 rfl (fun v51 ev51 pv51 qv51 => ?_)
          have zv51 := ev51.trans w47
          refine w_ifne (t := 93) gz_60_73 rfl (fun u52 => by exfalso; omega) (fun u52 => ?_)
          refine w_aload_n gz_60_76 rfl ?_
          refine w_inv (k := 0) (as := []) (r := []) (x := 82) (ls0 := [(2, 82)]) gz_60_77 gm_47 rfl is_82 rd_5 rfl rfl rfl rfl rfl (c_Reader_endsHere_f0 (d := (d + 4))  (ev51.symm.trans (by omega)) (fun h53 frh53 w54 w55 => ?_) (fun h56 frh56 w57 => ?_))
          ·
            have gh53 : my_fr [(4, 4), (4, 5), (4, 6), (4, 8), (4, 9), (5, 5), (5, 6), (5, 7), (5, 8), (5, 9), (32, -1), (33, -1), (34, -1), (35, -1), (37, -1)] h h53 := my_fr.tr gh41 (frh53.mo rfl)
            have Ln_h53 : Ln h53 := Ln_ag (my_ag.fr frh53 rfl) Ln_h41
            have Sp_h53 : Sp h53 wv := Sp_ag (my_ag.fr frh53 rfl) hwv Ln_h41 Sp_h41
            have St5_h53 : St5 h53 := St5_ag (my_ag.fr frh53 rfl) Ln_h41 St5_h41
            show wp l rho (d + 7) 60 80 [(2, 82), (0, v6), (0, v19), (0, v42)] [(0, 0)] h53 Q
            refine w_ifeq (t := 93) gz_60_80 rfl (fun u58 => ?_) (fun u58 => by exfalso; omega)
            have c59 := (rfl : h53 82 9 = h53 82 9)
            exact w_vret gz_60_93 gm_60 (k0 h53 (gh53) (by omega) (by omega) Ln_h53 Sp_h53)
          ·
            have gh56 : my_fr [(4, 4), (4, 5), (4, 6), (4, 8), (4, 9), (5, 5), (5, 6), (5, 7), (5, 8), (5, 9), (32, -1), (33, -1), (34, -1), (35, -1), (37, -1)] h h56 := my_fr.tr gh41 (frh56.mo rfl)
            have Ln_h56 : Ln h56 := Ln_ag (my_ag.fr frh56 rfl) Ln_h41
            have Sp_h56 : Sp h56 wv := Sp_ag (my_ag.fr frh56 rfl) hwv Ln_h41 Sp_h41
            have St5_h56 : St5 h56 := St5_ag (my_ag.fr frh56 rfl) Ln_h41 St5_h41
            show wp l rho (d + 7) 60 80 [(2, 82), (0, v6), (0, v19), (0, v42)] [(0, 1)] h56 Q
            refine w_ifeq (t := 93) gz_60_80 rfl (fun u60 => by exfalso; omega) (fun u60 => ?_)
            refine w_aload_n gz_60_83 rfl ?_
            refine v_getR (j := 2) gz_60_84 rfl is_82 rd_5 rfl (fun v61 ev61 tv61 => ?_)
            have zv61 : v20 = v61 := (ev61.trans ((my_fr.at frh56 is_82 rfl).trans ((my_fr.at frh41 is_82 rfl).trans ((my_fr.at frh31 is_82 rfl).trans ((my_fr.at frh24 is_82 rfl).trans ev20.symm))))).symm
            subst zv61
            refine w_iload_n gz_60_87 rfl ?_
            refine w_iload_n gz_60_88 rfl ?_
            refine w_iload_n gz_60_89 rfl ?_
            have ce62 : h56 82 2 = v20 := ((my_fr.at frh56 is_82 rfl).trans ((my_fr.at frh41 is_82 rfl).trans ((my_fr.at frh31 is_82 rfl).trans ((my_fr.at frh24 is_82 rfl).trans ev20.symm))))
            have s5a := St5_h56
            have s5e : v20 = h56 82 2 := by first | assumption | omega
            unfold St5 at s5a
            rw [← s5e] at s5a
            have ce63 : h56 v20 4 = h v20 4 := ((my_fr.at frh56 tv20 rfl).trans ((my_fr.at frh41 tv20 rfl).trans ((my_fr.at frh31 tv20 rfl).trans ((my_fr.at frh24 tv20 rfl).trans ((my_fr.at frh5 tv20 rfl).trans (rfl : h v20 4 = h v20 4))))))
            have hi64 : 1 ≤ v19 := by first | omega | (subst_vars; omega) | grind
            have hi65 : v19 ≤ 4 := by first | omega | (subst_vars; omega) | grind
            refine w_inv (k := 1) (as := [(0, v42), (0, v19), (0, v6)]) (r := []) (x := v20) (ls0 := [(2, v20), (0, v6), (0, v19), (0, v42), (9, 0)]) gz_60_90 gm_61 rfl tv20 rd_4 rfl rfl rfl rfl rfl (c_Lens_addJoin (d := (d + 5)) (x0 := v20) (x1 := v6) (x2 := v19) (x3 := v42) tv20 (by omega) (by omega) (by omega) (by omega) (by omega) (by omega) (by first | assumption | omega | (subst_vars; omega)) (by first | assumption | omega | (subst_vars; omega)) (fun h66 frh66 fxh66 w67 w68 xp69 => ?_))
            have gh66 : my_fr [(4, 4), (4, 5), (4, 6), (4, 8), (4, 9), (5, 5), (5, 6), (5, 7), (5, 8), (5, 9), (32, -1), (33, -1), (34, -1), (35, -1), (37, -1)] h h66 := my_fr.tr gh56 (frh66.mo rfl)
            have Ln_h66 : Ln h66 := Ln_fx fxh66 (by first | assumption | omega) Ln_h56
            show wp l rho (d + 7) 60 93 [(2, 82), (0, v6), (0, v19), (0, v42)] [] h66 Q
            have Sp_h66t70 : Sp h66 wv := Sp_add fxh66 (by first | assumption | omega) hwv Ln_h56 Sp_h56 xp69 (by have := St5_h56.1; omega) (by omega) (by omega)
            have c71 := ((my_fr.at frh66 is_82 rfl).trans w57)
            exact w_vret gz_60_93 gm_60 (k1 h66 (gh66) (by omega) Ln_h66 Sp_h66t70)
    ·
      refine w_aload_n gz_60_37 rfl ?_
      refine w_iconst gz_60_38 (by decide) ?_
      refine w_inv (k := 0) (as := [(0, 5)]) (r := []) (x := 82) (ls0 := [(2, 82), (0, 5)]) gz_60_39 gm_42 rfl is_82 rd_5 rfl rfl rfl rfl rfl ?_
      refine w_aload_n gz_42_0 rfl ?_
      refine v_getI (j := 9) gz_42_1 rfl is_82 rd_5 rfl (fun v72 ev72 pv72 qv72 => ?_)
      have zv72 := ev72.trans w12
      refine w_ifne (t := 20) gz_42_4 rfl (fun u73 => by exfalso; omega) (fun u73 => ?_)
      refine w_aload_n gz_42_7 rfl ?_
      refine w_iload_n gz_42_8 rfl ?_
      refine w_bipush gz_42_9 (by decide) ?_
      refine w_aload_n gz_42_11 rfl ?_
      refine v_getI (j := 7) gz_42_12 rfl is_82 rd_5 rfl (fun v74 ev74 pv74 qv74 => ?_)
      refine w_imul gz_42_15 ⟨by omega, by omega⟩ ?_
      refine w_iadd gz_42_16 ⟨by omega, by omega⟩ ?_
      refine v_putI (j := 9) gz_42_17 rfl is_82 rd_5 rfl (by omega) (by omega) rfl (fun h75 fh75 => ?_)
      have gh75 : my_fr [(4, 4), (4, 5), (4, 6), (4, 8), (4, 9), (5, 5), (5, 6), (5, 7), (5, 8), (5, 9), (32, -1), (33, -1), (34, -1), (35, -1), (37, -1)] h h75 := my_fr.up gh5 is_82 fh75 rfl
      have Ln_h75 : Ln h75 := Ln_ag (my_ag.up fh75 is_82 rfl) Ln_h5
      have Sp_h75 : Sp h75 wv := Sp_ag (my_ag.up fh75 is_82 rfl) hwv Ln_h5 Sp_h5
      have St5_h75 : St5 h75 := St5_ag (my_ag.up fh75 is_82 rfl) Ln_h5 St5_h5
      refine w_vret gz_42_20 gm_42 ?_
      show wp l rho (d + 7) 60 42 [(2, 82), (0, v6), (0, v19), (9, 0)] [] h75 Q
      have c76 := (my_up_self fh75)
      exact w_vret gz_60_42 gm_60 (k0 h75 (gh75) (by omega) (by omega) Ln_h75 Sp_h75)
theorem c_Reader_readSum_f0 {l : Launch} {rho : Nat → Int32} {d : Nat} {h : my_H} {Q : my_H → my_V → Prop} {wv : Int} (cf : h 82 9 = 0) (hwv : wv ≤ 5) (hwv0 : 0 ≤ wv) (n_Ln : Ln h) (n_Sp : Sp h wv) (n_St5 : St5 h) (k0 : ∀ (h' : my_H), my_fr [(4, 4), (4, 5), (4, 7), (4, 8), (4, 9), (5, 5), (5, 6), (5, 7), (5, 8), (5, 9), (32, -1), (33, -1), (34, -1), (35, -1), (37, -1)] h h' → 1 ≤ h' 82 9 → h' 82 9 ≤ 16004 → Ln h' → Sp h' wv → Q h' (9, 0)) (k1 : ∀ (h' : my_H), my_fr [(4, 4), (4, 5), (4, 7), (4, 8), (4, 9), (5, 5), (5, 6), (5, 7), (5, 8), (5, 9), (32, -1), (33, -1), (34, -1), (35, -1), (37, -1)] h h' → h' 82 9 = 0 → Ln h' → Sp h' wv → Q h' (9, 0)) : wp l rho (d + 7) 62 0 [(2, 82), (9, 0), (9, 0)] [] h Q := by
  refine w_aload_n gz_62_0 rfl ?_
  refine w_aload_n gz_62_1 rfl ?_
  refine v_getR (j := 2) gz_62_2 rfl is_82 rd_5 rfl (fun v1 ev1 tv1 => ?_)
  refine v_getI (j := 4) gz_62_5 rfl tv1 rd_4 rfl (fun v2 ev2 pv2 qv2 => ?_)
  refine w_inv (k := 1) (as := [(0, v2)]) (r := []) (x := 82) (ls0 := [(2, 82), (0, v2), (9, 0)]) gz_62_8 gm_51 rfl is_82 rd_5 rfl rfl rfl rfl rfl (c_Reader_takeNumber_f0 (d := (d + 4)) (x1 := v2) (by omega) (by omega) (cf.trans (by omega)) (fun h3 frh3 w4 w5 => ?_) (fun h6 v7 frh6 w8 w9 w10 w11 w12 => ?_))
  ·
    have gh3 : my_fr [(4, 4), (4, 5), (4, 7), (4, 8), (4, 9), (5, 5), (5, 6), (5, 7), (5, 8), (5, 9), (32, -1), (33, -1), (34, -1), (35, -1), (37, -1)] h h3 := my_fr.tr my_fr.rf (frh3.mo rfl)
    have Ln_h3 : Ln h3 := Ln_ag (my_ag.fr frh3 rfl) n_Ln
    have Sp_h3 : Sp h3 wv := Sp_ag (my_ag.fr frh3 rfl) hwv n_Ln n_Sp
    have St5_h3 : St5 h3 := St5_ag (my_ag.fr frh3 rfl) n_Ln n_St5
    show wp l rho (d + 7) 62 11 [(2, 82), (9, 0), (9, 0)] [(0, (-1))] h3 Q
    refine w_istore_n (ls' := [(2, 82), (0, (-1)), (9, 0)]) gz_62_11 gm_62 rfl rfl rfl ?_
    refine w_aload_n gz_62_12 rfl ?_
    refine v_getI (j := 9) gz_62_13 rfl is_82 rd_5 rfl (fun v13 ev13 pv13 qv13 => ?_)
    have zv13 := ev13.trans (rfl : h3 82 9 = h3 82 9)
    refine w_ifne (t := 28) gz_62_16 rfl (fun u14 => ?_) (fun u14 => by exfalso; omega)
    have c15 := ev13.symm
    exact w_vret gz_62_28 gm_62 (k0 h3 (gh3) (by omega) (by omega) Ln_h3 Sp_h3)
  ·
    have gh6 : my_fr [(4, 4), (4, 5), (4, 7), (4, 8), (4, 9), (5, 5), (5, 6), (5, 7), (5, 8), (5, 9), (32, -1), (33, -1), (34, -1), (35, -1), (37, -1)] h h6 := my_fr.tr my_fr.rf (frh6.mo rfl)
    have Ln_h6 : Ln h6 := Ln_ag (my_ag.fr frh6 rfl) n_Ln
    have Sp_h6 : Sp h6 wv := Sp_ag (my_ag.fr frh6 rfl) hwv n_Ln n_Sp
    have St5_h6 : St5 h6 := St5_ag (my_ag.fr frh6 rfl) n_Ln n_St5
    show wp l rho (d + 7) 62 11 [(2, 82), (9, 0), (9, 0)] [(0, v7)] h6 Q
    refine w_istore_n (ls' := [(2, 82), (0, v7), (9, 0)]) gz_62_11 gm_62 rfl rfl rfl ?_
    refine w_aload_n gz_62_12 rfl ?_
    refine v_getI (j := 9) gz_62_13 rfl is_82 rd_5 rfl (fun v16 ev16 pv16 qv16 => ?_)
    have zv16 := ev16.trans w12
    refine w_ifne (t := 28) gz_62_16 rfl (fun u17 => by exfalso; omega) (fun u17 => ?_)
    refine w_aload_n gz_62_19 rfl ?_
    refine w_ldcS gz_62_20 (by decide) ?_
    refine w_inv (k := 0) (as := [(3, ((12 : Nat) : Int))]) (r := []) (x := 82) (ls0 := [(2, 82), (3, ((12 : Nat) : Int))]) gz_62_22 gm_40 rfl is_82 rd_5 rfl rfl rfl rfl rfl (c_Reader_takeWord_f0 (d := d) (x1 := ((12 : Nat) : Int)) (by decide) (ev16.symm.trans (by omega)) (fun h18 frh18 w19 w20 => ?_) (fun h21 frh21 w22 => ?_))
    ·
      have gh18 : my_fr [(4, 4), (4, 5), (4, 7), (4, 8), (4, 9), (5, 5), (5, 6), (5, 7), (5, 8), (5, 9), (32, -1), (33, -1), (34, -1), (35, -1), (37, -1)] h h18 := my_fr.tr gh6 (frh18.mo rfl)
      have Ln_h18 : Ln h18 := Ln_ag (my_ag.fr frh18 rfl) Ln_h6
      have Sp_h18 : Sp h18 wv := Sp_ag (my_ag.fr frh18 rfl) hwv Ln_h6 Sp_h6
      have St5_h18 : St5 h18 := St5_ag (my_ag.fr frh18 rfl) Ln_h6 St5_h6
      show wp l rho (d + 7) 62 25 [(2, 82), (0, v7), (9, 0)] [(0, 0)] h18 Q
      refine w_ifne (t := 29) gz_62_25 rfl (fun u23 => by exfalso; omega) (fun u23 => ?_)
      have c24 := (rfl : h18 82 9 = h18 82 9)
      exact w_vret gz_62_28 gm_62 (k0 h18 (gh18) (by omega) (by omega) Ln_h18 Sp_h18)
    ·
      have gh21 : my_fr [(4, 4), (4, 5), (4, 7), (4, 8), (4, 9), (5, 5), (5, 6), (5, 7), (5, 8), (5, 9), (32, -1), (33, -1), (34, -1), (35, -1), (37, -1)] h h21 := my_fr.tr gh6 (frh21.mo rfl)
      have Ln_h21 : Ln h21 := Ln_ag (my_ag.fr frh21 rfl) Ln_h6
      have Sp_h21 : Sp h21 wv := Sp_ag (my_ag.fr frh21 rfl) hwv Ln_h6 Sp_h6
      have St5_h21 : St5 h21 := St5_ag (my_ag.fr frh21 rfl) Ln_h6 St5_h6
      show wp l rho (d + 7) 62 25 [(2, 82), (0, v7), (9, 0)] [(0, 1)] h21 Q
      refine w_ifne (t := 29) gz_62_25 rfl (fun u25 => ?_) (fun u25 => by exfalso; omega)
      refine w_aload_n gz_62_29 rfl ?_
      refine w_aload_n gz_62_30 rfl ?_
      refine v_getR (j := 2) gz_62_31 rfl is_82 rd_5 rfl (fun v26 ev26 tv26 => ?_)
      have zv26 : v1 = v26 := (ev26.trans ((my_fr.at frh21 is_82 rfl).trans ((my_fr.at frh6 is_82 rfl).trans ev1.symm))).symm
      subst zv26
      refine v_getI (j := 4) gz_62_34 rfl tv1 rd_4 rfl (fun v27 ev27 pv27 qv27 => ?_)
      have zv27 := ev27.trans ((my_fr.at frh21 tv1 rfl).trans ((my_fr.at frh6 tv1 rfl).trans ev2.symm))
      refine w_inv (k := 0) (as := [(0, v27)]) (r := []) (x := 82) (ls0 := [(2, 82), (0, v27)]) gz_62_37 gm_44 rfl is_82 rd_5 rfl rfl rfl rfl rfl ?_
      refine w_aload_n gz_44_0 rfl ?_
      refine v_getI (j := 6) gz_44_1 rfl is_82 rd_5 rfl (fun v28 ev28 pv28 qv28 => ?_)
      refine w_iconst gz_44_4 (by decide) ?_
      refine w_iceq (t := 15) gz_44_5 rfl (fun u29 => ?_) (fun u29 => ?_)
      ·
        refine w_aload_n gz_44_15 rfl ?_
        refine v_getI (j := 8) gz_44_16 rfl is_82 rd_5 rfl (fun v30 ev30 pv30 qv30 => ?_)
        refine w_iload_n gz_44_19 rfl ?_
        refine w_iclt (t := 30) gz_44_20 rfl (fun u31 => ?_) (fun u31 => ?_)
        ·
          refine w_aload_n gz_44_30 rfl ?_
          refine v_getI (j := 9) gz_44_31 rfl is_82 rd_5 rfl (fun v32 ev32 pv32 qv32 => ?_)
          have zv32 := ev32.trans w22
          refine w_ifne (t := 44) gz_44_34 rfl (fun u33 => by exfalso; omega) (fun u33 => ?_)
          refine w_aload_n gz_44_37 rfl ?_
          refine v_getI (j := 8) gz_44_38 rfl is_82 rd_5 rfl (fun v34 ev34 pv34 qv34 => ?_)
          have zv34 := ev34.trans ev30.symm
          refine w_goto (t := 45) gz_44_41 rfl ?_
          refine w_iret gz_44_45 gm_44 ?_
          show wp l rho (d + 7) 62 40 [(2, 82), (0, v7), (9, 0)] [(0, v34)] h21 Q
          refine w_istore_n (ls' := [(2, 82), (0, v7), (0, v34)]) gz_62_40 gm_62 rfl rfl rfl ?_
          refine w_iload_n gz_62_41 rfl ?_
          refine w_iconst gz_62_42 (by decide) ?_
          refine w_iceq (t := 59) gz_62_43 rfl (fun u35 => by exfalso; omega) (fun u35 => ?_)
          refine w_iload_n gz_62_46 rfl ?_
          refine w_iload_n gz_62_47 rfl ?_
          refine w_icne (t := 59) gz_62_48 rfl (fun u36 => ?_) (fun u36 => ?_)
          ·
            refine w_iload_n gz_62_59 rfl ?_
            refine w_iconst gz_62_60 (by decide) ?_
            refine w_iceq (t := 84) gz_62_61 rfl (fun u37 => by exfalso; omega) (fun u37 => ?_)
            refine w_aload_n gz_62_64 rfl ?_
            refine w_inv (k := 2) (as := []) (r := []) (x := 82) (ls0 := [(2, 82), (9, 0), (9, 0)]) gz_62_65 gm_37 rfl is_82 rd_5 rfl rfl rfl rfl rfl (c_Reader_nextToken_f0 (d := (d + 5))  (ev32.symm.trans (by omega)) (fun h38 frh38 w39 w40 w41 => ?_))
            have gh38 : my_fr [(4, 4), (4, 5), (4, 7), (4, 8), (4, 9), (5, 5), (5, 6), (5, 7), (5, 8), (5, 9), (32, -1), (33, -1), (34, -1), (35, -1), (37, -1)] h h38 := my_fr.tr gh21 (frh38.mo rfl)
            have Ln_h38 : Ln h38 := Ln_ag (my_ag.fr frh38 rfl) Ln_h21
            have Sp_h38 : Sp h38 wv := Sp_ag (my_ag.fr frh38 rfl) hwv Ln_h21 Sp_h21
            have St5_h38 : St5 h38 := St5_ag (my_ag.fr frh38 rfl) Ln_h21 St5_h21
            show wp l rho (d + 7) 62 68 [(2, 82), (0, v7), (0, v34)] [] h38 Q
            refine w_aload_n gz_62_68 rfl ?_
            refine w_inv (k := 0) (as := []) (r := []) (x := 82) (ls0 := [(2, 82)]) gz_62_69 gm_47 rfl is_82 rd_5 rfl rfl rfl rfl rfl (c_Reader_endsHere_f0 (d := (d + 4))  (((my_fr.at frh38 is_82 rfl).trans ev32.symm).trans (by omega)) (fun h42 frh42 w43 w44 => ?_) (fun h45 frh45 w46 => ?_))
            ·
              have gh42 : my_fr [(4, 4), (4, 5), (4, 7), (4, 8), (4, 9), (5, 5), (5, 6), (5, 7), (5, 8), (5, 9), (32, -1), (33, -1), (34, -1), (35, -1), (37, -1)] h h42 := my_fr.tr gh38 (frh42.mo rfl)
              have Ln_h42 : Ln h42 := Ln_ag (my_ag.fr frh42 rfl) Ln_h38
              have Sp_h42 : Sp h42 wv := Sp_ag (my_ag.fr frh42 rfl) hwv Ln_h38 Sp_h38
              have St5_h42 : St5 h42 := St5_ag (my_ag.fr frh42 rfl) Ln_h38 St5_h38
              show wp l rho (d + 7) 62 72 [(2, 82), (0, v7), (0, v34)] [(0, 0)] h42 Q
              refine w_ifeq (t := 84) gz_62_72 rfl (fun u47 => ?_) (fun u47 => by exfalso; omega)
              have c48 := (rfl : h42 82 9 = h42 82 9)
              exact w_vret gz_62_84 gm_62 (k0 h42 (gh42) (by omega) (by omega) Ln_h42 Sp_h42)
            ·
              have gh45 : my_fr [(4, 4), (4, 5), (4, 7), (4, 8), (4, 9), (5, 5), (5, 6), (5, 7), (5, 8), (5, 9), (32, -1), (33, -1), (34, -1), (35, -1), (37, -1)] h h45 := my_fr.tr gh38 (frh45.mo rfl)
              have Ln_h45 : Ln h45 := Ln_ag (my_ag.fr frh45 rfl) Ln_h38
              have Sp_h45 : Sp h45 wv := Sp_ag (my_ag.fr frh45 rfl) hwv Ln_h38 Sp_h38
              have St5_h45 : St5 h45 := St5_ag (my_ag.fr frh45 rfl) Ln_h38 St5_h38
              show wp l rho (d + 7) 62 72 [(2, 82), (0, v7), (0, v34)] [(0, 1)] h45 Q
              refine w_ifeq (t := 84) gz_62_72 rfl (fun u49 => by exfalso; omega) (fun u49 => ?_)
              refine w_aload_n gz_62_75 rfl ?_
              refine v_getR (j := 2) gz_62_76 rfl is_82 rd_5 rfl (fun v50 ev50 tv50 => ?_)
              have zv50 : v1 = v50 := (ev50.trans ((my_fr.at frh45 is_82 rfl).trans ((my_fr.at frh38 is_82 rfl).trans ((my_fr.at frh21 is_82 rfl).trans ((my_fr.at frh6 is_82 rfl).trans ev1.symm))))).symm
              subst zv50
              refine w_iload_n gz_62_79 rfl ?_
              refine w_iload_n gz_62_80 rfl ?_
              have ce51 : h45 82 2 = v1 := ((my_fr.at frh45 is_82 rfl).trans ((my_fr.at frh38 is_82 rfl).trans ((my_fr.at frh21 is_82 rfl).trans ((my_fr.at frh6 is_82 rfl).trans ev1.symm))))
              have s5a := St5_h45
              have s5e : v1 = h45 82 2 := by first | assumption | omega
              unfold St5 at s5a
              rw [← s5e] at s5a
              refine w_inv (k := 0) (as := [(0, v34), (0, v7)]) (r := []) (x := v1) (ls0 := [(2, v1), (0, v7), (0, v34)]) gz_62_81 gm_63 rfl tv1 rd_4 rfl rfl rfl rfl rfl (c_Lens_addSum (d := (d + 5)) (x0 := v1) (x1 := v7) (x2 := v34) tv1 (by omega) (by omega) (by omega) (by omega) (by first | assumption | omega | (subst_vars; omega)) (fun h52 frh52 fxh52 w53 w54 w55 w56 xp57 => ?_))
              have gh52 : my_fr [(4, 4), (4, 5), (4, 7), (4, 8), (4, 9), (5, 5), (5, 6), (5, 7), (5, 8), (5, 9), (32, -1), (33, -1), (34, -1), (35, -1), (37, -1)] h h52 := my_fr.tr gh45 (frh52.mo rfl)
              have Ln_h52 : Ln h52 := Ln_fx fxh52 (by first | assumption | omega) Ln_h45
              show wp l rho (d + 7) 62 84 [(2, 82), (0, v7), (0, v34)] [] h52 Q
              have Sp_h52t58 : Sp h52 wv := Sp_add fxh52 (by first | assumption | omega) hwv Ln_h45 Sp_h45 xp57 (by have := St5_h45.1; omega) (by omega) (by omega)
              have c59 := ((my_fr.at frh52 is_82 rfl).trans w46)
              exact w_vret gz_62_84 gm_62 (k1 h52 (gh52) (by omega) Ln_h52 Sp_h52t58)
          ·
            refine w_aload_n gz_62_51 rfl ?_
            refine w_iconst gz_62_52 (by decide) ?_
            refine w_inv (k := 0) (as := [(0, 3)]) (r := []) (x := 82) (ls0 := [(2, 82), (0, 3)]) gz_62_53 gm_42 rfl is_82 rd_5 rfl rfl rfl rfl rfl ?_
            refine w_aload_n gz_42_0 rfl ?_
            refine v_getI (j := 9) gz_42_1 rfl is_82 rd_5 rfl (fun v60 ev60 pv60 qv60 => ?_)
            have zv60 := ev60.trans ev32.symm
            refine w_ifne (t := 20) gz_42_4 rfl (fun u61 => by exfalso; omega) (fun u61 => ?_)
            refine w_aload_n gz_42_7 rfl ?_
            refine w_iload_n gz_42_8 rfl ?_
            refine w_bipush gz_42_9 (by decide) ?_
            refine w_aload_n gz_42_11 rfl ?_
            refine v_getI (j := 7) gz_42_12 rfl is_82 rd_5 rfl (fun v62 ev62 pv62 qv62 => ?_)
            refine w_imul gz_42_15 ⟨by omega, by omega⟩ ?_
            refine w_iadd gz_42_16 ⟨by omega, by omega⟩ ?_
            refine v_putI (j := 9) gz_42_17 rfl is_82 rd_5 rfl (by omega) (by omega) rfl (fun h63 fh63 => ?_)
            have gh63 : my_fr [(4, 4), (4, 5), (4, 7), (4, 8), (4, 9), (5, 5), (5, 6), (5, 7), (5, 8), (5, 9), (32, -1), (33, -1), (34, -1), (35, -1), (37, -1)] h h63 := my_fr.up gh21 is_82 fh63 rfl
            have Ln_h63 : Ln h63 := Ln_ag (my_ag.up fh63 is_82 rfl) Ln_h21
            have Sp_h63 : Sp h63 wv := Sp_ag (my_ag.up fh63 is_82 rfl) hwv Ln_h21 Sp_h21
            have St5_h63 : St5 h63 := St5_ag (my_ag.up fh63 is_82 rfl) Ln_h21 St5_h21
            refine w_vret gz_42_20 gm_42 ?_
            show wp l rho (d + 7) 62 56 [(2, 82), (0, v7), (0, v34)] [] h63 Q
            refine w_goto (t := 84) gz_62_56 rfl ?_
            have c64 := (my_up_self fh63)
            exact w_vret gz_62_84 gm_62 (k0 h63 (gh63) (by omega) (by omega) Ln_h63 Sp_h63)
        ·
          refine w_aload_n gz_44_23 rfl ?_
          refine w_iconst gz_44_24 (by decide) ?_
          refine w_inv (k := 0) (as := [(0, 4)]) (r := []) (x := 82) (ls0 := [(2, 82), (0, 4)]) gz_44_25 gm_42 rfl is_82 rd_5 rfl rfl rfl rfl rfl ?_
          refine w_aload_n gz_42_0 rfl ?_
          refine v_getI (j := 9) gz_42_1 rfl is_82 rd_5 rfl (fun v65 ev65 pv65 qv65 => ?_)
          have zv65 := ev65.trans w22
          refine w_ifne (t := 20) gz_42_4 rfl (fun u66 => by exfalso; omega) (fun u66 => ?_)
          refine w_aload_n gz_42_7 rfl ?_
          refine w_iload_n gz_42_8 rfl ?_
          refine w_bipush gz_42_9 (by decide) ?_
          refine w_aload_n gz_42_11 rfl ?_
          refine v_getI (j := 7) gz_42_12 rfl is_82 rd_5 rfl (fun v67 ev67 pv67 qv67 => ?_)
          refine w_imul gz_42_15 ⟨by omega, by omega⟩ ?_
          refine w_iadd gz_42_16 ⟨by omega, by omega⟩ ?_
          refine v_putI (j := 9) gz_42_17 rfl is_82 rd_5 rfl (by omega) (by omega) rfl (fun h68 fh68 => ?_)
          have gh68 : my_fr [(4, 4), (4, 5), (4, 7), (4, 8), (4, 9), (5, 5), (5, 6), (5, 7), (5, 8), (5, 9), (32, -1), (33, -1), (34, -1), (35, -1), (37, -1)] h h68 := my_fr.up gh21 is_82 fh68 rfl
          have Ln_h68 : Ln h68 := Ln_ag (my_ag.up fh68 is_82 rfl) Ln_h21
          have Sp_h68 : Sp h68 wv := Sp_ag (my_ag.up fh68 is_82 rfl) hwv Ln_h21 Sp_h21
          have St5_h68 : St5 h68 := St5_ag (my_ag.up fh68 is_82 rfl) Ln_h21 St5_h21
          refine w_vret gz_42_20 gm_42 ?_
          show wp l rho (d + 6) 44 28 [(2, 82), (0, v27)] [] h68 _
          refine w_iconst gz_44_28 (by decide) ?_
          refine w_iret gz_44_29 gm_44 ?_
          show wp l rho (d + 7) 62 40 [(2, 82), (0, v7), (9, 0)] [(0, (-1))] h68 Q
          refine w_istore_n (ls' := [(2, 82), (0, v7), (0, (-1))]) gz_62_40 gm_62 rfl rfl rfl ?_
          refine w_iload_n gz_62_41 rfl ?_
          refine w_iconst gz_62_42 (by decide) ?_
          refine w_iceq (t := 59) gz_62_43 rfl (fun u69 => ?_) (fun u69 => by exfalso; omega)
          refine w_iload_n gz_62_59 rfl ?_
          refine w_iconst gz_62_60 (by decide) ?_
          refine w_iceq (t := 84) gz_62_61 rfl (fun u70 => ?_) (fun u70 => by exfalso; omega)
          have c71 := (my_up_self fh68)
          exact w_vret gz_62_84 gm_62 (k0 h68 (gh68) (by omega) (by omega) Ln_h68 Sp_h68)
      ·
        refine w_aload_n gz_44_8 rfl ?_
        refine w_iconst gz_44_9 (by decide) ?_
        refine w_inv (k := 0) (as := [(0, 1)]) (r := []) (x := 82) (ls0 := [(2, 82), (0, 1)]) gz_44_10 gm_42 rfl is_82 rd_5 rfl rfl rfl rfl rfl ?_
        refine w_aload_n gz_42_0 rfl ?_
        refine v_getI (j := 9) gz_42_1 rfl is_82 rd_5 rfl (fun v72 ev72 pv72 qv72 => ?_)
        have zv72 := ev72.trans w22
        refine w_ifne (t := 20) gz_42_4 rfl (fun u73 => by exfalso; omega) (fun u73 => ?_)
        refine w_aload_n gz_42_7 rfl ?_
        refine w_iload_n gz_42_8 rfl ?_
        refine w_bipush gz_42_9 (by decide) ?_
        refine w_aload_n gz_42_11 rfl ?_
        refine v_getI (j := 7) gz_42_12 rfl is_82 rd_5 rfl (fun v74 ev74 pv74 qv74 => ?_)
        refine w_imul gz_42_15 ⟨by omega, by omega⟩ ?_
        refine w_iadd gz_42_16 ⟨by omega, by omega⟩ ?_
        refine v_putI (j := 9) gz_42_17 rfl is_82 rd_5 rfl (by omega) (by omega) rfl (fun h75 fh75 => ?_)
        have gh75 : my_fr [(4, 4), (4, 5), (4, 7), (4, 8), (4, 9), (5, 5), (5, 6), (5, 7), (5, 8), (5, 9), (32, -1), (33, -1), (34, -1), (35, -1), (37, -1)] h h75 := my_fr.up gh21 is_82 fh75 rfl
        have Ln_h75 : Ln h75 := Ln_ag (my_ag.up fh75 is_82 rfl) Ln_h21
        have Sp_h75 : Sp h75 wv := Sp_ag (my_ag.up fh75 is_82 rfl) hwv Ln_h21 Sp_h21
        have St5_h75 : St5 h75 := St5_ag (my_ag.up fh75 is_82 rfl) Ln_h21 St5_h21
        refine w_vret gz_42_20 gm_42 ?_
        show wp l rho (d + 6) 44 13 [(2, 82), (0, v27)] [] h75 _
        refine w_iconst gz_44_13 (by decide) ?_
        refine w_iret gz_44_14 gm_44 ?_
        show wp l rho (d + 7) 62 40 [(2, 82), (0, v7), (9, 0)] [(0, (-1))] h75 Q
        refine w_istore_n (ls' := [(2, 82), (0, v7), (0, (-1))]) gz_62_40 gm_62 rfl rfl rfl ?_
        refine w_iload_n gz_62_41 rfl ?_
        refine w_iconst gz_62_42 (by decide) ?_
        refine w_iceq (t := 59) gz_62_43 rfl (fun u76 => ?_) (fun u76 => by exfalso; omega)
        refine w_iload_n gz_62_59 rfl ?_
        refine w_iconst gz_62_60 (by decide) ?_
        refine w_iceq (t := 84) gz_62_61 rfl (fun u77 => ?_) (fun u77 => by exfalso; omega)
        have c78 := (my_up_self fh75)
        exact w_vret gz_62_84 gm_62 (k0 h75 (gh75) (by omega) (by omega) Ln_h75 Sp_h75)
theorem c_View_load {l : Launch} {rho : Nat → Int32} {d : Nat} {h : my_H} {Q : my_H → my_V → Prop} {x0 x1 x2 x3 x4 : Int} (t0 : my_is 8 x0) (t1 : my_is 6 x1) (a2 : 0 ≤ x2) (b2 : x2 ≤ 2) (m2_0 : 0 ≤ x2 % 17) (m2_1 : x2 % 17 ≤ 2) (a3 : 0 ≤ x3) (b3 : x3 ≤ 4) (m3_0 : 0 ≤ x3 % 17) (m3_1 : x3 % 17 ≤ 4) (k0 : ∀ (h' : my_H), my_fr [(8, 0), (8, 1), (42, -1), (44, -1)] h h' → my_fx x0 3 h h' → 0 ≤ h' x0 0 → h' x0 0 ≤ 10 → 0 ≤ h' x0 1 → h' x0 1 ≤ 4 → h' x0 1 = x3 → h' x0 0 ≤ 10 → Q h' (9, 0)) : wp l rho (d + 1) 68 0 [(2, x0), (2, x1), (0, x2), (0, x3), (0, x4), (9, 0), (9, 0)] [] h Q := by
  have J13_0 : ∀ (n : Nat) (p13_0 p13_1 : Int) (h13_0 : my_H), my_fr [(8, 0), (8, 1), (42, -1), (44, -1)] h h13_0 → my_fx x0 3 h h13_0 → 0 ≤ p13_0 → p13_0 ≤ 20 → 0 ≤ p13_1 → p13_1 ≤ 10 → p13_1 ≤ p13_0 → h13_0 x0 0 = p13_1 → h13_0 x0 1 = x3 → h13_0 x0 1 = x3 → 21 - p13_0 ≤ (n : Int) → wp l rho (d + 1) 68 13 [(2, x0), (2, x1), (0, x2), (0, x3), (0, x4), (0, p13_0), (9, 0)] [] h13_0 Q := by
    intro n
    induction n with
    | zero => intro p13_0 p13_1 h13_0 gh_13_0 gx_13_0 q0_13_0 q1_13_0 q2_13_0 q3_13_0 q4_13_0 ca0_0_13_0 ca0_1_13_0 lc_13_0 hm_13_0; exfalso; omega
    | succ n ih_13_0 =>
      intro p13_0 p13_1 h13_0 gh_13_0 gx_13_0 q0_13_0 q1_13_0 q2_13_0 q3_13_0 q4_13_0 ca0_0_13_0 ca0_1_13_0 lc_13_0 hm_13_0
      have J117_0 : ∀ (p117_0 p117_1 : Int) (h117_0 : my_H), my_fr [(8, 0), (8, 1), (42, -1), (44, -1)] h h117_0 → my_fx x0 3 h h117_0 → p13_0 ≤ 19 → 0 ≤ p117_0 → p117_0 ≤ 236 → 0 ≤ p117_1 → p117_1 ≤ 10 → p13_1 ≤ 9 → p117_1 ≤ (p13_0 + 1) → p117_1 ≤ (p13_1 + 1) → p13_1 ≤ p117_1 → p13_1 ≤ p13_0 → h117_0 x0 0 = p117_1 → h117_0 x0 1 = x3 → wp l rho (d + 1) 68 117 [(2, x0), (2, x1), (0, x2), (0, x3), (0, x4), (0, p13_0), (0, p117_0)] [] h117_0 Q := by
        intro p117_0 p117_1 h117_0 gh_117_0 gx_117_0 q0_117_0 q1_117_0 q2_117_0 q3_117_0 q4_117_0 q5_117_0 q6_117_0 q7_117_0 q8_117_0 q9_117_0 ca0_0_117_0 ca0_1_117_0
        refine w_iinc (ls' := [(2, x0), (2, x1), (0, x2), (0, x3), (0, x4), (0, (p13_0 + 1)), (0, p117_0)]) gz_68_117 rfl gm_68 rfl rfl rfl ⟨by omega, by omega⟩ ?_
        refine w_goto (t := 13) gz_68_120 rfl ?_
        have ce1 : h117_0 x0 1 = x3 := ca0_1_117_0
        refine w_weak (ls' := [(2, x0), (2, x1), (0, x2), (0, x3), (0, x4), (0, (p13_0 + 1)), (9, 0)]) (wk_e (wk_e (wk_e (wk_e (wk_e (wk_e (wk_9 wk_n))))))) ?_
        exact ih_13_0 ((p13_0 + 1)) (p117_1) h117_0 (gh_117_0) (gx_117_0) (by omega) (by omega) (by omega) (by omega) (by omega) (ca0_0_117_0.trans (by omega)) (ca0_1_117_0.trans (by omega)) (by first | assumption | omega | (subst_vars; omega)) (by omega)
      refine w_iload gz_68_13 rfl ?_
      refine w_bipush gz_68_15 (by decide) ?_
      refine w_icge (t := 123) gz_68_17 rfl (fun u2 => ?_) (fun u2 => ?_)
      ·
        have ce3 : h13_0 x0 0 = p13_1 := ca0_0_13_0
        have ce4 : h13_0 x0 1 = x3 := ca0_1_13_0
        have c5 := ca0_0_13_0
        have c6 := ca0_1_13_0
        exact w_vret gz_68_123 gm_68 (k0 h13_0 (gh_13_0) (gx_13_0) (by omega) (by omega) (by omega) (by omega) (by first | assumption | omega | (subst_vars; omega)) (by first | assumption | omega | (subst_vars; omega)))
      ·
        refine w_aload_n gz_68_20 rfl ?_
        refine v_getI (j := 0) gz_68_21 rfl t0 rd_8 rfl (fun v7 ev7 pv7 qv7 => ?_)
        have zv7 := ev7.trans ca0_0_13_0
        refine w_bipush gz_68_24 (by decide) ?_
        refine w_icge (t := 123) gz_68_26 rfl (fun u8 => ?_) (fun u8 => ?_)
        ·
          have ce9 : h13_0 x0 0 = v7 := ev7.symm
          have ce10 : h13_0 x0 1 = x3 := ca0_1_13_0
          have c11 := ev7.symm
          have c12 := ca0_1_13_0
          exact w_vret gz_68_123 gm_68 (k0 h13_0 (gh_13_0) (gx_13_0) (by omega) (by omega) (by omega) (by omega) (by first | assumption | omega | (subst_vars; omega)) (by first | assumption | omega | (subst_vars; omega)))
        ·
          refine w_iload_n gz_68_29 rfl ?_
          refine w_iload gz_68_30 rfl ?_
          refine w_inS (k := 0) (as := [(0, p13_0), (0, x2)]) (r := []) (ls0 := [(0, x2), (0, p13_0)]) gz_68_32 gm_17 rfl rfl rfl rfl rfl rfl ?_
          refine w_iload_n gz_17_0 rfl ?_
          refine w_bipush gz_17_1 (by decide) ?_
          refine w_imul gz_17_3 ⟨by omega, by omega⟩ ?_
          refine w_iload_n gz_17_4 rfl ?_
          refine w_iadd gz_17_5 ⟨by omega, by omega⟩ ?_
          refine w_iconst gz_17_6 (by decide) ?_
          refine w_imul gz_17_7 ⟨by omega, by omega⟩ ?_
          refine w_iret gz_17_8 gm_17 ?_
          show wp l rho (d + 1) 68 35 [(2, x0), (2, x1), (0, x2), (0, x3), (0, x4), (0, p13_0), (9, 0)] [(0, (((x2 * 20) + p13_0) * 4))] h13_0 Q
          refine w_istore (ls' := [(2, x0), (2, x1), (0, x2), (0, x3), (0, x4), (0, p13_0), (0, (((x2 * 20) + p13_0) * 4))]) gz_68_35 gm_68 rfl rfl rfl ?_
          refine w_aload_n gz_68_37 rfl ?_
          refine w_getX (v := (x1 + 1)) gz_68_38 t1 rd_6 rfl (by decide) rfl ?_
          refine w_iload gz_68_41 rfl ?_
          refine w_iald gz_68_43 (ix_6_1 t1) rd_30 (by omega) (by omega) (fun v14 ev14 pv14 qv14 => ?_)
          refine w_iconst gz_68_44 (by decide) ?_
          refine w_iceq (t := 117) gz_68_45 rfl (fun u15 => ?_) (fun u15 => ?_)
          ·
            exact J117_0 ((((x2 * 20) + p13_0) * 4)) (v7) h13_0 (gh_13_0) (gx_13_0) (by omega) (by omega) (by omega) (by omega) (by omega) (by omega) (by omega) (by omega) (by omega) (by omega) (ev7.symm.trans (by omega)) (ca0_1_13_0.trans (by omega))
          ·
            refine w_iload gz_68_48 rfl ?_
            refine w_i2l gz_68_50 ?_
            refine w_iload gz_68_51 rfl ?_
            refine w_inS (k := 0) (as := [(0, p13_0), (1, x4)]) (r := []) (ls0 := [(1, x4), (9, 0), (0, p13_0)]) gz_68_53 gm_69 rfl rfl rfl rfl rfl rfl ?_
            refine w_lload_n gz_69_0 rfl ?_
            refine w_iload_n gz_69_1 rfl ?_
            refine w_jshf gz_69_2 (fun _ => rfl) rfl (fun v16 pv16 => ?_)
            refine w_lconst gz_69_3 ?_
            refine w_jany2 gz_69_4 (fun _ => rfl) rfl (fun v17 pv17 => ?_)
            refine w_lconst gz_69_5 ?_
            refine w_lcmp gz_69_6 (fun v18 pv18 qv18 => ?_)
            refine w_ifeq (t := 14) gz_69_7 rfl (fun u19 => ?_) (fun u19 => ?_)
            ·
              refine w_iconst gz_69_14 (by decide) ?_
              refine w_bret gz_69_15 gm_69 (by omega) (by omega) ?_
              show wp l rho (d + 1) 68 56 [(2, x0), (2, x1), (0, x2), (0, x3), (0, x4), (0, p13_0), (0, (((x2 * 20) + p13_0) * 4))] [(0, 0)] h13_0 Q
              refine w_ifeq (t := 117) gz_68_56 rfl (fun u20 => ?_) (fun u20 => by exfalso; omega)
              exact J117_0 ((((x2 * 20) + p13_0) * 4)) (v7) h13_0 (gh_13_0) (gx_13_0) (by omega) (by omega) (by omega) (by omega) (by omega) (by omega) (by omega) (by omega) (by omega) (by omega) (ev7.symm.trans (by omega)) (ca0_1_13_0.trans (by omega))
            ·
              refine w_iconst gz_69_10 (by decide) ?_
              refine w_goto (t := 15) gz_69_11 rfl ?_
              refine w_bret gz_69_15 gm_69 (by omega) (by omega) ?_
              show wp l rho (d + 1) 68 56 [(2, x0), (2, x1), (0, x2), (0, x3), (0, x4), (0, p13_0), (0, (((x2 * 20) + p13_0) * 4))] [(0, 1)] h13_0 Q
              refine w_ifeq (t := 117) gz_68_56 rfl (fun u21 => by exfalso; omega) (fun u21 => ?_)
              refine w_aload_n gz_68_59 rfl ?_
              refine w_aload_n gz_68_60 rfl ?_
              refine w_iload gz_68_61 rfl ?_
              refine w_aload_n gz_68_63 rfl ?_
              refine v_getI (j := 0) gz_68_64 rfl t0 rd_8 rfl (fun v22 ev22 pv22 qv22 => ?_)
              have zv22 := ev22.trans ev7.symm
              refine w_bipush gz_68_67 (by decide) ?_
              refine w_imul gz_68_69 ⟨by omega, by omega⟩ ?_
              refine w_iload_n gz_68_70 rfl ?_
              refine w_inv (k := 1) (as := [(0, x3), (0, (v22 * 17)), (0, (((x2 * 20) + p13_0) * 4)), (2, x1)]) (r := []) (x := x0) (ls0 := [(2, x0), (2, x1), (0, (((x2 * 20) + p13_0) * 4)), (0, (v22 * 17)), (0, x3), (9, 0)]) gz_68_71 gm_70 rfl t0 rd_8 rfl rfl rfl rfl rfl (c_View_copyCells (d := d) (x0 := x0) (x1 := x1) (x2 := (((x2 * 20) + p13_0) * 4)) (x3 := (v22 * 17)) (x4 := x3) t0 t1 (by omega) (by omega) (by omega) (by omega) (by omega) (by omega) (by omega) (by omega) (by omega) (by omega) (by first | assumption | omega | (subst_vars; omega)) (by first | assumption | omega | (subst_vars; omega)) (fun h23 frh23 fxh23 => ?_))
              have gh23 : my_fr [(8, 0), (8, 1), (42, -1), (44, -1)] h h23 := my_fr.tr gh_13_0 (frh23.mo rfl)
              have gxh23 : my_fx x0 3 h h23 := my_fx.tr gx_13_0 fxh23
              show wp l rho (d + 1) 68 74 [(2, x0), (2, x1), (0, x2), (0, x3), (0, x4), (0, p13_0), (0, (((x2 * 20) + p13_0) * 4))] [] h23 Q
              refine w_aload_n gz_68_74 rfl ?_
              refine w_getX (v := (x0 + 1)) gz_68_75 t0 rd_8 rfl (by decide) rfl ?_
              refine w_aload_n gz_68_78 rfl ?_
              refine v_getI (j := 0) gz_68_79 rfl t0 rd_8 rfl (fun v25 ev25 pv25 qv25 => ?_)
              have zv25 := ev25.trans ((my_fr.at frh23 t0 rfl).trans ev22.symm)
              refine w_bipush gz_68_82 (by decide) ?_
              refine w_imul gz_68_84 ⟨by omega, by omega⟩ ?_
              refine w_bipush gz_68_85 (by decide) ?_
              refine w_iadd gz_68_87 ⟨by omega, by omega⟩ ?_
              refine w_iload gz_68_88 rfl ?_
              refine w_gstT gz_68_90 (ix_8_1 t0) rd_42 (by omega) (by omega) (by omega) (by omega) (by omega) (fun h26 fh26 => ?_)
              have gh26 : my_fr [(8, 0), (8, 1), (42, -1), (44, -1)] h h26 := my_fr.up gh23 (ix_8_1 t0) fh26 rfl
              have gxh26 : my_fx x0 3 h h26 := my_fx.up gxh23 fh26 (by omega)
              refine w_aload_n gz_68_91 rfl ?_
              refine w_getX (v := (x0 + 3)) gz_68_92 t0 rd_8 rfl (by decide) rfl ?_
              refine w_iload gz_68_95 rfl ?_
              refine w_lconst gz_68_97 ?_
              refine w_iload_n gz_68_98 rfl ?_
              refine w_bipush gz_68_99 (by decide) ?_
              refine w_imul gz_68_101 ⟨by omega, by omega⟩ ?_
              refine w_iload gz_68_102 rfl ?_
              refine w_iadd gz_68_104 ⟨by omega, by omega⟩ ?_
              refine w_jshf gz_68_105 (fun _ => rfl) rfl (fun v28 pv28 => ?_)
              refine w_last gz_68_106 (ix_8_3 t0) rd_44 (by omega) (by omega) (fun h29 fh29 => ?_)
              have gh29 : my_fr [(8, 0), (8, 1), (42, -1), (44, -1)] h h29 := my_fr.up gh26 (ix_8_3 t0) fh29 rfl
              have gxh29 : my_fx x0 3 h h29 := my_fx.up gxh26 fh29 (by omega)
              refine w_aload_n gz_68_107 rfl ?_
              refine w_dup gz_68_108 rfl ?_
              refine v_getI (j := 0) gz_68_109 rfl t0 rd_8 rfl (fun v30 ev30 pv30 qv30 => ?_)
              have zv30 := ev30.trans ((my_up_role fh29 t0 (ix_8_3 t0) rfl).trans ((my_up_role fh26 t0 (ix_8_1 t0) rfl).trans ev25.symm))
              refine w_iconst gz_68_112 (by decide) ?_
              refine w_iadd gz_68_113 ⟨by omega, by omega⟩ ?_
              refine v_putI (j := 0) gz_68_114 rfl t0 rd_8 rfl (by omega) (by omega) rfl (fun h31 fh31 => ?_)
              have gh31 : my_fr [(8, 0), (8, 1), (42, -1), (44, -1)] h h31 := my_fr.up gh29 t0 fh31 rfl
              have gxh31 : my_fx x0 3 h h31 := my_fx.up gxh29 fh31 (by omega)
              exact J117_0 ((((x2 * 20) + p13_0) * 4)) ((v30 + 1)) h31 (gh31) (gxh31) (by omega) (by omega) (by omega) (by omega) (by omega) (by omega) (by omega) (by omega) (by omega) (by omega) ((my_up_self fh31).trans (by omega)) (((my_up_fld fh31 (by decide)).trans ((my_up_role fh29 t0 (ix_8_3 t0) rfl).trans ((my_up_role fh26 t0 (ix_8_1 t0) rfl).trans ((my_fr.at frh23 t0 rfl).trans ca0_1_13_0)))).trans (by omega))
  refine w_aload_n gz_68_0 rfl ?_
  refine w_iconst gz_68_1 (by decide) ?_
  refine v_putI (j := 0) gz_68_2 rfl t0 rd_8 rfl (by omega) (by omega) rfl (fun h32 fh32 => ?_)
  have gh32 : my_fr [(8, 0), (8, 1), (42, -1), (44, -1)] h h32 := my_fr.up my_fr.rf t0 fh32 rfl
  have gxh32 : my_fx x0 3 h h32 := my_fx.up my_fx.rf fh32 (by omega)
  refine w_aload_n gz_68_5 rfl ?_
  refine w_iload_n gz_68_6 rfl ?_
  refine v_putI (j := 1) gz_68_7 rfl t0 rd_8 rfl (by omega) (by omega) rfl (fun h33 fh33 => ?_)
  have gh33 : my_fr [(8, 0), (8, 1), (42, -1), (44, -1)] h h33 := my_fr.up gh32 t0 fh33 rfl
  have gxh33 : my_fx x0 3 h h33 := my_fx.up gxh32 fh33 (by omega)
  refine w_iconst gz_68_10 (by decide) ?_
  refine w_istore (ls' := [(2, x0), (2, x1), (0, x2), (0, x3), (0, x4), (0, 0), (9, 0)]) gz_68_11 gm_68 rfl rfl rfl ?_
  have ce34 : h33 x0 1 = x3 := (my_up_self fh33)
  exact J13_0 21 (0) (0) h33 (gh33) (gxh33) (by omega) (by omega) (by omega) (by omega) (by omega) (((my_up_fld fh33 (by decide)).trans (my_up_self fh32)).trans (by omega)) ((my_up_self fh33).trans (by omega)) (by first | assumption | omega | (subst_vars; omega)) (by omega)
theorem c_View_sort {l : Launch} {rho : Nat → Int32} {d : Nat} {h : my_H} {Q : my_H → my_V → Prop} {x0 : Int} (t0 : my_is 8 x0) (k0 : ∀ (h' : my_H), my_fr [(42, -1)] h h' → my_fx x0 3 h h' → h' x0 0 = h x0 0 → h' x0 1 = h x0 1 → Q h' (9, 0)) : wp l rho (d + 2) 79 0 [(2, x0), (9, 0), (9, 0), (9, 0)] [] h Q := by
  refine v_know (x := x0) (j := 0) (b := 0) rfl t0 rd_8 rfl (fun ka0_0 eka0_0 pka0_0 qka0_0 => ?_)
  refine v_know (x := x0) (j := 1) (b := 1) rfl t0 rd_8 rfl (fun ka0_1 eka0_1 pka0_1 qka0_1 => ?_)
  have J2_0 : ∀ (n : Nat) (p2_0 : Int) (h2_0 : my_H), my_fr [(42, -1)] h h2_0 → my_fx x0 3 h h2_0 → 1 ≤ p2_0 → p2_0 ≤ 11 → p2_0 ≤ (ka0_0 + 1) → h2_0 x0 0 = ka0_0 → h2_0 x0 1 = ka0_1 → 12 - p2_0 ≤ (n : Int) → wp l rho (d + 2) 79 2 [(2, x0), (0, p2_0), (9, 0), (9, 0)] [] h2_0 Q := by
    intro n
    induction n with
    | zero => intro p2_0 h2_0 gh_2_0 gx_2_0 q0_2_0 q1_2_0 q2_2_0 ca0_0_2_0 ca0_1_2_0 hm_2_0; exfalso; omega
    | succ n ih_2_0 =>
      intro p2_0 h2_0 gh_2_0 gx_2_0 q0_2_0 q1_2_0 q2_2_0 ca0_0_2_0 ca0_1_2_0 hm_2_0
      have J98_0 : ∀ (p98_0 : Int) (h98_0 : my_H), my_fr [(42, -1)] h h98_0 → my_fx x0 3 h h98_0 → p2_0 ≤ 10 → 0 ≤ p98_0 → p98_0 ≤ 10 → 2 ≤ ka0_0 → p98_0 ≤ p2_0 → p98_0 ≤ (ka0_0 - 1) → p2_0 ≤ (ka0_0 - 1) → h98_0 x0 0 = ka0_0 → h98_0 x0 1 = ka0_1 → wp l rho (d + 2) 79 98 [(2, x0), (0, p2_0), (0, p98_0), (9, 0)] [] h98_0 Q := by
        intro p98_0 h98_0 gh_98_0 gx_98_0 q0_98_0 q1_98_0 q2_98_0 q3_98_0 q4_98_0 q5_98_0 q6_98_0 ca0_0_98_0 ca0_1_98_0
        refine w_iinc (ls' := [(2, x0), (0, (p2_0 + 1)), (0, p98_0), (9, 0)]) gz_79_98 rfl gm_79 rfl rfl rfl ⟨by omega, by omega⟩ ?_
        refine w_goto (t := 2) gz_79_101 rfl ?_
        refine w_weak (ls' := [(2, x0), (0, (p2_0 + 1)), (9, 0), (9, 0)]) (wk_e (wk_e (wk_9 (wk_9 wk_n)))) ?_
        exact ih_2_0 ((p2_0 + 1)) h98_0 (gh_98_0) (gx_98_0) (by omega) (by omega) (by omega) (ca0_0_98_0.trans (by omega)) (ca0_1_98_0.trans (by omega)) (by omega)
      have J72_0 : ∀ (n : Nat) (p72_0 p72_1 : Int) (h72_0 : my_H), my_fr [(42, -1)] h h72_0 → my_fx x0 3 h h72_0 → p2_0 ≤ 10 → 0 ≤ p72_0 → p72_0 ≤ 9 → 0 ≤ p72_1 → p72_1 ≤ 10 → 2 ≤ ka0_0 → p72_0 ≤ p72_1 → p72_0 ≤ (p2_0 - 1) → p72_0 ≤ (ka0_0 - 2) → p72_1 ≤ p2_0 → p72_1 ≤ (ka0_0 - 1) → p2_0 ≤ (ka0_0 - 1) → h72_0 x0 0 = ka0_0 → h72_0 x0 1 = ka0_1 → p72_1 - (-1) ≤ (n : Int) → wp l rho (d + 2) 79 72 [(2, x0), (0, p2_0), (0, p72_0), (0, p72_1)] [] h72_0 Q := by
        intro n
        induction n with
        | zero => intro p72_0 p72_1 h72_0 gh_72_0 gx_72_0 q0_72_0 q1_72_0 q2_72_0 q3_72_0 q4_72_0 q5_72_0 q6_72_0 q7_72_0 q8_72_0 q9_72_0 q10_72_0 q11_72_0 ca0_0_72_0 ca0_1_72_0 hm_72_0; exfalso; omega
        | succ n ih_72_0 =>
          intro p72_0 p72_1 h72_0 gh_72_0 gx_72_0 q0_72_0 q1_72_0 q2_72_0 q3_72_0 q4_72_0 q5_72_0 q6_72_0 q7_72_0 q8_72_0 q9_72_0 q10_72_0 q11_72_0 ca0_0_72_0 ca0_1_72_0 hm_72_0
          refine w_iload_n gz_79_72 rfl ?_
          refine w_iload_n gz_79_73 rfl ?_
          refine w_icle (t := 91) gz_79_74 rfl (fun u1 => ?_) (fun u1 => ?_)
          ·
            refine w_aload_n gz_79_91 rfl ?_
            refine w_bipush gz_79_92 (by decide) ?_
            refine w_iload_n gz_79_94 rfl ?_
            refine w_inv (k := 0) (as := [(0, p72_0), (0, 11)]) (r := []) (x := x0) (ls0 := [(2, x0), (0, 11), (0, p72_0)]) gz_79_95 gm_72 rfl t0 rd_8 rfl rfl rfl rfl rfl ?_
            refine w_iload_n gz_72_0 rfl ?_
            refine w_iload_n gz_72_1 rfl ?_
            refine w_iceq (t := 26) gz_72_2 rfl (fun u2 => by exfalso; omega) (fun u2 => ?_)
            refine w_aload_n gz_72_5 rfl ?_
            refine w_getX (v := (x0 + 1)) gz_72_6 t0 rd_8 rfl (by decide) rfl ?_
            refine w_iload_n gz_72_9 rfl ?_
            refine w_bipush gz_72_10 (by decide) ?_
            refine w_imul gz_72_12 ⟨by omega, by omega⟩ ?_
            refine w_aload_n gz_72_13 rfl ?_
            refine w_getX (v := (x0 + 1)) gz_72_14 t0 rd_8 rfl (by decide) rfl ?_
            refine w_iload_n gz_72_17 rfl ?_
            refine w_bipush gz_72_18 (by decide) ?_
            refine w_imul gz_72_20 ⟨by omega, by omega⟩ ?_
            refine w_bipush gz_72_21 (by decide) ?_
            refine w_cpG gz_72_23 (ix_8_1 t0) rd_42 (ix_8_1 t0) rd_42 (by omega) (by omega) (by omega) (by omega) (by omega) rfl (by omega) (fun h5 fh5 => ?_)
            have gh5 : my_fr [(42, -1)] h h5 := my_fr.cp gh_72_0 (ix_8_1 t0) fh5 rfl
            have gxh5 : my_fx x0 3 h h5 := my_fx.cp gx_72_0 fh5 (by omega)
            refine w_vret gz_72_26 gm_72 ?_
            show wp l rho (d + 2) 79 98 [(2, x0), (0, p2_0), (0, p72_0), (0, p72_1)] [] h5 Q
            refine w_weak (ls' := [(2, x0), (0, p2_0), (0, p72_0), (9, 0)]) (wk_e (wk_e (wk_e (wk_9 wk_n)))) ?_
            exact J98_0 (p72_0) h5 (gh5) (gxh5) (by omega) (by omega) (by omega) (by omega) (by omega) (by omega) (by omega) (((my_cp_role fh5 t0 (ix_8_1 t0) rfl).trans ca0_0_72_0).trans (by omega)) (((my_cp_role fh5 t0 (ix_8_1 t0) rfl).trans ca0_1_72_0).trans (by omega))
          ·
            refine w_aload_n gz_79_77 rfl ?_
            refine w_iload_n gz_79_78 rfl ?_
            refine w_iconst gz_79_79 (by decide) ?_
            refine w_isub gz_79_80 ⟨by omega, by omega⟩ ?_
            refine w_iload_n gz_79_81 rfl ?_
            refine w_inv (k := 0) (as := [(0, p72_1), (0, (p72_1 - 1))]) (r := []) (x := x0) (ls0 := [(2, x0), (0, (p72_1 - 1)), (0, p72_1)]) gz_79_82 gm_72 rfl t0 rd_8 rfl rfl rfl rfl rfl ?_
            refine w_iload_n gz_72_0 rfl ?_
            refine w_iload_n gz_72_1 rfl ?_
            refine w_iceq (t := 26) gz_72_2 rfl (fun u6 => by exfalso; omega) (fun u6 => ?_)
            refine w_aload_n gz_72_5 rfl ?_
            refine w_getX (v := (x0 + 1)) gz_72_6 t0 rd_8 rfl (by decide) rfl ?_
            refine w_iload_n gz_72_9 rfl ?_
            refine w_bipush gz_72_10 (by decide) ?_
            refine w_imul gz_72_12 ⟨by omega, by omega⟩ ?_
            refine w_aload_n gz_72_13 rfl ?_
            refine w_getX (v := (x0 + 1)) gz_72_14 t0 rd_8 rfl (by decide) rfl ?_
            refine w_iload_n gz_72_17 rfl ?_
            refine w_bipush gz_72_18 (by decide) ?_
            refine w_imul gz_72_20 ⟨by omega, by omega⟩ ?_
            refine w_bipush gz_72_21 (by decide) ?_
            refine w_cpG gz_72_23 (ix_8_1 t0) rd_42 (ix_8_1 t0) rd_42 (by omega) (by omega) (by omega) (by omega) (by omega) rfl (by omega) (fun h9 fh9 => ?_)
            have gh9 : my_fr [(42, -1)] h h9 := my_fr.cp gh_72_0 (ix_8_1 t0) fh9 rfl
            have gxh9 : my_fx x0 3 h h9 := my_fx.cp gx_72_0 fh9 (by omega)
            refine w_vret gz_72_26 gm_72 ?_
            show wp l rho (d + 2) 79 85 [(2, x0), (0, p2_0), (0, p72_0), (0, p72_1)] [] h9 Q
            refine w_iinc (ls' := [(2, x0), (0, p2_0), (0, p72_0), (0, (p72_1 + (-1)))]) gz_79_85 rfl gm_79 rfl rfl rfl ⟨by omega, by omega⟩ ?_
            refine w_goto (t := 72) gz_79_88 rfl ?_
            exact ih_72_0 (p72_0) ((p72_1 + (-1))) h9 (gh9) (gxh9) (by omega) (by omega) (by omega) (by omega) (by omega) (by omega) (by omega) (by omega) (by omega) (by omega) (by omega) (by omega) (((my_cp_role fh9 t0 (ix_8_1 t0) rfl).trans ca0_0_72_0).trans (by omega)) (((my_cp_role fh9 t0 (ix_8_1 t0) rfl).trans ca0_1_72_0).trans (by omega)) (by omega)
      have J58_0 : ∀ (p58_0 : Int) (h58_0 : my_H), my_fr [(42, -1)] h h58_0 → my_fx x0 3 h h58_0 → p2_0 ≤ 10 → 0 ≤ p58_0 → p58_0 ≤ 10 → 2 ≤ ka0_0 → p58_0 ≤ p2_0 → p58_0 ≤ (ka0_0 - 1) → p2_0 ≤ (ka0_0 - 1) → h58_0 x0 0 = ka0_0 → h58_0 x0 1 = ka0_1 → wp l rho (d + 2) 79 58 [(2, x0), (0, p2_0), (0, p58_0), (9, 0)] [] h58_0 Q := by
        intro p58_0 h58_0 gh_58_0 gx_58_0 q0_58_0 q1_58_0 q2_58_0 q3_58_0 q4_58_0 q5_58_0 q6_58_0 ca0_0_58_0 ca0_1_58_0
        refine w_iload_n gz_79_58 rfl ?_
        refine w_iload_n gz_79_59 rfl ?_
        refine w_icge (t := 98) gz_79_60 rfl (fun u10 => ?_) (fun u10 => ?_)
        ·
          exact J98_0 (p58_0) h58_0 (gh_58_0) (gx_58_0) (by omega) (by omega) (by omega) (by omega) (by omega) (by omega) (by omega) (ca0_0_58_0.trans (by omega)) (ca0_1_58_0.trans (by omega))
        ·
          refine w_aload_n gz_79_63 rfl ?_
          refine w_iload_n gz_79_64 rfl ?_
          refine w_bipush gz_79_65 (by decide) ?_
          refine w_inv (k := 0) (as := [(0, 11), (0, p2_0)]) (r := []) (x := x0) (ls0 := [(2, x0), (0, p2_0), (0, 11)]) gz_79_67 gm_72 rfl t0 rd_8 rfl rfl rfl rfl rfl ?_
          refine w_iload_n gz_72_0 rfl ?_
          refine w_iload_n gz_72_1 rfl ?_
          refine w_iceq (t := 26) gz_72_2 rfl (fun u11 => by exfalso; omega) (fun u11 => ?_)
          refine w_aload_n gz_72_5 rfl ?_
          refine w_getX (v := (x0 + 1)) gz_72_6 t0 rd_8 rfl (by decide) rfl ?_
          refine w_iload_n gz_72_9 rfl ?_
          refine w_bipush gz_72_10 (by decide) ?_
          refine w_imul gz_72_12 ⟨by omega, by omega⟩ ?_
          refine w_aload_n gz_72_13 rfl ?_
          refine w_getX (v := (x0 + 1)) gz_72_14 t0 rd_8 rfl (by decide) rfl ?_
          refine w_iload_n gz_72_17 rfl ?_
          refine w_bipush gz_72_18 (by decide) ?_
          refine w_imul gz_72_20 ⟨by omega, by omega⟩ ?_
          refine w_bipush gz_72_21 (by decide) ?_
          refine w_cpG gz_72_23 (ix_8_1 t0) rd_42 (ix_8_1 t0) rd_42 (by omega) (by omega) (by omega) (by omega) (by omega) rfl (by omega) (fun h14 fh14 => ?_)
          have gh14 : my_fr [(42, -1)] h h14 := my_fr.cp gh_58_0 (ix_8_1 t0) fh14 rfl
          have gxh14 : my_fx x0 3 h h14 := my_fx.cp gx_58_0 fh14 (by omega)
          refine w_vret gz_72_26 gm_72 ?_
          show wp l rho (d + 2) 79 70 [(2, x0), (0, p2_0), (0, p58_0), (9, 0)] [] h14 Q
          refine w_iload_n gz_79_70 rfl ?_
          refine w_istore_n (ls' := [(2, x0), (0, p2_0), (0, p58_0), (0, p2_0)]) gz_79_71 gm_79 rfl rfl rfl ?_
          exact J72_0 11 (p58_0) (p2_0) h14 (gh14) (gxh14) (by omega) (by omega) (by omega) (by omega) (by omega) (by omega) (by omega) (by omega) (by omega) (by omega) (by omega) (by omega) (((my_cp_role fh14 t0 (ix_8_1 t0) rfl).trans ca0_0_58_0).trans (by omega)) (((my_cp_role fh14 t0 (ix_8_1 t0) rfl).trans ca0_1_58_0).trans (by omega)) (by omega)
      have J12_0 : ∀ (n : Nat) (p12_0 : Int) (h12_0 : my_H), my_fr [(42, -1)] h h12_0 → my_fx x0 3 h h12_0 → p2_0 ≤ 10 → 0 ≤ p12_0 → p12_0 ≤ 10 → 2 ≤ ka0_0 → p12_0 ≤ p2_0 → p12_0 ≤ (ka0_0 - 1) → p2_0 ≤ (ka0_0 - 1) → h12_0 x0 0 = ka0_0 → h12_0 x0 1 = ka0_1 → p12_0 - (-1) ≤ (n : Int) → wp l rho (d + 2) 79 12 [(2, x0), (0, p2_0), (0, p12_0), (9, 0)] [] h12_0 Q := by
        intro n
        induction n with
        | zero => intro p12_0 h12_0 gh_12_0 gx_12_0 q0_12_0 q1_12_0 q2_12_0 q3_12_0 q4_12_0 q5_12_0 q6_12_0 ca0_0_12_0 ca0_1_12_0 hm_12_0; exfalso; omega
        | succ n ih_12_0 =>
          intro p12_0 h12_0 gh_12_0 gx_12_0 q0_12_0 q1_12_0 q2_12_0 q3_12_0 q4_12_0 q5_12_0 q6_12_0 ca0_0_12_0 ca0_1_12_0 hm_12_0
          have J52_0 : ∀ (p52_0 : Int) (h52_0 : my_H), my_fr [(42, -1)] h h52_0 → my_fx x0 3 h h52_0 → 1 ≤ p12_0 → p52_0 ≤ 0 → p2_0 ≤ (ka0_0 - 1) → p12_0 ≤ p2_0 → p12_0 ≤ (ka0_0 - 1) → h52_0 x0 0 = ka0_0 → h52_0 x0 1 = ka0_1 → wp l rho (d + 2) 79 52 [(2, x0), (0, p2_0), (0, p12_0), (0, p52_0)] [] h52_0 Q := by
            intro p52_0 h52_0 gh_52_0 gx_52_0 q0_52_0 q1_52_0 q2_52_0 q3_52_0 q4_52_0 ca0_0_52_0 ca0_1_52_0
            refine w_iinc (ls' := [(2, x0), (0, p2_0), (0, (p12_0 + (-1))), (0, p52_0)]) gz_79_52 rfl gm_79 rfl rfl rfl ⟨by omega, by omega⟩ ?_
            refine w_goto (t := 12) gz_79_55 rfl ?_
            refine w_weak (ls' := [(2, x0), (0, p2_0), (0, (p12_0 + (-1))), (9, 0)]) (wk_e (wk_e (wk_e (wk_9 wk_n)))) ?_
            exact ih_12_0 ((p12_0 + (-1))) h52_0 (gh_52_0) (gx_52_0) (by omega) (by omega) (by omega) (by omega) (by omega) (by omega) (by omega) (ca0_0_52_0.trans (by omega)) (ca0_1_52_0.trans (by omega)) (by omega)
          refine w_iload_n gz_79_12 rfl ?_
          refine w_ifle (t := 58) gz_79_13 rfl (fun u15 => ?_) (fun u15 => ?_)
          ·
            exact J58_0 (p12_0) h12_0 (gh_12_0) (gx_12_0) (by omega) (by omega) (by omega) (by omega) (by omega) (by omega) (by omega) (ca0_0_12_0.trans (by omega)) (ca0_1_12_0.trans (by omega))
          ·
            refine w_aload_n gz_79_16 rfl ?_
            refine w_iload_n gz_79_17 rfl ?_
            refine w_aload_n gz_79_18 rfl ?_
            refine w_iload_n gz_79_19 rfl ?_
            refine w_iconst gz_79_20 (by decide) ?_
            refine w_isub gz_79_21 ⟨by omega, by omega⟩ ?_
            refine w_inv (k := 2) (as := [(0, (p12_0 - 1)), (2, x0), (0, p2_0)]) (r := []) (x := x0) (ls0 := [(2, x0), (0, p2_0), (2, x0), (0, (p12_0 - 1)), (9, 0), (9, 0)]) gz_79_22 gm_80 rfl t0 rd_8 rfl rfl rfl rfl rfl (c_View_compare (d := (d + 1)) (x0 := x0) (x1 := p2_0) (x2 := x0) (x3 := (p12_0 - 1)) t0 (by omega) (by omega) (by omega) (by omega) t0 (by omega) (by omega) (by omega) (by omega) ?_ (fun v16 w17 w18 => ?_))
            ·
              show wp l rho (d + 2) 79 25 [(2, x0), (0, p2_0), (0, p12_0), (9, 0)] [(0, 0)] h12_0 Q
              refine w_istore_n (ls' := [(2, x0), (0, p2_0), (0, p12_0), (0, 0)]) gz_79_25 gm_79 rfl rfl rfl ?_
              refine w_iload_n gz_79_26 rfl ?_
              refine w_ifgt (t := 58) gz_79_27 rfl (fun u19 => by exfalso; omega) (fun u19 => ?_)
              refine w_iload_n gz_79_30 rfl ?_
              refine w_ifne (t := 52) gz_79_31 rfl (fun u20 => by exfalso; omega) (fun u20 => ?_)
              refine w_aload_n gz_79_34 rfl ?_
              refine w_iload_n gz_79_35 rfl ?_
              refine w_inv (k := 0) (as := [(0, p2_0)]) (r := []) (x := x0) (ls0 := [(2, x0), (0, p2_0)]) gz_79_36 gm_75 rfl t0 rd_8 rfl rfl rfl rfl rfl ?_
              refine w_aload_n gz_75_0 rfl ?_
              refine w_getX (v := (x0 + 1)) gz_75_1 t0 rd_8 rfl (by decide) rfl ?_
              refine w_iload_n gz_75_4 rfl ?_
              refine w_bipush gz_75_5 (by decide) ?_
              refine w_imul gz_75_7 ⟨by omega, by omega⟩ ?_
              refine w_bipush gz_75_8 (by decide) ?_
              refine w_iadd gz_75_10 ⟨by omega, by omega⟩ ?_
              refine w_gldT gz_75_11 (ix_8_1 t0) rd_42 (by omega) (by omega) (by omega) (fun v22 ev22 pv22 qv22 => ?_)
              refine w_iret gz_75_12 gm_75 ?_
              show wp l rho (d + 2) 79 39 [(2, x0), (0, p2_0), (0, p12_0), (0, 0)] [(0, v22)] h12_0 Q
              refine w_aload_n gz_79_39 rfl ?_
              refine w_iload_n gz_79_40 rfl ?_
              refine w_iconst gz_79_41 (by decide) ?_
              refine w_isub gz_79_42 ⟨by omega, by omega⟩ ?_
              refine w_inv (k := 0) (as := [(0, (p12_0 - 1))]) (r := [(0, v22)]) (x := x0) (ls0 := [(2, x0), (0, (p12_0 - 1))]) gz_79_43 gm_75 rfl t0 rd_8 rfl rfl rfl rfl rfl ?_
              refine w_aload_n gz_75_0 rfl ?_
              refine w_getX (v := (x0 + 1)) gz_75_1 t0 rd_8 rfl (by decide) rfl ?_
              refine w_iload_n gz_75_4 rfl ?_
              refine w_bipush gz_75_5 (by decide) ?_
              refine w_imul gz_75_7 ⟨by omega, by omega⟩ ?_
              refine w_bipush gz_75_8 (by decide) ?_
              refine w_iadd gz_75_10 ⟨by omega, by omega⟩ ?_
              refine w_gldT gz_75_11 (ix_8_1 t0) rd_42 (by omega) (by omega) (by omega) (fun v24 ev24 pv24 qv24 => ?_)
              refine w_iret gz_75_12 gm_75 ?_
              show wp l rho (d + 2) 79 46 [(2, x0), (0, p2_0), (0, p12_0), (0, 0)] [(0, v24), (0, v22)] h12_0 Q
              refine w_iclt (t := 52) gz_79_46 rfl (fun u25 => ?_) (fun u25 => ?_)
              ·
                exact J52_0 (0) h12_0 (gh_12_0) (gx_12_0) (by omega) (by omega) (by omega) (by omega) (by omega) (ca0_0_12_0.trans (by omega)) (ca0_1_12_0.trans (by omega))
              ·
                refine w_goto (t := 58) gz_79_49 rfl ?_
                refine w_weak (ls' := [(2, x0), (0, p2_0), (0, p12_0), (9, 0)]) (wk_e (wk_e (wk_e (wk_9 wk_n)))) ?_
                exact J58_0 (p12_0) h12_0 (gh_12_0) (gx_12_0) (by omega) (by omega) (by omega) (by omega) (by omega) (by omega) (by omega) (ca0_0_12_0.trans (by omega)) (ca0_1_12_0.trans (by omega))
            ·
              show wp l rho (d + 2) 79 25 [(2, x0), (0, p2_0), (0, p12_0), (9, 0)] [(0, v16)] h12_0 Q
              refine w_istore_n (ls' := [(2, x0), (0, p2_0), (0, p12_0), (0, v16)]) gz_79_25 gm_79 rfl rfl rfl ?_
              refine w_iload_n gz_79_26 rfl ?_
              refine w_ifgt (t := 58) gz_79_27 rfl (fun u26 => ?_) (fun u26 => ?_)
              ·
                refine w_weak (ls' := [(2, x0), (0, p2_0), (0, p12_0), (9, 0)]) (wk_e (wk_e (wk_e (wk_9 wk_n)))) ?_
                exact J58_0 (p12_0) h12_0 (gh_12_0) (gx_12_0) (by omega) (by omega) (by omega) (by omega) (by omega) (by omega) (by omega) (ca0_0_12_0.trans (by omega)) (ca0_1_12_0.trans (by omega))
              ·
                refine w_iload_n gz_79_30 rfl ?_
                refine w_ifne (t := 52) gz_79_31 rfl (fun u27 => ?_) (fun u27 => ?_)
                ·
                  exact J52_0 (v16) h12_0 (gh_12_0) (gx_12_0) (by omega) (by omega) (by omega) (by omega) (by omega) (ca0_0_12_0.trans (by omega)) (ca0_1_12_0.trans (by omega))
                ·
                  refine w_aload_n gz_79_34 rfl ?_
                  refine w_iload_n gz_79_35 rfl ?_
                  refine w_inv (k := 0) (as := [(0, p2_0)]) (r := []) (x := x0) (ls0 := [(2, x0), (0, p2_0)]) gz_79_36 gm_75 rfl t0 rd_8 rfl rfl rfl rfl rfl ?_
                  refine w_aload_n gz_75_0 rfl ?_
                  refine w_getX (v := (x0 + 1)) gz_75_1 t0 rd_8 rfl (by decide) rfl ?_
                  refine w_iload_n gz_75_4 rfl ?_
                  refine w_bipush gz_75_5 (by decide) ?_
                  refine w_imul gz_75_7 ⟨by omega, by omega⟩ ?_
                  refine w_bipush gz_75_8 (by decide) ?_
                  refine w_iadd gz_75_10 ⟨by omega, by omega⟩ ?_
                  refine w_gldT gz_75_11 (ix_8_1 t0) rd_42 (by omega) (by omega) (by omega) (fun v29 ev29 pv29 qv29 => ?_)
                  refine w_iret gz_75_12 gm_75 ?_
                  show wp l rho (d + 2) 79 39 [(2, x0), (0, p2_0), (0, p12_0), (0, v16)] [(0, v29)] h12_0 Q
                  refine w_aload_n gz_79_39 rfl ?_
                  refine w_iload_n gz_79_40 rfl ?_
                  refine w_iconst gz_79_41 (by decide) ?_
                  refine w_isub gz_79_42 ⟨by omega, by omega⟩ ?_
                  refine w_inv (k := 0) (as := [(0, (p12_0 - 1))]) (r := [(0, v29)]) (x := x0) (ls0 := [(2, x0), (0, (p12_0 - 1))]) gz_79_43 gm_75 rfl t0 rd_8 rfl rfl rfl rfl rfl ?_
                  refine w_aload_n gz_75_0 rfl ?_
                  refine w_getX (v := (x0 + 1)) gz_75_1 t0 rd_8 rfl (by decide) rfl ?_
                  refine w_iload_n gz_75_4 rfl ?_
                  refine w_bipush gz_75_5 (by decide) ?_
                  refine w_imul gz_75_7 ⟨by omega, by omega⟩ ?_
                  refine w_bipush gz_75_8 (by decide) ?_
                  refine w_iadd gz_75_10 ⟨by omega, by omega⟩ ?_
                  refine w_gldT gz_75_11 (ix_8_1 t0) rd_42 (by omega) (by omega) (by omega) (fun v31 ev31 pv31 qv31 => ?_)
                  refine w_iret gz_75_12 gm_75 ?_
                  show wp l rho (d + 2) 79 46 [(2, x0), (0, p2_0), (0, p12_0), (0, v16)] [(0, v31), (0, v29)] h12_0 Q
                  refine w_iclt (t := 52) gz_79_46 rfl (fun u32 => ?_) (fun u32 => ?_)
                  ·
                    exact J52_0 (v16) h12_0 (gh_12_0) (gx_12_0) (by omega) (by omega) (by omega) (by omega) (by omega) (ca0_0_12_0.trans (by omega)) (ca0_1_12_0.trans (by omega))
                  ·
                    refine w_goto (t := 58) gz_79_49 rfl ?_
                    refine w_weak (ls' := [(2, x0), (0, p2_0), (0, p12_0), (9, 0)]) (wk_e (wk_e (wk_e (wk_9 wk_n)))) ?_
                    exact J58_0 (p12_0) h12_0 (gh_12_0) (gx_12_0) (by omega) (by omega) (by omega) (by omega) (by omega) (by omega) (by omega) (ca0_0_12_0.trans (by omega)) (ca0_1_12_0.trans (by omega))
      refine w_iload_n gz_79_2 rfl ?_
      refine w_aload_n gz_79_3 rfl ?_
      refine v_getI (j := 0) gz_79_4 rfl t0 rd_8 rfl (fun v33 ev33 pv33 qv33 => ?_)
      have zv33 := ev33.trans ca0_0_2_0
      refine w_icge (t := 104) gz_79_7 rfl (fun u34 => ?_) (fun u34 => ?_)
      ·
        have ce35 : h2_0 x0 0 = v33 := ev33.symm
        have ce36 : h2_0 x0 1 = ka0_1 := ca0_1_2_0
        exact w_vret gz_79_104 gm_79 (k0 h2_0 (gh_2_0) (gx_2_0) (by first | assumption | omega | (subst_vars; omega)) (by first | assumption | omega | (subst_vars; omega)))
      ·
        refine w_iload_n gz_79_10 rfl ?_
        refine w_istore_n (ls' := [(2, x0), (0, p2_0), (0, p2_0), (9, 0)]) gz_79_11 gm_79 rfl rfl rfl ?_
        exact J12_0 11 (p2_0) h2_0 (gh_2_0) (gx_2_0) (by omega) (by omega) (by omega) (by omega) (by omega) (by omega) (by omega) (ev33.symm.trans (by omega)) (ca0_1_2_0.trans (by omega)) (by omega)
  refine w_iconst gz_79_0 (by decide) ?_
  refine w_istore_n (ls' := [(2, x0), (0, 1), (9, 0), (9, 0)]) gz_79_1 gm_79 rfl rfl rfl ?_
  exact J2_0 11 (1) h (my_fr.rf) (my_fx.rf) (by omega) (by omega) (by omega) (eka0_0.symm.trans (by omega)) (eka0_1.symm.trans (by omega)) (by omega)
theorem c_Desk_tellingRows {l : Launch} {rho : Nat → Int32} {d : Nat} {h : my_H} {Q : my_H → my_V → Prop} {x1 : Int} (t1 : my_is 4 x1) (hor : h 94 15 ≠ 2 → 0 ≤ h 94 16 ∧ h 94 16 ≤ 9) (k0 : ∀ (y : Int), Q h (1, y)) : wp l rho (d + 2) 96 0 [(2, 94), (2, x1), (9, 0), (9, 0), (9, 0), (9, 0)] [] h Q := by
  have J16_0 : ∀ (n : Nat) (z16_l2 p16_0 : Int), 0 ≤ p16_0 → p16_0 ≤ 20 → h x1 7 = 0 → 21 - p16_0 ≤ (n : Int) → wp l rho (d + 2) 96 16 [(2, 94), (2, x1), (1, z16_l2), (9, 0), (0, p16_0), (9, 0)] [] h Q := by
    intro n
    induction n with
    | zero => intro z16_l2 p16_0 q0_16_0 q1_16_0 ca1_7_16_0 hm_16_0; exfalso; omega
    | succ n ih_16_0 =>
      intro z16_l2 p16_0 q0_16_0 q1_16_0 ca1_7_16_0 hm_16_0
      have J115_0 : ∀ (z115_l2 p115_0 : Int), p16_0 ≤ 19 → 0 ≤ p115_0 → p115_0 ≤ 2 → h x1 2 = p115_0 → h x1 7 = 0 → wp l rho (d + 2) 96 115 [(2, 94), (2, x1), (1, z115_l2), (9, 0), (0, p16_0), (9, 0)] [] h Q := by
        intro z115_l2 p115_0 q0_115_0 q1_115_0 q2_115_0 ca1_2_115_0 ca1_7_115_0
        refine w_iinc (ls' := [(2, 94), (2, x1), (1, z115_l2), (9, 0), (0, (p16_0 + 1)), (9, 0)]) gz_96_115 rfl gm_96 rfl rfl rfl ⟨by omega, by omega⟩ ?_
        refine w_goto (t := 16) gz_96_118 rfl ?_
        exact ih_16_0 (z115_l2) ((p16_0 + 1)) (by omega) (by omega) (ca1_7_115_0.trans (by omega)) (by omega)
      have J102_0 : ∀ (z102_l2 p102_0 p102_1 p102_2 : Int), p16_0 ≤ 19 → (-1) ≤ p102_0 → p102_0 ≤ 10 → 0 ≤ p102_1 → p102_1 ≤ 2 → 0 ≤ p102_2 → p102_2 ≤ 1 → h x1 2 = p102_1 → h x1 7 = 0 → h 94 14 = p102_2 → wp l rho (d + 2) 96 102 [(2, 94), (2, x1), (1, z102_l2), (9, 0), (0, p16_0), (0, p102_0)] [] h Q := by
        intro z102_l2 p102_0 p102_1 p102_2 q0_102_0 q1_102_0 q2_102_0 q3_102_0 q4_102_0 q5_102_0 q6_102_0 ca1_2_102_0 ca1_7_102_0 c94_14_102_0
        refine w_lload_n gz_96_102 rfl ?_
        refine w_aload_n gz_96_103 rfl ?_
        refine w_getX (v := 98) gz_96_104 is_94 rd_2 rfl (by decide) rfl ?_
        refine w_getX (v := 101) gz_96_107 is_98 rd_8 rfl (by decide) rfl ?_
        refine w_iload gz_96_110 rfl ?_
        refine w_lald gz_96_112 is_101 rd_44 (by omega) (by omega) (fun v3 ev3 pv3 => ?_)
        refine w_jany2 gz_96_113 (fun _ => rfl) rfl (fun v4 pv4 => ?_)
        refine w_lstore_n (ls' := [(2, 94), (2, x1), (1, v4), (9, 0), (0, p16_0), (0, p102_0)]) gz_96_114 gm_96 rfl rfl rfl ?_
        refine w_weak (ls' := [(2, 94), (2, x1), (1, v4), (9, 0), (0, p16_0), (9, 0)]) (wk_e (wk_e (wk_e (wk_9 (wk_e (wk_9 wk_n)))))) ?_
        exact J115_0 (v4) (p102_1) (by omega) (by omega) (by omega) (ca1_2_102_0.trans (by omega)) (ca1_7_102_0.trans (by omega))
      refine w_iload gz_96_16 rfl ?_
      refine w_bipush gz_96_18 (by decide) ?_
      refine w_icge (t := 121) gz_96_20 rfl (fun u5 => ?_) (fun u5 => ?_)
      ·
        refine w_lload_n gz_96_121 rfl ?_
        exact w_lret gz_96_122 gm_96 (k0 (z16_l2))
      ·
        refine w_aload_n gz_96_23 rfl ?_
        refine w_getX (v := 95) gz_96_24 is_94 rd_2 rfl (by decide) rfl ?_
        refine w_aload_n gz_96_27 rfl ?_
        refine v_getI (j := 2) gz_96_28 rfl t1 rd_4 rfl (fun v7 ev7 pv7 qv7 => ?_)
        refine w_iload gz_96_31 rfl ?_
        refine w_inv (k := 0) (as := [(0, p16_0), (0, v7)]) (r := []) (x := 95) (ls0 := [(2, 95), (0, v7), (0, p16_0)]) gz_96_33 gm_15 rfl is_95 rd_6 rfl rfl rfl rfl rfl ?_
        refine w_iload_n gz_15_0 rfl ?_
        refine w_iflt (t := 31) gz_15_1 rfl (fun u8 => by exfalso; omega) (fun u8 => ?_)
        refine w_iload_n gz_15_4 rfl ?_
        refine w_bipush gz_15_5 (by decide) ?_
        refine w_icge (t := 31) gz_15_7 rfl (fun u9 => by exfalso; omega) (fun u9 => ?_)
        refine w_aload_n gz_15_10 rfl ?_
        refine w_getX (v := 96) gz_15_11 is_95 rd_6 rfl (by decide) rfl ?_
        refine w_iload_n gz_15_14 rfl ?_
        refine w_bipush gz_15_15 (by decide) ?_
        refine w_imul gz_15_17 ⟨by omega, by omega⟩ ?_
        refine w_iload_n gz_15_18 rfl ?_
        refine w_iadd gz_15_19 ⟨by omega, by omega⟩ ?_
        refine w_iconst gz_15_20 (by decide) ?_
        refine w_imul gz_15_21 ⟨by omega, by omega⟩ ?_
        refine w_iald gz_15_22 is_96 rd_30 (by omega) (by omega) (fun v11 ev11 pv11 qv11 => ?_)
        refine w_iconst gz_15_23 (by decide) ?_
        refine w_iceq (t := 31) gz_15_24 rfl (fun u12 => ?_) (fun u12 => ?_)
        ·
          refine w_iconst gz_15_31 (by decide) ?_
          refine w_bret gz_15_32 gm_15 (by omega) (by omega) ?_
          show wp l rho (d + 2) 96 36 [(2, 94), (2, x1), (1, z16_l2), (9, 0), (0, p16_0), (9, 0)] [(0, 0)] h Q
          refine w_ifeq (t := 115) gz_96_36 rfl (fun u13 => ?_) (fun u13 => by exfalso; omega)
          exact J115_0 (z16_l2) (v7) (by omega) (by omega) (by omega) (ev7.symm.trans (by omega)) (ca1_7_16_0.trans (by omega))
        ·
          refine w_iconst gz_15_27 (by decide) ?_
          refine w_goto (t := 32) gz_15_28 rfl ?_
          refine w_bret gz_15_32 gm_15 (by omega) (by omega) ?_
          show wp l rho (d + 2) 96 36 [(2, 94), (2, x1), (1, z16_l2), (9, 0), (0, p16_0), (9, 0)] [(0, 1)] h Q
          refine w_ifeq (t := 115) gz_96_36 rfl (fun u14 => by exfalso; omega) (fun u14 => ?_)
          refine w_aload_n gz_96_39 rfl ?_
          refine w_getX (v := 98) gz_96_40 is_94 rd_2 rfl (by decide) rfl ?_
          refine w_iload gz_96_43 rfl ?_
          refine w_inv (k := 1) (as := [(0, p16_0)]) (r := []) (x := 98) (ls0 := [(2, 98), (0, p16_0), (9, 0)]) gz_96_45 gm_97 rfl is_98 rd_8 rfl rfl rfl rfl rfl (c_View_rowOf (d := d) (x0 := 98) (x1 := p16_0) is_98 (by omega) (by omega) ?_ (fun v16 w17 w18 w19 w20 => ?_))
          ·
            show wp l rho (d + 2) 96 48 [(2, 94), (2, x1), (1, z16_l2), (9, 0), (0, p16_0), (9, 0)] [(0, (-1))] h Q
            refine w_istore (ls' := [(2, 94), (2, x1), (1, z16_l2), (9, 0), (0, p16_0), (0, (-1))]) gz_96_48 gm_96 rfl rfl rfl ?_
            refine w_aload_n gz_96_50 rfl ?_
            refine v_getI (j := 14) gz_96_51 rfl is_94 rd_2 rfl (fun v21 ev21 pv21 qv21 => ?_)
            refine w_ifne (t := 102) gz_96_54 rfl (fun u22 => ?_) (fun u22 => ?_)
            ·
              exact J102_0 (z16_l2) ((-1)) (v7) (v21) (by omega) (by omega) (by omega) (by omega) (by omega) (by omega) (by omega) (ev7.symm.trans (by omega)) (ca1_7_16_0.trans (by omega)) (ev21.symm.trans (by omega))
            ·
              refine w_iload gz_96_57 rfl ?_
              refine w_iconst gz_96_59 (by decide) ?_
              refine w_icne (t := 74) gz_96_60 rfl (fun u23 => by exfalso; omega) (fun u23 => ?_)
              refine w_aload_n gz_96_63 rfl ?_
              refine v_getI (j := 15) gz_96_64 rfl is_94 rd_2 rfl (fun v24 ev24 pv24 qv24 => ?_)
              refine w_iconst gz_96_67 (by decide) ?_
              refine w_icne (t := 115) gz_96_68 rfl (fun u25 => ?_) (fun u25 => ?_)
              ·
                refine w_weak (ls' := [(2, 94), (2, x1), (1, z16_l2), (9, 0), (0, p16_0), (9, 0)]) (wk_e (wk_e (wk_e (wk_9 (wk_e (wk_9 wk_n)))))) ?_
                exact J115_0 (z16_l2) (v7) (by omega) (by omega) (by omega) (ev7.symm.trans (by omega)) (ca1_7_16_0.trans (by omega))
              ·
                refine w_goto (t := 102) gz_96_71 rfl ?_
                exact J102_0 (z16_l2) ((-1)) (v7) (v21) (by omega) (by omega) (by omega) (by omega) (by omega) (by omega) (by omega) (ev7.symm.trans (by omega)) (ca1_7_16_0.trans (by omega)) (ev21.symm.trans (by omega))
          ·
            show wp l rho (d + 2) 96 48 [(2, 94), (2, x1), (1, z16_l2), (9, 0), (0, p16_0), (9, 0)] [(0, v16)] h Q
            refine w_istore (ls' := [(2, 94), (2, x1), (1, z16_l2), (9, 0), (0, p16_0), (0, v16)]) gz_96_48 gm_96 rfl rfl rfl ?_
            refine w_aload_n gz_96_50 rfl ?_
            refine v_getI (j := 14) gz_96_51 rfl is_94 rd_2 rfl (fun v26 ev26 pv26 qv26 => ?_)
            refine w_ifne (t := 102) gz_96_54 rfl (fun u27 => ?_) (fun u27 => ?_)
            ·
              exact J102_0 (z16_l2) (v16) (v7) (v26) (by omega) (by omega) (by omega) (by omega) (by omega) (by omega) (by omega) (ev7.symm.trans (by omega)) (ca1_7_16_0.trans (by omega)) (ev26.symm.trans (by omega))
            ·
              refine w_iload gz_96_57 rfl ?_
              refine w_iconst gz_96_59 (by decide) ?_
              refine w_icne (t := 74) gz_96_60 rfl (fun u28 => ?_) (fun u28 => by exfalso; omega)
              refine w_aload_n gz_96_74 rfl ?_
              refine v_getI (j := 15) gz_96_75 rfl is_94 rd_2 rfl (fun v29 ev29 pv29 qv29 => ?_)
              refine w_iconst gz_96_78 (by decide) ?_
              refine w_iceq (t := 115) gz_96_79 rfl (fun u30 => ?_) (fun u30 => ?_)
              ·
                refine w_weak (ls' := [(2, 94), (2, x1), (1, z16_l2), (9, 0), (0, p16_0), (9, 0)]) (wk_e (wk_e (wk_e (wk_9 (wk_e (wk_9 wk_n)))))) ?_
                exact J115_0 (z16_l2) (v7) (by omega) (by omega) (by omega) (ev7.symm.trans (by omega)) (ca1_7_16_0.trans (by omega))
              ·
                refine w_aload_n gz_96_82 rfl ?_
                refine w_getX (v := 98) gz_96_83 is_94 rd_2 rfl (by decide) rfl ?_
                refine w_iload gz_96_86 rfl ?_
                refine w_aload_n gz_96_88 rfl ?_
                refine w_getX (v := 98) gz_96_89 is_94 rd_2 rfl (by decide) rfl ?_
                refine w_aload_n gz_96_92 rfl ?_
                refine v_getI (j := 16) gz_96_93 rfl is_94 rd_2 rfl (fun v33 ev33 pv33 qv33 => ?_)
                have hi34 : 0 ≤ v33 := by omega
                have hi35 : v33 ≤ 9 := by omega
                refine w_inv (k := 2) (as := [(0, v33), (2, 98), (0, v16)]) (r := []) (x := 98) (ls0 := [(2, 98), (0, v16), (2, 98), (0, v33), (9, 0), (9, 0)]) gz_96_96 gm_80 rfl is_98 rd_8 rfl rfl rfl rfl rfl (c_View_compare (d := (d + 1)) (x0 := 98) (x1 := v16) (x2 := 98) (x3 := v33) is_98 (by omega) (by omega) (by omega) (by omega) is_98 (by omega) (by omega) (by omega) (by omega) ?_ (fun v36 w37 w38 => ?_))
                ·
                  show wp l rho (d + 2) 96 99 [(2, 94), (2, x1), (1, z16_l2), (9, 0), (0, p16_0), (0, v16)] [(0, 0)] h Q
                  refine w_ifne (t := 115) gz_96_99 rfl (fun u39 => by exfalso; omega) (fun u39 => ?_)
                  exact J102_0 (z16_l2) (v16) (v7) (v26) (by omega) (by omega) (by omega) (by omega) (by omega) (by omega) (by omega) (ev7.symm.trans (by omega)) (ca1_7_16_0.trans (by omega)) (ev26.symm.trans (by omega))
                ·
                  show wp l rho (d + 2) 96 99 [(2, 94), (2, x1), (1, z16_l2), (9, 0), (0, p16_0), (0, v16)] [(0, v36)] h Q
                  refine w_ifne (t := 115) gz_96_99 rfl (fun u40 => ?_) (fun u40 => ?_)
                  ·
                    refine w_weak (ls' := [(2, 94), (2, x1), (1, z16_l2), (9, 0), (0, p16_0), (9, 0)]) (wk_e (wk_e (wk_e (wk_9 (wk_e (wk_9 wk_n)))))) ?_
                    exact J115_0 (z16_l2) (v7) (by omega) (by omega) (by omega) (ev7.symm.trans (by omega)) (ca1_7_16_0.trans (by omega))
                  ·
                    exact J102_0 (z16_l2) (v16) (v7) (v26) (by omega) (by omega) (by omega) (by omega) (by omega) (by omega) (by omega) (ev7.symm.trans (by omega)) (ca1_7_16_0.trans (by omega)) (ev26.symm.trans (by omega))
  refine w_aload_n gz_96_0 rfl ?_
  refine v_getI (j := 7) gz_96_1 rfl t1 rd_4 rfl (fun v41 ev41 pv41 qv41 => ?_)
  refine w_ifeq (t := 11) gz_96_4 rfl (fun u42 => ?_) (fun u42 => ?_)
  ·
    refine w_lconst gz_96_11 ?_
    refine w_lstore_n (ls' := [(2, 94), (2, x1), (1, (((0 : Fin 2).val : Nat) : Int)), (9, 0), (9, 0), (9, 0)]) gz_96_12 gm_96 rfl rfl rfl ?_
    refine w_iconst gz_96_13 (by decide) ?_
    refine w_istore (ls' := [(2, 94), (2, x1), (1, (((0 : Fin 2).val : Nat) : Int)), (9, 0), (0, 0), (9, 0)]) gz_96_14 gm_96 rfl rfl rfl ?_
    exact J16_0 21 ((((0 : Fin 2).val : Nat) : Int)) (0) (by omega) (by omega) (ev41.symm.trans (by omega)) (by omega)
  ·
    refine w_ldc2A gz_96_7 (fun v43 pv43 => ?_)
    exact w_lret gz_96_10 gm_96 (k0 (v43))
end MYNModel_sortShown
