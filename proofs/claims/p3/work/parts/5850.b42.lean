/-! contracts, printed by wip/gen/gy.py -/
section MYNModel_copies5
theorem c_Model_copies5 {l : Launch} {rho : Nat → Int32} {d : Nat} {h : my_H} {Q : my_H → my_V → Prop} {x1 x2 : Int} (a1 : 0 ≤ x1) (b1 : x1 ≤ 15) (a2 : 0 ≤ x2) (b2 : x2 ≤ 15) (n_Rws : Rws h) (k0 : ∀ (h' : my_H), my_fr [(61, -1), (62, -1)] h h' → Cp h h' x1 x2 → CpI h h' x1 x2 240 → Rws h' → Q h' (9, 0)) : wp l rho d 152 0 [(2, 151), (0, x1), (0, x2), (9, 0)] [] h Q := by
  have J38_0 : ∀ (n : Nat) (p38_0 : Int) (h38_0 : my_H), my_fr [(61, -1), (62, -1)] h h38_0 → 0 ≤ p38_0 → p38_0 ≤ 240 → Cp h h38_0 x1 x2 → CpI h h38_0 x1 x2 p38_0 → 241 - p38_0 ≤ (n : Int) → wp l rho d 152 38 [(2, 151), (0, x1), (0, x2), (0, p38_0)] [] h38_0 Q := by
    intro n
    induction n with
    | zero => intro p38_0 h38_0 gh_38_0 q0_38_0 q1_38_0 cc_38_0 cq_38_0 hm_38_0; exfalso; omega
    | succ n ih_38_0 =>
      intro p38_0 h38_0 gh_38_0 q0_38_0 q1_38_0 cc_38_0 cq_38_0 hm_38_0
      refine w_iload_n gz_152_38 rfl ?_
      refine w_sipush gz_152_39 (by decide) ?_
      refine w_icge (t := 75) gz_152_42 rfl (fun u1 => ?_) (fun u1 => ?_)
      ·
        have Rws_h38_0t2 : Rws h38_0 := Rws_Cp cc_38_0 (by omega) (by omega) n_Rws
        exact w_vret gz_152_75 gm_152 (k0 h38_0 (gh_38_0) (by first | exact cc_38_0 | (have q := cq_38_0; rw [show p38_0 = 240 by omega] at q; exact q) | assumption | omega) (by first | exact cc_38_0 | (have q := cq_38_0; rw [show p38_0 = 240 by omega] at q; exact q) | assumption | omega) Rws_h38_0t2)
      ·
        refine w_aload_n gz_152_45 rfl ?_
        refine w_getX (v := 163) gz_152_46 is_151 rd_10 rfl (by decide) rfl ?_
        refine w_sipush gz_152_49 (by decide) ?_
        refine w_iload_n gz_152_52 rfl ?_
        refine w_imul gz_152_53 ⟨by omega, by omega⟩ ?_
        refine w_iload_n gz_152_54 rfl ?_
        refine w_iadd gz_152_55 ⟨by omega, by omega⟩ ?_
        refine w_aload_n gz_152_56 rfl ?_
        refine w_getX (v := 163) gz_152_57 is_151 rd_10 rfl (by decide) rfl ?_
        refine w_sipush gz_152_60 (by decide) ?_
        refine w_iload_n gz_152_63 rfl ?_
        refine w_imul gz_152_64 ⟨by omega, by omega⟩ ?_
        refine w_iload_n gz_152_65 rfl ?_
        refine w_iadd gz_152_66 ⟨by omega, by omega⟩ ?_
        refine w_iald gz_152_67 is_163 rd_62 (by omega) (by omega) (fun v5 ev5 pv5 qv5 => ?_)
        refine w_iast gz_152_68 is_163 rd_62 (by omega) (by omega) (by omega) (by omega) (fun h6 fh6 => ?_)
        have gh6 : my_fr [(61, -1), (62, -1)] h h6 := my_fr.up gh_38_0 is_163 fh6 rfl
        refine w_iinc (ls' := [(2, 151), (0, x1), (0, x2), (0, (p38_0 + 1))]) gz_152_69 rfl gm_152 rfl rfl rfl ⟨by omega, by omega⟩ ?_
        refine w_goto (t := 38) gz_152_72 rfl ?_
        have a162 : ∀ j : Int, h6 162 j = h38_0 162 j := fun j => ((my_up_role fh6 is_162 is_163 rfl).trans (rfl : h38_0 162 j = h38_0 162 j))
        exact ih_38_0 ((p38_0 + 1)) h6 (gh6) (by omega) (by omega) (by first | exact Cp_ag a162 cc_38_0 | exact ⟨fun j a b => cp_2_0 j a (by omega), ot_2_0⟩ | omega) (by first | exact CpI_0 c3_2_0 | exact Cp3_s (by omega) (by omega) cq_38_0 fh6 (by omega) (by omega) | assumption | omega) (by omega)
  have J2_0 : ∀ (n : Nat) (p2_0 : Int) (h2_0 : my_H), my_fr [(61, -1), (62, -1)] h h2_0 → 0 ≤ p2_0 → p2_0 ≤ 60 → (∀ j : Int, 0 ≤ j → j < p2_0 → h2_0 162 (60 * x2 + j) = h 162 (60 * x1 + j)) → (∀ j : Int, (j < 60 * x2 ∨ 60 * x2 + 60 ≤ j) → h2_0 162 j = h 162 j) → (∀ j : Int, p2_0 ≤ j → j < 60 → h2_0 162 (60 * x2 + j) = h 162 (60 * x2 + j)) → (∀ j : Int, h2_0 163 j = h 163 j) → 61 - p2_0 ≤ (n : Int) → wp l rho d 152 2 [(2, 151), (0, x1), (0, x2), (0, p2_0)] [] h2_0 Q := by
    intro n
    induction n with
    | zero => intro p2_0 h2_0 gh_2_0 q0_2_0 q1_2_0 cp_2_0 ot_2_0 nt_2_0 c3_2_0 hm_2_0; exfalso; omega
    | succ n ih_2_0 =>
      intro p2_0 h2_0 gh_2_0 q0_2_0 q1_2_0 cp_2_0 ot_2_0 nt_2_0 c3_2_0 hm_2_0
      refine w_iload_n gz_152_2 rfl ?_
      refine w_bipush gz_152_3 (by decide) ?_
      refine w_icge (t := 36) gz_152_5 rfl (fun u7 => ?_) (fun u7 => ?_)
      ·
        refine w_iconst gz_152_36 (by decide) ?_
        refine w_istore_n (ls' := [(2, 151), (0, x1), (0, x2), (0, 0)]) gz_152_37 gm_152 rfl rfl rfl ?_
        have a162 : ∀ j : Int, h2_0 162 j = h2_0 162 j := fun _ => rfl
        exact J38_0 241 (0) h2_0 (gh_2_0) (by omega) (by omega) (by first | exact Cp_ag a162 cc_38_0 | exact ⟨fun j a b => cp_2_0 j a (by omega), ot_2_0⟩ | omega) (by first | exact CpI_0 c3_2_0 | exact Cp3_s (by omega) (by omega) cq_38_0  (by omega) (by omega) | assumption | omega) (by omega)
      ·
        refine w_aload_n gz_152_8 rfl ?_
        refine w_getX (v := 162) gz_152_9 is_151 rd_10 rfl (by decide) rfl ?_
        refine w_bipush gz_152_12 (by decide) ?_
        refine w_iload_n gz_152_14 rfl ?_
        refine w_imul gz_152_15 ⟨by omega, by omega⟩ ?_
        refine w_iload_n gz_152_16 rfl ?_
        refine w_iadd gz_152_17 ⟨by omega, by omega⟩ ?_
        refine w_aload_n gz_152_18 rfl ?_
        refine w_getX (v := 162) gz_152_19 is_151 rd_10 rfl (by decide) rfl ?_
        refine w_bipush gz_152_22 (by decide) ?_
        refine w_iload_n gz_152_24 rfl ?_
        refine w_imul gz_152_25 ⟨by omega, by omega⟩ ?_
        refine w_iload_n gz_152_26 rfl ?_
        refine w_iadd gz_152_27 ⟨by omega, by omega⟩ ?_
        have rv : h2_0 162 ((60 * x1) + p2_0) = h 162 ((60 * x1) + p2_0) := by
          by_cases q : x1 = x2
          · have z := nt_2_0 p2_0 (by omega) (by omega)
            rw [show ((60 * x1) + p2_0) = 60 * x2 + p2_0 by omega]; exact z
          · exact ot_2_0 _ (by omega)
        refine w_bald gz_152_28 is_162 rd_61 (by omega) (by omega) (fun v10 ev10 pv10 qv10 => ?_)
        refine w_bast gz_152_29 is_162 rd_61 (by omega) (by omega) (by omega) (by omega) (fun h11 fh11 => ?_)
        have gh11 : my_fr [(61, -1), (62, -1)] h h11 := my_fr.up gh_2_0 is_162 fh11 rfl
        refine w_iinc (ls' := [(2, 151), (0, x1), (0, x2), (0, (p2_0 + 1))]) gz_152_30 rfl gm_152 rfl rfl rfl ⟨by omega, by omega⟩ ?_
        refine w_goto (t := 2) gz_152_33 rfl ?_
        exact ih_2_0 ((p2_0 + 1)) h11 (gh11) (by omega) (by omega) (by first | (intro j a b; omega) | (intro j a b; rcases (by omega : j = p2_0 ∨ j < p2_0) with q | q <;> first | (rw [my_up_ne (x := 162) (i := 60 * x2 + j) fh11 (by omega)]; exact cp_2_0 j a q) | (subst q; rw [show 60 * x2 + j = 60 * x2 + j from rfl, my_up_self fh11]; omega)) | omega) (by first | (intro j a; rfl) | (intro j a; rw [my_up_ne (x := 162) (i := j) fh11 (by omega)]; exact ot_2_0 j a) | omega) (by first | (intro j a b; rfl) | (intro j a b; rw [my_up_ne (x := 162) (i := 60 * x2 + j) fh11 (by omega)]; exact nt_2_0 j (by omega) b) | omega) (by first | (intro j; rfl) | (intro j; rw [my_up_ne (x := 163) (i := j) fh11 (by omega)]; exact c3_2_0 j) | omega) (by omega)
  refine w_iconst gz_152_0 (by decide) ?_
  refine w_istore_n (ls' := [(2, 151), (0, x1), (0, x2), (0, 0)]) gz_152_1 gm_152 rfl rfl rfl ?_
  exact J2_0 61 (0) h (my_fr.rf) (by omega) (by omega) (by first | (intro j a b; omega) | (intro j a b; rcases (by omega : j = p2_0 ∨ j < p2_0) with q | q <;> first | (rw [my_up_ne (x := 162) (i := 60 * x2 + j)  (by omega)]; exact cp_2_0 j a q) | (subst q; rw [show 60 * x2 + j = 60 * x2 + j from rfl, my_up_self ]; omega)) | omega) (by first | (intro j a; rfl) | (intro j a; rw [my_up_ne (x := 162) (i := j)  (by omega)]; exact ot_2_0 j a) | omega) (by first | (intro j a b; rfl) | (intro j a b; rw [my_up_ne (x := 162) (i := 60 * x2 + j)  (by omega)]; exact nt_2_0 j (by omega) b) | omega) (by first | (intro j; rfl) | (intro j; rw [my_up_ne (x := 163) (i := j)  (by omega)]; exact c3_2_0 j) | omega) (by omega)
theorem c_Model_lays5 {l : Launch} {rho : Nat → Int32} {d : Nat} {h : my_H} {Q : my_H → my_V → Prop} {x1 x2 x3 x4 x5 x6 : Int} (a1 : 0 ≤ x1) (b1 : x1 ≤ 15) (a2 : 0 ≤ x2) (b2 : x2 ≤ 2) (a3 : 0 ≤ x3) (b3 : x3 ≤ 19) (a4 : 0 ≤ x4) (b4 : x4 ≤ 19) (a5 : 0 ≤ x5) (b5 : x5 ≤ 19) (a6 : 0 ≤ x6) (b6 : x6 ≤ 19) (n_Rws : Rws h) (hl : rc h (60 * x1 + 20 * x2) 20 ≤ 9) (k0 : ∀ (h' : my_H), my_fr [(61, -1), (62, -1)] h h' → LyP h h' (60 * x1 + 20 * x2 + x3) x3 x4 x5 x6 → Rws h' → Q h' (9, 0)) : wp l rho (d + 1) 153 0 [(2, 151), (0, x1), (0, x2), (0, x3), (0, x4), (0, x5), (0, x6), (9, 0)] [] h Q := by
  refine v_knowA (x := 162) is_162 rd_61 (fun kT => ?_)
  refine w_iload_n gz_153_0 rfl ?_
  refine w_iload_n gz_153_1 rfl ?_
  refine w_iload_n gz_153_2 rfl ?_
  refine w_inS (k := 0) (as := [(0, x3), (0, x2), (0, x1)]) (r := []) (ls0 := [(0, x1), (0, x2), (0, x3)]) gz_153_3 gm_150 rfl rfl rfl rfl rfl rfl ?_
  refine w_bipush gz_150_0 (by decide) ?_
  refine w_iload_n gz_150_2 rfl ?_
  refine w_imul gz_150_3 ⟨by omega, by omega⟩ ?_
  refine w_bipush gz_150_4 (by decide) ?_
  refine w_iload_n gz_150_6 rfl ?_
  refine w_imul gz_150_7 ⟨by omega, by omega⟩ ?_
  refine w_iadd gz_150_8 ⟨by omega, by omega⟩ ?_
  refine w_iload_n gz_150_9 rfl ?_
  refine w_iadd gz_150_10 ⟨by omega, by omega⟩ ?_
  refine w_iret gz_150_11 gm_150 ?_
  show wp l rho (d + 1) 153 6 [(2, 151), (0, x1), (0, x2), (0, x3), (0, x4), (0, x5), (0, x6), (9, 0)] [(0, (((60 * x1) + (20 * x2)) + x3))] h Q
  refine w_istore (ls' := [(2, 151), (0, x1), (0, x2), (0, x3), (0, x4), (0, x5), (0, x6), (0, (((60 * x1) + (20 * x2)) + x3))]) gz_153_6 gm_153 rfl rfl rfl ?_
  refine w_aload_n gz_153_8 rfl ?_
  refine w_getX (v := 162) gz_153_9 is_151 rd_10 rfl (by decide) rfl ?_
  refine w_iload gz_153_12 rfl ?_
  refine w_iconst gz_153_14 (by decide) ?_
  refine w_bast gz_153_15 is_162 rd_61 (by omega) (by omega) (by omega) (by omega) (fun h2 fh2 => ?_)
  have gh2 : my_fr [(61, -1), (62, -1)] h h2 := my_fr.up my_fr.rf is_162 fh2 rfl
  have Rws_h2t3 : Rws h2 := Rws_on fh2 (by omega) (kT _ (by omega) (by omega)).1 (s0 := x1) (w0 := x2) (by omega) (by omega) (by omega) (by omega) (by omega) hl n_Rws
  refine w_aload_n gz_153_16 rfl ?_
  refine w_getX (v := 163) gz_153_17 is_151 rd_10 rfl (by decide) rfl ?_
  refine w_iconst gz_153_20 (by decide) ?_
  refine w_iload gz_153_21 rfl ?_
  refine w_imul gz_153_23 ⟨by omega, by omega⟩ ?_
  refine w_iload_n gz_153_24 rfl ?_
  refine w_iast gz_153_25 is_163 rd_62 (by omega) (by omega) (by omega) (by omega) (fun h5 fh5 => ?_)
  have gh5 : my_fr [(61, -1), (62, -1)] h h5 := my_fr.up gh2 is_163 fh5 rfl
  have Rws_h5 : Rws h5 := Rws_ag (my_ag.up fh5 is_163 rfl) Rws_h2t3
  refine w_aload_n gz_153_26 rfl ?_
  refine w_getX (v := 163) gz_153_27 is_151 rd_10 rfl (by decide) rfl ?_
  refine w_iconst gz_153_30 (by decide) ?_
  refine w_iload gz_153_31 rfl ?_
  refine w_imul gz_153_33 ⟨by omega, by omega⟩ ?_
  refine w_iconst gz_153_34 (by decide) ?_
  refine w_iadd gz_153_35 ⟨by omega, by omega⟩ ?_
  refine w_iload gz_153_36 rfl ?_
  refine w_iast gz_153_38 is_163 rd_62 (by omega) (by omega) (by omega) (by omega) (fun h7 fh7 => ?_)
  have gh7 : my_fr [(61, -1), (62, -1)] h h7 := my_fr.up gh5 is_163 fh7 rfl
  have Rws_h7 : Rws h7 := Rws_ag (my_ag.up fh7 is_163 rfl) Rws_h5
  refine w_aload_n gz_153_39 rfl ?_
  refine w_getX (v := 163) gz_153_40 is_151 rd_10 rfl (by decide) rfl ?_
  refine w_iconst gz_153_43 (by decide) ?_
  refine w_iload gz_153_44 rfl ?_
  refine w_imul gz_153_46 ⟨by omega, by omega⟩ ?_
  refine w_iconst gz_153_47 (by decide) ?_
  refine w_iadd gz_153_48 ⟨by omega, by omega⟩ ?_
  refine w_iload gz_153_49 rfl ?_
  refine w_iast gz_153_51 is_163 rd_62 (by omega) (by omega) (by omega) (by omega) (fun h9 fh9 => ?_)
  have gh9 : my_fr [(61, -1), (62, -1)] h h9 := my_fr.up gh7 is_163 fh9 rfl
  have Rws_h9 : Rws h9 := Rws_ag (my_ag.up fh9 is_163 rfl) Rws_h7
  refine w_aload_n gz_153_52 rfl ?_
  refine w_getX (v := 163) gz_153_53 is_151 rd_10 rfl (by decide) rfl ?_
  refine w_iconst gz_153_56 (by decide) ?_
  refine w_iload gz_153_57 rfl ?_
  refine w_imul gz_153_59 ⟨by omega, by omega⟩ ?_
  refine w_iconst gz_153_60 (by decide) ?_
  refine w_iadd gz_153_61 ⟨by omega, by omega⟩ ?_
  refine w_iload gz_153_62 rfl ?_
  refine w_iast gz_153_64 is_163 rd_62 (by omega) (by omega) (by omega) (by omega) (fun h11 fh11 => ?_)
  have gh11 : my_fr [(61, -1), (62, -1)] h h11 := my_fr.up gh9 is_163 fh11 rfl
  have Rws_h11 : Rws h11 := Rws_ag (my_ag.up fh11 is_163 rfl) Rws_h9
  exact w_vret gz_153_65 gm_153 (k0 h11 (gh11) (by first | exact LyP_i fh2 (by omega) fh5 (by omega) fh7 (by omega) fh9 (by omega) fh11 (by omega) | assumption | omega) Rws_h11)
theorem c_Model_isLawfulRow5 {l : Launch} {rho : Nat → Int32} {d : Nat} {h : my_H} {Q : my_H → my_V → Prop} {x1 x2 x3 : Int} (a1 : 0 ≤ x1) (b1 : x1 ≤ 15) (a2 : 0 ≤ x2) (b2 : x2 ≤ 2) (a3 : 0 ≤ x3) (b3 : x3 ≤ 19) (k0 : ¬ MLr h x1 x2 x3 → Q h (0, 0)) (k1 : MLr h x1 x2 x3 → Q h (0, 1)) : wp l rho (d + 2) 156 0 [(2, 151), (0, x1), (0, x2), (0, x3), (9, 0), (9, 0), (9, 0), (9, 0)] [] h Q := by
  have J3_0 : ∀ (n : Nat) (p3_0 : Int), 0 ≤ p3_0 → p3_0 ≤ 4 → (∀ c : Int, 0 ≤ c → c < p3_0 → MLc h x1 x2 x3 c) → 5 - p3_0 ≤ (n : Int) → wp l rho (d + 2) 156 3 [(2, 151), (0, x1), (0, x2), (0, x3), (0, p3_0), (9, 0), (9, 0), (9, 0)] [] h Q := by
    intro n
    induction n with
    | zero => intro p3_0 q0_3_0 q1_3_0 lr_3_0 hm_3_0; exfalso; omega
    | succ n ih_3_0 =>
      intro p3_0 q0_3_0 q1_3_0 lr_3_0 hm_3_0
      have J91_0 : ∀ (n : Nat) (p91_0 p91_1 p91_2 : Int), p3_0 ≤ 3 → 0 ≤ p91_0 → p91_0 ≤ 19 → 0 ≤ p91_1 → p91_1 ≤ 11 → 0 ≤ p91_2 → p91_2 ≤ 19 → p91_2 ≤ x3 → MLw h x1 p91_1 p91_0 → p91_0 = h 163 (4 * (60 * x1 + 20 * x2 + x3) + p3_0) → p91_1 = 4 * x2 + p3_0 → p3_0 < h 157 x2 → (∀ k : Int, 0 ≤ k → k < p91_2 → h 162 (60 * x1 + 20 * x2 + k) = 1 → h 163 (4 * (60 * x1 + 20 * x2 + k) + p3_0) ≠ p91_0) → 20 - p91_2 ≤ (n : Int) → wp l rho (d + 2) 156 91 [(2, 151), (0, x1), (0, x2), (0, x3), (0, p3_0), (0, p91_0), (0, p91_1), (0, p91_2)] [] h Q := by
        intro n
        induction n with
        | zero => intro p91_0 p91_1 p91_2 q0_91_0 q1_91_0 q2_91_0 q3_91_0 q4_91_0 q5_91_0 q6_91_0 q7_91_0 wn_91_0 vq_91_0 gq_91_0 cl_91_0 nk_91_0 hm_91_0; exfalso; omega
        | succ n ih_91_0 =>
          intro p91_0 p91_1 p91_2 q0_91_0 q1_91_0 q2_91_0 q3_91_0 q4_91_0 q5_91_0 q6_91_0 q7_91_0 wn_91_0 vq_91_0 gq_91_0 cl_91_0 nk_91_0 hm_91_0
          refine w_iload gz_156_91 rfl ?_
          refine w_iload_n gz_156_93 rfl ?_
          refine w_icge (t := 145) gz_156_94 rfl (fun u1 => ?_) (fun u1 => ?_)
          ·
            refine w_iinc (ls' := [(2, 151), (0, x1), (0, x2), (0, x3), (0, (p3_0 + 1)), (0, p91_0), (0, p91_1), (0, p91_2)]) gz_156_145 rfl gm_156 rfl rfl rfl ⟨by omega, by omega⟩ ?_
            refine w_goto (t := 3) gz_156_148 rfl ?_
            refine w_weak (ls' := [(2, 151), (0, x1), (0, x2), (0, x3), (0, (p3_0 + 1)), (9, 0), (9, 0), (9, 0)]) (wk_e (wk_e (wk_e (wk_e (wk_e (wk_9 (wk_9 (wk_9 wk_n)))))))) ?_
            exact ih_3_0 ((p3_0 + 1)) (by omega) (by omega) (by first | exact st_0 | exact st_1 lr_3_0 (MLc_i gq_91_0 vq_91_0 wn_91_0 (Or.inl (by omega))) | exact st_1 lr_3_0 (MLc_i gq_91_0 vq_91_0 wn_91_0 (Or.inr (fun k a b => nk_91_0 k a (by omega)))) | assumption | omega) (by omega)
          ·
            refine w_aload_n gz_156_97 rfl ?_
            refine w_getX (v := 161) gz_156_98 is_151 rd_10 rfl (by decide) rfl ?_
            refine w_iload gz_156_101 rfl ?_
            refine w_bald gz_156_103 is_161 rd_60 (by omega) (by omega) (fun v3 ev3 pv3 qv3 => ?_)
            have c3 : h 161 p91_1 = v3 := by omega
            refine w_ifeq (t := 145) gz_156_104 rfl (fun u4 => ?_) (fun u4 => ?_)
            ·
              refine w_iinc (ls' := [(2, 151), (0, x1), (0, x2), (0, x3), (0, (p3_0 + 1)), (0, p91_0), (0, p91_1), (0, p91_2)]) gz_156_145 rfl gm_156 rfl rfl rfl ⟨by omega, by omega⟩ ?_
              refine w_goto (t := 3) gz_156_148 rfl ?_
              refine w_weak (ls' := [(2, 151), (0, x1), (0, x2), (0, x3), (0, (p3_0 + 1)), (9, 0), (9, 0), (9, 0)]) (wk_e (wk_e (wk_e (wk_e (wk_e (wk_9 (wk_9 (wk_9 wk_n)))))))) ?_
              exact ih_3_0 ((p3_0 + 1)) (by omega) (by omega) (by first | exact st_0 | exact st_1 lr_3_0 (MLc_i gq_91_0 vq_91_0 wn_91_0 (Or.inl (by omega))) | exact st_1 lr_3_0 (MLc_i gq_91_0 vq_91_0 wn_91_0 (Or.inr (fun k a b => nk_91_0 k a (by omega)))) | assumption | omega) (by omega)
            ·
              refine w_aload_n gz_156_107 rfl ?_
              refine w_getX (v := 162) gz_156_108 is_151 rd_10 rfl (by decide) rfl ?_
              refine w_iload_n gz_156_111 rfl ?_
              refine w_iload_n gz_156_112 rfl ?_
              refine w_iload gz_156_113 rfl ?_
              refine w_inS (k := 0) (as := [(0, p91_2), (0, x2), (0, x1)]) (r := [(2, 162)]) (ls0 := [(0, x1), (0, x2), (0, p91_2)]) gz_156_115 gm_150 rfl rfl rfl rfl rfl rfl ?_
              refine w_bipush gz_150_0 (by decide) ?_
              refine w_iload_n gz_150_2 rfl ?_
              refine w_imul gz_150_3 ⟨by omega, by omega⟩ ?_
              refine w_bipush gz_150_4 (by decide) ?_
              refine w_iload_n gz_150_6 rfl ?_
              refine w_imul gz_150_7 ⟨by omega, by omega⟩ ?_
              refine w_iadd gz_150_8 ⟨by omega, by omega⟩ ?_
              refine w_iload_n gz_150_9 rfl ?_
              refine w_iadd gz_150_10 ⟨by omega, by omega⟩ ?_
              refine w_iret gz_150_11 gm_150 ?_
              show wp l rho (d + 2) 156 118 [(2, 151), (0, x1), (0, x2), (0, x3), (0, p3_0), (0, p91_0), (0, p91_1), (0, p91_2)] [(0, (((60 * x1) + (20 * x2)) + p91_2)), (2, 162)] h Q
              refine w_bald gz_156_118 is_162 rd_61 (by omega) (by omega) (fun v6 ev6 pv6 qv6 => ?_)
              obtain ⟨w6, ew6⟩ : ∃ z : Int, z = v6 := ⟨_, rfl⟩
              have c6 : h 162 (60 * x1 + 20 * x2 + p91_2) = w6 := by
                rw [show 60 * x1 + 20 * x2 + p91_2 = (((60 * x1) + (20 * x2)) + p91_2) by omega]
                omega
              refine w_ifeq (t := 139) gz_156_119 rfl (fun u7 => ?_) (fun u7 => ?_)
              ·
                refine w_iinc (ls' := [(2, 151), (0, x1), (0, x2), (0, x3), (0, p3_0), (0, p91_0), (0, p91_1), (0, (p91_2 + 1))]) gz_156_139 rfl gm_156 rfl rfl rfl ⟨by omega, by omega⟩ ?_
                refine w_goto (t := 91) gz_156_142 rfl ?_
                exact ih_91_0 (p91_0) (p91_1) ((p91_2 + 1)) (by omega) (by omega) (by omega) (by omega) (by omega) (by omega) (by omega) (by omega) (by first | exact wn_91_0 | exact ⟨by omega, by omega, by first | exact Or.inl (by omega) | exact Or.inr (by rw [cn]; omega)⟩ | assumption | omega) (by first | exact vq_91_0 | (rw [cv]; omega) | assumption | omega) (by first | rfl | exact gq_91_0 | assumption | omega) (by first | exact cl_91_0 | assumption | omega) (by first | exact st_0 | exact st_1 nk_91_0 (fun z => by exfalso; omega) | exact st_1 nk_91_0 (fun _ => by rw [c9]; omega) | assumption | omega) (by omega)
              ·
                refine w_aload_n gz_156_122 rfl ?_
                refine w_iload_n gz_156_123 rfl ?_
                refine w_iload_n gz_156_124 rfl ?_
                refine w_iload gz_156_125 rfl ?_
                refine w_iload gz_156_127 rfl ?_
                refine w_inv (k := 0) (as := [(0, p3_0), (0, p91_2), (0, x2), (0, x1)]) (r := []) (x := 151) (ls0 := [(2, 151), (0, x1), (0, x2), (0, p91_2), (0, p3_0)]) gz_156_129 gm_157 rfl is_151 rd_10 rfl rfl rfl rfl rfl ?_
                refine w_aload_n gz_157_0 rfl ?_
                refine w_getX (v := 163) gz_157_1 is_151 rd_10 rfl (by decide) rfl ?_
                refine w_iconst gz_157_4 (by decide) ?_
                refine w_iload_n gz_157_5 rfl ?_
                refine w_iload_n gz_157_6 rfl ?_
                refine w_iload_n gz_157_7 rfl ?_
                refine w_inS (k := 0) (as := [(0, p91_2), (0, x2), (0, x1)]) (r := [(0, 4), (2, 163)]) (ls0 := [(0, x1), (0, x2), (0, p91_2)]) gz_157_8 gm_150 rfl rfl rfl rfl rfl rfl ?_
                refine w_bipush gz_150_0 (by decide) ?_
                refine w_iload_n gz_150_2 rfl ?_
                refine w_imul gz_150_3 ⟨by omega, by omega⟩ ?_
                refine w_bipush gz_150_4 (by decide) ?_
                refine w_iload_n gz_150_6 rfl ?_
                refine w_imul gz_150_7 ⟨by omega, by omega⟩ ?_
                refine w_iadd gz_150_8 ⟨by omega, by omega⟩ ?_
                refine w_iload_n gz_150_9 rfl ?_
                refine w_iadd gz_150_10 ⟨by omega, by omega⟩ ?_
                refine w_iret gz_150_11 gm_150 ?_
                show wp l rho (d + 1) 157 11 [(2, 151), (0, x1), (0, x2), (0, p91_2), (0, p3_0)] [(0, (((60 * x1) + (20 * x2)) + p91_2)), (0, 4), (2, 163)] h _
                refine w_imul gz_157_11 ⟨by omega, by omega⟩ ?_
                refine w_iload gz_157_12 rfl ?_
                refine w_iadd gz_157_14 ⟨by omega, by omega⟩ ?_
                refine w_iald gz_157_15 is_163 rd_62 (by omega) (by omega) (fun v9 ev9 pv9 qv9 => ?_)
                refine w_iret gz_157_16 gm_157 ?_
                show wp l rho (d + 2) 156 132 [(2, 151), (0, x1), (0, x2), (0, x3), (0, p3_0), (0, p91_0), (0, p91_1), (0, p91_2)] [(0, v9)] h Q
                obtain ⟨w9, ew9⟩ : ∃ z : Int, z = v9 := ⟨_, rfl⟩
                have c9 : h 163 (4 * (60 * x1 + 20 * x2 + p91_2) + p3_0) = w9 := by
                  rw [show 4 * (60 * x1 + 20 * x2 + p91_2) + p3_0 = ((4 * (((60 * x1) + (20 * x2)) + p91_2)) + p3_0) by omega]
                  omega
                refine w_iload gz_156_132 rfl ?_
                refine w_icne (t := 139) gz_156_134 rfl (fun u10 => ?_) (fun u10 => ?_)
                ·
                  refine w_iinc (ls' := [(2, 151), (0, x1), (0, x2), (0, x3), (0, p3_0), (0, p91_0), (0, p91_1), (0, (p91_2 + 1))]) gz_156_139 rfl gm_156 rfl rfl rfl ⟨by omega, by omega⟩ ?_
                  refine w_goto (t := 91) gz_156_142 rfl ?_
                  exact ih_91_0 (p91_0) (p91_1) ((p91_2 + 1)) (by omega) (by omega) (by omega) (by omega) (by omega) (by omega) (by omega) (by omega) (by first | exact wn_91_0 | exact ⟨by omega, by omega, by first | exact Or.inl (by omega) | exact Or.inr (by rw [cn]; omega)⟩ | assumption | omega) (by first | exact vq_91_0 | (rw [cv]; omega) | assumption | omega) (by first | rfl | exact gq_91_0 | assumption | omega) (by first | exact cl_91_0 | assumption | omega) (by first | exact st_0 | exact st_1 nk_91_0 (fun z => by exfalso; omega) | exact st_1 nk_91_0 (fun _ => by rw [c9]; omega) | assumption | omega) (by omega)
                ·
                  refine w_iconst gz_156_137 (by decide) ?_
                  exact w_bret gz_156_138 gm_156 (by omega) (by omega) (k0 (by first | exact (fun c a b => lr_3_0 c a (by omega)) | exact (fun z => MLc_1 cv cf (by omega) (z p3_0 (by omega) (by omega))) | exact (fun z => MLc_2 cv ct (by omega) (z p3_0 (by omega) (by omega))) | exact (fun z => MLc_3 cv cn (by omega) ch (by omega) (by omega) (z p3_0 (by omega) (by omega))) | exact (fun z => MLc_4 gq_91_0 vq_91_0 (by omega) (by omega) (by omega) c6 (by omega) c9 (by omega) (z p3_0 (by omega) (by omega))) | assumption | omega))
      refine w_iload gz_156_3 rfl ?_
      refine w_aload_n gz_156_5 rfl ?_
      refine w_getX (v := 157) gz_156_6 is_151 rd_10 rfl (by decide) rfl ?_
      refine w_iload_n gz_156_9 rfl ?_
      refine w_iald gz_156_10 is_157 rd_56 (by omega) (by omega) (fun v12 ev12 pv12 qv12 => ?_)
      refine w_icge (t := 151) gz_156_11 rfl (fun u13 => ?_) (fun u13 => ?_)
      ·
        refine w_iconst gz_156_151 (by decide) ?_
        exact w_bret gz_156_152 gm_156 (by omega) (by omega) (k1 (by first | exact (fun c a b => lr_3_0 c a (by omega)) | exact (fun z => MLc_1 cv cf (by omega) (z p3_0 (by omega) (by omega))) | exact (fun z => MLc_2 cv ct (by omega) (z p3_0 (by omega) (by omega))) | exact (fun z => MLc_3 cv cn (by omega) ch (by omega) (by omega) (z p3_0 (by omega) (by omega))) | exact (fun z => MLc_4 gq_91_0 vq_91_0 (by omega) (by omega) (by omega) c6 (by omega) c9 (by omega) (z p3_0 (by omega) (by omega))) | assumption | omega))
      ·
        refine w_aload_n gz_156_14 rfl ?_
        refine w_iload_n gz_156_15 rfl ?_
        refine w_iload_n gz_156_16 rfl ?_
        refine w_iload_n gz_156_17 rfl ?_
        refine w_iload gz_156_18 rfl ?_
        refine w_inv (k := 0) (as := [(0, p3_0), (0, x3), (0, x2), (0, x1)]) (r := []) (x := 151) (ls0 := [(2, 151), (0, x1), (0, x2), (0, x3), (0, p3_0)]) gz_156_20 gm_157 rfl is_151 rd_10 rfl rfl rfl rfl rfl ?_
        refine w_aload_n gz_157_0 rfl ?_
        refine w_getX (v := 163) gz_157_1 is_151 rd_10 rfl (by decide) rfl ?_
        refine w_iconst gz_157_4 (by decide) ?_
        refine w_iload_n gz_157_5 rfl ?_
        refine w_iload_n gz_157_6 rfl ?_
        refine w_iload_n gz_157_7 rfl ?_
        refine w_inS (k := 0) (as := [(0, x3), (0, x2), (0, x1)]) (r := [(0, 4), (2, 163)]) (ls0 := [(0, x1), (0, x2), (0, x3)]) gz_157_8 gm_150 rfl rfl rfl rfl rfl rfl ?_
        refine w_bipush gz_150_0 (by decide) ?_
        refine w_iload_n gz_150_2 rfl ?_
        refine w_imul gz_150_3 ⟨by omega, by omega⟩ ?_
        refine w_bipush gz_150_4 (by decide) ?_
        refine w_iload_n gz_150_6 rfl ?_
        refine w_imul gz_150_7 ⟨by omega, by omega⟩ ?_
        refine w_iadd gz_150_8 ⟨by omega, by omega⟩ ?_
        refine w_iload_n gz_150_9 rfl ?_
        refine w_iadd gz_150_10 ⟨by omega, by omega⟩ ?_
        refine w_iret gz_150_11 gm_150 ?_
        show wp l rho (d + 1) 157 11 [(2, 151), (0, x1), (0, x2), (0, x3), (0, p3_0)] [(0, (((60 * x1) + (20 * x2)) + x3)), (0, 4), (2, 163)] h _
        refine w_imul gz_157_11 ⟨by omega, by omega⟩ ?_
        refine w_iload gz_157_12 rfl ?_
        refine w_iadd gz_157_14 ⟨by omega, by omega⟩ ?_
        refine w_iald gz_157_15 is_163 rd_62 (by omega) (by omega) (fun v15 ev15 pv15 qv15 => ?_)
        refine w_iret gz_157_16 gm_157 ?_
        show wp l rho (d + 2) 156 23 [(2, 151), (0, x1), (0, x2), (0, x3), (0, p3_0), (9, 0), (9, 0), (9, 0)] [(0, v15)] h Q
        obtain ⟨vv, evv⟩ : ∃ z : Int, z = v15 := ⟨_, rfl⟩
        have cv : h 163 (4 * (60 * x1 + 20 * x2 + x3) + p3_0) = vv := by
          rw [show 4 * (60 * x1 + 20 * x2 + x3) + p3_0 = ((4 * (((60 * x1) + (20 * x2)) + x3)) + p3_0) by omega]
          omega
        refine w_istore (ls' := [(2, 151), (0, x1), (0, x2), (0, x3), (0, p3_0), (0, v15), (9, 0), (9, 0)]) gz_156_23 gm_156 rfl rfl rfl ?_
        refine w_iconst gz_156_25 (by decide) ?_
        refine w_iload_n gz_156_26 rfl ?_
        refine w_imul gz_156_27 ⟨by omega, by omega⟩ ?_
        refine w_iload gz_156_28 rfl ?_
        refine w_iadd gz_156_30 ⟨by omega, by omega⟩ ?_
        refine w_istore (ls' := [(2, 151), (0, x1), (0, x2), (0, x3), (0, p3_0), (0, v15), (0, ((4 * x2) + p3_0)), (9, 0)]) gz_156_31 gm_156 rfl rfl rfl ?_
        refine w_iload gz_156_33 rfl ?_
        refine w_aload_n gz_156_35 rfl ?_
        refine w_getX (v := 158) gz_156_36 is_151 rd_10 rfl (by decide) rfl ?_
        refine w_iload gz_156_39 rfl ?_
        refine w_iald gz_156_41 is_158 rd_57 (by omega) (by omega) (fun v17 ev17 pv17 qv17 => ?_)
        obtain ⟨nf, enf⟩ : ∃ z : Int, z = v17 := ⟨_, rfl⟩
        have cf : h 158 (4 * x2 + p3_0) = nf := by
          rw [show 4 * x2 + p3_0 = ((4 * x2) + p3_0) by omega]
          omega
        refine w_aload_n gz_156_42 rfl ?_
        refine w_getX (v := 159) gz_156_43 is_151 rd_10 rfl (by decide) rfl ?_
        refine w_iload gz_156_46 rfl ?_
        refine w_iald gz_156_48 is_159 rd_58 (by omega) (by omega) (fun v19 ev19 pv19 qv19 => ?_)
        obtain ⟨nt, ent⟩ : ∃ z : Int, z = v19 := ⟨_, rfl⟩
        have ct : h 159 (4 * x2 + p3_0) = nt := by
          rw [show 4 * x2 + p3_0 = ((4 * x2) + p3_0) by omega]
          omega
        refine w_inS (k := 0) (as := [(0, v19), (0, v17), (0, v15)]) (r := []) (ls0 := [(0, v15), (0, v17), (0, v19)]) gz_156_49 gm_147 rfl rfl rfl rfl rfl rfl ?_
        refine w_iload_n gz_147_0 rfl ?_
        refine w_iload_n gz_147_1 rfl ?_
        refine w_iclt (t := 14) gz_147_2 rfl (fun u20 => ?_) (fun u20 => ?_)
        ·
          refine w_iconst gz_147_14 (by decide) ?_
          refine w_bret gz_147_15 gm_147 (by omega) (by omega) ?_
          show wp l rho (d + 2) 156 52 [(2, 151), (0, x1), (0, x2), (0, x3), (0, p3_0), (0, v15), (0, ((4 * x2) + p3_0)), (9, 0)] [(0, 0)] h Q
          refine w_ifeq (t := 86) gz_156_52 rfl (fun u21 => ?_) (fun u21 => by exfalso; omega)
          refine w_iconst gz_156_86 (by decide) ?_
          exact w_bret gz_156_87 gm_156 (by omega) (by omega) (k0 (by first | exact (fun c a b => lr_3_0 c a (by omega)) | exact (fun z => MLc_1 cv cf (by omega) (z p3_0 (by omega) (by omega))) | exact (fun z => MLc_2 cv ct (by omega) (z p3_0 (by omega) (by omega))) | exact (fun z => MLc_3 cv cn (by omega) ch (by omega) (by omega) (z p3_0 (by omega) (by omega))) | exact (fun z => MLc_4 gq_91_0 vq_91_0 (by omega) (by omega) (by omega) c6 (by omega) c9 (by omega) (z p3_0 (by omega) (by omega))) | assumption | omega))
        ·
          refine w_iload_n gz_147_5 rfl ?_
          refine w_iload_n gz_147_6 rfl ?_
          refine w_icgt (t := 14) gz_147_7 rfl (fun u22 => ?_) (fun u22 => ?_)
          ·
            refine w_iconst gz_147_14 (by decide) ?_
            refine w_bret gz_147_15 gm_147 (by omega) (by omega) ?_
            show wp l rho (d + 2) 156 52 [(2, 151), (0, x1), (0, x2), (0, x3), (0, p3_0), (0, v15), (0, ((4 * x2) + p3_0)), (9, 0)] [(0, 0)] h Q
            refine w_ifeq (t := 86) gz_156_52 rfl (fun u23 => ?_) (fun u23 => by exfalso; omega)
            refine w_iconst gz_156_86 (by decide) ?_
            exact w_bret gz_156_87 gm_156 (by omega) (by omega) (k0 (by first | exact (fun c a b => lr_3_0 c a (by omega)) | exact (fun z => MLc_1 cv cf (by omega) (z p3_0 (by omega) (by omega))) | exact (fun z => MLc_2 cv ct (by omega) (z p3_0 (by omega) (by omega))) | exact (fun z => MLc_3 cv cn (by omega) ch (by omega) (by omega) (z p3_0 (by omega) (by omega))) | exact (fun z => MLc_4 gq_91_0 vq_91_0 (by omega) (by omega) (by omega) c6 (by omega) c9 (by omega) (z p3_0 (by omega) (by omega))) | assumption | omega))
          ·
            refine w_iconst gz_147_10 (by decide) ?_
            refine w_goto (t := 15) gz_147_11 rfl ?_
            refine w_bret gz_147_15 gm_147 (by omega) (by omega) ?_
            show wp l rho (d + 2) 156 52 [(2, 151), (0, x1), (0, x2), (0, x3), (0, p3_0), (0, v15), (0, ((4 * x2) + p3_0)), (9, 0)] [(0, 1)] h Q
            refine w_ifeq (t := 86) gz_156_52 rfl (fun u24 => by exfalso; omega) (fun u24 => ?_)
            refine w_aload_n gz_156_55 rfl ?_
            refine w_getX (v := 160) gz_156_56 is_151 rd_10 rfl (by decide) rfl ?_
            refine w_iload gz_156_59 rfl ?_
            refine w_iald gz_156_61 is_160 rd_59 (by omega) (by omega) (fun v26 ev26 pv26 qv26 => ?_)
            obtain ⟨nn, enn⟩ : ∃ z : Int, z = v26 := ⟨_, rfl⟩
            have cn : h 160 (4 * x2 + p3_0) = nn := by
              rw [show 4 * x2 + p3_0 = ((4 * x2) + p3_0) by omega]
              omega
            refine w_iflt (t := 88) gz_156_62 rfl (fun u27 => ?_) (fun u27 => ?_)
            ·
              refine w_iconst gz_156_88 (by decide) ?_
              refine w_istore (ls' := [(2, 151), (0, x1), (0, x2), (0, x3), (0, p3_0), (0, v15), (0, ((4 * x2) + p3_0)), (0, 0)]) gz_156_89 gm_156 rfl rfl rfl ?_
              exact J91_0 20 (v15) (((4 * x2) + p3_0)) (0) (by omega) (by omega) (by omega) (by omega) (by omega) (by omega) (by omega) (by omega) (by first | exact wn_91_0 | exact ⟨by omega, by omega, by first | exact Or.inl (by omega) | exact Or.inr (by rw [cn]; omega)⟩ | assumption | omega) (by first | exact vq_91_0 | (rw [cv]; omega) | assumption | omega) (by first | rfl | exact gq_91_0 | assumption | omega) (by first | exact cl_91_0 | assumption | omega) (by first | exact st_0 | exact st_1 nk_91_0 (fun z => by exfalso; omega) | exact st_1 nk_91_0 (fun _ => by rw [c9]; omega) | assumption | omega) (by omega)
            ·
              refine w_aload_n gz_156_65 rfl ?_
              refine w_getX (v := 162) gz_156_66 is_151 rd_10 rfl (by decide) rfl ?_
              refine w_iload_n gz_156_69 rfl ?_
              refine w_aload_n gz_156_70 rfl ?_
              refine w_getX (v := 160) gz_156_71 is_151 rd_10 rfl (by decide) rfl ?_
              refine w_iload gz_156_74 rfl ?_
              refine w_iald gz_156_76 is_160 rd_59 (by omega) (by omega) (fun v30 ev30 pv30 qv30 => ?_)
              have zv30 := ev30.trans ev26.symm
              refine w_iload gz_156_77 rfl ?_
              refine w_inS (k := 0) (as := [(0, v15), (0, v30), (0, x1)]) (r := [(2, 162)]) (ls0 := [(0, x1), (0, v30), (0, v15)]) gz_156_79 gm_150 rfl rfl rfl rfl rfl rfl ?_
              refine w_bipush gz_150_0 (by decide) ?_
              refine w_iload_n gz_150_2 rfl ?_
              refine w_imul gz_150_3 ⟨by omega, by omega⟩ ?_
              refine w_bipush gz_150_4 (by decide) ?_
              refine w_iload_n gz_150_6 rfl ?_
              refine w_imul gz_150_7 ⟨by omega, by omega⟩ ?_
              refine w_iadd gz_150_8 ⟨by omega, by omega⟩ ?_
              refine w_iload_n gz_150_9 rfl ?_
              refine w_iadd gz_150_10 ⟨by omega, by omega⟩ ?_
              refine w_iret gz_150_11 gm_150 ?_
              show wp l rho (d + 2) 156 82 [(2, 151), (0, x1), (0, x2), (0, x3), (0, p3_0), (0, v15), (0, ((4 * x2) + p3_0)), (9, 0)] [(0, (((60 * x1) + (20 * v30)) + v15)), (2, 162)] h Q
              refine w_bald gz_156_82 is_162 rd_61 (by omega) (by omega) (fun v31 ev31 pv31 qv31 => ?_)
              obtain ⟨nh, enh⟩ : ∃ z : Int, z = v31 := ⟨_, rfl⟩
              have ch : h 162 (60 * x1 + 20 * nn + v15) = nh := by
                rw [show 60 * x1 + 20 * nn + v15 = (((60 * x1) + (20 * v30)) + v15) by omega]
                omega
              refine w_ifne (t := 88) gz_156_83 rfl (fun u32 => ?_) (fun u32 => ?_)
              ·
                refine w_iconst gz_156_88 (by decide) ?_
                refine w_istore (ls' := [(2, 151), (0, x1), (0, x2), (0, x3), (0, p3_0), (0, v15), (0, ((4 * x2) + p3_0)), (0, 0)]) gz_156_89 gm_156 rfl rfl rfl ?_
                exact J91_0 20 (v15) (((4 * x2) + p3_0)) (0) (by omega) (by omega) (by omega) (by omega) (by omega) (by omega) (by omega) (by omega) (by first | exact wn_91_0 | exact ⟨by omega, by omega, by first | exact Or.inl (by omega) | exact Or.inr (by rw [cn]; omega)⟩ | assumption | omega) (by first | exact vq_91_0 | (rw [cv]; omega) | assumption | omega) (by first | rfl | exact gq_91_0 | assumption | omega) (by first | exact cl_91_0 | assumption | omega) (by first | exact st_0 | exact st_1 nk_91_0 (fun z => by exfalso; omega) | exact st_1 nk_91_0 (fun _ => by rw [c9]; omega) | assumption | omega) (by omega)
              ·
                refine w_iconst gz_156_86 (by decide) ?_
                exact w_bret gz_156_87 gm_156 (by omega) (by omega) (k0 (by first | exact (fun c a b => lr_3_0 c a (by omega)) | exact (fun z => MLc_1 cv cf (by omega) (z p3_0 (by omega) (by omega))) | exact (fun z => MLc_2 cv ct (by omega) (z p3_0 (by omega) (by omega))) | exact (fun z => MLc_3 cv cn (by omega) ch (by omega) (by omega) (z p3_0 (by omega) (by omega))) | exact (fun z => MLc_4 gq_91_0 vq_91_0 (by omega) (by omega) (by omega) c6 (by omega) c9 (by omega) (z p3_0 (by omega) (by omega))) | assumption | omega))
  refine w_iconst gz_156_0 (by decide) ?_
  refine w_istore (ls' := [(2, 151), (0, x1), (0, x2), (0, x3), (0, 0), (9, 0), (9, 0), (9, 0)]) gz_156_1 gm_156 rfl rfl rfl ?_
  exact J3_0 5 (0) (by omega) (by omega) (by first | exact st_0 | exact st_1 lr_3_0 (MLc_i gq_91_0 vq_91_0 wn_91_0 (Or.inl (by omega))) | exact st_1 lr_3_0 (MLc_i gq_91_0 vq_91_0 wn_91_0 (Or.inr (fun k a b => nk_91_0 k a (by omega)))) | assumption | omega) (by omega)
theorem c_Model_outside5 {l : Launch} {rho : Nat → Int32} {d : Nat} {h : my_H} {Q : my_H → my_V → Prop} {x1 x2 x3 x4 : Int} (a1 : 0 ≤ x1) (b1 : x1 ≤ 2) (a2 : 0 ≤ x2) (b2 : x2 ≤ 3) (a3 : 0 ≤ x3) (b3 : x3 ≤ 19) (a4 : 0 ≤ x4) (b4 : x4 ≤ 19) (k0 : ∀ (y : Int), 0 ≤ y → y ≤ 20 → y = qOut (zqMS h 0) x1 x2 x3 x4 20 → Q h (0, y)) : wp l rho (d + 2) 163 0 [(2, 151), (0, x1), (0, x2), (0, x3), (0, x4), (9, 0), (9, 0)] [] h Q := by
  refine v_knowA (x := 162) is_162 rd_61 (fun kT => ?_)
  refine v_knowA (x := 163) is_163 rd_62 (fun kV => ?_)
  refine v_knowA (x := 160) is_160 rd_59 (fun kN => ?_)
  refine v_knowA (x := 157) is_157 rd_56 (fun kC => ?_)
  have T : MTy h := ⟨kV, kT, kN, kC⟩
  have J6_0 : ∀ (n : Nat) (p6_0 p6_1 : Int), 0 ≤ p6_0 → p6_0 ≤ 20 → 0 ≤ p6_1 → p6_1 ≤ 20 → p6_0 ≤ p6_1 → p6_0 = qOut (zqMS h 0) x1 x2 x3 x4 p6_1.toNat → 21 - p6_1 ≤ (n : Int) → wp l rho (d + 2) 163 6 [(2, 151), (0, x1), (0, x2), (0, x3), (0, x4), (0, p6_0), (0, p6_1)] [] h Q := by
    intro n
    induction n with
    | zero => intro p6_0 p6_1 q0_6_0 q1_6_0 q2_6_0 q3_6_0 q4_6_0 ou_6_0 hm_6_0; exfalso; omega
    | succ n ih_6_0 =>
      intro p6_0 p6_1 q0_6_0 q1_6_0 q2_6_0 q3_6_0 q4_6_0 ou_6_0 hm_6_0
      refine w_iload gz_163_6 rfl ?_
      refine w_bipush gz_163_8 (by decide) ?_
      refine w_icge (t := 62) gz_163_10 rfl (fun u1 => ?_) (fun u1 => ?_)
      ·
        refine w_iload gz_163_62 rfl ?_
        exact w_iret gz_163_64 gm_163 (k0 (p6_0) (by omega) (by omega) (by first | (have q := ou_6_0; rw [show p6_1 = 20 by omega] at q; exact q) | assumption | omega))
      ·
        refine w_iload gz_163_13 rfl ?_
        refine w_aload_n gz_163_15 rfl ?_
        refine w_getX (v := 162) gz_163_16 is_151 rd_10 rfl (by decide) rfl ?_
        refine w_iconst gz_163_19 (by decide) ?_
        refine w_iload_n gz_163_20 rfl ?_
        refine w_iload gz_163_21 rfl ?_
        refine w_inS (k := 0) (as := [(0, p6_1), (0, x1), (0, 0)]) (r := [(2, 162), (0, p6_0)]) (ls0 := [(0, 0), (0, x1), (0, p6_1)]) gz_163_23 gm_150 rfl rfl rfl rfl rfl rfl ?_
        refine w_bipush gz_150_0 (by decide) ?_
        refine w_iload_n gz_150_2 rfl ?_
        refine w_imul gz_150_3 ⟨by omega, by omega⟩ ?_
        refine w_bipush gz_150_4 (by decide) ?_
        refine w_iload_n gz_150_6 rfl ?_
        refine w_imul gz_150_7 ⟨by omega, by omega⟩ ?_
        refine w_iadd gz_150_8 ⟨by omega, by omega⟩ ?_
        refine w_iload_n gz_150_9 rfl ?_
        refine w_iadd gz_150_10 ⟨by omega, by omega⟩ ?_
        refine w_iret gz_150_11 gm_150 ?_
        show wp l rho (d + 2) 163 26 [(2, 151), (0, x1), (0, x2), (0, x3), (0, x4), (0, p6_0), (0, p6_1)] [(0, (((60 * 0) + (20 * x1)) + p6_1)), (2, 162), (0, p6_0)] h Q
        refine w_bald gz_163_26 is_162 rd_61 (by omega) (by omega) (fun v3 ev3 pv3 qv3 => ?_)
        have hz := MS_has (s := 0) (w := x1) (k := p6_1) T (by omega) (by omega) (by omega) (by omega) (by omega) (by omega)
        obtain ⟨nt, ent⟩ : ∃ z : Int, z = v3 := ⟨_, rfl⟩
        have ct : h 162 (60 * 0 + 20 * x1 + p6_1) = nt := by
          rw [show 60 * 0 + 20 * x1 + p6_1 = (((60 * 0) + (20 * x1)) + p6_1) by omega]
          omega
        refine w_ifeq (t := 52) gz_163_27 rfl (fun u4 => ?_) (fun u4 => ?_)
        ·
          refine w_iconst gz_163_52 (by decide) ?_
          refine w_iadd gz_163_53 ⟨by omega, by omega⟩ ?_
          refine w_istore (ls' := [(2, 151), (0, x1), (0, x2), (0, x3), (0, x4), (0, (p6_0 + 0)), (0, p6_1)]) gz_163_54 gm_163 rfl rfl rfl ?_
          refine w_iinc (ls' := [(2, 151), (0, x1), (0, x2), (0, x3), (0, x4), (0, (p6_0 + 0)), (0, (p6_1 + 1))]) gz_163_56 rfl gm_163 rfl rfl rfl ⟨by omega, by omega⟩ ?_
          refine w_goto (t := 6) gz_163_59 rfl ?_
          exact ih_6_0 ((p6_0 + 0)) ((p6_1 + 1)) (by omega) (by omega) (by omega) (by omega) (by omega) (by first | rfl | (have q := (qOut_s (by omega) ou_6_0).2 (fun z => by have y := hz.mp z.1; omega); omega) | (have q := (qOut_s (by omega) ou_6_0).2 (fun z => by have y := z.2; rw [hv] at y; omega); omega) | (have q := (qOut_s (by omega) ou_6_0).1 ⟨hz.mpr (by omega), by rw [hv]; omega⟩; omega) | assumption | omega) (by omega)
        ·
          refine w_aload_n gz_163_30 rfl ?_
          refine w_iconst gz_163_31 (by decide) ?_
          refine w_iload_n gz_163_32 rfl ?_
          refine w_iload gz_163_33 rfl ?_
          refine w_iload_n gz_163_35 rfl ?_
          refine w_inv (k := 0) (as := [(0, x2), (0, p6_1), (0, x1), (0, 0)]) (r := [(0, p6_0)]) (x := 151) (ls0 := [(2, 151), (0, 0), (0, x1), (0, p6_1), (0, x2)]) gz_163_36 gm_157 rfl is_151 rd_10 rfl rfl rfl rfl rfl ?_
          refine w_aload_n gz_157_0 rfl ?_
          refine w_getX (v := 163) gz_157_1 is_151 rd_10 rfl (by decide) rfl ?_
          refine w_iconst gz_157_4 (by decide) ?_
          refine w_iload_n gz_157_5 rfl ?_
          refine w_iload_n gz_157_6 rfl ?_
          refine w_iload_n gz_157_7 rfl ?_
          refine w_inS (k := 0) (as := [(0, p6_1), (0, x1), (0, 0)]) (r := [(0, 4), (2, 163)]) (ls0 := [(0, 0), (0, x1), (0, p6_1)]) gz_157_8 gm_150 rfl rfl rfl rfl rfl rfl ?_
          refine w_bipush gz_150_0 (by decide) ?_
          refine w_iload_n gz_150_2 rfl ?_
          refine w_imul gz_150_3 ⟨by omega, by omega⟩ ?_
          refine w_bipush gz_150_4 (by decide) ?_
          refine w_iload_n gz_150_6 rfl ?_
          refine w_imul gz_150_7 ⟨by omega, by omega⟩ ?_
          refine w_iadd gz_150_8 ⟨by omega, by omega⟩ ?_
          refine w_iload_n gz_150_9 rfl ?_
          refine w_iadd gz_150_10 ⟨by omega, by omega⟩ ?_
          refine w_iret gz_150_11 gm_150 ?_
          show wp l rho (d + 1) 157 11 [(2, 151), (0, 0), (0, x1), (0, p6_1), (0, x2)] [(0, (((60 * 0) + (20 * x1)) + p6_1)), (0, 4), (2, 163)] h _
          refine w_imul gz_157_11 ⟨by omega, by omega⟩ ?_
          refine w_iload gz_157_12 rfl ?_
          refine w_iadd gz_157_14 ⟨by omega, by omega⟩ ?_
          refine w_iald gz_157_15 is_163 rd_62 (by omega) (by omega) (fun v6 ev6 pv6 qv6 => ?_)
          refine w_iret gz_157_16 gm_157 ?_
          show wp l rho (d + 2) 163 39 [(2, 151), (0, x1), (0, x2), (0, x3), (0, x4), (0, p6_0), (0, p6_1)] [(0, v6), (0, p6_0)] h Q
          obtain ⟨vv, evv⟩ : ∃ z : Int, z = v6 := ⟨_, rfl⟩
          have cv : h 163 (4 * (60 * 0 + 20 * x1 + p6_1) + x2) = vv := by
            rw [show 4 * (60 * 0 + 20 * x1 + p6_1) + x2 = ((4 * (((60 * 0) + (20 * x1)) + p6_1)) + x2) by omega]
            omega
          have hv := MS_at (h := h) (s := 0) (w := x1) (k := p6_1) (c := x2) (by omega) (by omega) (by omega)
          rw [cv] at hv
          refine w_iload_n gz_163_39 rfl ?_
          refine w_iload gz_163_40 rfl ?_
          refine w_inS (k := 0) (as := [(0, x4), (0, x3), (0, v6)]) (r := [(0, p6_0)]) (ls0 := [(0, v6), (0, x3), (0, x4)]) gz_163_42 gm_147 rfl rfl rfl rfl rfl rfl ?_
          refine w_iload_n gz_147_0 rfl ?_
          refine w_iload_n gz_147_1 rfl ?_
          refine w_iclt (t := 14) gz_147_2 rfl (fun u7 => ?_) (fun u7 => ?_)
          ·
            refine w_iconst gz_147_14 (by decide) ?_
            refine w_bret gz_147_15 gm_147 (by omega) (by omega) ?_
            show wp l rho (d + 2) 163 45 [(2, 151), (0, x1), (0, x2), (0, x3), (0, x4), (0, p6_0), (0, p6_1)] [(0, 0), (0, p6_0)] h Q
            refine w_ifne (t := 52) gz_163_45 rfl (fun u8 => by exfalso; omega) (fun u8 => ?_)
            refine w_iconst gz_163_48 (by decide) ?_
            refine w_goto (t := 53) gz_163_49 rfl ?_
            refine w_iadd gz_163_53 ⟨by omega, by omega⟩ ?_
            refine w_istore (ls' := [(2, 151), (0, x1), (0, x2), (0, x3), (0, x4), (0, (p6_0 + 1)), (0, p6_1)]) gz_163_54 gm_163 rfl rfl rfl ?_
            refine w_iinc (ls' := [(2, 151), (0, x1), (0, x2), (0, x3), (0, x4), (0, (p6_0 + 1)), (0, (p6_1 + 1))]) gz_163_56 rfl gm_163 rfl rfl rfl ⟨by omega, by omega⟩ ?_
            refine w_goto (t := 6) gz_163_59 rfl ?_
            exact ih_6_0 ((p6_0 + 1)) ((p6_1 + 1)) (by omega) (by omega) (by omega) (by omega) (by omega) (by first | rfl | (have q := (qOut_s (by omega) ou_6_0).2 (fun z => by have y := hz.mp z.1; omega); omega) | (have q := (qOut_s (by omega) ou_6_0).2 (fun z => by have y := z.2; rw [hv] at y; omega); omega) | (have q := (qOut_s (by omega) ou_6_0).1 ⟨hz.mpr (by omega), by rw [hv]; omega⟩; omega) | assumption | omega) (by omega)
          ·
            refine w_iload_n gz_147_5 rfl ?_
            refine w_iload_n gz_147_6 rfl ?_
            refine w_icgt (t := 14) gz_147_7 rfl (fun u9 => ?_) (fun u9 => ?_)
            ·
              refine w_iconst gz_147_14 (by decide) ?_
              refine w_bret gz_147_15 gm_147 (by omega) (by omega) ?_
              show wp l rho (d + 2) 163 45 [(2, 151), (0, x1), (0, x2), (0, x3), (0, x4), (0, p6_0), (0, p6_1)] [(0, 0), (0, p6_0)] h Q
              refine w_ifne (t := 52) gz_163_45 rfl (fun u10 => by exfalso; omega) (fun u10 => ?_)
              refine w_iconst gz_163_48 (by decide) ?_
              refine w_goto (t := 53) gz_163_49 rfl ?_
              refine w_iadd gz_163_53 ⟨by omega, by omega⟩ ?_
              refine w_istore (ls' := [(2, 151), (0, x1), (0, x2), (0, x3), (0, x4), (0, (p6_0 + 1)), (0, p6_1)]) gz_163_54 gm_163 rfl rfl rfl ?_
              refine w_iinc (ls' := [(2, 151), (0, x1), (0, x2), (0, x3), (0, x4), (0, (p6_0 + 1)), (0, (p6_1 + 1))]) gz_163_56 rfl gm_163 rfl rfl rfl ⟨by omega, by omega⟩ ?_
              refine w_goto (t := 6) gz_163_59 rfl ?_
              exact ih_6_0 ((p6_0 + 1)) ((p6_1 + 1)) (by omega) (by omega) (by omega) (by omega) (by omega) (by first | rfl | (have q := (qOut_s (by omega) ou_6_0).2 (fun z => by have y := hz.mp z.1; omega); omega) | (have q := (qOut_s (by omega) ou_6_0).2 (fun z => by have y := z.2; rw [hv] at y; omega); omega) | (have q := (qOut_s (by omega) ou_6_0).1 ⟨hz.mpr (by omega), by rw [hv]; omega⟩; omega) | assumption | omega) (by omega)
            ·
              refine w_iconst gz_147_10 (by decide) ?_
              refine w_goto (t := 15) gz_147_11 rfl ?_
              refine w_bret gz_147_15 gm_147 (by omega) (by omega) ?_
              show wp l rho (d + 2) 163 45 [(2, 151), (0, x1), (0, x2), (0, x3), (0, x4), (0, p6_0), (0, p6_1)] [(0, 1), (0, p6_0)] h Q
              refine w_ifne (t := 52) gz_163_45 rfl (fun u11 => ?_) (fun u11 => by exfalso; omega)
              refine w_iconst gz_163_52 (by decide) ?_
              refine w_iadd gz_163_53 ⟨by omega, by omega⟩ ?_
              refine w_istore (ls' := [(2, 151), (0, x1), (0, x2), (0, x3), (0, x4), (0, (p6_0 + 0)), (0, p6_1)]) gz_163_54 gm_163 rfl rfl rfl ?_
              refine w_iinc (ls' := [(2, 151), (0, x1), (0, x2), (0, x3), (0, x4), (0, (p6_0 + 0)), (0, (p6_1 + 1))]) gz_163_56 rfl gm_163 rfl rfl rfl ⟨by omega, by omega⟩ ?_
              refine w_goto (t := 6) gz_163_59 rfl ?_
              exact ih_6_0 ((p6_0 + 0)) ((p6_1 + 1)) (by omega) (by omega) (by omega) (by omega) (by omega) (by first | rfl | (have q := (qOut_s (by omega) ou_6_0).2 (fun z => by have y := hz.mp z.1; omega); omega) | (have q := (qOut_s (by omega) ou_6_0).2 (fun z => by have y := z.2; rw [hv] at y; omega); omega) | (have q := (qOut_s (by omega) ou_6_0).1 ⟨hz.mpr (by omega), by rw [hv]; omega⟩; omega) | assumption | omega) (by omega)
  refine w_iconst gz_163_0 (by decide) ?_
  refine w_istore (ls' := [(2, 151), (0, x1), (0, x2), (0, x3), (0, x4), (0, 0), (9, 0)]) gz_163_1 gm_163 rfl rfl rfl ?_
  refine w_iconst gz_163_3 (by decide) ?_
  refine w_istore (ls' := [(2, 151), (0, x1), (0, x2), (0, x3), (0, x4), (0, 0), (0, 0)]) gz_163_4 gm_163 rfl rfl rfl ?_
  exact J6_0 21 (0) (0) (by omega) (by omega) (by omega) (by omega) (by omega) (by first | rfl | (have q := (qOut_s (by omega) ou_6_0).2 (fun z => by have y := hz.mp z.1; omega); omega) | (have q := (qOut_s (by omega) ou_6_0).2 (fun z => by have y := z.2; rw [hv] at y; omega); omega) | (have q := (qOut_s (by omega) ou_6_0).1 ⟨hz.mpr (by omega), by rw [hv]; omega⟩; omega) | assumption | omega) (by omega)
theorem c_Model_begins5 {l : Launch} {rho : Nat → Int32} {d : Nat} {h : my_H} {Q : my_H → my_V → Prop} {x1 : Int} (a1 : 0 ≤ x1) (b1 : x1 ≤ 15) (n_Rws : Rws h) (k0 : ∀ (h' : my_H), my_fr [(10, 37), (80, -1), (81, -1), (82, -1)] h h' → Shn h' 0 (h' 151 37) (h 157 (h 151 33)) 19 → zqL (zqN h' (h 157 (h 151 33))) (h' 151 37).toNat = zqLd (zqMS h x1) (h 151 33) (h 157 (h 151 33)) 20 → Q h' (9, 0)) : wp l rho (d + 2) 195 0 [(2, 151), (0, x1), (9, 0), (9, 0)] [] h Q := by
  refine v_know (x := 151) (j := 33) (b := 33) rfl is_151 rd_10 rfl (fun k151_33 ek151_33 pk151_33 qk151_33 => ?_)
  refine v_knowA (x := 162) is_162 rd_61 (fun kT => ?_)
  refine v_knowA (x := 163) is_163 rd_62 (fun kV => ?_)
  refine v_knowA (x := 160) is_160 rd_59 (fun kN => ?_)
  refine v_knowA (x := 157) is_157 rd_56 (fun kC => ?_)
  have T : MTy h := ⟨kV, kT, kN, kC⟩
  have kc := kC k151_33 (by omega) (by omega)
  have J7_0 : ∀ (n : Nat) (p7_0 p7_1 : Int) (h7_0 : my_H), my_fr [(10, 37), (80, -1), (81, -1), (82, -1)] h h7_0 → 0 ≤ p7_0 → p7_0 ≤ 20 → 0 ≤ p7_1 → p7_1 ≤ 10 → p7_1 ≤ p7_0 → h7_0 151 33 = k151_33 → h7_0 151 37 = p7_1 → Rws h7_0 → h7_0 151 37 = rc h (60 * x1 + 20 * k151_33) p7_0.toNat → Shn h7_0 0 (h7_0 151 37) (h 157 k151_33) 19 → BgI h h7_0 x1 k151_33 (h 157 k151_33) p7_0 (h7_0 151 37) → 21 - p7_0 ≤ (n : Int) → wp l rho (d + 2) 195 7 [(2, 151), (0, x1), (0, p7_0), (9, 0)] [] h7_0 Q := by
    intro n
    induction n with
    | zero => intro p7_0 p7_1 h7_0 gh_7_0 q0_7_0 q1_7_0 q2_7_0 q3_7_0 q4_7_0 c151_33_7_0 c151_37_7_0 n_Rws_7_0 rm_7_0 sh_7_0 bg_7_0 hm_7_0; exfalso; omega
    | succ n ih_7_0 =>
      intro p7_0 p7_1 h7_0 gh_7_0 q0_7_0 q1_7_0 q2_7_0 q3_7_0 q4_7_0 c151_33_7_0 c151_37_7_0 n_Rws_7_0 rm_7_0 sh_7_0 bg_7_0 hm_7_0
      have J42_0 : ∀ (n : Nat) (p42_0 : Int) (h42_0 : my_H), my_fr [(10, 37), (80, -1), (81, -1), (82, -1)] h h42_0 → p7_0 ≤ 19 → 0 ≤ p42_0 → p42_0 ≤ 4 → p7_1 ≤ 9 → p7_1 ≤ p7_0 → h42_0 151 33 = k151_33 → h42_0 151 37 = p7_1 → Rws h42_0 → h 162 (60 * x1 + 20 * k151_33 + p7_0) = 1 → h42_0 151 37 = rc h (60 * x1 + 20 * k151_33) p7_0.toNat → Shn h42_0 0 (h42_0 151 37) (h 157 k151_33) 19 → (∀ c : Int, 0 ≤ c → c < p42_0 → h42_0 182 (8 * (h42_0 151 37) + c) ≤ 19) → BgI h h42_0 x1 k151_33 (h 157 k151_33) p7_0 p7_1 → h42_0 181 p7_1 = p7_0 → (∀ c : Int, 0 ≤ c → c < p42_0 → h42_0 182 (8 * p7_1 + c) = h 163 (4 * (60 * x1 + 20 * k151_33 + p7_0) + c)) → zqMS h x1 (80 * k151_33 + 4 * p7_0) ≠ -1 → 5 - p42_0 ≤ (n : Int) → wp l rho (d + 2) 195 42 [(2, 151), (0, x1), (0, p7_0), (0, p42_0)] [] h42_0 Q := by
        intro n
        induction n with
        | zero => intro p42_0 h42_0 gh_42_0 q0_42_0 q1_42_0 q2_42_0 q3_42_0 q4_42_0 c151_33_42_0 c151_37_42_0 n_Rws_42_0 one_42_0 rm_42_0 sh_42_0 sr_42_0 bh_42_0 bt_42_0 rr_42_0 hw_42_0 hm_42_0; exfalso; omega
        | succ n ih_42_0 =>
          intro p42_0 h42_0 gh_42_0 q0_42_0 q1_42_0 q2_42_0 q3_42_0 q4_42_0 c151_33_42_0 c151_37_42_0 n_Rws_42_0 one_42_0 rm_42_0 sh_42_0 sr_42_0 bh_42_0 bt_42_0 rr_42_0 hw_42_0 hm_42_0
          refine w_iload_n gz_195_42 rfl ?_
          refine w_aload_n gz_195_43 rfl ?_
          refine w_getX (v := 157) gz_195_44 is_151 rd_10 rfl (by decide) rfl ?_
          refine w_aload_n gz_195_47 rfl ?_
          refine v_getI (j := 33) gz_195_48 rfl is_151 rd_10 rfl (fun v2 ev2 pv2 qv2 => ?_)
          have zv2 := ev2.trans c151_33_42_0
          have e48 : v2 = k151_33 := by omega
          refine w_iald gz_195_51 is_157 rd_56 (by omega) (by omega) (fun v3 ev3 pv3 qv3 => ?_)
          have f157 : ∀ j : Int, h42_0 157 j = h 157 j := fun j => my_fr.at gh_42_0 is_157 rfl
          have c51 : v3 = h 157 k151_33 := by rw [← e48, ← f157]; omega
          refine w_icge (t := 101) gz_195_52 rfl (fun u4 => ?_) (fun u4 => ?_)
          ·
            refine w_aload_n gz_195_101 rfl ?_
            refine w_dup gz_195_102 rfl ?_
            refine v_getI (j := 37) gz_195_103 rfl is_151 rd_10 rfl (fun v5 ev5 pv5 qv5 => ?_)
            have zv5 := ev5.trans c151_37_42_0
            refine w_iconst gz_195_106 (by decide) ?_
            refine w_iadd gz_195_107 ⟨by omega, by omega⟩ ?_
            refine v_putI (j := 37) gz_195_108 rfl is_151 rd_10 rfl (by omega) (by omega) rfl (fun h6 fh6 => ?_)
            have gh6 : my_fr [(10, 37), (80, -1), (81, -1), (82, -1)] h h6 := my_fr.up gh_42_0 is_151 fh6 rfl
            have Rws_h6 : Rws h6 := Rws_ag (my_ag.up fh6 is_151 rfl) n_Rws_42_0
            have k37 := my_up_self fh6
            refine w_iinc (ls' := [(2, 151), (0, x1), (0, (p7_0 + 1)), (0, p42_0)]) gz_195_111 rfl gm_195 rfl rfl rfl ⟨by omega, by omega⟩ ?_
            refine w_goto (t := 7) gz_195_114 rfl ?_
            have ce7 : h6 151 37 = (v5 + 1) := (my_up_self fh6)
            have a182 : ∀ j : Int, h6 182 j = h42_0 182 j := fun j => ((my_up_role fh6 is_182 is_151 rfl).trans (rfl : h42_0 182 j = h42_0 182 j))
            have a181 : ∀ j : Int, h6 181 j = h42_0 181 j := fun j => ((my_up_role fh6 is_181 is_151 rfl).trans (rfl : h42_0 181 j = h42_0 181 j))
            refine w_weak (ls' := [(2, 151), (0, x1), (0, (p7_0 + 1)), (9, 0)]) (wk_e (wk_e (wk_e (wk_9 wk_n)))) ?_
            exact ih_7_0 ((p7_0 + 1)) ((v5 + 1)) h6 (gh6) (by omega) (by omega) (by omega) (by omega) (by omega) (((my_up_fld fh6 (by decide)).trans ev2.symm).trans (by omega)) ((my_up_self fh6).trans (by omega)) Rws_h6 (by first | omega | (rw [rc_at (by omega)]; omega) | (show _ = (0 : Int); omega) | omega) (by first | (intro i c a b; exfalso; omega) | exact Shn_V (Shn_eq a182 sh_7_0) (by omega) (by omega) (by omega) (by omega) | exact Shn_V (Shn_eq a182 (Shn_up sh_42_0 f79 (by omega) (by omega))) (by omega) (by omega) (by omega) (by omega) | exact Shn_V (Shn_eq a182 (Shn_row sh_42_0 (fun c c0 cw => sr_42_0 c c0 (by omega)))) (by omega) (by omega) (by omega) (by omega) | omega) (by first | (rw [show h6 151 37 = 0 by omega]; exact BgI_0) | exact BgI_n (by omega) bg_7_0 (fun z => by have y := hz.mp z; omega) | (rw [show h6 151 37 = p7_1 + 1 by omega]; exact BgI_c (by omega) (BgI_y (by omega) (by omega) bh_42_0 (by omega) hw_42_0 bt_42_0 (fun c a b => rr_42_0 c a (by omega))) (fun j hj => a181 j) (fun j hj => a182 j)) | assumption | omega) (by omega)
          ·
            refine w_aload_n gz_195_55 rfl ?_
            refine w_getX (v := 182) gz_195_56 is_151 rd_10 rfl (by decide) rfl ?_
            refine w_bipush gz_195_59 (by decide) ?_
            refine w_aload_n gz_195_61 rfl ?_
            refine v_getI (j := 37) gz_195_62 rfl is_151 rd_10 rfl (fun v9 ev9 pv9 qv9 => ?_)
            have zv9 := ev9.trans c151_37_42_0
            refine w_imul gz_195_65 ⟨by omega, by omega⟩ ?_
            refine w_iload_n gz_195_66 rfl ?_
            refine w_iadd gz_195_67 ⟨by omega, by omega⟩ ?_
            refine w_aload_n gz_195_68 rfl ?_
            refine w_iload_n gz_195_69 rfl ?_
            refine w_aload_n gz_195_70 rfl ?_
            refine v_getI (j := 33) gz_195_71 rfl is_151 rd_10 rfl (fun v10 ev10 pv10 qv10 => ?_)
            have zv10 := ev10.trans ev2.symm
            refine w_iload_n gz_195_74 rfl ?_
            refine w_iload_n gz_195_75 rfl ?_
            refine w_inv (k := 0) (as := [(0, p42_0), (0, p7_0), (0, v10), (0, x1)]) (r := [(0, ((8 * v9) + p42_0)), (2, 182)]) (x := 151) (ls0 := [(2, 151), (0, x1), (0, v10), (0, p7_0), (0, p42_0)]) gz_195_76 gm_157 rfl is_151 rd_10 rfl rfl rfl rfl rfl ?_
            refine w_aload_n gz_157_0 rfl ?_
            refine w_getX (v := 163) gz_157_1 is_151 rd_10 rfl (by decide) rfl ?_
            refine w_iconst gz_157_4 (by decide) ?_
            refine w_iload_n gz_157_5 rfl ?_
            refine w_iload_n gz_157_6 rfl ?_
            refine w_iload_n gz_157_7 rfl ?_
            refine w_inS (k := 0) (as := [(0, p7_0), (0, v10), (0, x1)]) (r := [(0, 4), (2, 163)]) (ls0 := [(0, x1), (0, v10), (0, p7_0)]) gz_157_8 gm_150 rfl rfl rfl rfl rfl rfl ?_
            refine w_bipush gz_150_0 (by decide) ?_
            refine w_iload_n gz_150_2 rfl ?_
            refine w_imul gz_150_3 ⟨by omega, by omega⟩ ?_
            refine w_bipush gz_150_4 (by decide) ?_
            refine w_iload_n gz_150_6 rfl ?_
            refine w_imul gz_150_7 ⟨by omega, by omega⟩ ?_
            refine w_iadd gz_150_8 ⟨by omega, by omega⟩ ?_
            refine w_iload_n gz_150_9 rfl ?_
            refine w_iadd gz_150_10 ⟨by omega, by omega⟩ ?_
            refine w_iret gz_150_11 gm_150 ?_
            show wp l rho (d + 1) 157 11 [(2, 151), (0, x1), (0, v10), (0, p7_0), (0, p42_0)] [(0, (((60 * x1) + (20 * v10)) + p7_0)), (0, 4), (2, 163)] h42_0 _
            refine w_imul gz_157_11 ⟨by omega, by omega⟩ ?_
            refine w_iload gz_157_12 rfl ?_
            refine w_iadd gz_157_14 ⟨by omega, by omega⟩ ?_
            refine w_iald gz_157_15 is_163 rd_62 (by omega) (by omega) (fun v12 ev12 pv12 qv12 => ?_)
            refine w_iret gz_157_16 gm_157 ?_
            show wp l rho (d + 2) 195 79 [(2, 151), (0, x1), (0, p7_0), (0, p42_0)] [(0, v12), (0, ((8 * v9) + p42_0)), (2, 182)] h42_0 Q
            have cv : h 163 (4 * (60 * x1 + 20 * k151_33 + p7_0) + p42_0) = v12 := by
              have z := my_fr.at (j := ((4 * (((60 * x1) + (20 * v10)) + p7_0)) + p42_0)) gh_42_0 is_163 rfl
              rw [show 4 * (60 * x1 + 20 * k151_33 + p7_0) + p42_0 = ((4 * (((60 * x1) + (20 * v10)) + p7_0)) + p42_0) by omega, ← z]
              omega
            refine w_iast gz_195_79 is_182 rd_81 (by omega) (by omega) (by omega) (by omega) (fun h13 fh13 => ?_)
            have gh13 : my_fr [(10, 37), (80, -1), (81, -1), (82, -1)] h h13 := my_fr.up gh_42_0 is_182 fh13 rfl
            have Rws_h13 : Rws h13 := Rws_ag (my_ag.up fh13 is_182 rfl) n_Rws_42_0
            have f79 := fh13
            have k79 := my_up_self fh13
            refine w_aload_n gz_195_80 rfl ?_
            refine w_getX (v := 183) gz_195_81 is_151 rd_10 rfl (by decide) rfl ?_
            refine w_bipush gz_195_84 (by decide) ?_
            refine w_aload_n gz_195_86 rfl ?_
            refine v_getI (j := 37) gz_195_87 rfl is_151 rd_10 rfl (fun v15 ev15 pv15 qv15 => ?_)
            have zv15 := ev15.trans ((my_up_role fh13 is_151 is_182 rfl).trans ev9.symm)
            refine w_imul gz_195_90 ⟨by omega, by omega⟩ ?_
            refine w_iload_n gz_195_91 rfl ?_
            refine w_iadd gz_195_92 ⟨by omega, by omega⟩ ?_
            refine w_iload_n gz_195_93 rfl ?_
            refine w_iast gz_195_94 is_183 rd_82 (by omega) (by omega) (by omega) (by omega) (fun h16 fh16 => ?_)
            have gh16 : my_fr [(10, 37), (80, -1), (81, -1), (82, -1)] h h16 := my_fr.up gh13 is_183 fh16 rfl
            have Rws_h16 : Rws h16 := Rws_ag (my_ag.up fh16 is_183 rfl) Rws_h13
            refine w_iinc (ls' := [(2, 151), (0, x1), (0, p7_0), (0, (p42_0 + 1))]) gz_195_95 rfl gm_195 rfl rfl rfl ⟨by omega, by omega⟩ ?_
            refine w_goto (t := 42) gz_195_98 rfl ?_
            have ce17 : h16 151 37 = v15 := ((my_up_role fh16 is_151 is_183 rfl).trans ev15.symm)
            have a182 : ∀ j : Int, h16 182 j = h13 182 j := fun j => ((my_up_role fh16 is_182 is_183 rfl).trans (rfl : h13 182 j = h13 182 j))
            have a181 : ∀ j : Int, h16 181 j = h42_0 181 j := fun j => ((my_up_role fh16 is_181 is_183 rfl).trans ((my_up_role fh13 is_181 is_182 rfl).trans (rfl : h42_0 181 j = h42_0 181 j)))
            exact ih_42_0 ((p42_0 + 1)) h16 (gh16) (by omega) (by omega) (by omega) (by omega) (by omega) (((my_up_role fh16 is_151 is_183 rfl).trans ((my_up_role fh13 is_151 is_182 rfl).trans ev10.symm)).trans (by omega)) (((my_up_role fh16 is_151 is_183 rfl).trans ev15.symm).trans (by omega)) Rws_h16 (by omega) (by first | omega | (rw [rc_at (by omega)]; omega) | (show _ = (0 : Int); omega) | omega) (by first | (intro i c a b; exfalso; omega) | exact Shn_V (Shn_eq a182 sh_7_0) (by omega) (by omega) (by omega) (by omega) | exact Shn_V (Shn_eq a182 (Shn_up sh_42_0 f79 (by omega) (by omega))) (by omega) (by omega) (by omega) (by omega) | exact Shn_V (Shn_eq a182 (Shn_row sh_42_0 (fun c c0 cw => sr_42_0 c c0 (by omega)))) (by omega) (by omega) (by omega) (by omega) | omega) (by first | (intro c a b; exfalso; omega) | (intro c a b; rw [a182, show h16 151 37 = h42_0 151 37 by omega]; rcases (by omega : c = p42_0 ∨ c < p42_0) with q | q <;> first | (rw [my_up_ne f79 (by omega)]; exact sr_42_0 c a q) | (rw [my_up_at f79 (by omega)]; omega)) | omega) (by first | exact BgI_c (by omega) bh_42_0 (fun j hj => (my_up_ne fh16 (by omega)).trans (my_up_ne fh13 (by omega))) (fun j hj => (my_up_ne fh16 (by omega)).trans (my_up_ne fh13 (by omega))) | (have q := bg_7_0; rw [show h7_0 151 37 = p7_1 by omega] at q; exact BgI_c (by omega) q (fun j hj => my_up_ne fh16 (by omega)) (fun j hj => my_up_ne fh16 (by omega))) | assumption | omega) (by first | (rw [a181]; exact bt_42_0) | (rw [my_up_at fh16 (by omega)]) | assumption | omega) (by first | (intro c a b; exfalso; omega) | exact row_s (F := fun c => h 163 (4 * (60 * x1 + 20 * k151_33 + p7_0) + c)) rr_42_0 fh13 (by omega) cv.symm fh16 | assumption | omega) (by first | exact hw_42_0 | exact hz.mpr (by omega) | assumption | omega) (by omega)
      refine w_iload_n gz_195_7 rfl ?_
      refine w_bipush gz_195_8 (by decide) ?_
      refine w_icge (t := 117) gz_195_10 rfl (fun u18 => ?_) (fun u18 => ?_)
      ·
        exact w_vret gz_195_117 gm_195 (k0 h7_0 (gh_7_0) (by first | (have z := sh_7_0; rw [ek151_33] at z; exact z) | (have q := bg_7_0.2; rw [show p7_0 = 20 by omega, ek151_33] at q; exact q) | assumption | omega) (by first | (have z := sh_7_0; rw [ek151_33] at z; exact z) | (have q := bg_7_0.2; rw [show p7_0 = 20 by omega, ek151_33] at q; exact q) | assumption | omega))
      ·
        refine w_aload_n gz_195_13 rfl ?_
        refine w_getX (v := 162) gz_195_14 is_151 rd_10 rfl (by decide) rfl ?_
        refine w_iload_n gz_195_17 rfl ?_
        refine w_aload_n gz_195_18 rfl ?_
        refine v_getI (j := 33) gz_195_19 rfl is_151 rd_10 rfl (fun v20 ev20 pv20 qv20 => ?_)
        have zv20 := ev20.trans c151_33_7_0
        refine w_iload_n gz_195_22 rfl ?_
        have eb : v20 = k151_33 := by omega
        refine w_inS (k := 0) (as := [(0, p7_0), (0, v20), (0, x1)]) (r := [(2, 162)]) (ls0 := [(0, x1), (0, v20), (0, p7_0)]) gz_195_23 gm_150 rfl rfl rfl rfl rfl rfl ?_
        refine w_bipush gz_150_0 (by decide) ?_
        refine w_iload_n gz_150_2 rfl ?_
        refine w_imul gz_150_3 ⟨by omega, by omega⟩ ?_
        refine w_bipush gz_150_4 (by decide) ?_
        refine w_iload_n gz_150_6 rfl ?_
        refine w_imul gz_150_7 ⟨by omega, by omega⟩ ?_
        refine w_iadd gz_150_8 ⟨by omega, by omega⟩ ?_
        refine w_iload_n gz_150_9 rfl ?_
        refine w_iadd gz_150_10 ⟨by omega, by omega⟩ ?_
        refine w_iret gz_150_11 gm_150 ?_
        show wp l rho (d + 2) 195 26 [(2, 151), (0, x1), (0, p7_0), (9, 0)] [(0, (((60 * x1) + (20 * v20)) + p7_0)), (2, 162)] h7_0 Q
        have t162 : h7_0 162 (((60 * x1) + (20 * v20)) + p7_0) = h 162 (((60 * x1) + (20 * v20)) + p7_0) := my_fr.at gh_7_0 is_162 rfl
        have hix : h 162 (((60 * x1) + (20 * v20)) + p7_0) = h 162 (60 * x1 + 20 * k151_33 + p7_0) := by rw [eb]
        refine w_bald gz_195_26 is_162 rd_61 (by omega) (by omega) (fun v21 ev21 pv21 qv21 => ?_)
        have ct : h 162 (60 * x1 + 20 * k151_33 + p7_0) = v21 := by rw [← hix, ← t162]; omega
        have hz := MS_has (s := x1) (w := k151_33) (k := p7_0) T (by omega) (by omega) (by omega) (by omega) (by omega) (by omega)
        refine w_ifeq (t := 111) gz_195_27 rfl (fun u22 => ?_) (fun u22 => ?_)
        ·
          refine w_iinc (ls' := [(2, 151), (0, x1), (0, (p7_0 + 1)), (9, 0)]) gz_195_111 rfl gm_195 rfl rfl rfl ⟨by omega, by omega⟩ ?_
          refine w_goto (t := 7) gz_195_114 rfl ?_
          have ce23 : h7_0 151 37 = p7_1 := c151_37_7_0
          have a182 : ∀ j : Int, h7_0 182 j = h7_0 182 j := fun _ => rfl
          have a181 : ∀ j : Int, h7_0 181 j = h7_0 181 j := fun _ => rfl
          exact ih_7_0 ((p7_0 + 1)) (p7_1) h7_0 (gh_7_0) (by omega) (by omega) (by omega) (by omega) (by omega) (ev20.symm.trans (by omega)) (c151_37_7_0.trans (by omega)) n_Rws_7_0 (by first | omega | (rw [rc_at (by omega)]; omega) | (show _ = (0 : Int); omega) | omega) (by first | (intro i c a b; exfalso; omega) | exact Shn_V (Shn_eq a182 sh_7_0) (by omega) (by omega) (by omega) (by omega) | exact Shn_V (Shn_eq a182 (Shn_up sh_42_0 f79 (by omega) (by omega))) (by omega) (by omega) (by omega) (by omega) | exact Shn_V (Shn_eq a182 (Shn_row sh_42_0 (fun c c0 cw => sr_42_0 c c0 (by omega)))) (by omega) (by omega) (by omega) (by omega) | omega) (by first | (rw [show h7_0 151 37 = 0 by omega]; exact BgI_0) | exact BgI_n (by omega) bg_7_0 (fun z => by have y := hz.mp z; omega) | (rw [show h7_0 151 37 = p7_1 + 1 by omega]; exact BgI_c (by omega) (BgI_y (by omega) (by omega) bh_42_0 (by omega) hw_42_0 bt_42_0 (fun c a b => rr_42_0 c a (by omega))) (fun j hj => a181 j) (fun j hj => a182 j)) | assumption | omega) (by omega)
        ·
          have nine := rc_nine kT n_Rws (s := x1) (w := k151_33) (k := p7_0) (by omega) (by omega) (by omega) (by omega) (by omega) (by omega) (by omega)
          refine w_aload_n gz_195_30 rfl ?_
          refine w_getX (v := 181) gz_195_31 is_151 rd_10 rfl (by decide) rfl ?_
          refine w_aload_n gz_195_34 rfl ?_
          refine v_getI (j := 37) gz_195_35 rfl is_151 rd_10 rfl (fun v25 ev25 pv25 qv25 => ?_)
          have zv25 := ev25.trans c151_37_7_0
          refine w_iload_n gz_195_38 rfl ?_
          have hi26 : 0 ≤ v25 := by omega
          have hi27 : v25 ≤ 9 := by omega
          refine w_iast gz_195_39 is_181 rd_80 (by omega) (by omega) (by omega) (by omega) (fun h28 fh28 => ?_)
          have gh28 : my_fr [(10, 37), (80, -1), (81, -1), (82, -1)] h h28 := my_fr.up gh_7_0 is_181 fh28 rfl
          have Rws_h28 : Rws h28 := Rws_ag (my_ag.up fh28 is_181 rfl) n_Rws_7_0
          refine w_iconst gz_195_40 (by decide) ?_
          refine w_istore_n (ls' := [(2, 151), (0, x1), (0, p7_0), (0, 0)]) gz_195_41 gm_195 rfl rfl rfl ?_
          have ce29 : h28 151 37 = v25 := ((my_up_role fh28 is_151 is_181 rfl).trans ev25.symm)
          have a182 : ∀ j : Int, h28 182 j = h7_0 182 j := fun j => ((my_up_role fh28 is_182 is_181 rfl).trans (rfl : h7_0 182 j = h7_0 182 j))
          have a181 : ∀ j : Int, h28 181 j = h28 181 j := fun j => rfl
          exact J42_0 5 (0) h28 (gh28) (by omega) (by omega) (by omega) (by omega) (by omega) (((my_up_role fh28 is_151 is_181 rfl).trans ev20.symm).trans (by omega)) (((my_up_role fh28 is_151 is_181 rfl).trans ev25.symm).trans (by omega)) Rws_h28 (by omega) (by first | omega | (rw [rc_at (by omega)]; omega) | (show _ = (0 : Int); omega) | omega) (by first | (intro i c a b; exfalso; omega) | exact Shn_V (Shn_eq a182 sh_7_0) (by omega) (by omega) (by omega) (by omega) | exact Shn_V (Shn_eq a182 (Shn_up sh_42_0 f79 (by omega) (by omega))) (by omega) (by omega) (by omega) (by omega) | exact Shn_V (Shn_eq a182 (Shn_row sh_42_0 (fun c c0 cw => sr_42_0 c c0 (by omega)))) (by omega) (by omega) (by omega) (by omega) | omega) (by first | (intro c a b; exfalso; omega) | (intro c a b; rw [a182, show h28 151 37 = h42_0 151 37 by omega]; rcases (by omega : c = p42_0 ∨ c < p42_0) with q | q <;> first | (rw [my_up_ne f79 (by omega)]; exact sr_42_0 c a q) | (rw [my_up_at f79 (by omega)]; omega)) | omega) (by first | exact BgI_c (by omega) bh_42_0 (fun j hj => (my_up_ne fh28 (by omega)).trans (my_up_ne no_such_saying (by omega))) (fun j hj => (my_up_ne fh28 (by omega)).trans (my_up_ne no_such_saying (by omega))) | (have q := bg_7_0; rw [show h7_0 151 37 = p7_1 by omega] at q; exact BgI_c (by omega) q (fun j hj => my_up_ne fh28 (by omega)) (fun j hj => my_up_ne fh28 (by omega))) | assumption | omega) (by first | (rw [a181]; exact bt_42_0) | (rw [my_up_at fh28 (by omega)]) | assumption | omega) (by first | (intro c a b; exfalso; omega) | exact row_s (F := fun c => h 163 (4 * (60 * x1 + 20 * k151_33 + p7_0) + c)) rr_42_0 no_such_saying (by omega) cv.symm fh28 | assumption | omega) (by first | exact hw_42_0 | exact hz.mpr (by omega) | assumption | omega) (by omega)
  refine w_aload_n gz_195_0 rfl ?_
  refine w_iconst gz_195_1 (by decide) ?_
  refine v_putI (j := 37) gz_195_2 rfl is_151 rd_10 rfl (by omega) (by omega) rfl (fun h30 fh30 => ?_)
  have gh30 : my_fr [(10, 37), (80, -1), (81, -1), (82, -1)] h h30 := my_fr.up my_fr.rf is_151 fh30 rfl
  have Rws_h30 : Rws h30 := Rws_ag (my_ag.up fh30 is_151 rfl) n_Rws
  have k37 := my_up_self fh30
  refine w_iconst gz_195_5 (by decide) ?_
  refine w_istore_n (ls' := [(2, 151), (0, x1), (0, 0), (9, 0)]) gz_195_6 gm_195 rfl rfl rfl ?_
  have ce31 : h30 151 37 = 0 := (my_up_self fh30)
  have a182 : ∀ j : Int, h30 182 j = h 182 j := fun j => ((my_up_role fh30 is_182 is_151 rfl).trans (rfl : h 182 j = h 182 j))
  have a181 : ∀ j : Int, h30 181 j = h 181 j := fun j => ((my_up_role fh30 is_181 is_151 rfl).trans (rfl : h 181 j = h 181 j))
  exact J7_0 21 (0) (0) h30 (gh30) (by omega) (by omega) (by omega) (by omega) (by omega) (((my_up_fld fh30 (by decide)).trans ek151_33.symm).trans (by omega)) ((my_up_self fh30).trans (by omega)) Rws_h30 (by first | omega | (rw [rc_at (by omega)]; omega) | (show _ = (0 : Int); omega) | omega) (by first | (intro i c a b; exfalso; omega) | exact Shn_V (Shn_eq a182 sh_7_0) (by omega) (by omega) (by omega) (by omega) | exact Shn_V (Shn_eq a182 (Shn_up sh_42_0 f79 (by omega) (by omega))) (by omega) (by omega) (by omega) (by omega) | exact Shn_V (Shn_eq a182 (Shn_row sh_42_0 (fun c c0 cw => sr_42_0 c c0 (by omega)))) (by omega) (by omega) (by omega) (by omega) | omega) (by first | (rw [show h30 151 37 = 0 by omega]; exact BgI_0) | exact BgI_n (by omega) bg_7_0 (fun z => by have y := hz.mp z; omega) | (rw [show h30 151 37 = p7_1 + 1 by omega]; exact BgI_c (by omega) (BgI_y (by omega) (by omega) bh_42_0 (by omega) hw_42_0 bt_42_0 (fun c a b => rr_42_0 c a (by omega))) (fun j hj => a181 j) (fun j hj => a182 j)) | assumption | omega) (by omega)
end MYNModel_copies5
