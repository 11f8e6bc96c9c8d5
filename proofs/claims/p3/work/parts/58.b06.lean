/-! contracts, printed by wip/gen/gy.py -/
section MYNModel_rowsOf2
theorem c_Model_rowsOf2 {l : Launch} {rho : Nat → Int32} {d : Nat} {h : my_H} {Q : my_H → my_V → Prop} {x1 x2 : Int} (a1 : 0 ≤ x1) (b1 : x1 ≤ 15) (a2 : 0 ≤ x2) (b2 : x2 ≤ 2) (k0 : ∀ (y : Int), 0 ≤ y → y ≤ 20 → y = rc h (60 * x1 + 20 * x2) 20 → Q h (0, y)) : wp l rho (d + 1) 151 0 [(2, 151), (0, x1), (0, x2), (9, 0), (9, 0)] [] h Q := by
  have J5_0 : ∀ (n : Nat) (p5_0 p5_1 : Int), 0 ≤ p5_0 → p5_0 ≤ 20 → 0 ≤ p5_1 → p5_1 ≤ 20 → p5_0 ≤ p5_1 → p5_0 = rc h (60 * x1 + 20 * x2) p5_1.toNat → 21 - p5_1 ≤ (n : Int) → wp l rho (d + 1) 151 5 [(2, 151), (0, x1), (0, x2), (0, p5_0), (0, p5_1)] [] h Q := by
    intro n
    induction n with
    | zero => intro p5_0 p5_1 q0_5_0 q1_5_0 q2_5_0 q3_5_0 q4_5_0 rr_5_0 hm_5_0; exfalso; omega
    | succ n ih_5_0 =>
      intro p5_0 p5_1 q0_5_0 q1_5_0 q2_5_0 q3_5_0 q4_5_0 rr_5_0 hm_5_0
      refine w_iload gz_151_5 rfl ?_
      refine w_bipush gz_151_7 (by decide) ?_
      refine w_icge (t := 41) gz_151_9 rfl (fun u1 => ?_) (fun u1 => ?_)
      ·
        refine w_iload_n gz_151_41 rfl ?_
        exact w_iret gz_151_42 gm_151 (k0 (p5_0) (by omega) (by omega) (by have q := rr_5_0; rw [show p5_1 = 20 by omega] at q; exact q))
      ·
        refine w_iload_n gz_151_12 rfl ?_
        refine w_aload_n gz_151_13 rfl ?_
        refine w_getX (v := 162) gz_151_14 is_151 rd_10 rfl (by decide) rfl ?_
        refine w_iload_n gz_151_17 rfl ?_
        refine w_iload_n gz_151_18 rfl ?_
        refine w_iload gz_151_19 rfl ?_
        refine w_inS (k := 0) (as := [(0, p5_1), (0, x2), (0, x1)]) (r := [(2, 162), (0, p5_0)]) (ls0 := [(0, x1), (0, x2), (0, p5_1)]) gz_151_21 gm_150 rfl rfl rfl rfl rfl rfl ?_
        refine w_bipush gz_150_0 (by decide) ?_
        refine w_iload_n gz_150_2 rfl ?_
        refine w_imul gz_150_3 ⟨by omega, by omega⟩ ?_
        refine w_bipush gz_150_4 (by decide) ?_
        refine w_iload_n gz_150_6 rfl ?_
        refine w_imul gz_150_7 ⟨by omega, by omega⟩ ?_
        refine w_iadd gz_150_8 ⟨by omega, by omega⟩ ?_
        refine w_iload_n gz_150_9 rfl ?_
        refine w_iadd gz_150_10 ⟨by omega, by omega⟩ ?_
        refine w_iret gz_150_11 gm_150 ?_
        show wp l rho (d + 1) 151 24 [(2, 151), (0, x1), (0, x2), (0, p5_0), (0, p5_1)] [(0, (((60 * x1) + (20 * x2)) + p5_1)), (2, 162), (0, p5_0)] h Q
        refine w_bald gz_151_24 is_162 rd_61 (by omega) (by omega) (fun v3 ev3 pv3 qv3 => ?_)
        refine w_ifeq (t := 32) gz_151_25 rfl (fun u4 => ?_) (fun u4 => ?_)
        ·
          refine w_iconst gz_151_32 (by decide) ?_
          refine w_iadd gz_151_33 ⟨by omega, by omega⟩ ?_
          refine w_istore_n (ls' := [(2, 151), (0, x1), (0, x2), (0, (p5_0 + 0)), (0, p5_1)]) gz_151_34 gm_151 rfl rfl rfl ?_
          refine w_iinc (ls' := [(2, 151), (0, x1), (0, x2), (0, (p5_0 + 0)), (0, (p5_1 + 1))]) gz_151_35 rfl gm_151 rfl rfl rfl ⟨by omega, by omega⟩ ?_
          refine w_goto (t := 5) gz_151_38 rfl ?_
          exact ih_5_0 ((p5_0 + 0)) ((p5_1 + 1)) (by omega) (by omega) (by omega) (by omega) (by omega) (by first | (rw [rc_at (by omega)]; omega) | rfl) (by omega)
        ·
          refine w_iconst gz_151_28 (by decide) ?_
          refine w_goto (t := 33) gz_151_29 rfl ?_
          refine w_iadd gz_151_33 ⟨by omega, by omega⟩ ?_
          refine w_istore_n (ls' := [(2, 151), (0, x1), (0, x2), (0, (p5_0 + 1)), (0, p5_1)]) gz_151_34 gm_151 rfl rfl rfl ?_
          refine w_iinc (ls' := [(2, 151), (0, x1), (0, x2), (0, (p5_0 + 1)), (0, (p5_1 + 1))]) gz_151_35 rfl gm_151 rfl rfl rfl ⟨by omega, by omega⟩ ?_
          refine w_goto (t := 5) gz_151_38 rfl ?_
          exact ih_5_0 ((p5_0 + 1)) ((p5_1 + 1)) (by omega) (by omega) (by omega) (by omega) (by omega) (by first | (rw [rc_at (by omega)]; omega) | rfl) (by omega)
  refine w_iconst gz_151_0 (by decide) ?_
  refine w_istore_n (ls' := [(2, 151), (0, x1), (0, x2), (0, 0), (9, 0)]) gz_151_1 gm_151 rfl rfl rfl ?_
  refine w_iconst gz_151_2 (by decide) ?_
  refine w_istore (ls' := [(2, 151), (0, x1), (0, x2), (0, 0), (0, 0)]) gz_151_3 gm_151 rfl rfl rfl ?_
  exact J5_0 21 (0) (0) (by omega) (by omega) (by omega) (by omega) (by omega) (by first | (rw [rc_at (by omega)]; omega) | rfl) (by omega)
theorem c_Model_copies2 {l : Launch} {rho : Nat → Int32} {d : Nat} {h : my_H} {Q : my_H → my_V → Prop} {x1 x2 : Int} (a1 : 0 ≤ x1) (b1 : x1 ≤ 15) (a2 : 0 ≤ x2) (b2 : x2 ≤ 15) (n_Rws : Rws h) (k0 : ∀ (h' : my_H), my_fr [(61, -1), (62, -1)] h h' → Cp h h' x1 x2 → Rws h' → Q h' (9, 0)) : wp l rho d 152 0 [(2, 151), (0, x1), (0, x2), (9, 0)] [] h Q := by
  have J38_0 : ∀ (n : Nat) (p38_0 : Int) (h38_0 : my_H), my_fr [(61, -1), (62, -1)] h h38_0 → 0 ≤ p38_0 → p38_0 ≤ 240 → Cp h h38_0 x1 x2 → 241 - p38_0 ≤ (n : Int) → wp l rho d 152 38 [(2, 151), (0, x1), (0, x2), (0, p38_0)] [] h38_0 Q := by
    intro n
    induction n with
    | zero => intro p38_0 h38_0 gh_38_0 q0_38_0 q1_38_0 cc_38_0 hm_38_0; exfalso; omega
    | succ n ih_38_0 =>
      intro p38_0 h38_0 gh_38_0 q0_38_0 q1_38_0 cc_38_0 hm_38_0
      refine w_iload_n gz_152_38 rfl ?_
      refine w_sipush gz_152_39 (by decide) ?_
      refine w_icge (t := 75) gz_152_42 rfl (fun u1 => ?_) (fun u1 => ?_)
      ·
        have Rws_h38_0t2 : Rws h38_0 := Rws_Cp cc_38_0 (by omega) (by omega) n_Rws
        exact w_vret gz_152_75 gm_152 (k0 h38_0 (gh_38_0) (cc_38_0) Rws_h38_0t2)
      ·
        refine w_aload_n gz_152_45 rfl ?_
        refine w_getX (v := 163) gz_152_46 is_151 rd_10 rfl (by decide) rfl ?_
        refine w_sipush gz_152_49 (by decide) ?_
        refine w_iload_n gz_152_52 rfl ?_
        refine w_imul gz_152_53 ⟨by omega, by omega⟩ ?_
        refine w_iload_n gz_152_54 rfl ?_
        refine w_iadd gz_152_55 ⟨by omega, by omega⟩ ?_
        refine w_aload_n gz_152_56 rfl ?_
        refine w_getX (v := 163) gz_152_57 is_151 rd_10 rfl (by decide) rfl ?_
        refine w_sipush gz_152_60 (by decide) ?_
        refine w_iload_n gz_152_63 rfl ?_
        refine w_imul gz_152_64 ⟨by omega, by omega⟩ ?_
        refine w_iload_n gz_152_65 rfl ?_
        refine w_iadd gz_152_66 ⟨by omega, by omega⟩ ?_
        refine w_iald gz_152_67 is_163 rd_62 (by omega) (by omega) (fun v5 ev5 pv5 qv5 => ?_)
        refine w_iast gz_152_68 is_163 rd_62 (by omega) (by omega) (by omega) (by omega) (fun h6 fh6 => ?_)
        have gh6 : my_fr [(61, -1), (62, -1)] h h6 := my_fr.up gh_38_0 is_163 fh6 rfl
        refine w_iinc (ls' := [(2, 151), (0, x1), (0, x2), (0, (p38_0 + 1))]) gz_152_69 rfl gm_152 rfl rfl rfl ⟨by omega, by omega⟩ ?_
        refine w_goto (t := 38) gz_152_72 rfl ?_
        have a162 : ∀ j : Int, h6 162 j = h38_0 162 j := fun j => ((my_up_role fh6 is_162 is_163 rfl).trans (rfl : h38_0 162 j = h38_0 162 j))
        exact ih_38_0 ((p38_0 + 1)) h6 (gh6) (by omega) (by omega) (by first | exact Cp_ag a162 cc_38_0 | exact ⟨fun j a b => cp_2_0 j a (by omega), ot_2_0⟩) (by omega)
  have J2_0 : ∀ (n : Nat) (p2_0 : Int) (h2_0 : my_H), my_fr [(61, -1), (62, -1)] h h2_0 → 0 ≤ p2_0 → p2_0 ≤ 60 → (∀ j : Int, 0 ≤ j → j < p2_0 → h2_0 162 (60 * x2 + j) = h 162 (60 * x1 + j)) → (∀ j : Int, (j < 60 * x2 ∨ 60 * x2 + 60 ≤ j) → h2_0 162 j = h 162 j) → (∀ j : Int, p2_0 ≤ j → j < 60 → h2_0 162 (60 * x2 + j) = h 162 (60 * x2 + j)) → 61 - p2_0 ≤ (n : Int) → wp l rho d 152 2 [(2, 151), (0, x1), (0, x2), (0, p2_0)] [] h2_0 Q := by
    intro n
    induction n with
    | zero => intro p2_0 h2_0 gh_2_0 q0_2_0 q1_2_0 cp_2_0 ot_2_0 nt_2_0 hm_2_0; exfalso; omega
    | succ n ih_2_0 =>
      intro p2_0 h2_0 gh_2_0 q0_2_0 q1_2_0 cp_2_0 ot_2_0 nt_2_0 hm_2_0
      refine w_iload_n gz_152_2 rfl ?_
      refine w_bipush gz_152_3 (by decide) ?_
      refine w_icge (t := 36) gz_152_5 rfl (fun u7 => ?_) (fun u7 => ?_)
      ·
        refine w_iconst gz_152_36 (by decide) ?_
        refine w_istore_n (ls' := [(2, 151), (0, x1), (0, x2), (0, 0)]) gz_152_37 gm_152 rfl rfl rfl ?_
        have a162 : ∀ j : Int, h2_0 162 j = h2_0 162 j := fun _ => rfl
        exact J38_0 241 (0) h2_0 (gh_2_0) (by omega) (by omega) (by first | exact Cp_ag a162 cc_38_0 | exact ⟨fun j a b => cp_2_0 j a (by omega), ot_2_0⟩) (by omega)
      ·
        refine w_aload_n gz_152_8 rfl ?_
        refine w_getX (v := 162) gz_152_9 is_151 rd_10 rfl (by decide) rfl ?_
        refine w_bipush gz_152_12 (by decide) ?_
        refine w_iload_n gz_152_14 rfl ?_
        refine w_imul gz_152_15 ⟨by omega, by omega⟩ ?_
        refine w_iload_n gz_152_16 rfl ?_
        refine w_iadd gz_152_17 ⟨by omega, by omega⟩ ?_
        refine w_aload_n gz_152_18 rfl ?_
        refine w_getX (v := 162) gz_152_19 is_151 rd_10 rfl (by decide) rfl ?_
        refine w_bipush gz_152_22 (by decide) ?_
        refine w_iload_n gz_152_24 rfl ?_
        refine w_imul gz_152_25 ⟨by omega, by omega⟩ ?_
        refine w_iload_n gz_152_26 rfl ?_
        refine w_iadd gz_152_27 ⟨by omega, by omega⟩ ?_
        have rv : h2_0 162 ((60 * x1) + p2_0) = h 162 ((60 * x1) + p2_0) := by
          by_cases q : x1 = x2
          · have z := nt_2_0 p2_0 (by omega) (by omega)
            rw [show ((60 * x1) + p2_0) = 60 * x2 + p2_0 by omega]; exact z
          · exact ot_2_0 _ (by omega)
        refine w_bald gz_152_28 is_162 rd_61 (by omega) (by omega) (fun v10 ev10 pv10 qv10 => ?_)
        refine w_bast gz_152_29 is_162 rd_61 (by omega) (by omega) (by omega) (by omega) (fun h11 fh11 => ?_)
        have gh11 : my_fr [(61, -1), (62, -1)] h h11 := my_fr.up gh_2_0 is_162 fh11 rfl
        refine w_iinc (ls' := [(2, 151), (0, x1), (0, x2), (0, (p2_0 + 1))]) gz_152_30 rfl gm_152 rfl rfl rfl ⟨by omega, by omega⟩ ?_
        refine w_goto (t := 2) gz_152_33 rfl ?_
        exact ih_2_0 ((p2_0 + 1)) h11 (gh11) (by omega) (by omega) (by first | (intro j a b; omega) | (intro j a b; rcases (by omega : j = p2_0 ∨ j < p2_0) with q | q <;> first | (rw [my_up_ne (x := 162) (i := 60 * x2 + j) fh11 (by omega)]; exact cp_2_0 j a q) | (subst q; rw [show 60 * x2 + j = 60 * x2 + j from rfl, my_up_self fh11]; omega))) (by first | (intro j a; rfl) | (intro j a; rw [my_up_ne (x := 162) (i := j) fh11 (by omega)]; exact ot_2_0 j a)) (by first | (intro j a b; rfl) | (intro j a b; rw [my_up_ne (x := 162) (i := 60 * x2 + j) fh11 (by omega)]; exact nt_2_0 j (by omega) b)) (by omega)
  refine w_iconst gz_152_0 (by decide) ?_
  refine w_istore_n (ls' := [(2, 151), (0, x1), (0, x2), (0, 0)]) gz_152_1 gm_152 rfl rfl rfl ?_
  exact J2_0 61 (0) h (my_fr.rf) (by omega) (by omega) (by first | (intro j a b; omega) | (intro j a b; rcases (by omega : j = p2_0 ∨ j < p2_0) with q | q <;> first | (rw [my_up_ne (x := 162) (i := 60 * x2 + j)  (by omega)]; exact cp_2_0 j a q) | (subst q; rw [show 60 * x2 + j = 60 * x2 + j from rfl, my_up_self ]; omega))) (by first | (intro j a; rfl) | (intro j a; rw [my_up_ne (x := 162) (i := j)  (by omega)]; exact ot_2_0 j a)) (by first | (intro j a b; rfl) | (intro j a b; rw [my_up_ne (x := 162) (i := 60 * x2 + j)  (by omega)]; exact nt_2_0 j (by omega) b)) (by omega)
theorem c_Model_lays2 {l : Launch} {rho : Nat → Int32} {d : Nat} {h : my_H} {Q : my_H → my_V → Prop} {x1 x2 x3 x4 x5 x6 : Int} (a1 : 0 ≤ x1) (b1 : x1 ≤ 15) (a2 : 0 ≤ x2) (b2 : x2 ≤ 2) (a3 : 0 ≤ x3) (b3 : x3 ≤ 19) (a4 : 0 ≤ x4) (b4 : x4 ≤ 19) (a5 : 0 ≤ x5) (b5 : x5 ≤ 19) (a6 : 0 ≤ x6) (b6 : x6 ≤ 19) (n_Rws : Rws h) (hl : rc h (60 * x1 + 20 * x2) 20 ≤ 9) (k0 : ∀ (h' : my_H), my_fr [(61, -1), (62, -1)] h h' → Rws h' → Q h' (9, 0)) : wp l rho (d + 1) 153 0 [(2, 151), (0, x1), (0, x2), (0, x3), (0, x4), (0, x5), (0, x6), (9, 0)] [] h Q := by
  refine v_knowA (x := 162) is_162 rd_61 (fun kT => ?_)
  refine w_iload_n gz_153_0 rfl ?_
  refine w_iload_n gz_153_1 rfl ?_
  refine w_iload_n gz_153_2 rfl ?_
  refine w_inS (k := 0) (as := [(0, x3), (0, x2), (0, x1)]) (r := []) (ls0 := [(0, x1), (0, x2), (0, x3)]) gz_153_3 gm_150 rfl rfl rfl rfl rfl rfl ?_
  refine w_bipush gz_150_0 (by decide) ?_
  refine w_iload_n gz_150_2 rfl ?_
  refine w_imul gz_150_3 ⟨by omega, by omega⟩ ?_
  refine w_bipush gz_150_4 (by decide) ?_
  refine w_iload_n gz_150_6 rfl ?_
  refine w_imul gz_150_7 ⟨by omega, by omega⟩ ?_
  refine w_iadd gz_150_8 ⟨by omega, by omega⟩ ?_
  refine w_iload_n gz_150_9 rfl ?_
  refine w_iadd gz_150_10 ⟨by omega, by omega⟩ ?_
  refine w_iret gz_150_11 gm_150 ?_
  show wp l rho (d + 1) 153 6 [(2, 151), (0, x1), (0, x2), (0, x3), (0, x4), (0, x5), (0, x6), (9, 0)] [(0, (((60 * x1) + (20 * x2)) + x3))] h Q
  refine w_istore (ls' := [(2, 151), (0, x1), (0, x2), (0, x3), (0, x4), (0, x5), (0, x6), (0, (((60 * x1) + (20 * x2)) + x3))]) gz_153_6 gm_153 rfl rfl rfl ?_
  refine w_aload_n gz_153_8 rfl ?_
  refine w_getX (v := 162) gz_153_9 is_151 rd_10 rfl (by decide) rfl ?_
  refine w_iload gz_153_12 rfl ?_
  refine w_iconst gz_153_14 (by decide) ?_
  refine w_bast gz_153_15 is_162 rd_61 (by omega) (by omega) (by omega) (by omega) (fun h2 fh2 => ?_)
  have gh2 : my_fr [(61, -1), (62, -1)] h h2 := my_fr.up my_fr.rf is_162 fh2 rfl
  have Rws_h2t3 : Rws h2 := Rws_on fh2 (by omega) (kT _ (by omega) (by omega)).1 (s0 := x1) (w0 := x2) (by omega) (by omega) (by omega) (by omega) (by omega) hl n_Rws
  refine w_aload_n gz_153_16 rfl ?_
  refine w_getX (v := 163) gz_153_17 is_151 rd_10 rfl (by decide) rfl ?_
  refine w_iconst gz_153_20 (by decide) ?_
  refine w_iload gz_153_21 rfl ?_
  refine w_imul gz_153_23 ⟨by omega, by omega⟩ ?_
  refine w_iload_n gz_153_24 rfl ?_
  refine w_iast gz_153_25 is_163 rd_62 (by omega) (by omega) (by omega) (by omega) (fun h5 fh5 => ?_)
  have gh5 : my_fr [(61, -1), (62, -1)] h h5 := my_fr.up gh2 is_163 fh5 rfl
  have Rws_h5 : Rws h5 := Rws_ag (my_ag.up fh5 is_163 rfl) Rws_h2t3
  refine w_aload_n gz_153_26 rfl ?_
  refine w_getX (v := 163) gz_153_27 is_151 rd_10 rfl (by decide) rfl ?_
  refine w_iconst gz_153_30 (by decide) ?_
  refine w_iload gz_153_31 rfl ?_
  refine w_imul gz_153_33 ⟨by omega, by omega⟩ ?_
  refine w_iconst gz_153_34 (by decide) ?_
  refine w_iadd gz_153_35 ⟨by omega, by omega⟩ ?_
  refine w_iload gz_153_36 rfl ?_
  refine w_iast gz_153_38 is_163 rd_62 (by omega) (by omega) (by omega) (by omega) (fun h7 fh7 => ?_)
  have gh7 : my_fr [(61, -1), (62, -1)] h h7 := my_fr.up gh5 is_163 fh7 rfl
  have Rws_h7 : Rws h7 := Rws_ag (my_ag.up fh7 is_163 rfl) Rws_h5
  refine w_aload_n gz_153_39 rfl ?_
  refine w_getX (v := 163) gz_153_40 is_151 rd_10 rfl (by decide) rfl ?_
  refine w_iconst gz_153_43 (by decide) ?_
  refine w_iload gz_153_44 rfl ?_
  refine w_imul gz_153_46 ⟨by omega, by omega⟩ ?_
  refine w_iconst gz_153_47 (by decide) ?_
  refine w_iadd gz_153_48 ⟨by omega, by omega⟩ ?_
  refine w_iload gz_153_49 rfl ?_
  refine w_iast gz_153_51 is_163 rd_62 (by omega) (by omega) (by omega) (by omega) (fun h9 fh9 => ?_)
  have gh9 : my_fr [(61, -1), (62, -1)] h h9 := my_fr.up gh7 is_163 fh9 rfl
  have Rws_h9 : Rws h9 := Rws_ag (my_ag.up fh9 is_163 rfl) Rws_h7
  refine w_aload_n gz_153_52 rfl ?_
  refine w_getX (v := 163) gz_153_53 is_151 rd_10 rfl (by decide) rfl ?_
  refine w_iconst gz_153_56 (by decide) ?_
  refine w_iload gz_153_57 rfl ?_
  refine w_imul gz_153_59 ⟨by omega, by omega⟩ ?_
  refine w_iconst gz_153_60 (by decide) ?_
  refine w_iadd gz_153_61 ⟨by omega, by omega⟩ ?_
  refine w_iload gz_153_62 rfl ?_
  refine w_iast gz_153_64 is_163 rd_62 (by omega) (by omega) (by omega) (by omega) (fun h11 fh11 => ?_)
  have gh11 : my_fr [(61, -1), (62, -1)] h h11 := my_fr.up gh9 is_163 fh11 rfl
  have Rws_h11 : Rws h11 := Rws_ag (my_ag.up fh11 is_163 rfl) Rws_h9
  exact w_vret gz_153_65 gm_153 (k0 h11 (gh11) Rws_h11)
theorem c_Model_cutAll {l : Launch} {rho : Nat → Int32} {d : Nat} {h : my_H} {Q : my_H → my_V → Prop} (k0 : ∀ (h' : my_H), my_fr [(10, 2), (10, 3), (10, 7), (10, 8), (52, -1), (53, -1), (54, -1)] h h' → h' 151 2 = 0 → h' 151 7 = 0 → h' 151 8 = 0 → Tok h' → Q h' (9, 0)) : wp l rho (d + 2) 169 0 [(2, 151), (9, 0), (9, 0), (9, 0), (9, 0), (9, 0), (9, 0)] [] h Q := by
  have J17_0 : ∀ (n : Nat) (p17_0 p17_1 p17_2 : Int) (h17_0 : my_H), my_fr [(10, 2), (10, 3), (10, 7), (10, 8), (52, -1), (53, -1), (54, -1)] h h17_0 → 0 ≤ p17_0 → p17_0 ≤ 1000 → 0 ≤ p17_1 → p17_1 ≤ 1000 → 0 ≤ p17_2 → p17_2 ≤ 1000 → p17_1 ≤ p17_2 → h17_0 151 2 = 0 → h17_0 151 3 = p17_2 → Tkn h17_0 p17_0 → p17_0 ≤ p17_1 → p17_1 ≤ h17_0 151 3 → 1001 - p17_1 ≤ (n : Int) → wp l rho (d + 2) 169 17 [(2, 151), (0, p17_0), (0, p17_1), (9, 0), (9, 0), (9, 0), (9, 0)] [] h17_0 Q := by
    intro n
    induction n with
    | zero => intro p17_0 p17_1 p17_2 h17_0 gh_17_0 q0_17_0 q1_17_0 q2_17_0 q3_17_0 q4_17_0 q5_17_0 q6_17_0 c151_2_17_0 c151_3_17_0 n_Tkn_17_0 nk_17_0 ks_17_0 hm_17_0; exfalso; omega
    | succ n ih_17_0 =>
      intro p17_0 p17_1 p17_2 h17_0 gh_17_0 q0_17_0 q1_17_0 q2_17_0 q3_17_0 q4_17_0 q5_17_0 q6_17_0 c151_2_17_0 c151_3_17_0 n_Tkn_17_0 nk_17_0 ks_17_0 hm_17_0
      have J159_0 : ∀ (n : Nat) (p159_0 p159_1 z159_l5 : Int) (h159_0 : my_H), my_fr [(10, 2), (10, 3), (10, 7), (10, 8), (52, -1), (53, -1), (54, -1)] h h159_0 → p17_0 ≤ 999 → 0 ≤ p159_0 → p159_0 ≤ 1000 → 48 ≤ p159_1 → p159_1 ≤ 57 → p17_1 ≤ 999 → 1 ≤ p17_2 → p159_0 ≤ p17_2 → p17_1 ≤ p159_0 → p17_1 ≤ (p17_2 - 1) → h159_0 151 2 = 0 → h159_0 151 3 = p17_2 → Tkn h159_0 p17_0 → p17_0 ≤ p17_1 → p17_1 ≤ p159_0 → (p159_0 = p17_1 → 48 ≤ h159_0 152 p17_1 ∧ h159_0 152 p17_1 ≤ 57) → p17_1 < h159_0 151 3 → p159_0 ≤ h159_0 151 3 → (0 ≤ z159_l5 ∧ z159_l5 ≤ 999 ∧ (p159_0 = p17_1 → z159_l5 = 0) ∧ (p159_0 = p17_1 + 1 → z159_l5 ≤ 9) ∧ (p159_0 = p17_1 + 2 → z159_l5 ≤ 99)) → 1001 - p159_0 ≤ (n : Int) → wp l rho (d + 2) 169 159 [(2, 151), (0, p17_0), (0, p159_0), (0, p159_1), (0, p17_1), (1, z159_l5), (9, 0)] [] h159_0 Q := by
        intro n
        induction n with
        | zero => intro p159_0 p159_1 z159_l5 h159_0 gh_159_0 q0_159_0 q1_159_0 q2_159_0 q3_159_0 q4_159_0 q5_159_0 q6_159_0 q7_159_0 q8_159_0 q9_159_0 c151_2_159_0 c151_3_159_0 n_Tkn_159_0 nk_159_0 fk_159_0 f0_159_0 ls_159_0 ks_159_0 vb_159_0 hm_159_0; exfalso; omega
        | succ n ih_159_0 =>
          intro p159_0 p159_1 z159_l5 h159_0 gh_159_0 q0_159_0 q1_159_0 q2_159_0 q3_159_0 q4_159_0 q5_159_0 q6_159_0 q7_159_0 q8_159_0 q9_159_0 c151_2_159_0 c151_3_159_0 n_Tkn_159_0 nk_159_0 fk_159_0 f0_159_0 ls_159_0 ks_159_0 vb_159_0 hm_159_0
          refine w_iload_n gz_169_159 rfl ?_
          refine w_aload_n gz_169_160 rfl ?_
          refine v_getI (j := 3) gz_169_161 rfl is_151 rd_10 rfl (fun v1 ev1 pv1 qv1 => ?_)
          have zv1 := ev1.trans c151_3_159_0
          refine w_icge (t := 218) gz_169_164 rfl (fun u2 => ?_) (fun u2 => ?_)
          ·
            have ne : p159_0 ≠ p17_1 := by intro q; have z := f0_159_0 q; rw [← q] at z; omega
            refine w_aload_n gz_169_218 rfl ?_
            refine w_getX (v := 153) gz_169_219 is_151 rd_10 rfl (by decide) rfl ?_
            refine w_iload_n gz_169_222 rfl ?_
            refine w_iload_n gz_169_223 rfl ?_
            refine w_iload gz_169_224 rfl ?_
            refine w_isub gz_169_226 ⟨by omega, by omega⟩ ?_
            refine w_iconst gz_169_227 (by decide) ?_
            refine w_icle (t := 235) gz_169_228 rfl (fun u4 => ?_) (fun u4 => ?_)
            ·
              refine w_iconst gz_169_235 (by decide) ?_
              have tkA := n_Tkn_159_0
              refine w_iast gz_169_236 is_153 rd_52 (by omega) (by omega) (by omega) (by omega) (fun h5 fh5 => ?_)
              have gh5 : my_fr [(10, 2), (10, 3), (10, 7), (10, 8), (52, -1), (53, -1), (54, -1)] h h5 := my_fr.up gh_159_0 is_153 fh5 rfl
              refine w_goto (t := 265) gz_169_237 rfl ?_
              refine w_aload_n gz_169_265 rfl ?_
              refine w_getX (v := 155) gz_169_266 is_151 rd_10 rfl (by decide) rfl ?_
              refine w_iload_n gz_169_269 rfl ?_
              refine w_lload gz_169_270 rfl ?_
              refine w_last gz_169_272 is_155 rd_54 (by omega) (by omega) (fun h7 fh7 => ?_)
              have gh7 : my_fr [(10, 2), (10, 3), (10, 7), (10, 8), (52, -1), (53, -1), (54, -1)] h h7 := my_fr.up gh5 is_155 fh7 rfl
              have tN : h7 153 p17_0 ≠ 0 ∧ (h7 153 p17_0 = 2 → 0 ≤ h7 155 p17_0 ∧ h7 155 p17_0 ≤ 999) := by rw [my_up_ne (x := 153) (i := p17_0) fh7 (by omega), my_up_self fh5, my_up_self fh7]; omega
              have Tkn_h7t8 : Tkn h7 (p17_0 + 1) := by
                intro i a b
                rcases (by omega : i = p17_0 ∨ i < p17_0) with q | q
                · subst q; exact tN
                · rw [my_up_ne (x := 153) (i := i) fh7 (by omega), my_up_ne (x := 153) (i := i) fh5 (by omega), my_up_ne (x := 155) (i := i) fh7 (by omega), my_up_ne (x := 155) (i := i) fh5 (by omega)]
                  exact tkA i a q
              refine w_iinc (ls' := [(2, 151), (0, (p17_0 + 1)), (0, p159_0), (0, p159_1), (0, p17_1), (1, z159_l5), (9, 0)]) gz_169_273 rfl gm_169 rfl rfl rfl ⟨by omega, by omega⟩ ?_
              refine w_goto (t := 17) gz_169_276 rfl ?_
              have ce9 : h7 151 3 = v1 := ((my_up_role fh7 is_151 is_155 rfl).trans ((my_up_role fh5 is_151 is_153 rfl).trans ev1.symm))
              refine w_weak (ls' := [(2, 151), (0, (p17_0 + 1)), (0, p159_0), (9, 0), (9, 0), (9, 0), (9, 0)]) (wk_e (wk_e (wk_e (wk_9 (wk_9 (wk_9 (wk_9 wk_n))))))) ?_
              exact ih_17_0 ((p17_0 + 1)) (p159_0) (v1) h7 (gh7) (by omega) (by omega) (by omega) (by omega) (by omega) (by omega) (by omega) (((my_up_role fh7 is_151 is_155 rfl).trans ((my_up_role fh5 is_151 is_153 rfl).trans c151_2_159_0)).trans (by omega)) (((my_up_role fh7 is_151 is_155 rfl).trans ((my_up_role fh5 is_151 is_153 rfl).trans ev1.symm)).trans (by omega)) Tkn_h7t8 (by first | assumption | omega | (subst_vars; omega)) (by first | assumption | omega | (subst_vars; omega)) (by omega)
            ·
              refine w_iconst gz_169_231 (by decide) ?_
              refine w_goto (t := 236) gz_169_232 rfl ?_
              have tkA := n_Tkn_159_0
              refine w_iast gz_169_236 is_153 rd_52 (by omega) (by omega) (by omega) (by omega) (fun h10 fh10 => ?_)
              have gh10 : my_fr [(10, 2), (10, 3), (10, 7), (10, 8), (52, -1), (53, -1), (54, -1)] h h10 := my_fr.up gh_159_0 is_153 fh10 rfl
              refine w_goto (t := 265) gz_169_237 rfl ?_
              refine w_aload_n gz_169_265 rfl ?_
              refine w_getX (v := 155) gz_169_266 is_151 rd_10 rfl (by decide) rfl ?_
              refine w_iload_n gz_169_269 rfl ?_
              refine w_lload gz_169_270 rfl ?_
              refine w_last gz_169_272 is_155 rd_54 (by omega) (by omega) (fun h12 fh12 => ?_)
              have gh12 : my_fr [(10, 2), (10, 3), (10, 7), (10, 8), (52, -1), (53, -1), (54, -1)] h h12 := my_fr.up gh10 is_155 fh12 rfl
              have tN : h12 153 p17_0 ≠ 0 ∧ (h12 153 p17_0 = 2 → 0 ≤ h12 155 p17_0 ∧ h12 155 p17_0 ≤ 999) := by rw [my_up_ne (x := 153) (i := p17_0) fh12 (by omega), my_up_self fh10, my_up_self fh12]; omega
              have Tkn_h12t13 : Tkn h12 (p17_0 + 1) := by
                intro i a b
                rcases (by omega : i = p17_0 ∨ i < p17_0) with q | q
                · subst q; exact tN
                · rw [my_up_ne (x := 153) (i := i) fh12 (by omega), my_up_ne (x := 153) (i := i) fh10 (by omega), my_up_ne (x := 155) (i := i) fh12 (by omega), my_up_ne (x := 155) (i := i) fh10 (by omega)]
                  exact tkA i a q
              refine w_iinc (ls' := [(2, 151), (0, (p17_0 + 1)), (0, p159_0), (0, p159_1), (0, p17_1), (1, z159_l5), (9, 0)]) gz_169_273 rfl gm_169 rfl rfl rfl ⟨by omega, by omega⟩ ?_
              refine w_goto (t := 17) gz_169_276 rfl ?_
              have ce14 : h12 151 3 = v1 := ((my_up_role fh12 is_151 is_155 rfl).trans ((my_up_role fh10 is_151 is_153 rfl).trans ev1.symm))
              refine w_weak (ls' := [(2, 151), (0, (p17_0 + 1)), (0, p159_0), (9, 0), (9, 0), (9, 0), (9, 0)]) (wk_e (wk_e (wk_e (wk_9 (wk_9 (wk_9 (wk_9 wk_n))))))) ?_
              exact ih_17_0 ((p17_0 + 1)) (p159_0) (v1) h12 (gh12) (by omega) (by omega) (by omega) (by omega) (by omega) (by omega) (by omega) (((my_up_role fh12 is_151 is_155 rfl).trans ((my_up_role fh10 is_151 is_153 rfl).trans c151_2_159_0)).trans (by omega)) (((my_up_role fh12 is_151 is_155 rfl).trans ((my_up_role fh10 is_151 is_153 rfl).trans ev1.symm)).trans (by omega)) Tkn_h12t13 (by first | assumption | omega | (subst_vars; omega)) (by first | assumption | omega | (subst_vars; omega)) (by omega)
          ·
            refine w_aload_n gz_169_167 rfl ?_
            refine w_getX (v := 152) gz_169_168 is_151 rd_10 rfl (by decide) rfl ?_
            refine w_iload_n gz_169_171 rfl ?_
            refine w_iald gz_169_172 is_152 rd_51 (by omega) (by omega) (fun v16 ev16 pv16 qv16 => ?_)
            refine w_inS (k := 0) (as := [(0, v16)]) (r := []) (ls0 := [(0, v16)]) gz_169_173 gm_172 rfl rfl rfl rfl rfl rfl ?_
            refine w_iload_n gz_172_0 rfl ?_
            refine w_bipush gz_172_1 (by decide) ?_
            refine w_iclt (t := 16) gz_172_3 rfl (fun u17 => ?_) (fun u17 => ?_)
            ·
              refine w_iconst gz_172_16 (by decide) ?_
              refine w_bret gz_172_17 gm_172 (by omega) (by omega) ?_
              show wp l rho (d + 2) 169 176 [(2, 151), (0, p17_0), (0, p159_0), (0, p159_1), (0, p17_1), (1, z159_l5), (9, 0)] [(0, 0)] h159_0 Q
              refine w_ifeq (t := 218) gz_169_176 rfl (fun u18 => ?_) (fun u18 => by exfalso; omega)
              have ne : p159_0 ≠ p17_1 := by intro q; have z := f0_159_0 q; rw [← q] at z; omega
              refine w_aload_n gz_169_218 rfl ?_
              refine w_getX (v := 153) gz_169_219 is_151 rd_10 rfl (by decide) rfl ?_
              refine w_iload_n gz_169_222 rfl ?_
              refine w_iload_n gz_169_223 rfl ?_
              refine w_iload gz_169_224 rfl ?_
              refine w_isub gz_169_226 ⟨by omega, by omega⟩ ?_
              refine w_iconst gz_169_227 (by decide) ?_
              refine w_icle (t := 235) gz_169_228 rfl (fun u20 => ?_) (fun u20 => ?_)
              ·
                refine w_iconst gz_169_235 (by decide) ?_
                have tkA := n_Tkn_159_0
                refine w_iast gz_169_236 is_153 rd_52 (by omega) (by omega) (by omega) (by omega) (fun h21 fh21 => ?_)
                have gh21 : my_fr [(10, 2), (10, 3), (10, 7), (10, 8), (52, -1), (53, -1), (54, -1)] h h21 := my_fr.up gh_159_0 is_153 fh21 rfl
                refine w_goto (t := 265) gz_169_237 rfl ?_
                refine w_aload_n gz_169_265 rfl ?_
                refine w_getX (v := 155) gz_169_266 is_151 rd_10 rfl (by decide) rfl ?_
                refine w_iload_n gz_169_269 rfl ?_
                refine w_lload gz_169_270 rfl ?_
                refine w_last gz_169_272 is_155 rd_54 (by omega) (by omega) (fun h23 fh23 => ?_)
                have gh23 : my_fr [(10, 2), (10, 3), (10, 7), (10, 8), (52, -1), (53, -1), (54, -1)] h h23 := my_fr.up gh21 is_155 fh23 rfl
                have tN : h23 153 p17_0 ≠ 0 ∧ (h23 153 p17_0 = 2 → 0 ≤ h23 155 p17_0 ∧ h23 155 p17_0 ≤ 999) := by rw [my_up_ne (x := 153) (i := p17_0) fh23 (by omega), my_up_self fh21, my_up_self fh23]; omega
                have Tkn_h23t24 : Tkn h23 (p17_0 + 1) := by
                  intro i a b
                  rcases (by omega : i = p17_0 ∨ i < p17_0) with q | q
                  · subst q; exact tN
                  · rw [my_up_ne (x := 153) (i := i) fh23 (by omega), my_up_ne (x := 153) (i := i) fh21 (by omega), my_up_ne (x := 155) (i := i) fh23 (by omega), my_up_ne (x := 155) (i := i) fh21 (by omega)]
                    exact tkA i a q
                refine w_iinc (ls' := [(2, 151), (0, (p17_0 + 1)), (0, p159_0), (0, p159_1), (0, p17_1), (1, z159_l5), (9, 0)]) gz_169_273 rfl gm_169 rfl rfl rfl ⟨by omega, by omega⟩ ?_
                refine w_goto (t := 17) gz_169_276 rfl ?_
                have ce25 : h23 151 3 = v1 := ((my_up_role fh23 is_151 is_155 rfl).trans ((my_up_role fh21 is_151 is_153 rfl).trans ev1.symm))
                refine w_weak (ls' := [(2, 151), (0, (p17_0 + 1)), (0, p159_0), (9, 0), (9, 0), (9, 0), (9, 0)]) (wk_e (wk_e (wk_e (wk_9 (wk_9 (wk_9 (wk_9 wk_n))))))) ?_
                exact ih_17_0 ((p17_0 + 1)) (p159_0) (v1) h23 (gh23) (by omega) (by omega) (by omega) (by omega) (by omega) (by omega) (by omega) (((my_up_role fh23 is_151 is_155 rfl).trans ((my_up_role fh21 is_151 is_153 rfl).trans c151_2_159_0)).trans (by omega)) (((my_up_role fh23 is_151 is_155 rfl).trans ((my_up_role fh21 is_151 is_153 rfl).trans ev1.symm)).trans (by omega)) Tkn_h23t24 (by first | assumption | omega | (subst_vars; omega)) (by first | assumption | omega | (subst_vars; omega)) (by omega)
              ·
                refine w_iconst gz_169_231 (by decide) ?_
                refine w_goto (t := 236) gz_169_232 rfl ?_
                have tkA := n_Tkn_159_0
                refine w_iast gz_169_236 is_153 rd_52 (by omega) (by omega) (by omega) (by omega) (fun h26 fh26 => ?_)
                have gh26 : my_fr [(10, 2), (10, 3), (10, 7), (10, 8), (52, -1), (53, -1), (54, -1)] h h26 := my_fr.up gh_159_0 is_153 fh26 rfl
                refine w_goto (t := 265) gz_169_237 rfl ?_
                refine w_aload_n gz_169_265 rfl ?_
                refine w_getX (v := 155) gz_169_266 is_151 rd_10 rfl (by decide) rfl ?_
                refine w_iload_n gz_169_269 rfl ?_
                refine w_lload gz_169_270 rfl ?_
                refine w_last gz_169_272 is_155 rd_54 (by omega) (by omega) (fun h28 fh28 => ?_)
                have gh28 : my_fr [(10, 2), (10, 3), (10, 7), (10, 8), (52, -1), (53, -1), (54, -1)] h h28 := my_fr.up gh26 is_155 fh28 rfl
                have tN : h28 153 p17_0 ≠ 0 ∧ (h28 153 p17_0 = 2 → 0 ≤ h28 155 p17_0 ∧ h28 155 p17_0 ≤ 999) := by rw [my_up_ne (x := 153) (i := p17_0) fh28 (by omega), my_up_self fh26, my_up_self fh28]; omega
                have Tkn_h28t29 : Tkn h28 (p17_0 + 1) := by
                  intro i a b
                  rcases (by omega : i = p17_0 ∨ i < p17_0) with q | q
                  · subst q; exact tN
                  · rw [my_up_ne (x := 153) (i := i) fh28 (by omega), my_up_ne (x := 153) (i := i) fh26 (by omega), my_up_ne (x := 155) (i := i) fh28 (by omega), my_up_ne (x := 155) (i := i) fh26 (by omega)]
                    exact tkA i a q
                refine w_iinc (ls' := [(2, 151), (0, (p17_0 + 1)), (0, p159_0), (0, p159_1), (0, p17_1), (1, z159_l5), (9, 0)]) gz_169_273 rfl gm_169 rfl rfl rfl ⟨by omega, by omega⟩ ?_
                refine w_goto (t := 17) gz_169_276 rfl ?_
                have ce30 : h28 151 3 = v1 := ((my_up_role fh28 is_151 is_155 rfl).trans ((my_up_role fh26 is_151 is_153 rfl).trans ev1.symm))
                refine w_weak (ls' := [(2, 151), (0, (p17_0 + 1)), (0, p159_0), (9, 0), (9, 0), (9, 0), (9, 0)]) (wk_e (wk_e (wk_e (wk_9 (wk_9 (wk_9 (wk_9 wk_n))))))) ?_
                exact ih_17_0 ((p17_0 + 1)) (p159_0) (v1) h28 (gh28) (by omega) (by omega) (by omega) (by omega) (by omega) (by omega) (by omega) (((my_up_role fh28 is_151 is_155 rfl).trans ((my_up_role fh26 is_151 is_153 rfl).trans c151_2_159_0)).trans (by omega)) (((my_up_role fh28 is_151 is_155 rfl).trans ((my_up_role fh26 is_151 is_153 rfl).trans ev1.symm)).trans (by omega)) Tkn_h28t29 (by first | assumption | omega | (subst_vars; omega)) (by first | assumption | omega | (subst_vars; omega)) (by omega)
            ·
              refine w_iload_n gz_172_6 rfl ?_
              refine w_bipush gz_172_7 (by decide) ?_
              refine w_icgt (t := 16) gz_172_9 rfl (fun u31 => ?_) (fun u31 => ?_)
              ·
                refine w_iconst gz_172_16 (by decide) ?_
                refine w_bret gz_172_17 gm_172 (by omega) (by omega) ?_
                show wp l rho (d + 2) 169 176 [(2, 151), (0, p17_0), (0, p159_0), (0, p159_1), (0, p17_1), (1, z159_l5), (9, 0)] [(0, 0)] h159_0 Q
                refine w_ifeq (t := 218) gz_169_176 rfl (fun u32 => ?_) (fun u32 => by exfalso; omega)
                have ne : p159_0 ≠ p17_1 := by intro q; have z := f0_159_0 q; rw [← q] at z; omega
                refine w_aload_n gz_169_218 rfl ?_
                refine w_getX (v := 153) gz_169_219 is_151 rd_10 rfl (by decide) rfl ?_
                refine w_iload_n gz_169_222 rfl ?_
                refine w_iload_n gz_169_223 rfl ?_
                refine w_iload gz_169_224 rfl ?_
                refine w_isub gz_169_226 ⟨by omega, by omega⟩ ?_
                refine w_iconst gz_169_227 (by decide) ?_
                refine w_icle (t := 235) gz_169_228 rfl (fun u34 => ?_) (fun u34 => ?_)
                ·
                  refine w_iconst gz_169_235 (by decide) ?_
                  have tkA := n_Tkn_159_0
                  refine w_iast gz_169_236 is_153 rd_52 (by omega) (by omega) (by omega) (by omega) (fun h35 fh35 => ?_)
                  have gh35 : my_fr [(10, 2), (10, 3), (10, 7), (10, 8), (52, -1), (53, -1), (54, -1)] h h35 := my_fr.up gh_159_0 is_153 fh35 rfl
                  refine w_goto (t := 265) gz_169_237 rfl ?_
                  refine w_aload_n gz_169_265 rfl ?_
                  refine w_getX (v := 155) gz_169_266 is_151 rd_10 rfl (by decide) rfl ?_
                  refine w_iload_n gz_169_269 rfl ?_
                  refine w_lload gz_169_270 rfl ?_
                  refine w_last gz_169_272 is_155 rd_54 (by omega) (by omega) (fun h37 fh37 => ?_)
                  have gh37 : my_fr [(10, 2), (10, 3), (10, 7), (10, 8), (52, -1), (53, -1), (54, -1)] h h37 := my_fr.up gh35 is_155 fh37 rfl
                  have tN : h37 153 p17_0 ≠ 0 ∧ (h37 153 p17_0 = 2 → 0 ≤ h37 155 p17_0 ∧ h37 155 p17_0 ≤ 999) := by rw [my_up_ne (x := 153) (i := p17_0) fh37 (by omega), my_up_self fh35, my_up_self fh37]; omega
                  have Tkn_h37t38 : Tkn h37 (p17_0 + 1) := by
                    intro i a b
                    rcases (by omega : i = p17_0 ∨ i < p17_0) with q | q
                    · subst q; exact tN
                    · rw [my_up_ne (x := 153) (i := i) fh37 (by omega), my_up_ne (x := 153) (i := i) fh35 (by omega), my_up_ne (x := 155) (i := i) fh37 (by omega), my_up_ne (x := 155) (i := i) fh35 (by omega)]
                      exact tkA i a q
                  refine w_iinc (ls' := [(2, 151), (0, (p17_0 + 1)), (0, p159_0), (0, p159_1), (0, p17_1), (1, z159_l5), (9, 0)]) gz_169_273 rfl gm_169 rfl rfl rfl ⟨by omega, by omega⟩ ?_
                  refine w_goto (t := 17) gz_169_276 rfl ?_
                  have ce39 : h37 151 3 = v1 := ((my_up_role fh37 is_151 is_155 rfl).trans ((my_up_role fh35 is_151 is_153 rfl).trans ev1.symm))
                  refine w_weak (ls' := [(2, 151), (0, (p17_0 + 1)), (0, p159_0), (9, 0), (9, 0), (9, 0), (9, 0)]) (wk_e (wk_e (wk_e (wk_9 (wk_9 (wk_9 (wk_9 wk_n))))))) ?_
                  exact ih_17_0 ((p17_0 + 1)) (p159_0) (v1) h37 (gh37) (by omega) (by omega) (by omega) (by omega) (by omega) (by omega) (by omega) (((my_up_role fh37 is_151 is_155 rfl).trans ((my_up_role fh35 is_151 is_153 rfl).trans c151_2_159_0)).trans (by omega)) (((my_up_role fh37 is_151 is_155 rfl).trans ((my_up_role fh35 is_151 is_153 rfl).trans ev1.symm)).trans (by omega)) Tkn_h37t38 (by first | assumption | omega | (subst_vars; omega)) (by first | assumption | omega | (subst_vars; omega)) (by omega)
                ·
                  refine w_iconst gz_169_231 (by decide) ?_
                  refine w_goto (t := 236) gz_169_232 rfl ?_
                  have tkA := n_Tkn_159_0
                  refine w_iast gz_169_236 is_153 rd_52 (by omega) (by omega) (by omega) (by omega) (fun h40 fh40 => ?_)
                  have gh40 : my_fr [(10, 2), (10, 3), (10, 7), (10, 8), (52, -1), (53, -1), (54, -1)] h h40 := my_fr.up gh_159_0 is_153 fh40 rfl
                  refine w_goto (t := 265) gz_169_237 rfl ?_
                  refine w_aload_n gz_169_265 rfl ?_
                  refine w_getX (v := 155) gz_169_266 is_151 rd_10 rfl (by decide) rfl ?_
                  refine w_iload_n gz_169_269 rfl ?_
                  refine w_lload gz_169_270 rfl ?_
                  refine w_last gz_169_272 is_155 rd_54 (by omega) (by omega) (fun h42 fh42 => ?_)
                  have gh42 : my_fr [(10, 2), (10, 3), (10, 7), (10, 8), (52, -1), (53, -1), (54, -1)] h h42 := my_fr.up gh40 is_155 fh42 rfl
                  have tN : h42 153 p17_0 ≠ 0 ∧ (h42 153 p17_0 = 2 → 0 ≤ h42 155 p17_0 ∧ h42 155 p17_0 ≤ 999) := by rw [my_up_ne (x := 153) (i := p17_0) fh42 (by omega), my_up_self fh40, my_up_self fh42]; omega
                  have Tkn_h42t43 : Tkn h42 (p17_0 + 1) := by
                    intro i a b
                    rcases (by omega : i = p17_0 ∨ i < p17_0) with q | q
                    · subst q; exact tN
                    · rw [my_up_ne (x := 153) (i := i) fh42 (by omega), my_up_ne (x := 153) (i := i) fh40 (by omega), my_up_ne (x := 155) (i := i) fh42 (by omega), my_up_ne (x := 155) (i := i) fh40 (by omega)]
                      exact tkA i a q
                  refine w_iinc (ls' := [(2, 151), (0, (p17_0 + 1)), (0, p159_0), (0, p159_1), (0, p17_1), (1, z159_l5), (9, 0)]) gz_169_273 rfl gm_169 rfl rfl rfl ⟨by omega, by omega⟩ ?_
                  refine w_goto (t := 17) gz_169_276 rfl ?_
                  have ce44 : h42 151 3 = v1 := ((my_up_role fh42 is_151 is_155 rfl).trans ((my_up_role fh40 is_151 is_153 rfl).trans ev1.symm))
                  refine w_weak (ls' := [(2, 151), (0, (p17_0 + 1)), (0, p159_0), (9, 0), (9, 0), (9, 0), (9, 0)]) (wk_e (wk_e (wk_e (wk_9 (wk_9 (wk_9 (wk_9 wk_n))))))) ?_
                  exact ih_17_0 ((p17_0 + 1)) (p159_0) (v1) h42 (gh42) (by omega) (by omega) (by omega) (by omega) (by omega) (by omega) (by omega) (((my_up_role fh42 is_151 is_155 rfl).trans ((my_up_role fh40 is_151 is_153 rfl).trans c151_2_159_0)).trans (by omega)) (((my_up_role fh42 is_151 is_155 rfl).trans ((my_up_role fh40 is_151 is_153 rfl).trans ev1.symm)).trans (by omega)) Tkn_h42t43 (by first | assumption | omega | (subst_vars; omega)) (by first | assumption | omega | (subst_vars; omega)) (by omega)
              ·
                refine w_iconst gz_172_12 (by decide) ?_
                refine w_goto (t := 17) gz_172_13 rfl ?_
                refine w_bret gz_172_17 gm_172 (by omega) (by omega) ?_
                show wp l rho (d + 2) 169 176 [(2, 151), (0, p17_0), (0, p159_0), (0, p159_1), (0, p17_1), (1, z159_l5), (9, 0)] [(0, 1)] h159_0 Q
                refine w_ifeq (t := 218) gz_169_176 rfl (fun u45 => by exfalso; omega) (fun u45 => ?_)
                refine w_iload_n gz_169_179 rfl ?_
                refine w_iload gz_169_180 rfl ?_
                refine w_isub gz_169_182 ⟨by omega, by omega⟩ ?_
                refine w_iconst gz_169_183 (by decide) ?_
                refine w_icge (t := 208) gz_169_184 rfl (fun u46 => ?_) (fun u46 => ?_)
                ·
                  refine w_lload gz_169_208 rfl ?_
                  refine w_lstore (ls' := [(2, 151), (0, p17_0), (0, p159_0), (0, p159_1), (0, p17_1), (1, z159_l5), (9, 0)]) gz_169_210 gm_169 rfl rfl rfl ?_
                  refine w_iinc (ls' := [(2, 151), (0, p17_0), (0, (p159_0 + 1)), (0, p159_1), (0, p17_1), (1, z159_l5), (9, 0)]) gz_169_212 rfl gm_169 rfl rfl rfl ⟨by omega, by omega⟩ ?_
                  refine w_goto (t := 159) gz_169_215 rfl ?_
                  have ce47 : h159_0 151 3 = v1 := ev1.symm
                  have tp : ∀ j : Int, h159_0 152 j = h159_0 152 j := fun _ => rfl
                  exact ih_159_0 ((p159_0 + 1)) (p159_1) (z159_l5) h159_0 (gh_159_0) (by omega) (by omega) (by omega) (by omega) (by omega) (by omega) (by omega) (by omega) (by omega) (by omega) (c151_2_159_0.trans (by omega)) (ev1.symm.trans (by omega)) n_Tkn_159_0 (by first | assumption | omega | (subst_vars; omega)) (by first | assumption | omega | (subst_vars; omega)) (by first | (intro q; rw [tp]; omega) | omega | (intro q; omega)) (by first | assumption | omega | (subst_vars; omega)) (by first | assumption | omega | (subst_vars; omega)) (by omega) (by omega)
                ·
                  refine w_ldc2 gz_169_187 rfl ?_
                  refine w_lload gz_169_190 rfl ?_
                  refine w_lmulE gz_169_192 (fun v48 pv48 xv48 => ?_)
                  refine w_aload_n gz_169_193 rfl ?_
                  refine w_getX (v := 152) gz_169_194 is_151 rd_10 rfl (by decide) rfl ?_
                  refine w_iload_n gz_169_197 rfl ?_
                  refine w_iald gz_169_198 is_152 rd_51 (by omega) (by omega) (fun v50 ev50 pv50 qv50 => ?_)
                  have zv50 := ev50.trans ev16.symm
                  refine w_i2l gz_169_199 ?_
                  refine w_laddE gz_169_200 (fun v51 pv51 xv51 => ?_)
                  refine w_ldc2 gz_169_201 rfl ?_
                  refine w_lsubE gz_169_204 (fun v52 pv52 xv52 => ?_)
                  refine w_goto (t := 210) gz_169_205 rfl ?_
                  refine w_lstore (ls' := [(2, 151), (0, p17_0), (0, p159_0), (0, p159_1), (0, p17_1), (1, v52), (9, 0)]) gz_169_210 gm_169 rfl rfl rfl ?_
                  refine w_iinc (ls' := [(2, 151), (0, p17_0), (0, (p159_0 + 1)), (0, p159_1), (0, p17_1), (1, v52), (9, 0)]) gz_169_212 rfl gm_169 rfl rfl rfl ⟨by omega, by omega⟩ ?_
                  refine w_goto (t := 159) gz_169_215 rfl ?_
                  have ce53 : h159_0 151 3 = v1 := ev1.symm
                  have tp : ∀ j : Int, h159_0 152 j = h159_0 152 j := fun _ => rfl
                  exact ih_159_0 ((p159_0 + 1)) (p159_1) (v52) h159_0 (gh_159_0) (by omega) (by omega) (by omega) (by omega) (by omega) (by omega) (by omega) (by omega) (by omega) (by omega) (c151_2_159_0.trans (by omega)) (ev1.symm.trans (by omega)) n_Tkn_159_0 (by first | assumption | omega | (subst_vars; omega)) (by first | assumption | omega | (subst_vars; omega)) (by first | (intro q; rw [tp]; omega) | omega | (intro q; omega)) (by first | assumption | omega | (subst_vars; omega)) (by first | assumption | omega | (subst_vars; omega)) (by omega) (by omega)
      have J70_0 : ∀ (n : Nat) (p70_0 p70_1 z70_l5 : Int) (h70_0 : my_H), my_fr [(10, 2), (10, 3), (10, 7), (10, 8), (52, -1), (53, -1), (54, -1)] h h70_0 → p17_0 ≤ 999 → 0 ≤ p70_0 → p70_0 ≤ 1000 → 97 ≤ p70_1 → p70_1 ≤ 122 → p17_1 ≤ 999 → 1 ≤ p17_2 → p70_0 ≤ p17_2 → p17_1 ≤ p70_0 → p17_1 ≤ (p17_2 - 1) → h70_0 151 2 = 0 → h70_0 151 3 = p17_2 → Tkn h70_0 p17_0 → p17_0 ≤ p17_1 → p17_1 ≤ p70_0 → (p70_0 = p17_1 → 97 ≤ h70_0 152 p17_1 ∧ h70_0 152 p17_1 ≤ 122) → p17_1 < h70_0 151 3 → p70_0 ≤ h70_0 151 3 → 1001 - p70_0 ≤ (n : Int) → wp l rho (d + 2) 169 70 [(2, 151), (0, p17_0), (0, p70_0), (0, p70_1), (0, p17_1), (1, z70_l5), (9, 0)] [] h70_0 Q := by
        intro n
        induction n with
        | zero => intro p70_0 p70_1 z70_l5 h70_0 gh_70_0 q0_70_0 q1_70_0 q2_70_0 q3_70_0 q4_70_0 q5_70_0 q6_70_0 q7_70_0 q8_70_0 q9_70_0 c151_2_70_0 c151_3_70_0 n_Tkn_70_0 nk_70_0 fk_70_0 f0_70_0 ls_70_0 ks_70_0 hm_70_0; exfalso; omega
        | succ n ih_70_0 =>
          intro p70_0 p70_1 z70_l5 h70_0 gh_70_0 q0_70_0 q1_70_0 q2_70_0 q3_70_0 q4_70_0 q5_70_0 q6_70_0 q7_70_0 q8_70_0 q9_70_0 c151_2_70_0 c151_3_70_0 n_Tkn_70_0 nk_70_0 fk_70_0 f0_70_0 ls_70_0 ks_70_0 hm_70_0
          refine w_iload_n gz_169_70 rfl ?_
          refine w_aload_n gz_169_71 rfl ?_
          refine v_getI (j := 3) gz_169_72 rfl is_151 rd_10 rfl (fun v54 ev54 pv54 qv54 => ?_)
          have zv54 := ev54.trans c151_3_70_0
          refine w_icge (t := 129) gz_169_75 rfl (fun u55 => ?_) (fun u55 => ?_)
          ·
            have ne : p70_0 ≠ p17_1 := by intro q; have z := f0_70_0 q; rw [← q] at z; omega
            refine w_aload_n gz_169_129 rfl ?_
            refine w_getX (v := 153) gz_169_130 is_151 rd_10 rfl (by decide) rfl ?_
            refine w_iload_n gz_169_133 rfl ?_
            refine w_iload_n gz_169_134 rfl ?_
            refine w_iload gz_169_135 rfl ?_
            refine w_isub gz_169_137 ⟨by omega, by omega⟩ ?_
            refine w_bipush gz_169_138 (by decide) ?_
            refine w_icle (t := 147) gz_169_140 rfl (fun u57 => ?_) (fun u57 => ?_)
            ·
              refine w_iconst gz_169_147 (by decide) ?_
              have tkA := n_Tkn_70_0
              refine w_iast gz_169_148 is_153 rd_52 (by omega) (by omega) (by omega) (by omega) (fun h58 fh58 => ?_)
              have gh58 : my_fr [(10, 2), (10, 3), (10, 7), (10, 8), (52, -1), (53, -1), (54, -1)] h h58 := my_fr.up gh_70_0 is_153 fh58 rfl
              refine w_goto (t := 265) gz_169_149 rfl ?_
              refine w_aload_n gz_169_265 rfl ?_
              refine w_getX (v := 155) gz_169_266 is_151 rd_10 rfl (by decide) rfl ?_
              refine w_iload_n gz_169_269 rfl ?_
              refine w_lload gz_169_270 rfl ?_
              refine w_last gz_169_272 is_155 rd_54 (by omega) (by omega) (fun h60 fh60 => ?_)
              have gh60 : my_fr [(10, 2), (10, 3), (10, 7), (10, 8), (52, -1), (53, -1), (54, -1)] h h60 := my_fr.up gh58 is_155 fh60 rfl
              have tN : h60 153 p17_0 ≠ 0 ∧ (h60 153 p17_0 = 2 → 0 ≤ h60 155 p17_0 ∧ h60 155 p17_0 ≤ 999) := by rw [my_up_ne (x := 153) (i := p17_0) fh60 (by omega), my_up_self fh58, my_up_self fh60]; omega
              have Tkn_h60t61 : Tkn h60 (p17_0 + 1) := by
                intro i a b
                rcases (by omega : i = p17_0 ∨ i < p17_0) with q | q
                · subst q; exact tN
                · rw [my_up_ne (x := 153) (i := i) fh60 (by omega), my_up_ne (x := 153) (i := i) fh58 (by omega), my_up_ne (x := 155) (i := i) fh60 (by omega), my_up_ne (x := 155) (i := i) fh58 (by omega)]
                  exact tkA i a q
              refine w_iinc (ls' := [(2, 151), (0, (p17_0 + 1)), (0, p70_0), (0, p70_1), (0, p17_1), (1, z70_l5), (9, 0)]) gz_169_273 rfl gm_169 rfl rfl rfl ⟨by omega, by omega⟩ ?_
              refine w_goto (t := 17) gz_169_276 rfl ?_
              have ce62 : h60 151 3 = v54 := ((my_up_role fh60 is_151 is_155 rfl).trans ((my_up_role fh58 is_151 is_153 rfl).trans ev54.symm))
              refine w_weak (ls' := [(2, 151), (0, (p17_0 + 1)), (0, p70_0), (9, 0), (9, 0), (9, 0), (9, 0)]) (wk_e (wk_e (wk_e (wk_9 (wk_9 (wk_9 (wk_9 wk_n))))))) ?_
              exact ih_17_0 ((p17_0 + 1)) (p70_0) (v54) h60 (gh60) (by omega) (by omega) (by omega) (by omega) (by omega) (by omega) (by omega) (((my_up_role fh60 is_151 is_155 rfl).trans ((my_up_role fh58 is_151 is_153 rfl).trans c151_2_70_0)).trans (by omega)) (((my_up_role fh60 is_151 is_155 rfl).trans ((my_up_role fh58 is_151 is_153 rfl).trans ev54.symm)).trans (by omega)) Tkn_h60t61 (by first | assumption | omega | (subst_vars; omega)) (by first | assumption | omega | (subst_vars; omega)) (by omega)
            ·
              refine w_iconst gz_169_143 (by decide) ?_
              refine w_goto (t := 148) gz_169_144 rfl ?_
              have tkA := n_Tkn_70_0
              refine w_iast gz_169_148 is_153 rd_52 (by omega) (by omega) (by omega) (by omega) (fun h63 fh63 => ?_)
              have gh63 : my_fr [(10, 2), (10, 3), (10, 7), (10, 8), (52, -1), (53, -1), (54, -1)] h h63 := my_fr.up gh_70_0 is_153 fh63 rfl
              refine w_goto (t := 265) gz_169_149 rfl ?_
              refine w_aload_n gz_169_265 rfl ?_
              refine w_getX (v := 155) gz_169_266 is_151 rd_10 rfl (by decide) rfl ?_
              refine w_iload_n gz_169_269 rfl ?_
              refine w_lload gz_169_270 rfl ?_
              refine w_last gz_169_272 is_155 rd_54 (by omega) (by omega) (fun h65 fh65 => ?_)
              have gh65 : my_fr [(10, 2), (10, 3), (10, 7), (10, 8), (52, -1), (53, -1), (54, -1)] h h65 := my_fr.up gh63 is_155 fh65 rfl
              have tN : h65 153 p17_0 ≠ 0 ∧ (h65 153 p17_0 = 2 → 0 ≤ h65 155 p17_0 ∧ h65 155 p17_0 ≤ 999) := by rw [my_up_ne (x := 153) (i := p17_0) fh65 (by omega), my_up_self fh63, my_up_self fh65]; omega
              have Tkn_h65t66 : Tkn h65 (p17_0 + 1) := by
                intro i a b
                rcases (by omega : i = p17_0 ∨ i < p17_0) with q | q
                · subst q; exact tN
                · rw [my_up_ne (x := 153) (i := i) fh65 (by omega), my_up_ne (x := 153) (i := i) fh63 (by omega), my_up_ne (x := 155) (i := i) fh65 (by omega), my_up_ne (x := 155) (i := i) fh63 (by omega)]
                  exact tkA i a q
              refine w_iinc (ls' := [(2, 151), (0, (p17_0 + 1)), (0, p70_0), (0, p70_1), (0, p17_1), (1, z70_l5), (9, 0)]) gz_169_273 rfl gm_169 rfl rfl rfl ⟨by omega, by omega⟩ ?_
              refine w_goto (t := 17) gz_169_276 rfl ?_
              have ce67 : h65 151 3 = v54 := ((my_up_role fh65 is_151 is_155 rfl).trans ((my_up_role fh63 is_151 is_153 rfl).trans ev54.symm))
              refine w_weak (ls' := [(2, 151), (0, (p17_0 + 1)), (0, p70_0), (9, 0), (9, 0), (9, 0), (9, 0)]) (wk_e (wk_e (wk_e (wk_9 (wk_9 (wk_9 (wk_9 wk_n))))))) ?_
              exact ih_17_0 ((p17_0 + 1)) (p70_0) (v54) h65 (gh65) (by omega) (by omega) (by omega) (by omega) (by omega) (by omega) (by omega) (((my_up_role fh65 is_151 is_155 rfl).trans ((my_up_role fh63 is_151 is_153 rfl).trans c151_2_70_0)).trans (by omega)) (((my_up_role fh65 is_151 is_155 rfl).trans ((my_up_role fh63 is_151 is_153 rfl).trans ev54.symm)).trans (by omega)) Tkn_h65t66 (by first | assumption | omega | (subst_vars; omega)) (by first | assumption | omega | (subst_vars; omega)) (by omega)
          ·
            refine w_aload_n gz_169_78 rfl ?_
            refine w_getX (v := 152) gz_169_79 is_151 rd_10 rfl (by decide) rfl ?_
            refine w_iload_n gz_169_82 rfl ?_
            refine w_iald gz_169_83 is_152 rd_51 (by omega) (by omega) (fun v69 ev69 pv69 qv69 => ?_)
            refine w_inS (k := 0) (as := [(0, v69)]) (r := []) (ls0 := [(0, v69)]) gz_169_84 gm_170 rfl rfl rfl rfl rfl rfl ?_
            refine w_iload_n gz_170_0 rfl ?_
            refine w_bipush gz_170_1 (by decide) ?_
            refine w_iclt (t := 16) gz_170_3 rfl (fun u70 => ?_) (fun u70 => ?_)
            ·
              refine w_iconst gz_170_16 (by decide) ?_
              refine w_bret gz_170_17 gm_170 (by omega) (by omega) ?_
              show wp l rho (d + 2) 169 87 [(2, 151), (0, p17_0), (0, p70_0), (0, p70_1), (0, p17_1), (1, z70_l5), (9, 0)] [(0, 0)] h70_0 Q
              refine w_ifeq (t := 129) gz_169_87 rfl (fun u71 => ?_) (fun u71 => by exfalso; omega)
              have ne : p70_0 ≠ p17_1 := by intro q; have z := f0_70_0 q; rw [← q] at z; omega
              refine w_aload_n gz_169_129 rfl ?_
              refine w_getX (v := 153) gz_169_130 is_151 rd_10 rfl (by decide) rfl ?_
              refine w_iload_n gz_169_133 rfl ?_
              refine w_iload_n gz_169_134 rfl ?_
              refine w_iload gz_169_135 rfl ?_
              refine w_isub gz_169_137 ⟨by omega, by omega⟩ ?_
              refine w_bipush gz_169_138 (by decide) ?_
              refine w_icle (t := 147) gz_169_140 rfl (fun u73 => ?_) (fun u73 => ?_)
              ·
                refine w_iconst gz_169_147 (by decide) ?_
                have tkA := n_Tkn_70_0
                refine w_iast gz_169_148 is_153 rd_52 (by omega) (by omega) (by omega) (by omega) (fun h74 fh74 => ?_)
                have gh74 : my_fr [(10, 2), (10, 3), (10, 7), (10, 8), (52, -1), (53, -1), (54, -1)] h h74 := my_fr.up gh_70_0 is_153 fh74 rfl
                refine w_goto (t := 265) gz_169_149 rfl ?_
                refine w_aload_n gz_169_265 rfl ?_
                refine w_getX (v := 155) gz_169_266 is_151 rd_10 rfl (by decide) rfl ?_
                refine w_iload_n gz_169_269 rfl ?_
                refine w_lload gz_169_270 rfl ?_
                refine w_last gz_169_272 is_155 rd_54 (by omega) (by omega) (fun h76 fh76 => ?_)
                have gh76 : my_fr [(10, 2), (10, 3), (10, 7), (10, 8), (52, -1), (53, -1), (54, -1)] h h76 := my_fr.up gh74 is_155 fh76 rfl
                have tN : h76 153 p17_0 ≠ 0 ∧ (h76 153 p17_0 = 2 → 0 ≤ h76 155 p17_0 ∧ h76 155 p17_0 ≤ 999) := by rw [my_up_ne (x := 153) (i := p17_0) fh76 (by omega), my_up_self fh74, my_up_self fh76]; omega
                have Tkn_h76t77 : Tkn h76 (p17_0 + 1) := by
                  intro i a b
                  rcases (by omega : i = p17_0 ∨ i < p17_0) with q | q
                  · subst q; exact tN
                  · rw [my_up_ne (x := 153) (i := i) fh76 (by omega), my_up_ne (x := 153) (i := i) fh74 (by omega), my_up_ne (x := 155) (i := i) fh76 (by omega), my_up_ne (x := 155) (i := i) fh74 (by omega)]
                    exact tkA i a q
                refine w_iinc (ls' := [(2, 151), (0, (p17_0 + 1)), (0, p70_0), (0, p70_1), (0, p17_1), (1, z70_l5), (9, 0)]) gz_169_273 rfl gm_169 rfl rfl rfl ⟨by omega, by omega⟩ ?_
                refine w_goto (t := 17) gz_169_276 rfl ?_
                have ce78 : h76 151 3 = v54 := ((my_up_role fh76 is_151 is_155 rfl).trans ((my_up_role fh74 is_151 is_153 rfl).trans ev54.symm))
                refine w_weak (ls' := [(2, 151), (0, (p17_0 + 1)), (0, p70_0), (9, 0), (9, 0), (9, 0), (9, 0)]) (wk_e (wk_e (wk_e (wk_9 (wk_9 (wk_9 (wk_9 wk_n))))))) ?_
                exact ih_17_0 ((p17_0 + 1)) (p70_0) (v54) h76 (gh76) (by omega) (by omega) (by omega) (by omega) (by omega) (by omega) (by omega) (((my_up_role fh76 is_151 is_155 rfl).trans ((my_up_role fh74 is_151 is_153 rfl).trans c151_2_70_0)).trans (by omega)) (((my_up_role fh76 is_151 is_155 rfl).trans ((my_up_role fh74 is_151 is_153 rfl).trans ev54.symm)).trans (by omega)) Tkn_h76t77 (by first | assumption | omega | (subst_vars; omega)) (by first | assumption | omega | (subst_vars; omega)) (by omega)
              ·
                refine w_iconst gz_169_143 (by decide) ?_
                refine w_goto (t := 148) gz_169_144 rfl ?_
                have tkA := n_Tkn_70_0
                refine w_iast gz_169_148 is_153 rd_52 (by omega) (by omega) (by omega) (by omega) (fun h79 fh79 => ?_)
                have gh79 : my_fr [(10, 2), (10, 3), (10, 7), (10, 8), (52, -1), (53, -1), (54, -1)] h h79 := my_fr.up gh_70_0 is_153 fh79 rfl
                refine w_goto (t := 265) gz_169_149 rfl ?_
                refine w_aload_n gz_169_265 rfl ?_
                refine w_getX (v := 155) gz_169_266 is_151 rd_10 rfl (by decide) rfl ?_
                refine w_iload_n gz_169_269 rfl ?_
                refine w_lload gz_169_270 rfl ?_
                refine w_last gz_169_272 is_155 rd_54 (by omega) (by omega) (fun h81 fh81 => ?_)
                have gh81 : my_fr [(10, 2), (10, 3), (10, 7), (10, 8), (52, -1), (53, -1), (54, -1)] h h81 := my_fr.up gh79 is_155 fh81 rfl
                have tN : h81 153 p17_0 ≠ 0 ∧ (h81 153 p17_0 = 2 → 0 ≤ h81 155 p17_0 ∧ h81 155 p17_0 ≤ 999) := by rw [my_up_ne (x := 153) (i := p17_0) fh81 (by omega), my_up_self fh79, my_up_self fh81]; omega
                have Tkn_h81t82 : Tkn h81 (p17_0 + 1) := by
                  intro i a b
                  rcases (by omega : i = p17_0 ∨ i < p17_0) with q | q
                  · subst q; exact tN
                  · rw [my_up_ne (x := 153) (i := i) fh81 (by omega), my_up_ne (x := 153) (i := i) fh79 (by omega), my_up_ne (x := 155) (i := i) fh81 (by omega), my_up_ne (x := 155) (i := i) fh79 (by omega)]
                    exact tkA i a q
                refine w_iinc (ls' := [(2, 151), (0, (p17_0 + 1)), (0, p70_0), (0, p70_1), (0, p17_1), (1, z70_l5), (9, 0)]) gz_169_273 rfl gm_169 rfl rfl rfl ⟨by omega, by omega⟩ ?_
                refine w_goto (t := 17) gz_169_276 rfl ?_
                have ce83 : h81 151 3 = v54 := ((my_up_role fh81 is_151 is_155 rfl).trans ((my_up_role fh79 is_151 is_153 rfl).trans ev54.symm))
                refine w_weak (ls' := [(2, 151), (0, (p17_0 + 1)), (0, p70_0), (9, 0), (9, 0), (9, 0), (9, 0)]) (wk_e (wk_e (wk_e (wk_9 (wk_9 (wk_9 (wk_9 wk_n))))))) ?_
                exact ih_17_0 ((p17_0 + 1)) (p70_0) (v54) h81 (gh81) (by omega) (by omega) (by omega) (by omega) (by omega) (by omega) (by omega) (((my_up_role fh81 is_151 is_155 rfl).trans ((my_up_role fh79 is_151 is_153 rfl).trans c151_2_70_0)).trans (by omega)) (((my_up_role fh81 is_151 is_155 rfl).trans ((my_up_role fh79 is_151 is_153 rfl).trans ev54.symm)).trans (by omega)) Tkn_h81t82 (by first | assumption | omega | (subst_vars; omega)) (by first | assumption | omega | (subst_vars; omega)) (by omega)
            ·
              refine w_iload_n gz_170_6 rfl ?_
              refine w_bipush gz_170_7 (by decide) ?_
              refine w_icgt (t := 16) gz_170_9 rfl (fun u84 => ?_) (fun u84 => ?_)
              ·
                refine w_iconst gz_170_16 (by decide) ?_
                refine w_bret gz_170_17 gm_170 (by omega) (by omega) ?_
                show wp l rho (d + 2) 169 87 [(2, 151), (0, p17_0), (0, p70_0), (0, p70_1), (0, p17_1), (1, z70_l5), (9, 0)] [(0, 0)] h70_0 Q
                refine w_ifeq (t := 129) gz_169_87 rfl (fun u85 => ?_) (fun u85 => by exfalso; omega)
                have ne : p70_0 ≠ p17_1 := by intro q; have z := f0_70_0 q; rw [← q] at z; omega
                refine w_aload_n gz_169_129 rfl ?_
                refine w_getX (v := 153) gz_169_130 is_151 rd_10 rfl (by decide) rfl ?_
                refine w_iload_n gz_169_133 rfl ?_
                refine w_iload_n gz_169_134 rfl ?_
                refine w_iload gz_169_135 rfl ?_
                refine w_isub gz_169_137 ⟨by omega, by omega⟩ ?_
                refine w_bipush gz_169_138 (by decide) ?_
                refine w_icle (t := 147) gz_169_140 rfl (fun u87 => ?_) (fun u87 => ?_)
                ·
                  refine w_iconst gz_169_147 (by decide) ?_
                  have tkA := n_Tkn_70_0
                  refine w_iast gz_169_148 is_153 rd_52 (by omega) (by omega) (by omega) (by omega) (fun h88 fh88 => ?_)
                  have gh88 : my_fr [(10, 2), (10, 3), (10, 7), (10, 8), (52, -1), (53, -1), (54, -1)] h h88 := my_fr.up gh_70_0 is_153 fh88 rfl
                  refine w_goto (t := 265) gz_169_149 rfl ?_
                  refine w_aload_n gz_169_265 rfl ?_
                  refine w_getX (v := 155) gz_169_266 is_151 rd_10 rfl (by decide) rfl ?_
                  refine w_iload_n gz_169_269 rfl ?_
                  refine w_lload gz_169_270 rfl ?_
                  refine w_last gz_169_272 is_155 rd_54 (by omega) (by omega) (fun h90 fh90 => ?_)
                  have gh90 : my_fr [(10, 2), (10, 3), (10, 7), (10, 8), (52, -1), (53, -1), (54, -1)] h h90 := my_fr.up gh88 is_155 fh90 rfl
                  have tN : h90 153 p17_0 ≠ 0 ∧ (h90 153 p17_0 = 2 → 0 ≤ h90 155 p17_0 ∧ h90 155 p17_0 ≤ 999) := by rw [my_up_ne (x := 153) (i := p17_0) fh90 (by omega), my_up_self fh88, my_up_self fh90]; omega
                  have Tkn_h90t91 : Tkn h90 (p17_0 + 1) := by
                    intro i a b
                    rcases (by omega : i = p17_0 ∨ i < p17_0) with q | q
                    · subst q; exact tN
                    · rw [my_up_ne (x := 153) (i := i) fh90 (by omega), my_up_ne (x := 153) (i := i) fh88 (by omega), my_up_ne (x := 155) (i := i) fh90 (by omega), my_up_ne (x := 155) (i := i) fh88 (by omega)]
                      exact tkA i a q
                  refine w_iinc (ls' := [(2, 151), (0, (p17_0 + 1)), (0, p70_0), (0, p70_1), (0, p17_1), (1, z70_l5), (9, 0)]) gz_169_273 rfl gm_169 rfl rfl rfl ⟨by omega, by omega⟩ ?_
                  refine w_goto (t := 17) gz_169_276 rfl ?_
                  have ce92 : h90 151 3 = v54 := ((my_up_role fh90 is_151 is_155 rfl).trans ((my_up_role fh88 is_151 is_153 rfl).trans ev54.symm))
                  refine w_weak (ls' := [(2, 151), (0, (p17_0 + 1)), (0, p70_0), (9, 0), (9, 0), (9, 0), (9, 0)]) (wk_e (wk_e (wk_e (wk_9 (wk_9 (wk_9 (wk_9 wk_n))))))) ?_
                  exact ih_17_0 ((p17_0 + 1)) (p70_0) (v54) h90 (gh90) (by omega) (by omega) (by omega) (by omega) (by omega) (by omega) (by omega) (((my_up_role fh90 is_151 is_155 rfl).trans ((my_up_role fh88 is_151 is_153 rfl).trans c151_2_70_0)).trans (by omega)) (((my_up_role fh90 is_151 is_155 rfl).trans ((my_up_role fh88 is_151 is_153 rfl).trans ev54.symm)).trans (by omega)) Tkn_h90t91 (by first | assumption | omega | (subst_vars; omega)) (by first | assumption | omega | (subst_vars; omega)) (by omega)
                ·
                  refine w_iconst gz_169_143 (by decide) ?_
                  refine w_goto (t := 148) gz_169_144 rfl ?_
                  have tkA := n_Tkn_70_0
                  refine w_iast gz_169_148 is_153 rd_52 (by omega) (by omega) (by omega) (by omega) (fun h93 fh93 => ?_)
                  have gh93 : my_fr [(10, 2), (10, 3), (10, 7), (10, 8), (52, -1), (53, -1), (54, -1)] h h93 := my_fr.up gh_70_0 is_153 fh93 rfl
                  refine w_goto (t := 265) gz_169_149 rfl ?_
                  refine w_aload_n gz_169_265 rfl ?_
                  refine w_getX (v := 155) gz_169_266 is_151 rd_10 rfl (by decide) rfl ?_
                  refine w_iload_n gz_169_269 rfl ?_
                  refine w_lload gz_169_270 rfl ?_
                  refine w_last gz_169_272 is_155 rd_54 (by omega) (by omega) (fun h95 fh95 => ?_)
                  have gh95 : my_fr [(10, 2), (10, 3), (10, 7), (10, 8), (52, -1), (53, -1), (54, -1)] h h95 := my_fr.up gh93 is_155 fh95 rfl
                  have tN : h95 153 p17_0 ≠ 0 ∧ (h95 153 p17_0 = 2 → 0 ≤ h95 155 p17_0 ∧ h95 155 p17_0 ≤ 999) := by rw [my_up_ne (x := 153) (i := p17_0) fh95 (by omega), my_up_self fh93, my_up_self fh95]; omega
                  have Tkn_h95t96 : Tkn h95 (p17_0 + 1) := by
                    intro i a b
                    rcases (by omega : i = p17_0 ∨ i < p17_0) with q | q
                    · subst q; exact tN
                    · rw [my_up_ne (x := 153) (i := i) fh95 (by omega), my_up_ne (x := 153) (i := i) fh93 (by omega), my_up_ne (x := 155) (i := i) fh95 (by omega), my_up_ne (x := 155) (i := i) fh93 (by omega)]
                      exact tkA i a q
                  refine w_iinc (ls' := [(2, 151), (0, (p17_0 + 1)), (0, p70_0), (0, p70_1), (0, p17_1), (1, z70_l5), (9, 0)]) gz_169_273 rfl gm_169 rfl rfl rfl ⟨by omega, by omega⟩ ?_
                  refine w_goto (t := 17) gz_169_276 rfl ?_
                  have ce97 : h95 151 3 = v54 := ((my_up_role fh95 is_151 is_155 rfl).trans ((my_up_role fh93 is_151 is_153 rfl).trans ev54.symm))
                  refine w_weak (ls' := [(2, 151), (0, (p17_0 + 1)), (0, p70_0), (9, 0), (9, 0), (9, 0), (9, 0)]) (wk_e (wk_e (wk_e (wk_9 (wk_9 (wk_9 (wk_9 wk_n))))))) ?_
                  exact ih_17_0 ((p17_0 + 1)) (p70_0) (v54) h95 (gh95) (by omega) (by omega) (by omega) (by omega) (by omega) (by omega) (by omega) (((my_up_role fh95 is_151 is_155 rfl).trans ((my_up_role fh93 is_151 is_153 rfl).trans c151_2_70_0)).trans (by omega)) (((my_up_role fh95 is_151 is_155 rfl).trans ((my_up_role fh93 is_151 is_153 rfl).trans ev54.symm)).trans (by omega)) Tkn_h95t96 (by first | assumption | omega | (subst_vars; omega)) (by first | assumption | omega | (subst_vars; omega)) (by omega)
              ·
                refine w_iconst gz_170_12 (by decide) ?_
                refine w_goto (t := 17) gz_170_13 rfl ?_
                refine w_bret gz_170_17 gm_170 (by omega) (by omega) ?_
                show wp l rho (d + 2) 169 87 [(2, 151), (0, p17_0), (0, p70_0), (0, p70_1), (0, p17_1), (1, z70_l5), (9, 0)] [(0, 1)] h70_0 Q
                refine w_ifeq (t := 129) gz_169_87 rfl (fun u98 => by exfalso; omega) (fun u98 => ?_)
                refine w_iload_n gz_169_90 rfl ?_
                refine w_iload gz_169_91 rfl ?_
                refine w_isub gz_169_93 ⟨by omega, by omega⟩ ?_
                refine w_bipush gz_169_94 (by decide) ?_
                refine w_icge (t := 119) gz_169_96 rfl (fun u99 => ?_) (fun u99 => ?_)
                ·
                  refine w_lload gz_169_119 rfl ?_
                  refine w_lstore (ls' := [(2, 151), (0, p17_0), (0, p70_0), (0, p70_1), (0, p17_1), (1, z70_l5), (9, 0)]) gz_169_121 gm_169 rfl rfl rfl ?_
                  refine w_iinc (ls' := [(2, 151), (0, p17_0), (0, (p70_0 + 1)), (0, p70_1), (0, p17_1), (1, z70_l5), (9, 0)]) gz_169_123 rfl gm_169 rfl rfl rfl ⟨by omega, by omega⟩ ?_
                  refine w_goto (t := 70) gz_169_126 rfl ?_
                  have ce100 : h70_0 151 3 = v54 := ev54.symm
                  have tp : ∀ j : Int, h70_0 152 j = h70_0 152 j := fun _ => rfl
                  exact ih_70_0 ((p70_0 + 1)) (p70_1) (z70_l5) h70_0 (gh_70_0) (by omega) (by omega) (by omega) (by omega) (by omega) (by omega) (by omega) (by omega) (by omega) (by omega) (c151_2_70_0.trans (by omega)) (ev54.symm.trans (by omega)) n_Tkn_70_0 (by first | assumption | omega | (subst_vars; omega)) (by first | assumption | omega | (subst_vars; omega)) (by first | (intro q; rw [tp]; omega) | omega | (intro q; omega)) (by first | assumption | omega | (subst_vars; omega)) (by first | assumption | omega | (subst_vars; omega)) (by omega)
                ·
                  refine w_ldc2 gz_169_99 rfl ?_
                  refine w_lload gz_169_102 rfl ?_
                  refine w_lmulE gz_169_104 (fun v101 pv101 xv101 => ?_)
                  refine w_aload_n gz_169_105 rfl ?_
                  refine w_getX (v := 152) gz_169_106 is_151 rd_10 rfl (by decide) rfl ?_
                  refine w_iload_n gz_169_109 rfl ?_
                  refine w_iald gz_169_110 is_152 rd_51 (by omega) (by omega) (fun v103 ev103 pv103 qv103 => ?_)
                  have zv103 := ev103.trans ev69.symm
                  refine w_inS (k := 0) (as := [(0, v103)]) (r := [(1, v101)]) (ls0 := [(0, v103)]) gz_169_111 gm_171 rfl rfl rfl rfl rfl rfl ?_
                  refine w_iload_n gz_171_0 rfl ?_
                  refine w_inS (k := 0) (as := [(0, v103)]) (r := []) (ls0 := [(0, v103)]) gz_171_1 gm_170 rfl rfl rfl rfl rfl rfl ?_
                  refine w_iload_n gz_170_0 rfl ?_
                  refine w_bipush gz_170_1 (by decide) ?_
                  refine w_iclt (t := 16) gz_170_3 rfl (fun u104 => by exfalso; omega) (fun u104 => ?_)
                  refine w_iload_n gz_170_6 rfl ?_
                  refine w_bipush gz_170_7 (by decide) ?_
                  refine w_icgt (t := 16) gz_170_9 rfl (fun u105 => by exfalso; omega) (fun u105 => ?_)
                  refine w_iconst gz_170_12 (by decide) ?_
                  refine w_goto (t := 17) gz_170_13 rfl ?_
                  refine w_bret gz_170_17 gm_170 (by omega) (by omega) ?_
                  show wp l rho (d + 1) 171 4 [(0, v103)] [(0, 1)] h70_0 _
                  refine w_ifeq (t := 14) gz_171_4 rfl (fun u106 => by exfalso; omega) (fun u106 => ?_)
                  refine w_iload_n gz_171_7 rfl ?_
                  refine w_bipush gz_171_8 (by decide) ?_
                  refine w_isub gz_171_10 ⟨by omega, by omega⟩ ?_
                  refine w_goto (t := 18) gz_171_11 rfl ?_
                  refine w_iret gz_171_18 gm_171 ?_
                  show wp l rho (d + 2) 169 114 [(2, 151), (0, p17_0), (0, p70_0), (0, p70_1), (0, p17_1), (1, z70_l5), (9, 0)] [(0, (v103 - 96)), (1, v101)] h70_0 Q
                  refine w_i2l gz_169_114 ?_
                  refine w_laddE gz_169_115 (fun v107 pv107 xv107 => ?_)
                  refine w_goto (t := 121) gz_169_116 rfl ?_
                  refine w_lstore (ls' := [(2, 151), (0, p17_0), (0, p70_0), (0, p70_1), (0, p17_1), (1, v107), (9, 0)]) gz_169_121 gm_169 rfl rfl rfl ?_
                  refine w_iinc (ls' := [(2, 151), (0, p17_0), (0, (p70_0 + 1)), (0, p70_1), (0, p17_1), (1, v107), (9, 0)]) gz_169_123 rfl gm_169 rfl rfl rfl ⟨by omega, by omega⟩ ?_
                  refine w_goto (t := 70) gz_169_126 rfl ?_
                  have ce108 : h70_0 151 3 = v54 := ev54.symm
                  have tp : ∀ j : Int, h70_0 152 j = h70_0 152 j := fun _ => rfl
                  exact ih_70_0 ((p70_0 + 1)) (p70_1) (v107) h70_0 (gh_70_0) (by omega) (by omega) (by omega) (by omega) (by omega) (by omega) (by omega) (by omega) (by omega) (by omega) (c151_2_70_0.trans (by omega)) (ev54.symm.trans (by omega)) n_Tkn_70_0 (by first | assumption | omega | (subst_vars; omega)) (by first | assumption | omega | (subst_vars; omega)) (by first | (intro q; rw [tp]; omega) | omega | (intro q; omega)) (by first | assumption | omega | (subst_vars; omega)) (by first | assumption | omega | (subst_vars; omega)) (by omega)
      refine w_iload_n gz_169_17 rfl ?_
      refine w_aload_n gz_169_18 rfl ?_
      refine v_getI (j := 3) gz_169_19 rfl is_151 rd_10 rfl (fun v109 ev109 pv109 qv109 => ?_)
      have zv109 := ev109.trans c151_3_17_0
      refine w_icge (t := 279) gz_169_22 rfl (fun u110 => ?_) (fun u110 => ?_)
      ·
        refine w_aload_n gz_169_279 rfl ?_
        refine w_getX (v := 153) gz_169_280 is_151 rd_10 rfl (by decide) rfl ?_
        refine w_iload_n gz_169_283 rfl ?_
        refine w_iconst gz_169_284 (by decide) ?_
        have tkE := n_Tkn_17_0
        refine w_iast gz_169_285 is_153 rd_52 (by omega) (by omega) (by omega) (by omega) (fun h112 fh112 => ?_)
        have gh112 : my_fr [(10, 2), (10, 3), (10, 7), (10, 8), (52, -1), (53, -1), (54, -1)] h h112 := my_fr.up gh_17_0 is_153 fh112 rfl
        refine w_aload_n gz_169_286 rfl ?_
        refine w_getX (v := 154) gz_169_287 is_151 rd_10 rfl (by decide) rfl ?_
        refine w_iload_n gz_169_290 rfl ?_
        refine w_aload_n gz_169_291 rfl ?_
        refine v_getI (j := 3) gz_169_292 rfl is_151 rd_10 rfl (fun v114 ev114 pv114 qv114 => ?_)
        have zv114 := ev114.trans ((my_up_role fh112 is_151 is_153 rfl).trans ev109.symm)
        refine w_iast gz_169_295 is_154 rd_53 (by omega) (by omega) (by omega) (by omega) (fun h115 fh115 => ?_)
        have gh115 : my_fr [(10, 2), (10, 3), (10, 7), (10, 8), (52, -1), (53, -1), (54, -1)] h h115 := my_fr.up gh112 is_154 fh115 rfl
        refine w_aload_n gz_169_296 rfl ?_
        refine w_iconst gz_169_297 (by decide) ?_
        refine v_putI (j := 7) gz_169_298 rfl is_151 rd_10 rfl (by omega) (by omega) rfl (fun h116 fh116 => ?_)
        have gh116 : my_fr [(10, 2), (10, 3), (10, 7), (10, 8), (52, -1), (53, -1), (54, -1)] h h116 := my_fr.up gh115 is_151 fh116 rfl
        have Tok_h116t117 : Tok h116 := ⟨p17_0, by omega, by omega, by rw [my_up_self fh116]; omega, by rw [my_up_self fh116]; omega, by rw [my_up_ne (x := 153) (i := p17_0) fh116 (by omega), my_up_ne (x := 153) (i := p17_0) fh115 (by omega), my_up_self fh112], fun i a b => by rw [my_up_ne (x := 153) (i := i) fh116 (by omega), my_up_ne (x := 153) (i := i) fh115 (by omega), my_up_ne (x := 153) (i := i) fh112 (by omega), my_up_ne (x := 155) (i := i) fh116 (by omega), my_up_ne (x := 155) (i := i) fh115 (by omega), my_up_ne (x := 155) (i := i) fh112 (by omega)]; exact tkE i a b⟩
        refine w_aload_n gz_169_301 rfl ?_
        refine w_iconst gz_169_302 (by decide) ?_
        refine v_putI (j := 8) gz_169_303 rfl is_151 rd_10 rfl (by omega) (by omega) rfl (fun h118 fh118 => ?_)
        have gh118 : my_fr [(10, 2), (10, 3), (10, 7), (10, 8), (52, -1), (53, -1), (54, -1)] h h118 := my_fr.up gh116 is_151 fh118 rfl
        have Tok_h118 : Tok h118 := Tok_ag (my_ag.up fh118 is_151 rfl) Tok_h116t117
        have c119 := ((my_up_fld fh118 (by decide)).trans ((my_up_fld fh116 (by decide)).trans ((my_up_role fh115 is_151 is_154 rfl).trans ((my_up_role fh112 is_151 is_153 rfl).trans c151_2_17_0))))
        have c120 := ((my_up_fld fh118 (by decide)).trans (my_up_self fh116))
        have c121 := (my_up_self fh118)
        exact w_vret gz_169_306 gm_169 (k0 h118 (gh118) (by omega) (by omega) (by omega) Tok_h118)
      ·
        refine w_aload_n gz_169_25 rfl ?_
        refine w_getX (v := 152) gz_169_26 is_151 rd_10 rfl (by decide) rfl ?_
        refine w_iload_n gz_169_29 rfl ?_
        refine w_iald gz_169_30 is_152 rd_51 (by omega) (by omega) (fun v123 ev123 pv123 qv123 => ?_)
        refine w_istore_n (ls' := [(2, 151), (0, p17_0), (0, p17_1), (0, v123), (9, 0), (9, 0), (9, 0)]) gz_169_31 gm_169 rfl rfl rfl ?_
        refine w_iload_n gz_169_32 rfl ?_
        refine w_bipush gz_169_33 (by decide) ?_
        refine w_iceq (t := 44) gz_169_35 rfl (fun u124 => ?_) (fun u124 => ?_)
        ·
          refine w_iinc (ls' := [(2, 151), (0, p17_0), (0, (p17_1 + 1)), (0, v123), (9, 0), (9, 0), (9, 0)]) gz_169_44 rfl gm_169 rfl rfl rfl ⟨by omega, by omega⟩ ?_
          refine w_goto (t := 17) gz_169_47 rfl ?_
          have ce125 : h17_0 151 3 = v109 := ev109.symm
          refine w_weak (ls' := [(2, 151), (0, p17_0), (0, (p17_1 + 1)), (9, 0), (9, 0), (9, 0), (9, 0)]) (wk_e (wk_e (wk_e (wk_9 (wk_9 (wk_9 (wk_9 wk_n))))))) ?_
          exact ih_17_0 (p17_0) ((p17_1 + 1)) (v109) h17_0 (gh_17_0) (by omega) (by omega) (by omega) (by omega) (by omega) (by omega) (by omega) (c151_2_17_0.trans (by omega)) (ev109.symm.trans (by omega)) n_Tkn_17_0 (by first | assumption | omega | (subst_vars; omega)) (by first | assumption | omega | (subst_vars; omega)) (by omega)
        ·
          refine w_iload_n gz_169_38 rfl ?_
          refine w_bipush gz_169_39 (by decide) ?_
          refine w_icne (t := 50) gz_169_41 rfl (fun u126 => ?_) (fun u126 => ?_)
          ·
            refine w_iload_n gz_169_50 rfl ?_
            refine w_istore (ls' := [(2, 151), (0, p17_0), (0, p17_1), (0, v123), (0, p17_1), (9, 0), (9, 0)]) gz_169_51 gm_169 rfl rfl rfl ?_
            refine w_lconst gz_169_53 ?_
            refine w_lstore (ls' := [(2, 151), (0, p17_0), (0, p17_1), (0, v123), (0, p17_1), (1, (((0 : Fin 2).val : Nat) : Int)), (9, 0)]) gz_169_54 gm_169 rfl rfl rfl ?_
            refine w_aload_n gz_169_56 rfl ?_
            refine w_getX (v := 154) gz_169_57 is_151 rd_10 rfl (by decide) rfl ?_
            refine w_iload_n gz_169_60 rfl ?_
            refine w_iload_n gz_169_61 rfl ?_
            have hi128 : 0 ≤ p17_0 := by omega
            have hi129 : p17_0 ≤ 999 := by omega
            refine w_iast gz_169_62 is_154 rd_53 (by omega) (by omega) (by omega) (by omega) (fun h130 fh130 => ?_)
            have gh130 : my_fr [(10, 2), (10, 3), (10, 7), (10, 8), (52, -1), (53, -1), (54, -1)] h h130 := my_fr.up gh_17_0 is_154 fh130 rfl
            have Tkn_h130 : Tkn h130 p17_0 := Tkn_ag (my_ag.up fh130 is_154 rfl) n_Tkn_17_0
            refine w_iload_n gz_169_63 rfl ?_
            refine w_inS (k := 0) (as := [(0, v123)]) (r := []) (ls0 := [(0, v123)]) gz_169_64 gm_170 rfl rfl rfl rfl rfl rfl ?_
            refine w_iload_n gz_170_0 rfl ?_
            refine w_bipush gz_170_1 (by decide) ?_
            refine w_iclt (t := 16) gz_170_3 rfl (fun u131 => ?_) (fun u131 => ?_)
            ·
              refine w_iconst gz_170_16 (by decide) ?_
              refine w_bret gz_170_17 gm_170 (by omega) (by omega) ?_
              show wp l rho (d + 2) 169 67 [(2, 151), (0, p17_0), (0, p17_1), (0, v123), (0, p17_1), (1, (((0 : Fin 2).val : Nat) : Int)), (9, 0)] [(0, 0)] h130 Q
              refine w_ifeq (t := 152) gz_169_67 rfl (fun u132 => ?_) (fun u132 => by exfalso; omega)
              refine w_iload_n gz_169_152 rfl ?_
              refine w_inS (k := 0) (as := [(0, v123)]) (r := []) (ls0 := [(0, v123)]) gz_169_153 gm_172 rfl rfl rfl rfl rfl rfl ?_
              refine w_iload_n gz_172_0 rfl ?_
              refine w_bipush gz_172_1 (by decide) ?_
              refine w_iclt (t := 16) gz_172_3 rfl (fun u133 => ?_) (fun u133 => ?_)
              ·
                refine w_iconst gz_172_16 (by decide) ?_
                refine w_bret gz_172_17 gm_172 (by omega) (by omega) ?_
                show wp l rho (d + 2) 169 156 [(2, 151), (0, p17_0), (0, p17_1), (0, v123), (0, p17_1), (1, (((0 : Fin 2).val : Nat) : Int)), (9, 0)] [(0, 0)] h130 Q
                refine w_ifeq (t := 240) gz_169_156 rfl (fun u134 => ?_) (fun u134 => by exfalso; omega)
                refine w_iload_n gz_169_240 rfl ?_
                refine w_i2l gz_169_241 ?_
                refine w_lstore (ls' := [(2, 151), (0, p17_0), (0, p17_1), (0, v123), (0, p17_1), (1, v123), (9, 0)]) gz_169_242 gm_169 rfl rfl rfl ?_
                refine w_aload_n gz_169_244 rfl ?_
                refine w_getX (v := 153) gz_169_245 is_151 rd_10 rfl (by decide) rfl ?_
                refine w_iload_n gz_169_248 rfl ?_
                refine w_iload_n gz_169_249 rfl ?_
                refine w_inS (k := 0) (as := [(0, v123)]) (r := [(0, p17_0), (2, 153)]) (ls0 := [(0, v123)]) gz_169_250 gm_173 rfl rfl rfl rfl rfl rfl ?_
                refine w_iload_n gz_173_0 rfl ?_
                refine w_bipush gz_173_1 (by decide) ?_
                refine w_icne (t := 10) gz_173_3 rfl (fun u136 => ?_) (fun u136 => by exfalso; omega)
                refine w_iconst gz_173_10 (by decide) ?_
                refine w_bret gz_173_11 gm_173 (by omega) (by omega) ?_
                show wp l rho (d + 2) 169 253 [(2, 151), (0, p17_0), (0, p17_1), (0, v123), (0, p17_1), (1, v123), (9, 0)] [(0, 0), (0, p17_0), (2, 153)] h130 Q
                refine w_ifeq (t := 260) gz_169_253 rfl (fun u137 => ?_) (fun u137 => by exfalso; omega)
                refine w_iconst gz_169_260 (by decide) ?_
                have tkA := Tkn_h130
                refine w_iast gz_169_261 is_153 rd_52 (by omega) (by omega) (by omega) (by omega) (fun h138 fh138 => ?_)
                have gh138 : my_fr [(10, 2), (10, 3), (10, 7), (10, 8), (52, -1), (53, -1), (54, -1)] h h138 := my_fr.up gh130 is_153 fh138 rfl
                refine w_iinc (ls' := [(2, 151), (0, p17_0), (0, (p17_1 + 1)), (0, v123), (0, p17_1), (1, v123), (9, 0)]) gz_169_262 rfl gm_169 rfl rfl rfl ⟨by omega, by omega⟩ ?_
                refine w_aload_n gz_169_265 rfl ?_
                refine w_getX (v := 155) gz_169_266 is_151 rd_10 rfl (by decide) rfl ?_
                refine w_iload_n gz_169_269 rfl ?_
                refine w_lload gz_169_270 rfl ?_
                refine w_last gz_169_272 is_155 rd_54 (by omega) (by omega) (fun h140 fh140 => ?_)
                have gh140 : my_fr [(10, 2), (10, 3), (10, 7), (10, 8), (52, -1), (53, -1), (54, -1)] h h140 := my_fr.up gh138 is_155 fh140 rfl
                have tN : h140 153 p17_0 ≠ 0 ∧ (h140 153 p17_0 = 2 → 0 ≤ h140 155 p17_0 ∧ h140 155 p17_0 ≤ 999) := by rw [my_up_ne (x := 153) (i := p17_0) fh140 (by omega), my_up_self fh138, my_up_self fh140]; omega
                have Tkn_h140t141 : Tkn h140 (p17_0 + 1) := by
                  intro i a b
                  rcases (by omega : i = p17_0 ∨ i < p17_0) with q | q
                  · subst q; exact tN
                  · rw [my_up_ne (x := 153) (i := i) fh140 (by omega), my_up_ne (x := 153) (i := i) fh138 (by omega), my_up_ne (x := 155) (i := i) fh140 (by omega), my_up_ne (x := 155) (i := i) fh138 (by omega)]
                    exact tkA i a q
                refine w_iinc (ls' := [(2, 151), (0, (p17_0 + 1)), (0, (p17_1 + 1)), (0, v123), (0, p17_1), (1, v123), (9, 0)]) gz_169_273 rfl gm_169 rfl rfl rfl ⟨by omega, by omega⟩ ?_
                refine w_goto (t := 17) gz_169_276 rfl ?_
                have ce142 : h140 151 3 = v109 := ((my_up_role fh140 is_151 is_155 rfl).trans ((my_up_role fh138 is_151 is_153 rfl).trans ((my_up_role fh130 is_151 is_154 rfl).trans ev109.symm)))
                refine w_weak (ls' := [(2, 151), (0, (p17_0 + 1)), (0, (p17_1 + 1)), (9, 0), (9, 0), (9, 0), (9, 0)]) (wk_e (wk_e (wk_e (wk_9 (wk_9 (wk_9 (wk_9 wk_n))))))) ?_
                exact ih_17_0 ((p17_0 + 1)) ((p17_1 + 1)) (v109) h140 (gh140) (by omega) (by omega) (by omega) (by omega) (by omega) (by omega) (by omega) (((my_up_role fh140 is_151 is_155 rfl).trans ((my_up_role fh138 is_151 is_153 rfl).trans ((my_up_role fh130 is_151 is_154 rfl).trans c151_2_17_0))).trans (by omega)) (((my_up_role fh140 is_151 is_155 rfl).trans ((my_up_role fh138 is_151 is_153 rfl).trans ((my_up_role fh130 is_151 is_154 rfl).trans ev109.symm))).trans (by omega)) Tkn_h140t141 (by first | assumption | omega | (subst_vars; omega)) (by first | assumption | omega | (subst_vars; omega)) (by omega)
              ·
                refine w_iload_n gz_172_6 rfl ?_
                refine w_bipush gz_172_7 (by decide) ?_
                refine w_icgt (t := 16) gz_172_9 rfl (fun u143 => ?_) (fun u143 => ?_)
                ·
                  refine w_iconst gz_172_16 (by decide) ?_
                  refine w_bret gz_172_17 gm_172 (by omega) (by omega) ?_
                  show wp l rho (d + 2) 169 156 [(2, 151), (0, p17_0), (0, p17_1), (0, v123), (0, p17_1), (1, (((0 : Fin 2).val : Nat) : Int)), (9, 0)] [(0, 0)] h130 Q
                  refine w_ifeq (t := 240) gz_169_156 rfl (fun u144 => ?_) (fun u144 => by exfalso; omega)
                  refine w_iload_n gz_169_240 rfl ?_
                  refine w_i2l gz_169_241 ?_
                  refine w_lstore (ls' := [(2, 151), (0, p17_0), (0, p17_1), (0, v123), (0, p17_1), (1, v123), (9, 0)]) gz_169_242 gm_169 rfl rfl rfl ?_
                  refine w_aload_n gz_169_244 rfl ?_
                  refine w_getX (v := 153) gz_169_245 is_151 rd_10 rfl (by decide) rfl ?_
                  refine w_iload_n gz_169_248 rfl ?_
                  refine w_iload_n gz_169_249 rfl ?_
                  refine w_inS (k := 0) (as := [(0, v123)]) (r := [(0, p17_0), (2, 153)]) (ls0 := [(0, v123)]) gz_169_250 gm_173 rfl rfl rfl rfl rfl rfl ?_
                  refine w_iload_n gz_173_0 rfl ?_
                  refine w_bipush gz_173_1 (by decide) ?_
                  refine w_icne (t := 10) gz_173_3 rfl (fun u146 => ?_) (fun u146 => ?_)
                  ·
                    refine w_iconst gz_173_10 (by decide) ?_
                    refine w_bret gz_173_11 gm_173 (by omega) (by omega) ?_
                    show wp l rho (d + 2) 169 253 [(2, 151), (0, p17_0), (0, p17_1), (0, v123), (0, p17_1), (1, v123), (9, 0)] [(0, 0), (0, p17_0), (2, 153)] h130 Q
                    refine w_ifeq (t := 260) gz_169_253 rfl (fun u147 => ?_) (fun u147 => by exfalso; omega)
                    refine w_iconst gz_169_260 (by decide) ?_
                    have tkA := Tkn_h130
                    refine w_iast gz_169_261 is_153 rd_52 (by omega) (by omega) (by omega) (by omega) (fun h148 fh148 => ?_)
                    have gh148 : my_fr [(10, 2), (10, 3), (10, 7), (10, 8), (52, -1), (53, -1), (54, -1)] h h148 := my_fr.up gh130 is_153 fh148 rfl
                    refine w_iinc (ls' := [(2, 151), (0, p17_0), (0, (p17_1 + 1)), (0, v123), (0, p17_1), (1, v123), (9, 0)]) gz_169_262 rfl gm_169 rfl rfl rfl ⟨by omega, by omega⟩ ?_
                    refine w_aload_n gz_169_265 rfl ?_
                    refine w_getX (v := 155) gz_169_266 is_151 rd_10 rfl (by decide) rfl ?_
                    refine w_iload_n gz_169_269 rfl ?_
                    refine w_lload gz_169_270 rfl ?_
                    refine w_last gz_169_272 is_155 rd_54 (by omega) (by omega) (fun h150 fh150 => ?_)
                    have gh150 : my_fr [(10, 2), (10, 3), (10, 7), (10, 8), (52, -1), (53, -1), (54, -1)] h h150 := my_fr.up gh148 is_155 fh150 rfl
                    have tN : h150 153 p17_0 ≠ 0 ∧ (h150 153 p17_0 = 2 → 0 ≤ h150 155 p17_0 ∧ h150 155 p17_0 ≤ 999) := by rw [my_up_ne (x := 153) (i := p17_0) fh150 (by omega), my_up_self fh148, my_up_self fh150]; omega
                    have Tkn_h150t151 : Tkn h150 (p17_0 + 1) := by
                      intro i a b
                      rcases (by omega : i = p17_0 ∨ i < p17_0) with q | q
                      · subst q; exact tN
                      · rw [my_up_ne (x := 153) (i := i) fh150 (by omega), my_up_ne (x := 153) (i := i) fh148 (by omega), my_up_ne (x := 155) (i := i) fh150 (by omega), my_up_ne (x := 155) (i := i) fh148 (by omega)]
                        exact tkA i a q
                    refine w_iinc (ls' := [(2, 151), (0, (p17_0 + 1)), (0, (p17_1 + 1)), (0, v123), (0, p17_1), (1, v123), (9, 0)]) gz_169_273 rfl gm_169 rfl rfl rfl ⟨by omega, by omega⟩ ?_
                    refine w_goto (t := 17) gz_169_276 rfl ?_
                    have ce152 : h150 151 3 = v109 := ((my_up_role fh150 is_151 is_155 rfl).trans ((my_up_role fh148 is_151 is_153 rfl).trans ((my_up_role fh130 is_151 is_154 rfl).trans ev109.symm)))
                    refine w_weak (ls' := [(2, 151), (0, (p17_0 + 1)), (0, (p17_1 + 1)), (9, 0), (9, 0), (9, 0), (9, 0)]) (wk_e (wk_e (wk_e (wk_9 (wk_9 (wk_9 (wk_9 wk_n))))))) ?_
                    exact ih_17_0 ((p17_0 + 1)) ((p17_1 + 1)) (v109) h150 (gh150) (by omega) (by omega) (by omega) (by omega) (by omega) (by omega) (by omega) (((my_up_role fh150 is_151 is_155 rfl).trans ((my_up_role fh148 is_151 is_153 rfl).trans ((my_up_role fh130 is_151 is_154 rfl).trans c151_2_17_0))).trans (by omega)) (((my_up_role fh150 is_151 is_155 rfl).trans ((my_up_role fh148 is_151 is_153 rfl).trans ((my_up_role fh130 is_151 is_154 rfl).trans ev109.symm))).trans (by omega)) Tkn_h150t151 (by first | assumption | omega | (subst_vars; omega)) (by first | assumption | omega | (subst_vars; omega)) (by omega)
                  ·
                    refine w_iconst gz_173_6 (by decide) ?_
                    refine w_goto (t := 11) gz_173_7 rfl ?_
                    refine w_bret gz_173_11 gm_173 (by omega) (by omega) ?_
                    show wp l rho (d + 2) 169 253 [(2, 151), (0, p17_0), (0, p17_1), (0, v123), (0, p17_1), (1, v123), (9, 0)] [(0, 1), (0, p17_0), (2, 153)] h130 Q
                    refine w_ifeq (t := 260) gz_169_253 rfl (fun u153 => by exfalso; omega) (fun u153 => ?_)
                    refine w_iconst gz_169_256 (by decide) ?_
                    refine w_goto (t := 261) gz_169_257 rfl ?_
                    have tkA := Tkn_h130
                    refine w_iast gz_169_261 is_153 rd_52 (by omega) (by omega) (by omega) (by omega) (fun h154 fh154 => ?_)
                    have gh154 : my_fr [(10, 2), (10, 3), (10, 7), (10, 8), (52, -1), (53, -1), (54, -1)] h h154 := my_fr.up gh130 is_153 fh154 rfl
                    refine w_iinc (ls' := [(2, 151), (0, p17_0), (0, (p17_1 + 1)), (0, v123), (0, p17_1), (1, v123), (9, 0)]) gz_169_262 rfl gm_169 rfl rfl rfl ⟨by omega, by omega⟩ ?_
                    refine w_aload_n gz_169_265 rfl ?_
                    refine w_getX (v := 155) gz_169_266 is_151 rd_10 rfl (by decide) rfl ?_
                    refine w_iload_n gz_169_269 rfl ?_
                    refine w_lload gz_169_270 rfl ?_
                    refine w_last gz_169_272 is_155 rd_54 (by omega) (by omega) (fun h156 fh156 => ?_)
                    have gh156 : my_fr [(10, 2), (10, 3), (10, 7), (10, 8), (52, -1), (53, -1), (54, -1)] h h156 := my_fr.up gh154 is_155 fh156 rfl
                    have tN : h156 153 p17_0 ≠ 0 ∧ (h156 153 p17_0 = 2 → 0 ≤ h156 155 p17_0 ∧ h156 155 p17_0 ≤ 999) := by rw [my_up_ne (x := 153) (i := p17_0) fh156 (by omega), my_up_self fh154, my_up_self fh156]; omega
                    have Tkn_h156t157 : Tkn h156 (p17_0 + 1) := by
                      intro i a b
                      rcases (by omega : i = p17_0 ∨ i < p17_0) with q | q
                      · subst q; exact tN
                      · rw [my_up_ne (x := 153) (i := i) fh156 (by omega), my_up_ne (x := 153) (i := i) fh154 (by omega), my_up_ne (x := 155) (i := i) fh156 (by omega), my_up_ne (x := 155) (i := i) fh154 (by omega)]
                        exact tkA i a q
                    refine w_iinc (ls' := [(2, 151), (0, (p17_0 + 1)), (0, (p17_1 + 1)), (0, v123), (0, p17_1), (1, v123), (9, 0)]) gz_169_273 rfl gm_169 rfl rfl rfl ⟨by omega, by omega⟩ ?_
                    refine w_goto (t := 17) gz_169_276 rfl ?_
                    have ce158 : h156 151 3 = v109 := ((my_up_role fh156 is_151 is_155 rfl).trans ((my_up_role fh154 is_151 is_153 rfl).trans ((my_up_role fh130 is_151 is_154 rfl).trans ev109.symm)))
                    refine w_weak (ls' := [(2, 151), (0, (p17_0 + 1)), (0, (p17_1 + 1)), (9, 0), (9, 0), (9, 0), (9, 0)]) (wk_e (wk_e (wk_e (wk_9 (wk_9 (wk_9 (wk_9 wk_n))))))) ?_
                    exact ih_17_0 ((p17_0 + 1)) ((p17_1 + 1)) (v109) h156 (gh156) (by omega) (by omega) (by omega) (by omega) (by omega) (by omega) (by omega) (((my_up_role fh156 is_151 is_155 rfl).trans ((my_up_role fh154 is_151 is_153 rfl).trans ((my_up_role fh130 is_151 is_154 rfl).trans c151_2_17_0))).trans (by omega)) (((my_up_role fh156 is_151 is_155 rfl).trans ((my_up_role fh154 is_151 is_153 rfl).trans ((my_up_role fh130 is_151 is_154 rfl).trans ev109.symm))).trans (by omega)) Tkn_h156t157 (by first | assumption | omega | (subst_vars; omega)) (by first | assumption | omega | (subst_vars; omega)) (by omega)
                ·
                  refine w_iconst gz_172_12 (by decide) ?_
                  refine w_goto (t := 17) gz_172_13 rfl ?_
                  refine w_bret gz_172_17 gm_172 (by omega) (by omega) ?_
                  show wp l rho (d + 2) 169 156 [(2, 151), (0, p17_0), (0, p17_1), (0, v123), (0, p17_1), (1, (((0 : Fin 2).val : Nat) : Int)), (9, 0)] [(0, 1)] h130 Q
                  refine w_ifeq (t := 240) gz_169_156 rfl (fun u159 => by exfalso; omega) (fun u159 => ?_)
                  have ce160 : h130 151 3 = v109 := ((my_up_role fh130 is_151 is_154 rfl).trans ev109.symm)
                  have tp : ∀ j : Int, h130 152 j = h17_0 152 j := fun j => ((my_up_role fh130 is_152 is_154 rfl).trans (rfl : h17_0 152 j = h17_0 152 j))
                  exact J159_0 (1001) (p17_1) (v123) ((((0 : Fin 2).val : Nat) : Int)) h130 (gh130) (by omega) (by omega) (by omega) (by omega) (by omega) (by omega) (by omega) (by omega) (by omega) (by omega) (((my_up_role fh130 is_151 is_154 rfl).trans c151_2_17_0).trans (by omega)) (((my_up_role fh130 is_151 is_154 rfl).trans ev109.symm).trans (by omega)) Tkn_h130 (by first | assumption | omega | (subst_vars; omega)) (by first | assumption | omega | (subst_vars; omega)) (by first | (intro q; rw [tp]; omega) | omega | (intro q; omega)) (by first | assumption | omega | (subst_vars; omega)) (by first | assumption | omega | (subst_vars; omega)) (by omega) (by omega)
            ·
              refine w_iload_n gz_170_6 rfl ?_
              refine w_bipush gz_170_7 (by decide) ?_
              refine w_icgt (t := 16) gz_170_9 rfl (fun u161 => ?_) (fun u161 => ?_)
              ·
                refine w_iconst gz_170_16 (by decide) ?_
                refine w_bret gz_170_17 gm_170 (by omega) (by omega) ?_
                show wp l rho (d + 2) 169 67 [(2, 151), (0, p17_0), (0, p17_1), (0, v123), (0, p17_1), (1, (((0 : Fin 2).val : Nat) : Int)), (9, 0)] [(0, 0)] h130 Q
                refine w_ifeq (t := 152) gz_169_67 rfl (fun u162 => ?_) (fun u162 => by exfalso; omega)
                refine w_iload_n gz_169_152 rfl ?_
                refine w_inS (k := 0) (as := [(0, v123)]) (r := []) (ls0 := [(0, v123)]) gz_169_153 gm_172 rfl rfl rfl rfl rfl rfl ?_
                refine w_iload_n gz_172_0 rfl ?_
                refine w_bipush gz_172_1 (by decide) ?_
                refine w_iclt (t := 16) gz_172_3 rfl (fun u163 => by exfalso; omega) (fun u163 => ?_)
                refine w_iload_n gz_172_6 rfl ?_
                refine w_bipush gz_172_7 (by decide) ?_
                refine w_icgt (t := 16) gz_172_9 rfl (fun u164 => ?_) (fun u164 => by exfalso; omega)
                refine w_iconst gz_172_16 (by decide) ?_
                refine w_bret gz_172_17 gm_172 (by omega) (by omega) ?_
                show wp l rho (d + 2) 169 156 [(2, 151), (0, p17_0), (0, p17_1), (0, v123), (0, p17_1), (1, (((0 : Fin 2).val : Nat) : Int)), (9, 0)] [(0, 0)] h130 Q
                refine w_ifeq (t := 240) gz_169_156 rfl (fun u165 => ?_) (fun u165 => by exfalso; omega)
                refine w_iload_n gz_169_240 rfl ?_
                refine w_i2l gz_169_241 ?_
                refine w_lstore (ls' := [(2, 151), (0, p17_0), (0, p17_1), (0, v123), (0, p17_1), (1, v123), (9, 0)]) gz_169_242 gm_169 rfl rfl rfl ?_
                refine w_aload_n gz_169_244 rfl ?_
                refine w_getX (v := 153) gz_169_245 is_151 rd_10 rfl (by decide) rfl ?_
                refine w_iload_n gz_169_248 rfl ?_
                refine w_iload_n gz_169_249 rfl ?_
                refine w_inS (k := 0) (as := [(0, v123)]) (r := [(0, p17_0), (2, 153)]) (ls0 := [(0, v123)]) gz_169_250 gm_173 rfl rfl rfl rfl rfl rfl ?_
                refine w_iload_n gz_173_0 rfl ?_
                refine w_bipush gz_173_1 (by decide) ?_
                refine w_icne (t := 10) gz_173_3 rfl (fun u167 => ?_) (fun u167 => by exfalso; omega)
                refine w_iconst gz_173_10 (by decide) ?_
                refine w_bret gz_173_11 gm_173 (by omega) (by omega) ?_
                show wp l rho (d + 2) 169 253 [(2, 151), (0, p17_0), (0, p17_1), (0, v123), (0, p17_1), (1, v123), (9, 0)] [(0, 0), (0, p17_0), (2, 153)] h130 Q
                refine w_ifeq (t := 260) gz_169_253 rfl (fun u168 => ?_) (fun u168 => by exfalso; omega)
                refine w_iconst gz_169_260 (by decide) ?_
                have tkA := Tkn_h130
                refine w_iast gz_169_261 is_153 rd_52 (by omega) (by omega) (by omega) (by omega) (fun h169 fh169 => ?_)
                have gh169 : my_fr [(10, 2), (10, 3), (10, 7), (10, 8), (52, -1), (53, -1), (54, -1)] h h169 := my_fr.up gh130 is_153 fh169 rfl
                refine w_iinc (ls' := [(2, 151), (0, p17_0), (0, (p17_1 + 1)), (0, v123), (0, p17_1), (1, v123), (9, 0)]) gz_169_262 rfl gm_169 rfl rfl rfl ⟨by omega, by omega⟩ ?_
                refine w_aload_n gz_169_265 rfl ?_
                refine w_getX (v := 155) gz_169_266 is_151 rd_10 rfl (by decide) rfl ?_
                refine w_iload_n gz_169_269 rfl ?_
                refine w_lload gz_169_270 rfl ?_
                refine w_last gz_169_272 is_155 rd_54 (by omega) (by omega) (fun h171 fh171 => ?_)
                have gh171 : my_fr [(10, 2), (10, 3), (10, 7), (10, 8), (52, -1), (53, -1), (54, -1)] h h171 := my_fr.up gh169 is_155 fh171 rfl
                have tN : h171 153 p17_0 ≠ 0 ∧ (h171 153 p17_0 = 2 → 0 ≤ h171 155 p17_0 ∧ h171 155 p17_0 ≤ 999) := by rw [my_up_ne (x := 153) (i := p17_0) fh171 (by omega), my_up_self fh169, my_up_self fh171]; omega
                have Tkn_h171t172 : Tkn h171 (p17_0 + 1) := by
                  intro i a b
                  rcases (by omega : i = p17_0 ∨ i < p17_0) with q | q
                  · subst q; exact tN
                  · rw [my_up_ne (x := 153) (i := i) fh171 (by omega), my_up_ne (x := 153) (i := i) fh169 (by omega), my_up_ne (x := 155) (i := i) fh171 (by omega), my_up_ne (x := 155) (i := i) fh169 (by omega)]
                    exact tkA i a q
                refine w_iinc (ls' := [(2, 151), (0, (p17_0 + 1)), (0, (p17_1 + 1)), (0, v123), (0, p17_1), (1, v123), (9, 0)]) gz_169_273 rfl gm_169 rfl rfl rfl ⟨by omega, by omega⟩ ?_
                refine w_goto (t := 17) gz_169_276 rfl ?_
                have ce173 : h171 151 3 = v109 := ((my_up_role fh171 is_151 is_155 rfl).trans ((my_up_role fh169 is_151 is_153 rfl).trans ((my_up_role fh130 is_151 is_154 rfl).trans ev109.symm)))
                refine w_weak (ls' := [(2, 151), (0, (p17_0 + 1)), (0, (p17_1 + 1)), (9, 0), (9, 0), (9, 0), (9, 0)]) (wk_e (wk_e (wk_e (wk_9 (wk_9 (wk_9 (wk_9 wk_n))))))) ?_
                exact ih_17_0 ((p17_0 + 1)) ((p17_1 + 1)) (v109) h171 (gh171) (by omega) (by omega) (by omega) (by omega) (by omega) (by omega) (by omega) (((my_up_role fh171 is_151 is_155 rfl).trans ((my_up_role fh169 is_151 is_153 rfl).trans ((my_up_role fh130 is_151 is_154 rfl).trans c151_2_17_0))).trans (by omega)) (((my_up_role fh171 is_151 is_155 rfl).trans ((my_up_role fh169 is_151 is_153 rfl).trans ((my_up_role fh130 is_151 is_154 rfl).trans ev109.symm))).trans (by omega)) Tkn_h171t172 (by first | assumption | omega | (subst_vars; omega)) (by first | assumption | omega | (subst_vars; omega)) (by omega)
              ·
                refine w_iconst gz_170_12 (by decide) ?_
                refine w_goto (t := 17) gz_170_13 rfl ?_
                refine w_bret gz_170_17 gm_170 (by omega) (by omega) ?_
                show wp l rho (d + 2) 169 67 [(2, 151), (0, p17_0), (0, p17_1), (0, v123), (0, p17_1), (1, (((0 : Fin 2).val : Nat) : Int)), (9, 0)] [(0, 1)] h130 Q
                refine w_ifeq (t := 152) gz_169_67 rfl (fun u174 => by exfalso; omega) (fun u174 => ?_)
                have ce175 : h130 151 3 = v109 := ((my_up_role fh130 is_151 is_154 rfl).trans ev109.symm)
                have tp : ∀ j : Int, h130 152 j = h17_0 152 j := fun j => ((my_up_role fh130 is_152 is_154 rfl).trans (rfl : h17_0 152 j = h17_0 152 j))
                exact J70_0 (1001) (p17_1) (v123) ((((0 : Fin 2).val : Nat) : Int)) h130 (gh130) (by omega) (by omega) (by omega) (by omega) (by omega) (by omega) (by omega) (by omega) (by omega) (by omega) (((my_up_role fh130 is_151 is_154 rfl).trans c151_2_17_0).trans (by omega)) (((my_up_role fh130 is_151 is_154 rfl).trans ev109.symm).trans (by omega)) Tkn_h130 (by first | assumption | omega | (subst_vars; omega)) (by first | assumption | omega | (subst_vars; omega)) (by first | (intro q; rw [tp]; omega) | omega | (intro q; omega)) (by first | assumption | omega | (subst_vars; omega)) (by first | assumption | omega | (subst_vars; omega)) (by omega)
          ·
            refine w_iinc (ls' := [(2, 151), (0, p17_0), (0, (p17_1 + 1)), (0, v123), (9, 0), (9, 0), (9, 0)]) gz_169_44 rfl gm_169 rfl rfl rfl ⟨by omega, by omega⟩ ?_
            refine w_goto (t := 17) gz_169_47 rfl ?_
            have ce176 : h17_0 151 3 = v109 := ev109.symm
            refine w_weak (ls' := [(2, 151), (0, p17_0), (0, (p17_1 + 1)), (9, 0), (9, 0), (9, 0), (9, 0)]) (wk_e (wk_e (wk_e (wk_9 (wk_9 (wk_9 (wk_9 wk_n))))))) ?_
            exact ih_17_0 (p17_0) ((p17_1 + 1)) (v109) h17_0 (gh_17_0) (by omega) (by omega) (by omega) (by omega) (by omega) (by omega) (by omega) (c151_2_17_0.trans (by omega)) (ev109.symm.trans (by omega)) n_Tkn_17_0 (by first | assumption | omega | (subst_vars; omega)) (by first | assumption | omega | (subst_vars; omega)) (by omega)
  refine w_aload_n gz_169_0 rfl ?_
  refine w_aload_n gz_169_1 rfl ?_
  refine v_getI (j := 2) gz_169_2 rfl is_151 rd_10 rfl (fun v177 ev177 pv177 qv177 => ?_)
  refine v_putI (j := 3) gz_169_5 rfl is_151 rd_10 rfl (by omega) (by omega) rfl (fun h178 fh178 => ?_)
  have gh178 : my_fr [(10, 2), (10, 3), (10, 7), (10, 8), (52, -1), (53, -1), (54, -1)] h h178 := my_fr.up my_fr.rf is_151 fh178 rfl
  have Tkn_h178 : Tkn h178 0 := Tkn_ag (my_ag.up fh178 is_151 rfl) (fun i a b => absurd b (by omega))
  refine w_aload_n gz_169_8 rfl ?_
  refine w_iconst gz_169_9 (by decide) ?_
  refine v_putI (j := 2) gz_169_10 rfl is_151 rd_10 rfl (by omega) (by omega) rfl (fun h179 fh179 => ?_)
  have gh179 : my_fr [(10, 2), (10, 3), (10, 7), (10, 8), (52, -1), (53, -1), (54, -1)] h h179 := my_fr.up gh178 is_151 fh179 rfl
  have Tkn_h179 : Tkn h179 0 := Tkn_ag (my_ag.up fh179 is_151 rfl) Tkn_h178
  refine w_iconst gz_169_13 (by decide) ?_
  refine w_istore_n (ls' := [(2, 151), (0, 0), (9, 0), (9, 0), (9, 0), (9, 0), (9, 0)]) gz_169_14 gm_169 rfl rfl rfl ?_
  refine w_iconst gz_169_15 (by decide) ?_
  refine w_istore_n (ls' := [(2, 151), (0, 0), (0, 0), (9, 0), (9, 0), (9, 0), (9, 0)]) gz_169_16 gm_169 rfl rfl rfl ?_
  have ce180 : h179 151 3 = v177 := ((my_up_fld fh179 (by decide)).trans (my_up_self fh178))
  exact J17_0 (1001) (0) (0) (v177) h179 (gh179) (by omega) (by omega) (by omega) (by omega) (by omega) (by omega) (by omega) ((my_up_self fh179).trans (by omega)) (((my_up_fld fh179 (by decide)).trans (my_up_self fh178)).trans (by omega)) Tkn_h179 (by first | assumption | omega | (subst_vars; omega)) (by first | assumption | omega | (subst_vars; omega)) (by omega)
theorem c_Model_begins {l : Launch} {rho : Nat → Int32} {d : Nat} {h : my_H} {Q : my_H → my_V → Prop} {x1 : Int} (a1 : 0 ≤ x1) (b1 : x1 ≤ 15) (n_Rws : Rws h) (k0 : ∀ (h' : my_H), my_fr [(10, 37), (80, -1), (81, -1), (82, -1)] h h' → Q h' (9, 0)) : wp l rho (d + 2) 195 0 [(2, 151), (0, x1), (9, 0), (9, 0)] [] h Q := by
  refine v_know (x := 151) (j := 33) (b := 33) rfl is_151 rd_10 rfl (fun k151_33 ek151_33 pk151_33 qk151_33 => ?_)
  refine v_knowA (x := 162) is_162 rd_61 (fun kT => ?_)
  have J7_0 : ∀ (n : Nat) (p7_0 p7_1 : Int) (h7_0 : my_H), my_fr [(10, 37), (80, -1), (81, -1), (82, -1)] h h7_0 → 0 ≤ p7_0 → p7_0 ≤ 20 → 0 ≤ p7_1 → p7_1 ≤ 10 → p7_1 ≤ p7_0 → h7_0 151 33 = k151_33 → h7_0 151 37 = p7_1 → Rws h7_0 → h7_0 151 37 = rc h (60 * x1 + 20 * k151_33) p7_0.toNat → 21 - p7_0 ≤ (n : Int) → wp l rho (d + 2) 195 7 [(2, 151), (0, x1), (0, p7_0), (9, 0)] [] h7_0 Q := by
    intro n
    induction n with
    | zero => intro p7_0 p7_1 h7_0 gh_7_0 q0_7_0 q1_7_0 q2_7_0 q3_7_0 q4_7_0 c151_33_7_0 c151_37_7_0 n_Rws_7_0 rm_7_0 hm_7_0; exfalso; omega
    | succ n ih_7_0 =>
      intro p7_0 p7_1 h7_0 gh_7_0 q0_7_0 q1_7_0 q2_7_0 q3_7_0 q4_7_0 c151_33_7_0 c151_37_7_0 n_Rws_7_0 rm_7_0 hm_7_0
      have J42_0 : ∀ (n : Nat) (p42_0 : Int) (h42_0 : my_H), my_fr [(10, 37), (80, -1), (81, -1), (82, -1)] h h42_0 → p7_0 ≤ 19 → 0 ≤ p42_0 → p42_0 ≤ 4 → p7_1 ≤ 9 → p7_1 ≤ p7_0 → h42_0 151 33 = k151_33 → h42_0 151 37 = p7_1 → Rws h42_0 → h 162 (60 * x1 + 20 * k151_33 + p7_0) = 1 → h42_0 151 37 = rc h (60 * x1 + 20 * k151_33) p7_0.toNat → 5 - p42_0 ≤ (n : Int) → wp l rho (d + 2) 195 42 [(2, 151), (0, x1), (0, p7_0), (0, p42_0)] [] h42_0 Q := by
        intro n
        induction n with
        | zero => intro p42_0 h42_0 gh_42_0 q0_42_0 q1_42_0 q2_42_0 q3_42_0 q4_42_0 c151_33_42_0 c151_37_42_0 n_Rws_42_0 one_42_0 rm_42_0 hm_42_0; exfalso; omega
        | succ n ih_42_0 =>
          intro p42_0 h42_0 gh_42_0 q0_42_0 q1_42_0 q2_42_0 q3_42_0 q4_42_0 c151_33_42_0 c151_37_42_0 n_Rws_42_0 one_42_0 rm_42_0 hm_42_0
          refine w_iload_n gz_195_42 rfl ?_
          refine w_aload_n gz_195_43 rfl ?_
          refine w_getX (v := 157) gz_195_44 is_151 rd_10 rfl (by decide) rfl ?_
          refine w_aload_n gz_195_47 rfl ?_
          refine v_getI (j := 33) gz_195_48 rfl is_151 rd_10 rfl (fun v2 ev2 pv2 qv2 => ?_)
          have zv2 := ev2.trans c151_33_42_0
          refine w_iald gz_195_51 is_157 rd_56 (by omega) (by omega) (fun v3 ev3 pv3 qv3 => ?_)
          refine w_icge (t := 101) gz_195_52 rfl (fun u4 => ?_) (fun u4 => ?_)
          ·
            refine w_aload_n gz_195_101 rfl ?_
            refine w_dup gz_195_102 rfl ?_
            refine v_getI (j := 37) gz_195_103 rfl is_151 rd_10 rfl (fun v5 ev5 pv5 qv5 => ?_)
            have zv5 := ev5.trans c151_37_42_0
            refine w_iconst gz_195_106 (by decide) ?_
            refine w_iadd gz_195_107 ⟨by omega, by omega⟩ ?_
            refine v_putI (j := 37) gz_195_108 rfl is_151 rd_10 rfl (by omega) (by omega) rfl (fun h6 fh6 => ?_)
            have gh6 : my_fr [(10, 37), (80, -1), (81, -1), (82, -1)] h h6 := my_fr.up gh_42_0 is_151 fh6 rfl
            have Rws_h6 : Rws h6 := Rws_ag (my_ag.up fh6 is_151 rfl) n_Rws_42_0
            refine w_iinc (ls' := [(2, 151), (0, x1), (0, (p7_0 + 1)), (0, p42_0)]) gz_195_111 rfl gm_195 rfl rfl rfl ⟨by omega, by omega⟩ ?_
            refine w_goto (t := 7) gz_195_114 rfl ?_
            have ce7 : h6 151 37 = (v5 + 1) := (my_up_self fh6)
            refine w_weak (ls' := [(2, 151), (0, x1), (0, (p7_0 + 1)), (9, 0)]) (wk_e (wk_e (wk_e (wk_9 wk_n)))) ?_
            exact ih_7_0 ((p7_0 + 1)) ((v5 + 1)) h6 (gh6) (by omega) (by omega) (by omega) (by omega) (by omega) (((my_up_fld fh6 (by decide)).trans ev2.symm).trans (by omega)) ((my_up_self fh6).trans (by omega)) Rws_h6 (by first | omega | (rw [rc_at (by omega)]; omega) | (show _ = (0 : Int); omega)) (by omega)
          ·
            refine w_aload_n gz_195_55 rfl ?_
            refine w_getX (v := 182) gz_195_56 is_151 rd_10 rfl (by decide) rfl ?_
            refine w_bipush gz_195_59 (by decide) ?_
            refine w_aload_n gz_195_61 rfl ?_
            refine v_getI (j := 37) gz_195_62 rfl is_151 rd_10 rfl (fun v9 ev9 pv9 qv9 => ?_)
            have zv9 := ev9.trans c151_37_42_0
            refine w_imul gz_195_65 ⟨by omega, by omega⟩ ?_
            refine w_iload_n gz_195_66 rfl ?_
            refine w_iadd gz_195_67 ⟨by omega, by omega⟩ ?_
            refine w_aload_n gz_195_68 rfl ?_
            refine w_iload_n gz_195_69 rfl ?_
            refine w_aload_n gz_195_70 rfl ?_
            refine v_getI (j := 33) gz_195_71 rfl is_151 rd_10 rfl (fun v10 ev10 pv10 qv10 => ?_)
            have zv10 := ev10.trans ev2.symm
            refine w_iload_n gz_195_74 rfl ?_
            refine w_iload_n gz_195_75 rfl ?_
            refine w_inv (k := 0) (as := [(0, p42_0), (0, p7_0), (0, v10), (0, x1)]) (r := [(0, ((8 * v9) + p42_0)), (2, 182)]) (x := 151) (ls0 := [(2, 151), (0, x1), (0, v10), (0, p7_0), (0, p42_0)]) gz_195_76 gm_157 rfl is_151 rd_10 rfl rfl rfl rfl rfl ?_
            refine w_aload_n gz_157_0 rfl ?_
            refine w_getX (v := 163) gz_157_1 is_151 rd_10 rfl (by decide) rfl ?_
            refine w_iconst gz_157_4 (by decide) ?_
            refine w_iload_n gz_157_5 rfl ?_
            refine w_iload_n gz_157_6 rfl ?_
            refine w_iload_n gz_157_7 rfl ?_
            refine w_inS (k := 0) (as := [(0, p7_0), (0, v10), (0, x1)]) (r := [(0, 4), (2, 163)]) (ls0 := [(0, x1), (0, v10), (0, p7_0)]) gz_157_8 gm_150 rfl rfl rfl rfl rfl rfl ?_
            refine w_bipush gz_150_0 (by decide) ?_
            refine w_iload_n gz_150_2 rfl ?_
            refine w_imul gz_150_3 ⟨by omega, by omega⟩ ?_
            refine w_bipush gz_150_4 (by decide) ?_
            refine w_iload_n gz_150_6 rfl ?_
            refine w_imul gz_150_7 ⟨by omega, by omega⟩ ?_
            refine w_iadd gz_150_8 ⟨by omega, by omega⟩ ?_
            refine w_iload_n gz_150_9 rfl ?_
            refine w_iadd gz_150_10 ⟨by omega, by omega⟩ ?_
            refine w_iret gz_150_11 gm_150 ?_
            show wp l rho (d + 1) 157 11 [(2, 151), (0, x1), (0, v10), (0, p7_0), (0, p42_0)] [(0, (((60 * x1) + (20 * v10)) + p7_0)), (0, 4), (2, 163)] h42_0 _
            refine w_imul gz_157_11 ⟨by omega, by omega⟩ ?_
            refine w_iload gz_157_12 rfl ?_
            refine w_iadd gz_157_14 ⟨by omega, by omega⟩ ?_
            refine w_iald gz_157_15 is_163 rd_62 (by omega) (by omega) (fun v12 ev12 pv12 qv12 => ?_)
            refine w_iret gz_157_16 gm_157 ?_
            show wp l rho (d + 2) 195 79 [(2, 151), (0, x1), (0, p7_0), (0, p42_0)] [(0, v12), (0, ((8 * v9) + p42_0)), (2, 182)] h42_0 Q
            refine w_iast gz_195_79 is_182 rd_81 (by omega) (by omega) (by omega) (by omega) (fun h13 fh13 => ?_)
            have gh13 : my_fr [(10, 37), (80, -1), (81, -1), (82, -1)] h h13 := my_fr.up gh_42_0 is_182 fh13 rfl
            have Rws_h13 : Rws h13 := Rws_ag (my_ag.up fh13 is_182 rfl) n_Rws_42_0
            refine w_aload_n gz_195_80 rfl ?_
            refine w_getX (v := 183) gz_195_81 is_151 rd_10 rfl (by decide) rfl ?_
            refine w_bipush gz_195_84 (by decide) ?_
            refine w_aload_n gz_195_86 rfl ?_
            refine v_getI (j := 37) gz_195_87 rfl is_151 rd_10 rfl (fun v15 ev15 pv15 qv15 => ?_)
            have zv15 := ev15.trans ((my_up_role fh13 is_151 is_182 rfl).trans ev9.symm)
            refine w_imul gz_195_90 ⟨by omega, by omega⟩ ?_
            refine w_iload_n gz_195_91 rfl ?_
            refine w_iadd gz_195_92 ⟨by omega, by omega⟩ ?_
            refine w_iload_n gz_195_93 rfl ?_
            refine w_iast gz_195_94 is_183 rd_82 (by omega) (by omega) (by omega) (by omega) (fun h16 fh16 => ?_)
            have gh16 : my_fr [(10, 37), (80, -1), (81, -1), (82, -1)] h h16 := my_fr.up gh13 is_183 fh16 rfl
            have Rws_h16 : Rws h16 := Rws_ag (my_ag.up fh16 is_183 rfl) Rws_h13
            refine w_iinc (ls' := [(2, 151), (0, x1), (0, p7_0), (0, (p42_0 + 1))]) gz_195_95 rfl gm_195 rfl rfl rfl ⟨by omega, by omega⟩ ?_
            refine w_goto (t := 42) gz_195_98 rfl ?_
            have ce17 : h16 151 37 = v15 := ((my_up_role fh16 is_151 is_183 rfl).trans ev15.symm)
            exact ih_42_0 ((p42_0 + 1)) h16 (gh16) (by omega) (by omega) (by omega) (by omega) (by omega) (((my_up_role fh16 is_151 is_183 rfl).trans ((my_up_role fh13 is_151 is_182 rfl).trans ev10.symm)).trans (by omega)) (((my_up_role fh16 is_151 is_183 rfl).trans ev15.symm).trans (by omega)) Rws_h16 (by omega) (by first | omega | (rw [rc_at (by omega)]; omega) | (show _ = (0 : Int); omega)) (by omega)
      refine w_iload_n gz_195_7 rfl ?_
      refine w_bipush gz_195_8 (by decide) ?_
      refine w_icge (t := 117) gz_195_10 rfl (fun u18 => ?_) (fun u18 => ?_)
      ·
        exact w_vret gz_195_117 gm_195 (k0 h7_0 (gh_7_0))
      ·
        refine w_aload_n gz_195_13 rfl ?_
        refine w_getX (v := 162) gz_195_14 is_151 rd_10 rfl (by decide) rfl ?_
        refine w_iload_n gz_195_17 rfl ?_
        refine w_aload_n gz_195_18 rfl ?_
        refine v_getI (j := 33) gz_195_19 rfl is_151 rd_10 rfl (fun v20 ev20 pv20 qv20 => ?_)
        have zv20 := ev20.trans c151_33_7_0
        refine w_iload_n gz_195_22 rfl ?_
        have eb : v20 = k151_33 := by omega
        refine w_inS (k := 0) (as := [(0, p7_0), (0, v20), (0, x1)]) (r := [(2, 162)]) (ls0 := [(0, x1), (0, v20), (0, p7_0)]) gz_195_23 gm_150 rfl rfl rfl rfl rfl rfl ?_
        refine w_bipush gz_150_0 (by decide) ?_
        refine w_iload_n gz_150_2 rfl ?_
        refine w_imul gz_150_3 ⟨by omega, by omega⟩ ?_
        refine w_bipush gz_150_4 (by decide) ?_
        refine w_iload_n gz_150_6 rfl ?_
        refine w_imul gz_150_7 ⟨by omega, by omega⟩ ?_
        refine w_iadd gz_150_8 ⟨by omega, by omega⟩ ?_
        refine w_iload_n gz_150_9 rfl ?_
        refine w_iadd gz_150_10 ⟨by omega, by omega⟩ ?_
        refine w_iret gz_150_11 gm_150 ?_
        show wp l rho (d + 2) 195 26 [(2, 151), (0, x1), (0, p7_0), (9, 0)] [(0, (((60 * x1) + (20 * v20)) + p7_0)), (2, 162)] h7_0 Q
        have t162 : h7_0 162 (((60 * x1) + (20 * v20)) + p7_0) = h 162 (((60 * x1) + (20 * v20)) + p7_0) := my_fr.at gh_7_0 is_162 rfl
        have hix : h 162 (((60 * x1) + (20 * v20)) + p7_0) = h 162 (60 * x1 + 20 * k151_33 + p7_0) := by rw [eb]
        refine w_bald gz_195_26 is_162 rd_61 (by omega) (by omega) (fun v21 ev21 pv21 qv21 => ?_)
        refine w_ifeq (t := 111) gz_195_27 rfl (fun u22 => ?_) (fun u22 => ?_)
        ·
          refine w_iinc (ls' := [(2, 151), (0, x1), (0, (p7_0 + 1)), (9, 0)]) gz_195_111 rfl gm_195 rfl rfl rfl ⟨by omega, by omega⟩ ?_
          refine w_goto (t := 7) gz_195_114 rfl ?_
          have ce23 : h7_0 151 37 = p7_1 := c151_37_7_0
          exact ih_7_0 ((p7_0 + 1)) (p7_1) h7_0 (gh_7_0) (by omega) (by omega) (by omega) (by omega) (by omega) (ev20.symm.trans (by omega)) (c151_37_7_0.trans (by omega)) n_Rws_7_0 (by first | omega | (rw [rc_at (by omega)]; omega) | (show _ = (0 : Int); omega)) (by omega)
        ·
          have nine := rc_nine kT n_Rws (s := x1) (w := k151_33) (k := p7_0) (by omega) (by omega) (by omega) (by omega) (by omega) (by omega) (by omega)
          refine w_aload_n gz_195_30 rfl ?_
          refine w_getX (v := 181) gz_195_31 is_151 rd_10 rfl (by decide) rfl ?_
          refine w_aload_n gz_195_34 rfl ?_
          refine v_getI (j := 37) gz_195_35 rfl is_151 rd_10 rfl (fun v25 ev25 pv25 qv25 => ?_)
          have zv25 := ev25.trans c151_37_7_0
          refine w_iload_n gz_195_38 rfl ?_
          have hi26 : 0 ≤ v25 := by omega
          have hi27 : v25 ≤ 9 := by omega
          refine w_iast gz_195_39 is_181 rd_80 (by omega) (by omega) (by omega) (by omega) (fun h28 fh28 => ?_)
          have gh28 : my_fr [(10, 37), (80, -1), (81, -1), (82, -1)] h h28 := my_fr.up gh_7_0 is_181 fh28 rfl
          have Rws_h28 : Rws h28 := Rws_ag (my_ag.up fh28 is_181 rfl) n_Rws_7_0
          refine w_iconst gz_195_40 (by decide) ?_
          refine w_istore_n (ls' := [(2, 151), (0, x1), (0, p7_0), (0, 0)]) gz_195_41 gm_195 rfl rfl rfl ?_
          have ce29 : h28 151 37 = v25 := ((my_up_role fh28 is_151 is_181 rfl).trans ev25.symm)
          exact J42_0 5 (0) h28 (gh28) (by omega) (by omega) (by omega) (by omega) (by omega) (((my_up_role fh28 is_151 is_181 rfl).trans ev20.symm).trans (by omega)) (((my_up_role fh28 is_151 is_181 rfl).trans ev25.symm).trans (by omega)) Rws_h28 (by omega) (by first | omega | (rw [rc_at (by omega)]; omega) | (show _ = (0 : Int); omega)) (by omega)
  refine w_aload_n gz_195_0 rfl ?_
  refine w_iconst gz_195_1 (by decide) ?_
  refine v_putI (j := 37) gz_195_2 rfl is_151 rd_10 rfl (by omega) (by omega) rfl (fun h30 fh30 => ?_)
  have gh30 : my_fr [(10, 37), (80, -1), (81, -1), (82, -1)] h h30 := my_fr.up my_fr.rf is_151 fh30 rfl
  have Rws_h30 : Rws h30 := Rws_ag (my_ag.up fh30 is_151 rfl) n_Rws
  refine w_iconst gz_195_5 (by decide) ?_
  refine w_istore_n (ls' := [(2, 151), (0, x1), (0, 0), (9, 0)]) gz_195_6 gm_195 rfl rfl rfl ?_
  have ce31 : h30 151 37 = 0 := (my_up_self fh30)
  exact J7_0 21 (0) (0) h30 (gh30) (by omega) (by omega) (by omega) (by omega) (by omega) (((my_up_fld fh30 (by decide)).trans ek151_33.symm).trans (by omega)) ((my_up_self fh30).trans (by omega)) Rws_h30 (by first | omega | (rw [rc_at (by omega)]; omega) | (show _ = (0 : Int); omega)) (by omega)
theorem c_Model_panesOf {l : Launch} {rho : Nat → Int32} {d : Nat} {h : my_H} {Q : my_H → my_V → Prop} {x1 : Int} (a1 : 0 ≤ x1) (b1 : x1 ≤ 5) (n_Mw : Mw h) (hfp : Fp h x1) (k0 : ∀ (h' : my_H) (y : Int), my_fr [(10, 32), (10, 33), (76, -1)] h h' → Q h' (0, y)) : wp l rho (d + 1) 204 0 [(2, 151), (0, x1), (9, 0), (9, 0)] [] h Q := by
  have J9_0 : ∀ (n : Nat) (p9_0 p9_1 : Int) (h9_0 : my_H), my_fr [(10, 32), (10, 33), (76, -1)] h h9_0 → 0 ≤ p9_1 → p9_1 ≤ 6 → Mw h9_0 → 7 - p9_1 ≤ (n : Int) → wp l rho (d + 1) 204 9 [(2, 151), (0, x1), (0, p9_0), (0, p9_1)] [] h9_0 Q := by
    intro n
    induction n with
    | zero => intro p9_0 p9_1 h9_0 gh_9_0 q0_9_0 q1_9_0 n_Mw_9_0 hm_9_0; exfalso; omega
    | succ n ih_9_0 =>
      intro p9_0 p9_1 h9_0 gh_9_0 q0_9_0 q1_9_0 n_Mw_9_0 hm_9_0
      refine w_iload_n gz_204_9 rfl ?_
      refine w_aload_n gz_204_10 rfl ?_
      refine v_getI (j := 32) gz_204_11 rfl is_151 rd_10 rfl (fun v1 ev1 pv1 qv1 => ?_)
      refine w_icge (t := 37) gz_204_14 rfl (fun u2 => ?_) (fun u2 => ?_)
      ·
        refine w_iload_n gz_204_37 rfl ?_
        exact w_iret gz_204_38 gm_204 (k0 h9_0 (p9_0) (gh_9_0))
      ·
        refine w_iload_n gz_204_17 rfl ?_
        refine w_aload_n gz_204_18 rfl ?_
        refine w_getX (v := 167) gz_204_19 is_151 rd_10 rfl (by decide) rfl ?_
        refine w_aload_n gz_204_22 rfl ?_
        refine w_getX (v := 177) gz_204_23 is_151 rd_10 rfl (by decide) rfl ?_
        refine w_iload_n gz_204_26 rfl ?_
        refine w_iald gz_204_27 is_177 rd_76 (by omega) (by omega) (fun v5 ev5 pv5 qv5 => ?_)
        refine w_iald gz_204_28 is_167 rd_66 (by omega) (by omega) (fun v6 ev6 pv6 qv6 => ?_)
        refine w_ianyA gz_204_29 (fun v7 pv7 qv7 => ?_)
        refine w_istore_n (ls' := [(2, 151), (0, x1), (0, v7), (0, p9_1)]) gz_204_30 gm_204 rfl rfl rfl ?_
        refine w_iinc (ls' := [(2, 151), (0, x1), (0, v7), (0, (p9_1 + 1))]) gz_204_31 rfl gm_204 rfl rfl rfl ⟨by omega, by omega⟩ ?_
        refine w_goto (t := 9) gz_204_34 rfl ?_
        exact ih_9_0 (v7) ((p9_1 + 1)) h9_0 (gh_9_0) (by omega) (by omega) n_Mw_9_0 (by omega)
  refine w_aload_n gz_204_0 rfl ?_
  refine w_iload_n gz_204_1 rfl ?_
  refine w_inv (k := 2) (as := [(0, x1)]) (r := []) (x := 151) (ls0 := [(2, 151), (0, x1), (9, 0), (9, 0)]) gz_204_2 gm_180 rfl is_151 rd_10 rfl rfl rfl rfl rfl (c_Model_findChain (d := d) (x1 := x1) (by omega) (by omega) n_Mw (by first | assumption | omega | (subst_vars; omega)) (fun h8 frh8 xp9 xp10 xp11 => ?_))
  have gh8 : my_fr [(10, 32), (10, 33), (76, -1)] h h8 := my_fr.tr my_fr.rf (frh8.mo rfl)
  have Mw_h8 : Mw h8 := Mw_ag (my_ag.fr frh8 rfl) n_Mw
  show wp l rho (d + 1) 204 5 [(2, 151), (0, x1), (9, 0), (9, 0)] [] h8 Q
  refine w_iconst gz_204_5 (by decide) ?_
  refine w_istore_n (ls' := [(2, 151), (0, x1), (0, 0), (9, 0)]) gz_204_6 gm_204 rfl rfl rfl ?_
  refine w_iconst gz_204_7 (by decide) ?_
  refine w_istore_n (ls' := [(2, 151), (0, x1), (0, 0), (0, 0)]) gz_204_8 gm_204 rfl rfl rfl ?_
  exact J9_0 7 (0) (0) h8 (gh8) (by omega) (by omega) Mw_h8 (by omega)
theorem c_Model_wallsUnder {l : Launch} {rho : Nat → Int32} {d : Nat} {h : my_H} {Q : my_H → my_V → Prop} {x1 : Int} (a1 : 0 ≤ x1) (b1 : x1 ≤ 5) (n_Mw : Mw h) (hfp : Fp h x1) (k0 : ∀ (h' : my_H) (y : Int), my_fr [(10, 32), (10, 33), (76, -1)] h h' → Q h' (0, y)) : wp l rho (d + 1) 205 0 [(2, 151), (0, x1), (9, 0), (9, 0), (9, 0), (9, 0)] [] h Q := by
  have J14_0 : ∀ (n : Nat) (p14_0 p14_1 p14_2 : Int) (h14_0 : my_H), my_fr [(10, 32), (10, 33), (76, -1)] h h14_0 → 0 ≤ p14_1 → p14_1 ≤ 6 → 0 ≤ p14_2 → p14_2 ≤ 2 → h14_0 151 33 = p14_2 → Mw h14_0 → 7 - p14_1 ≤ (n : Int) → wp l rho (d + 1) 205 14 [(2, 151), (0, x1), (0, p14_0), (0, p14_1), (9, 0), (9, 0)] [] h14_0 Q := by
    intro n
    induction n with
    | zero => intro p14_0 p14_1 p14_2 h14_0 gh_14_0 q0_14_0 q1_14_0 q2_14_0 q3_14_0 c151_33_14_0 n_Mw_14_0 hm_14_0; exfalso; omega
    | succ n ih_14_0 =>
      intro p14_0 p14_1 p14_2 h14_0 gh_14_0 q0_14_0 q1_14_0 q2_14_0 q3_14_0 c151_33_14_0 n_Mw_14_0 hm_14_0
      have J25_0 : ∀ (n : Nat) (p25_0 p25_1 p25_2 : Int) (h25_0 : my_H), my_fr [(10, 32), (10, 33), (76, -1)] h h25_0 → p14_1 ≤ 5 → 0 ≤ p25_1 → p25_1 ≤ 6 → 1 ≤ p25_2 → p25_2 ≤ 6 → p14_1 ≤ (p25_2 - 1) → h25_0 151 32 = p25_2 → h25_0 151 33 = p14_2 → Mw h25_0 → 7 - p25_1 ≤ (n : Int) → wp l rho (d + 1) 205 25 [(2, 151), (0, x1), (0, p25_0), (0, p14_1), (0, p25_1), (9, 0)] [] h25_0 Q := by
        intro n
        induction n with
        | zero => intro p25_0 p25_1 p25_2 h25_0 gh_25_0 q0_25_0 q1_25_0 q2_25_0 q3_25_0 q4_25_0 q5_25_0 c151_32_25_0 c151_33_25_0 n_Mw_25_0 hm_25_0; exfalso; omega
        | succ n ih_25_0 =>
          intro p25_0 p25_1 p25_2 h25_0 gh_25_0 q0_25_0 q1_25_0 q2_25_0 q3_25_0 q4_25_0 q5_25_0 c151_32_25_0 c151_33_25_0 n_Mw_25_0 hm_25_0
          refine w_iload gz_205_25 rfl ?_
          refine w_aload_n gz_205_27 rfl ?_
          refine w_getX (v := 167) gz_205_28 is_151 rd_10 rfl (by decide) rfl ?_
          refine w_aload_n gz_205_31 rfl ?_
          refine w_getX (v := 177) gz_205_32 is_151 rd_10 rfl (by decide) rfl ?_
          refine w_iload_n gz_205_35 rfl ?_
          refine w_iald gz_205_36 is_177 rd_76 (by omega) (by omega) (fun v3 ev3 pv3 qv3 => ?_)
          refine w_iald gz_205_37 is_167 rd_66 (by omega) (by omega) (fun v4 ev4 pv4 qv4 => ?_)
          refine w_icge (t := 88) gz_205_38 rfl (fun u5 => ?_) (fun u5 => ?_)
          ·
            refine w_iinc (ls' := [(2, 151), (0, x1), (0, p25_0), (0, (p14_1 + 1)), (0, p25_1), (9, 0)]) gz_205_88 rfl gm_205 rfl rfl rfl ⟨by omega, by omega⟩ ?_
            refine w_goto (t := 14) gz_205_91 rfl ?_
            refine w_weak (ls' := [(2, 151), (0, x1), (0, p25_0), (0, (p14_1 + 1)), (9, 0), (9, 0)]) (wk_e (wk_e (wk_e (wk_e (wk_9 (wk_9 wk_n)))))) ?_
            exact ih_14_0 (p25_0) ((p14_1 + 1)) (p14_2) h25_0 (gh_25_0) (by omega) (by omega) (by omega) (by omega) (c151_33_25_0.trans (by omega)) n_Mw_25_0 (by omega)
          ·
            refine w_bipush gz_205_41 (by decide) ?_
            refine w_aload_n gz_205_43 rfl ?_
            refine w_getX (v := 177) gz_205_44 is_151 rd_10 rfl (by decide) rfl ?_
            refine w_iload_n gz_205_47 rfl ?_
            refine w_iald gz_205_48 is_177 rd_76 (by omega) (by omega) (fun v7 ev7 pv7 qv7 => ?_)
            have zv7 := ev7.trans ev3.symm
            refine w_imul gz_205_49 ⟨by omega, by omega⟩ ?_
            refine w_iload gz_205_50 rfl ?_
            refine w_iadd gz_205_52 ⟨by omega, by omega⟩ ?_
            refine w_istore (ls' := [(2, 151), (0, x1), (0, p25_0), (0, p14_1), (0, p25_1), (0, ((6 * v7) + p25_1))]) gz_205_53 gm_205 rfl rfl rfl ?_
            refine w_iload_n gz_205_55 rfl ?_
            refine w_aload_n gz_205_56 rfl ?_
            refine w_getX (v := 168) gz_205_57 is_151 rd_10 rfl (by decide) rfl ?_
            refine w_iload gz_205_60 rfl ?_
            refine w_iald gz_205_62 is_168 rd_67 (by omega) (by omega) (fun v9 ev9 pv9 qv9 => ?_)
            refine w_iconst gz_205_63 (by decide) ?_
            refine w_icne (t := 79) gz_205_64 rfl (fun u10 => ?_) (fun u10 => ?_)
            ·
              refine w_iconst gz_205_79 (by decide) ?_
              refine w_ianyO gz_205_80 (fun v11 pv11 qv11 => ?_)
              refine w_istore_n (ls' := [(2, 151), (0, x1), (0, v11), (0, p14_1), (0, p25_1), (0, ((6 * v7) + p25_1))]) gz_205_81 gm_205 rfl rfl rfl ?_
              refine w_iinc (ls' := [(2, 151), (0, x1), (0, v11), (0, p14_1), (0, (p25_1 + 1)), (0, ((6 * v7) + p25_1))]) gz_205_82 rfl gm_205 rfl rfl rfl ⟨by omega, by omega⟩ ?_
              refine w_goto (t := 25) gz_205_85 rfl ?_
              refine w_weak (ls' := [(2, 151), (0, x1), (0, v11), (0, p14_1), (0, (p25_1 + 1)), (9, 0)]) (wk_e (wk_e (wk_e (wk_e (wk_e (wk_9 wk_n)))))) ?_
              exact ih_25_0 (v11) ((p25_1 + 1)) (p25_2) h25_0 (gh_25_0) (by omega) (by omega) (by omega) (by omega) (by omega) (by omega) (c151_32_25_0.trans (by omega)) (c151_33_25_0.trans (by omega)) n_Mw_25_0 (by omega)
            ·
              refine w_iconst gz_205_67 (by decide) ?_
              refine w_aload_n gz_205_68 rfl ?_
              refine w_getX (v := 170) gz_205_69 is_151 rd_10 rfl (by decide) rfl ?_
              refine w_iload gz_205_72 rfl ?_
              refine w_iald gz_205_74 is_170 rd_69 (by omega) (by omega) (fun v13 ev13 pv13 qv13 => ?_)
              refine w_ianyL gz_205_75 (fun v14 pv14 qv14 => ?_)
              refine w_goto (t := 80) gz_205_76 rfl ?_
              refine w_ianyO gz_205_80 (fun v15 pv15 qv15 => ?_)
              refine w_istore_n (ls' := [(2, 151), (0, x1), (0, v15), (0, p14_1), (0, p25_1), (0, ((6 * v7) + p25_1))]) gz_205_81 gm_205 rfl rfl rfl ?_
              refine w_iinc (ls' := [(2, 151), (0, x1), (0, v15), (0, p14_1), (0, (p25_1 + 1)), (0, ((6 * v7) + p25_1))]) gz_205_82 rfl gm_205 rfl rfl rfl ⟨by omega, by omega⟩ ?_
              refine w_goto (t := 25) gz_205_85 rfl ?_
              refine w_weak (ls' := [(2, 151), (0, x1), (0, v15), (0, p14_1), (0, (p25_1 + 1)), (9, 0)]) (wk_e (wk_e (wk_e (wk_e (wk_e (wk_9 wk_n)))))) ?_
              exact ih_25_0 (v15) ((p25_1 + 1)) (p25_2) h25_0 (gh_25_0) (by omega) (by omega) (by omega) (by omega) (by omega) (by omega) (c151_32_25_0.trans (by omega)) (c151_33_25_0.trans (by omega)) n_Mw_25_0 (by omega)
      refine w_iload_n gz_205_14 rfl ?_
      refine w_aload_n gz_205_15 rfl ?_
      refine v_getI (j := 32) gz_205_16 rfl is_151 rd_10 rfl (fun v16 ev16 pv16 qv16 => ?_)
      refine w_icge (t := 94) gz_205_19 rfl (fun u17 => ?_) (fun u17 => ?_)
      ·
        refine w_iload_n gz_205_94 rfl ?_
        exact w_iret gz_205_95 gm_205 (k0 h14_0 (p14_0) (gh_14_0))
      ·
        refine w_iconst gz_205_22 (by decide) ?_
        refine w_istore (ls' := [(2, 151), (0, x1), (0, p14_0), (0, p14_1), (0, 0), (9, 0)]) gz_205_23 gm_205 rfl rfl rfl ?_
        exact J25_0 7 (p14_0) (0) (v16) h14_0 (gh_14_0) (by omega) (by omega) (by omega) (by omega) (by omega) (by omega) (ev16.symm.trans (by omega)) (c151_33_14_0.trans (by omega)) n_Mw_14_0 (by omega)
  refine w_aload_n gz_205_0 rfl ?_
  refine w_iload_n gz_205_1 rfl ?_
  refine w_inv (k := 2) (as := [(0, x1)]) (r := []) (x := 151) (ls0 := [(2, 151), (0, x1), (9, 0), (9, 0)]) gz_205_2 gm_180 rfl is_151 rd_10 rfl rfl rfl rfl rfl (c_Model_findChain (d := d) (x1 := x1) (by omega) (by omega) n_Mw (by first | assumption | omega | (subst_vars; omega)) (fun h18 frh18 xp19 xp20 xp21 => ?_))
  have gh18 : my_fr [(10, 32), (10, 33), (76, -1)] h h18 := my_fr.tr my_fr.rf (frh18.mo rfl)
  have Mw_h18 : Mw h18 := Mw_ag (my_ag.fr frh18 rfl) n_Mw
  show wp l rho (d + 1) 205 5 [(2, 151), (0, x1), (9, 0), (9, 0), (9, 0), (9, 0)] [] h18 Q
  refine w_iconst gz_205_5 (by decide) ?_
  refine w_aload_n gz_205_6 rfl ?_
  refine v_getI (j := 33) gz_205_7 rfl is_151 rd_10 rfl (fun v22 ev22 pv22 qv22 => ?_)
  refine w_ianyL gz_205_10 (fun v23 pv23 qv23 => ?_)
  refine w_istore_n (ls' := [(2, 151), (0, x1), (0, v23), (9, 0), (9, 0), (9, 0)]) gz_205_11 gm_205 rfl rfl rfl ?_
  refine w_iconst gz_205_12 (by decide) ?_
  refine w_istore_n (ls' := [(2, 151), (0, x1), (0, v23), (0, 0), (9, 0), (9, 0)]) gz_205_13 gm_205 rfl rfl rfl ?_
  exact J14_0 7 (v23) (0) (v22) h18 (gh18) (by omega) (by omega) (by omega) (by omega) (ev22.symm.trans (by omega)) Mw_h18 (by omega)
theorem c_Model_fillOf2 {l : Launch} {rho : Nat → Int32} {d : Nat} {h : my_H} {Q : my_H → my_V → Prop} {x1 : Int} (a1 : 0 ≤ x1) (b1 : x1 ≤ 3) (k0 : Q h (0, 0)) (k1 : ∀ (y : Int), 0 ≤ y → y ≤ 19 → 1 ≤ h 151 32 → h 151 32 ≤ 6 → Q h (0, y)) : wp l rho d 218 0 [(2, 151), (0, x1), (9, 0)] [] h Q := by
  have J7_0 : ∀ (n : Nat) (p7_0 p7_1 : Int), (-1) ≤ p7_0 → p7_0 ≤ 5 → 0 ≤ p7_1 → p7_1 ≤ 6 → p7_0 ≤ (p7_1 - 1) → h 151 32 = p7_1 → p7_0 - (-2) ≤ (n : Int) → wp l rho d 218 7 [(2, 151), (0, x1), (0, p7_0)] [] h Q := by
    intro n
    induction n with
    | zero => intro p7_0 p7_1 q0_7_0 q1_7_0 q2_7_0 q3_7_0 q4_7_0 c151_32_7_0 hm_7_0; exfalso; omega
    | succ n ih_7_0 =>
      intro p7_0 p7_1 q0_7_0 q1_7_0 q2_7_0 q3_7_0 q4_7_0 c151_32_7_0 hm_7_0
      refine w_iload_n gz_218_7 rfl ?_
      refine w_iflt (t := 51) gz_218_8 rfl (fun u1 => ?_) (fun u1 => ?_)
      ·
        refine w_iconst gz_218_51 (by decide) ?_
        exact w_iret gz_218_52 gm_218 (k0 )
      ·
        refine w_aload_n gz_218_11 rfl ?_
        refine w_getX (v := 173) gz_218_12 is_151 rd_10 rfl (by decide) rfl ?_
        refine w_iconst gz_218_15 (by decide) ?_
        refine w_aload_n gz_218_16 rfl ?_
        refine w_getX (v := 177) gz_218_17 is_151 rd_10 rfl (by decide) rfl ?_
        refine w_iload_n gz_218_20 rfl ?_
        refine w_iald gz_218_21 is_177 rd_76 (by omega) (by omega) (fun v4 ev4 pv4 qv4 => ?_)
        refine w_imul gz_218_22 ⟨by omega, by omega⟩ ?_
        refine w_iload_n gz_218_23 rfl ?_
        refine w_iadd gz_218_24 ⟨by omega, by omega⟩ ?_
        refine w_iald gz_218_25 is_173 rd_72 (by omega) (by omega) (fun v5 ev5 pv5 qv5 => ?_)
        have fi : ∀ j : Int, j = ((4 * v4) + x1) → h 173 j = v5 := fun j q => by rw [q]; omega
        refine w_iflt (t := 45) gz_218_26 rfl (fun u6 => ?_) (fun u6 => ?_)
        ·
          refine w_iinc (ls' := [(2, 151), (0, x1), (0, (p7_0 + (-1)))]) gz_218_45 rfl gm_218 rfl rfl rfl ⟨by omega, by omega⟩ ?_
          refine w_goto (t := 7) gz_218_48 rfl ?_
          exact ih_7_0 ((p7_0 + (-1))) (p7_1) (by omega) (by omega) (by omega) (by omega) (by omega) (c151_32_7_0.trans (by omega)) (by omega)
        ·
          refine w_aload_n gz_218_29 rfl ?_
          refine w_getX (v := 173) gz_218_30 is_151 rd_10 rfl (by decide) rfl ?_
          refine w_iconst gz_218_33 (by decide) ?_
          refine w_aload_n gz_218_34 rfl ?_
          refine w_getX (v := 177) gz_218_35 is_151 rd_10 rfl (by decide) rfl ?_
          refine w_iload_n gz_218_38 rfl ?_
          refine w_iald gz_218_39 is_177 rd_76 (by omega) (by omega) (fun v9 ev9 pv9 qv9 => ?_)
          have zv9 := ev9.trans ev4.symm
          refine w_imul gz_218_40 ⟨by omega, by omega⟩ ?_
          refine w_iload_n gz_218_41 rfl ?_
          refine w_iadd gz_218_42 ⟨by omega, by omega⟩ ?_
          refine w_iald gz_218_43 is_173 rd_72 (by omega) (by omega) (fun v10 ev10 pv10 qv10 => ?_)
          have fz := fi ((4 * v9) + x1) (by omega)
          have hi11 : 0 ≤ v10 := by omega
          have hi12 : v10 ≤ 19 := by omega
          have c13 := c151_32_7_0
          exact w_iret gz_218_44 gm_218 (k1 (v10) (by omega) (by omega) (by omega) (by omega))
  refine w_aload_n gz_218_0 rfl ?_
  refine v_getI (j := 32) gz_218_1 rfl is_151 rd_10 rfl (fun v14 ev14 pv14 qv14 => ?_)
  refine w_iconst gz_218_4 (by decide) ?_
  refine w_isub gz_218_5 ⟨by omega, by omega⟩ ?_
  refine w_istore_n (ls' := [(2, 151), (0, x1), (0, (v14 - 1))]) gz_218_6 gm_218 rfl rfl rfl ?_
  exact J7_0 7 ((v14 - 1)) (v14) (by omega) (by omega) (by omega) (by omega) (by omega) (ev14.symm.trans (by omega)) (by omega)
theorem c_Model_leastWay {l : Launch} {rho : Nat → Int32} {d : Nat} {h : my_H} {Q : my_H → my_V → Prop} (n_Wys : Wys h) (k0 : ∀ (y : Int), (-1) ≤ y → y ≤ 1800 → y < h 151 48 → Q h (0, y)) : wp l rho (d + 1) 220 0 [(2, 151), (9, 0), (9, 0)] [] h Q := by
  refine v_know (x := 151) (j := 48) (b := 48) rfl is_151 rd_10 rfl (fun k151_48 ek151_48 pk151_48 qk151_48 => ?_)
  have J4_0 : ∀ (n : Nat) (p4_0 p4_1 : Int), (-1) ≤ p4_0 → p4_0 ≤ 1800 → 0 ≤ p4_1 → p4_1 ≤ 1800 → p4_0 ≤ (p4_1 - 1) → p4_0 ≤ (k151_48 - 1) → p4_1 ≤ k151_48 → h 151 48 = k151_48 → Wys h → p4_0 < k151_48 → 1801 - p4_1 ≤ (n : Int) → wp l rho (d + 1) 220 4 [(2, 151), (0, p4_0), (0, p4_1)] [] h Q := by
    intro n
    induction n with
    | zero => intro p4_0 p4_1 q0_4_0 q1_4_0 q2_4_0 q3_4_0 q4_4_0 q5_4_0 q6_4_0 c151_48_4_0 n_Wys_4_0 bw_4_0 hm_4_0; exfalso; omega
    | succ n ih_4_0 =>
      intro p4_0 p4_1 q0_4_0 q1_4_0 q2_4_0 q3_4_0 q4_4_0 q5_4_0 q6_4_0 c151_48_4_0 n_Wys_4_0 bw_4_0 hm_4_0
      refine w_iload_n gz_220_4 rfl ?_
      refine w_aload_n gz_220_5 rfl ?_
      refine v_getI (j := 48) gz_220_6 rfl is_151 rd_10 rfl (fun v1 ev1 pv1 qv1 => ?_)
      have zv1 := ev1.trans c151_48_4_0
      refine w_icge (t := 41) gz_220_9 rfl (fun u2 => ?_) (fun u2 => ?_)
      ·
        refine w_iload_n gz_220_41 rfl ?_
        exact w_iret gz_220_42 gm_220 (k0 (p4_0) (by omega) (by omega) (by first | assumption | omega | (subst_vars; omega)))
      ·
        refine w_iload_n gz_220_12 rfl ?_
        refine w_iflt (t := 29) gz_220_13 rfl (fun u3 => ?_) (fun u3 => ?_)
        ·
          refine w_iload_n gz_220_29 rfl ?_
          refine w_goto (t := 34) gz_220_30 rfl ?_
          refine w_istore_n (ls' := [(2, 151), (0, p4_1), (0, p4_1)]) gz_220_34 gm_220 rfl rfl rfl ?_
          refine w_iinc (ls' := [(2, 151), (0, p4_1), (0, (p4_1 + 1))]) gz_220_35 rfl gm_220 rfl rfl rfl ⟨by omega, by omega⟩ ?_
          refine w_goto (t := 4) gz_220_38 rfl ?_
          exact ih_4_0 (p4_1) ((p4_1 + 1)) (by omega) (by omega) (by omega) (by omega) (by omega) (by omega) (by omega) (ev1.symm.trans (by omega)) n_Wys_4_0 (by first | assumption | omega | (subst_vars; omega)) (by omega)
        ·
          refine w_aload_n gz_220_16 rfl ?_
          refine w_iload_n gz_220_17 rfl ?_
          refine w_inv (k := 0) (as := [(0, p4_1)]) (r := []) (x := 151) (ls0 := [(2, 151), (0, p4_1)]) gz_220_18 gm_221 rfl is_151 rd_10 rfl rfl rfl rfl rfl ?_
          refine w_aload_n gz_221_0 rfl ?_
          refine w_getX (v := 190) gz_221_1 is_151 rd_10 rfl (by decide) rfl ?_
          refine w_iload_n gz_221_4 rfl ?_
          refine w_iald gz_221_5 is_190 rd_89 (by omega) (by omega) (fun v5 ev5 pv5 qv5 => ?_)
          refine w_iconst gz_221_6 (by decide) ?_
          refine w_icge (t := 19) gz_221_7 rfl (fun u6 => ?_) (fun u6 => ?_)
          ·
            refine w_aload_n gz_221_19 rfl ?_
            refine w_getX (v := 157) gz_221_20 is_151 rd_10 rfl (by decide) rfl ?_
            refine w_aload_n gz_221_23 rfl ?_
            refine w_getX (v := 191) gz_221_24 is_151 rd_10 rfl (by decide) rfl ?_
            refine w_iload_n gz_221_27 rfl ?_
            refine w_iald gz_221_28 is_191 rd_90 (by omega) (by omega) (fun v9 ev9 pv9 qv9 => ?_)
            have hi10 : 0 ≤ v9 := by have q := n_Wys_4_0 p4_1 (by omega) (by omega); omega
            have hi11 : v9 ≤ 2 := by have q := n_Wys_4_0 p4_1 (by omega) (by omega); omega
            refine w_iald gz_221_29 is_157 rd_56 (by omega) (by omega) (fun v12 ev12 pv12 qv12 => ?_)
            refine w_iret gz_221_30 gm_221 ?_
            show wp l rho (d + 1) 220 21 [(2, 151), (0, p4_0), (0, p4_1)] [(0, v12)] h Q
            refine w_aload_n gz_220_21 rfl ?_
            refine w_iload_n gz_220_22 rfl ?_
            refine w_inv (k := 0) (as := [(0, p4_0)]) (r := [(0, v12)]) (x := 151) (ls0 := [(2, 151), (0, p4_0)]) gz_220_23 gm_221 rfl is_151 rd_10 rfl rfl rfl rfl rfl ?_
            refine w_aload_n gz_221_0 rfl ?_
            refine w_getX (v := 190) gz_221_1 is_151 rd_10 rfl (by decide) rfl ?_
            refine w_iload_n gz_221_4 rfl ?_
            refine w_iald gz_221_5 is_190 rd_89 (by omega) (by omega) (fun v14 ev14 pv14 qv14 => ?_)
            refine w_iconst gz_221_6 (by decide) ?_
            refine w_icge (t := 19) gz_221_7 rfl (fun u15 => ?_) (fun u15 => ?_)
            ·
              refine w_aload_n gz_221_19 rfl ?_
              refine w_getX (v := 157) gz_221_20 is_151 rd_10 rfl (by decide) rfl ?_
              refine w_aload_n gz_221_23 rfl ?_
              refine w_getX (v := 191) gz_221_24 is_151 rd_10 rfl (by decide) rfl ?_
              refine w_iload_n gz_221_27 rfl ?_
              refine w_iald gz_221_28 is_191 rd_90 (by omega) (by omega) (fun v18 ev18 pv18 qv18 => ?_)
              have hi19 : 0 ≤ v18 := by have q := n_Wys_4_0 p4_0 (by omega) (by omega); omega
              have hi20 : v18 ≤ 2 := by have q := n_Wys_4_0 p4_0 (by omega) (by omega); omega
              refine w_iald gz_221_29 is_157 rd_56 (by omega) (by omega) (fun v21 ev21 pv21 qv21 => ?_)
              refine w_iret gz_221_30 gm_221 ?_
              show wp l rho (d + 1) 220 26 [(2, 151), (0, p4_0), (0, p4_1)] [(0, v21), (0, v12)] h Q
              refine w_icge (t := 33) gz_220_26 rfl (fun u22 => ?_) (fun u22 => ?_)
              ·
                refine w_iload_n gz_220_33 rfl ?_
                refine w_istore_n (ls' := [(2, 151), (0, p4_0), (0, p4_1)]) gz_220_34 gm_220 rfl rfl rfl ?_
                refine w_iinc (ls' := [(2, 151), (0, p4_0), (0, (p4_1 + 1))]) gz_220_35 rfl gm_220 rfl rfl rfl ⟨by omega, by omega⟩ ?_
                refine w_goto (t := 4) gz_220_38 rfl ?_
                exact ih_4_0 (p4_0) ((p4_1 + 1)) (by omega) (by omega) (by omega) (by omega) (by omega) (by omega) (by omega) (ev1.symm.trans (by omega)) n_Wys_4_0 (by first | assumption | omega | (subst_vars; omega)) (by omega)
              ·
                refine w_iload_n gz_220_29 rfl ?_
                refine w_goto (t := 34) gz_220_30 rfl ?_
                refine w_istore_n (ls' := [(2, 151), (0, p4_1), (0, p4_1)]) gz_220_34 gm_220 rfl rfl rfl ?_
                refine w_iinc (ls' := [(2, 151), (0, p4_1), (0, (p4_1 + 1))]) gz_220_35 rfl gm_220 rfl rfl rfl ⟨by omega, by omega⟩ ?_
                refine w_goto (t := 4) gz_220_38 rfl ?_
                exact ih_4_0 (p4_1) ((p4_1 + 1)) (by omega) (by omega) (by omega) (by omega) (by omega) (by omega) (by omega) (ev1.symm.trans (by omega)) n_Wys_4_0 (by first | assumption | omega | (subst_vars; omega)) (by omega)
            ·
              refine w_aload_n gz_221_10 rfl ?_
              refine w_getX (v := 190) gz_221_11 is_151 rd_10 rfl (by decide) rfl ?_
              refine w_iload_n gz_221_14 rfl ?_
              refine w_iald gz_221_15 is_190 rd_89 (by omega) (by omega) (fun v24 ev24 pv24 qv24 => ?_)
              have zv24 := ev24.trans ev14.symm
              refine w_goto (t := 30) gz_221_16 rfl ?_
              refine w_iret gz_221_30 gm_221 ?_
              show wp l rho (d + 1) 220 26 [(2, 151), (0, p4_0), (0, p4_1)] [(0, v24), (0, v12)] h Q
              refine w_icge (t := 33) gz_220_26 rfl (fun u25 => ?_) (fun u25 => ?_)
              ·
                refine w_iload_n gz_220_33 rfl ?_
                refine w_istore_n (ls' := [(2, 151), (0, p4_0), (0, p4_1)]) gz_220_34 gm_220 rfl rfl rfl ?_
                refine w_iinc (ls' := [(2, 151), (0, p4_0), (0, (p4_1 + 1))]) gz_220_35 rfl gm_220 rfl rfl rfl ⟨by omega, by omega⟩ ?_
                refine w_goto (t := 4) gz_220_38 rfl ?_
                exact ih_4_0 (p4_0) ((p4_1 + 1)) (by omega) (by omega) (by omega) (by omega) (by omega) (by omega) (by omega) (ev1.symm.trans (by omega)) n_Wys_4_0 (by first | assumption | omega | (subst_vars; omega)) (by omega)
              ·
                refine w_iload_n gz_220_29 rfl ?_
                refine w_goto (t := 34) gz_220_30 rfl ?_
                refine w_istore_n (ls' := [(2, 151), (0, p4_1), (0, p4_1)]) gz_220_34 gm_220 rfl rfl rfl ?_
                refine w_iinc (ls' := [(2, 151), (0, p4_1), (0, (p4_1 + 1))]) gz_220_35 rfl gm_220 rfl rfl rfl ⟨by omega, by omega⟩ ?_
                refine w_goto (t := 4) gz_220_38 rfl ?_
                exact ih_4_0 (p4_1) ((p4_1 + 1)) (by omega) (by omega) (by omega) (by omega) (by omega) (by omega) (by omega) (ev1.symm.trans (by omega)) n_Wys_4_0 (by first | assumption | omega | (subst_vars; omega)) (by omega)
          ·
            refine w_aload_n gz_221_10 rfl ?_
            refine w_getX (v := 190) gz_221_11 is_151 rd_10 rfl (by decide) rfl ?_
            refine w_iload_n gz_221_14 rfl ?_
            refine w_iald gz_221_15 is_190 rd_89 (by omega) (by omega) (fun v27 ev27 pv27 qv27 => ?_)
            have zv27 := ev27.trans ev5.symm
            refine w_goto (t := 30) gz_221_16 rfl ?_
            refine w_iret gz_221_30 gm_221 ?_
            show wp l rho (d + 1) 220 21 [(2, 151), (0, p4_0), (0, p4_1)] [(0, v27)] h Q
            refine w_aload_n gz_220_21 rfl ?_
            refine w_iload_n gz_220_22 rfl ?_
            refine w_inv (k := 0) (as := [(0, p4_0)]) (r := [(0, v27)]) (x := 151) (ls0 := [(2, 151), (0, p4_0)]) gz_220_23 gm_221 rfl is_151 rd_10 rfl rfl rfl rfl rfl ?_
            refine w_aload_n gz_221_0 rfl ?_
            refine w_getX (v := 190) gz_221_1 is_151 rd_10 rfl (by decide) rfl ?_
            refine w_iload_n gz_221_4 rfl ?_
            refine w_iald gz_221_5 is_190 rd_89 (by omega) (by omega) (fun v29 ev29 pv29 qv29 => ?_)
            refine w_iconst gz_221_6 (by decide) ?_
            refine w_icge (t := 19) gz_221_7 rfl (fun u30 => ?_) (fun u30 => ?_)
            ·
              refine w_aload_n gz_221_19 rfl ?_
              refine w_getX (v := 157) gz_221_20 is_151 rd_10 rfl (by decide) rfl ?_
              refine w_aload_n gz_221_23 rfl ?_
              refine w_getX (v := 191) gz_221_24 is_151 rd_10 rfl (by decide) rfl ?_
              refine w_iload_n gz_221_27 rfl ?_
              refine w_iald gz_221_28 is_191 rd_90 (by omega) (by omega) (fun v33 ev33 pv33 qv33 => ?_)
              have hi34 : 0 ≤ v33 := by have q := n_Wys_4_0 p4_0 (by omega) (by omega); omega
              have hi35 : v33 ≤ 2 := by have q := n_Wys_4_0 p4_0 (by omega) (by omega); omega
              refine w_iald gz_221_29 is_157 rd_56 (by omega) (by omega) (fun v36 ev36 pv36 qv36 => ?_)
              refine w_iret gz_221_30 gm_221 ?_
              show wp l rho (d + 1) 220 26 [(2, 151), (0, p4_0), (0, p4_1)] [(0, v36), (0, v27)] h Q
              refine w_icge (t := 33) gz_220_26 rfl (fun u37 => ?_) (fun u37 => ?_)
              ·
                refine w_iload_n gz_220_33 rfl ?_
                refine w_istore_n (ls' := [(2, 151), (0, p4_0), (0, p4_1)]) gz_220_34 gm_220 rfl rfl rfl ?_
                refine w_iinc (ls' := [(2, 151), (0, p4_0), (0, (p4_1 + 1))]) gz_220_35 rfl gm_220 rfl rfl rfl ⟨by omega, by omega⟩ ?_
                refine w_goto (t := 4) gz_220_38 rfl ?_
                exact ih_4_0 (p4_0) ((p4_1 + 1)) (by omega) (by omega) (by omega) (by omega) (by omega) (by omega) (by omega) (ev1.symm.trans (by omega)) n_Wys_4_0 (by first | assumption | omega | (subst_vars; omega)) (by omega)
              ·
                refine w_iload_n gz_220_29 rfl ?_
                refine w_goto (t := 34) gz_220_30 rfl ?_
                refine w_istore_n (ls' := [(2, 151), (0, p4_1), (0, p4_1)]) gz_220_34 gm_220 rfl rfl rfl ?_
                refine w_iinc (ls' := [(2, 151), (0, p4_1), (0, (p4_1 + 1))]) gz_220_35 rfl gm_220 rfl rfl rfl ⟨by omega, by omega⟩ ?_
                refine w_goto (t := 4) gz_220_38 rfl ?_
                exact ih_4_0 (p4_1) ((p4_1 + 1)) (by omega) (by omega) (by omega) (by omega) (by omega) (by omega) (by omega) (ev1.symm.trans (by omega)) n_Wys_4_0 (by first | assumption | omega | (subst_vars; omega)) (by omega)
            ·
              refine w_aload_n gz_221_10 rfl ?_
              refine w_getX (v := 190) gz_221_11 is_151 rd_10 rfl (by decide) rfl ?_
              refine w_iload_n gz_221_14 rfl ?_
              refine w_iald gz_221_15 is_190 rd_89 (by omega) (by omega) (fun v39 ev39 pv39 qv39 => ?_)
              have zv39 := ev39.trans ev29.symm
              refine w_goto (t := 30) gz_221_16 rfl ?_
              refine w_iret gz_221_30 gm_221 ?_
              show wp l rho (d + 1) 220 26 [(2, 151), (0, p4_0), (0, p4_1)] [(0, v39), (0, v27)] h Q
              refine w_icge (t := 33) gz_220_26 rfl (fun u40 => ?_) (fun u40 => ?_)
              ·
                refine w_iload_n gz_220_33 rfl ?_
                refine w_istore_n (ls' := [(2, 151), (0, p4_0), (0, p4_1)]) gz_220_34 gm_220 rfl rfl rfl ?_
                refine w_iinc (ls' := [(2, 151), (0, p4_0), (0, (p4_1 + 1))]) gz_220_35 rfl gm_220 rfl rfl rfl ⟨by omega, by omega⟩ ?_
                refine w_goto (t := 4) gz_220_38 rfl ?_
                exact ih_4_0 (p4_0) ((p4_1 + 1)) (by omega) (by omega) (by omega) (by omega) (by omega) (by omega) (by omega) (ev1.symm.trans (by omega)) n_Wys_4_0 (by first | assumption | omega | (subst_vars; omega)) (by omega)
              ·
                refine w_iload_n gz_220_29 rfl ?_
                refine w_goto (t := 34) gz_220_30 rfl ?_
                refine w_istore_n (ls' := [(2, 151), (0, p4_1), (0, p4_1)]) gz_220_34 gm_220 rfl rfl rfl ?_
                refine w_iinc (ls' := [(2, 151), (0, p4_1), (0, (p4_1 + 1))]) gz_220_35 rfl gm_220 rfl rfl rfl ⟨by omega, by omega⟩ ?_
                refine w_goto (t := 4) gz_220_38 rfl ?_
                exact ih_4_0 (p4_1) ((p4_1 + 1)) (by omega) (by omega) (by omega) (by omega) (by omega) (by omega) (by omega) (ev1.symm.trans (by omega)) n_Wys_4_0 (by first | assumption | omega | (subst_vars; omega)) (by omega)
  refine w_iconst gz_220_0 (by decide) ?_
  refine w_istore_n (ls' := [(2, 151), (0, (-1)), (9, 0)]) gz_220_1 gm_220 rfl rfl rfl ?_
  refine w_iconst gz_220_2 (by decide) ?_
  refine w_istore_n (ls' := [(2, 151), (0, (-1)), (0, 0)]) gz_220_3 gm_220 rfl rfl rfl ?_
  exact J4_0 1801 ((-1)) (0) (by omega) (by omega) (by omega) (by omega) (by omega) (by omega) (by omega) (ek151_48.symm.trans (by omega)) n_Wys (by first | assumption | omega | (subst_vars; omega)) (by omega)
theorem c_Model_hasSum {l : Launch} {rho : Nat → Int32} {d : Nat} {h : my_H} {Q : my_H → my_V → Prop} {x1 : Int} (a1 : 0 ≤ x1) (b1 : x1 ≤ 5) (n_Mw : Mw h) (hfp : Fp h x1) (k0 : ∀ (h' : my_H) (y : Int), my_fr [(10, 32), (10, 33), (76, -1)] h h' → 0 ≤ y → y ≤ 1 → Q h' (0, y)) : wp l rho (d + 1) 226 0 [(2, 151), (0, x1), (9, 0), (9, 0), (9, 0)] [] h Q := by
  have J9_0 : ∀ (n : Nat) (p9_0 p9_1 : Int) (h9_0 : my_H), my_fr [(10, 32), (10, 33), (76, -1)] h h9_0 → 0 ≤ p9_0 → p9_0 ≤ 1 → 0 ≤ p9_1 → p9_1 ≤ 6 → p9_0 ≤ p9_1 → Mw h9_0 → 7 - p9_1 ≤ (n : Int) → wp l rho (d + 1) 226 9 [(2, 151), (0, x1), (0, p9_0), (0, p9_1), (9, 0)] [] h9_0 Q := by
    intro n
    induction n with
    | zero => intro p9_0 p9_1 h9_0 gh_9_0 q0_9_0 q1_9_0 q2_9_0 q3_9_0 q4_9_0 n_Mw_9_0 hm_9_0; exfalso; omega
    | succ n ih_9_0 =>
      intro p9_0 p9_1 h9_0 gh_9_0 q0_9_0 q1_9_0 q2_9_0 q3_9_0 q4_9_0 n_Mw_9_0 hm_9_0
      have J20_0 : ∀ (n : Nat) (p20_0 p20_1 p20_2 : Int) (h20_0 : my_H), my_fr [(10, 32), (10, 33), (76, -1)] h h20_0 → 0 ≤ p20_0 → p20_0 ≤ 1 → p9_1 ≤ 5 → 0 ≤ p20_1 → p20_1 ≤ 6 → 1 ≤ p20_2 → p20_2 ≤ 6 → p9_1 ≤ (p20_2 - 1) → p9_0 ≤ p20_0 → p9_0 ≤ (p20_2 - 1) → p9_0 ≤ p9_1 → h20_0 151 32 = p20_2 → Mw h20_0 → 7 - p20_1 ≤ (n : Int) → wp l rho (d + 1) 226 20 [(2, 151), (0, x1), (0, p20_0), (0, p9_1), (0, p20_1)] [] h20_0 Q := by
        intro n
        induction n with
        | zero => intro p20_0 p20_1 p20_2 h20_0 gh_20_0 q0_20_0 q1_20_0 q2_20_0 q3_20_0 q4_20_0 q5_20_0 q6_20_0 q7_20_0 q8_20_0 q9_20_0 q10_20_0 c151_32_20_0 n_Mw_20_0 hm_20_0; exfalso; omega
        | succ n ih_20_0 =>
          intro p20_0 p20_1 p20_2 h20_0 gh_20_0 q0_20_0 q1_20_0 q2_20_0 q3_20_0 q4_20_0 q5_20_0 q6_20_0 q7_20_0 q8_20_0 q9_20_0 q10_20_0 c151_32_20_0 n_Mw_20_0 hm_20_0
          have J61_0 : ∀ (p61_0 : Int) (h61_0 : my_H), my_fr [(10, 32), (10, 33), (76, -1)] h h61_0 → 0 ≤ p61_0 → p61_0 ≤ 1 → p20_1 ≤ 5 → p61_0 ≤ p20_0 → p9_1 ≤ (p20_2 - 1) → p20_0 ≤ p61_0 → p9_0 ≤ p61_0 → p9_0 ≤ p9_1 → p9_0 ≤ (p20_2 - 1) → p9_0 ≤ p20_0 → h61_0 151 32 = p20_2 → Mw h61_0 → wp l rho (d + 1) 226 61 [(2, 151), (0, x1), (0, p61_0), (0, p9_1), (0, p20_1)] [] h61_0 Q := by
            intro p61_0 h61_0 gh_61_0 q0_61_0 q1_61_0 q2_61_0 q3_61_0 q4_61_0 q5_61_0 q6_61_0 q7_61_0 q8_61_0 q9_61_0 c151_32_61_0 n_Mw_61_0
            refine w_iconst gz_226_61 (by decide) ?_
            refine w_goto (t := 66) gz_226_62 rfl ?_
            refine w_istore_n (ls' := [(2, 151), (0, x1), (0, 1), (0, p9_1), (0, p20_1)]) gz_226_66 gm_226 rfl rfl rfl ?_
            refine w_iinc (ls' := [(2, 151), (0, x1), (0, 1), (0, p9_1), (0, (p20_1 + 1))]) gz_226_67 rfl gm_226 rfl rfl rfl ⟨by omega, by omega⟩ ?_
            refine w_goto (t := 20) gz_226_70 rfl ?_
            exact ih_20_0 (1) ((p20_1 + 1)) (p20_2) h61_0 (gh_61_0) (by omega) (by omega) (by omega) (by omega) (by omega) (by omega) (by omega) (by omega) (by omega) (by omega) (by omega) (c151_32_61_0.trans (by omega)) n_Mw_61_0 (by omega)
          refine w_iload gz_226_20 rfl ?_
          refine w_aload_n gz_226_22 rfl ?_
          refine w_getX (v := 167) gz_226_23 is_151 rd_10 rfl (by decide) rfl ?_
          refine w_aload_n gz_226_26 rfl ?_
          refine w_getX (v := 177) gz_226_27 is_151 rd_10 rfl (by decide) rfl ?_
          refine w_iload_n gz_226_30 rfl ?_
          refine w_iald gz_226_31 is_177 rd_76 (by omega) (by omega) (fun v3 ev3 pv3 qv3 => ?_)
          refine w_iald gz_226_32 is_167 rd_66 (by omega) (by omega) (fun v4 ev4 pv4 qv4 => ?_)
          refine w_icge (t := 73) gz_226_33 rfl (fun u5 => ?_) (fun u5 => ?_)
          ·
            refine w_iinc (ls' := [(2, 151), (0, x1), (0, p20_0), (0, (p9_1 + 1)), (0, p20_1)]) gz_226_73 rfl gm_226 rfl rfl rfl ⟨by omega, by omega⟩ ?_
            refine w_goto (t := 9) gz_226_76 rfl ?_
            refine w_weak (ls' := [(2, 151), (0, x1), (0, p20_0), (0, (p9_1 + 1)), (9, 0)]) (wk_e (wk_e (wk_e (wk_e (wk_9 wk_n))))) ?_
            exact ih_9_0 (p20_0) ((p9_1 + 1)) h20_0 (gh_20_0) (by omega) (by omega) (by omega) (by omega) (by omega) n_Mw_20_0 (by omega)
          ·
            refine w_iload_n gz_226_36 rfl ?_
            refine w_ifne (t := 61) gz_226_37 rfl (fun u6 => ?_) (fun u6 => ?_)
            ·
              exact J61_0 (p20_0) h20_0 (gh_20_0) (by omega) (by omega) (by omega) (by omega) (by omega) (by omega) (by omega) (by omega) (by omega) (by omega) (c151_32_20_0.trans (by omega)) n_Mw_20_0
            ·
              refine w_aload_n gz_226_40 rfl ?_
              refine w_getX (v := 168) gz_226_41 is_151 rd_10 rfl (by decide) rfl ?_
              refine w_bipush gz_226_44 (by decide) ?_
              refine w_aload_n gz_226_46 rfl ?_
              refine w_getX (v := 177) gz_226_47 is_151 rd_10 rfl (by decide) rfl ?_
              refine w_iload_n gz_226_50 rfl ?_
              refine w_iald gz_226_51 is_177 rd_76 (by omega) (by omega) (fun v9 ev9 pv9 qv9 => ?_)
              have zv9 := ev9.trans ev3.symm
              refine w_imul gz_226_52 ⟨by omega, by omega⟩ ?_
              refine w_iload gz_226_53 rfl ?_
              refine w_iadd gz_226_55 ⟨by omega, by omega⟩ ?_
              refine w_iald gz_226_56 is_168 rd_67 (by omega) (by omega) (fun v10 ev10 pv10 qv10 => ?_)
              refine w_iconst gz_226_57 (by decide) ?_
              refine w_icne (t := 65) gz_226_58 rfl (fun u11 => ?_) (fun u11 => ?_)
              ·
                refine w_iconst gz_226_65 (by decide) ?_
                refine w_istore_n (ls' := [(2, 151), (0, x1), (0, 0), (0, p9_1), (0, p20_1)]) gz_226_66 gm_226 rfl rfl rfl ?_
                refine w_iinc (ls' := [(2, 151), (0, x1), (0, 0), (0, p9_1), (0, (p20_1 + 1))]) gz_226_67 rfl gm_226 rfl rfl rfl ⟨by omega, by omega⟩ ?_
                refine w_goto (t := 20) gz_226_70 rfl ?_
                exact ih_20_0 (0) ((p20_1 + 1)) (p20_2) h20_0 (gh_20_0) (by omega) (by omega) (by omega) (by omega) (by omega) (by omega) (by omega) (by omega) (by omega) (by omega) (by omega) (c151_32_20_0.trans (by omega)) n_Mw_20_0 (by omega)
              ·
                exact J61_0 (p20_0) h20_0 (gh_20_0) (by omega) (by omega) (by omega) (by omega) (by omega) (by omega) (by omega) (by omega) (by omega) (by omega) (c151_32_20_0.trans (by omega)) n_Mw_20_0
      refine w_iload_n gz_226_9 rfl ?_
      refine w_aload_n gz_226_10 rfl ?_
      refine v_getI (j := 32) gz_226_11 rfl is_151 rd_10 rfl (fun v12 ev12 pv12 qv12 => ?_)
      refine w_icge (t := 79) gz_226_14 rfl (fun u13 => ?_) (fun u13 => ?_)
      ·
        refine w_iload_n gz_226_79 rfl ?_
        exact w_bret gz_226_80 gm_226 (by omega) (by omega) (k0 h9_0 (p9_0) (gh_9_0) (by omega) (by omega))
      ·
        refine w_iconst gz_226_17 (by decide) ?_
        refine w_istore (ls' := [(2, 151), (0, x1), (0, p9_0), (0, p9_1), (0, 0)]) gz_226_18 gm_226 rfl rfl rfl ?_
        exact J20_0 7 (p9_0) (0) (v12) h9_0 (gh_9_0) (by omega) (by omega) (by omega) (by omega) (by omega) (by omega) (by omega) (by omega) (by omega) (by omega) (by omega) (ev12.symm.trans (by omega)) n_Mw_9_0 (by omega)
  refine w_aload_n gz_226_0 rfl ?_
  refine w_iload_n gz_226_1 rfl ?_
  refine w_inv (k := 2) (as := [(0, x1)]) (r := []) (x := 151) (ls0 := [(2, 151), (0, x1), (9, 0), (9, 0)]) gz_226_2 gm_180 rfl is_151 rd_10 rfl rfl rfl rfl rfl (c_Model_findChain (d := d) (x1 := x1) (by omega) (by omega) n_Mw (by first | assumption | omega | (subst_vars; omega)) (fun h14 frh14 xp15 xp16 xp17 => ?_))
  have gh14 : my_fr [(10, 32), (10, 33), (76, -1)] h h14 := my_fr.tr my_fr.rf (frh14.mo rfl)
  have Mw_h14 : Mw h14 := Mw_ag (my_ag.fr frh14 rfl) n_Mw
  show wp l rho (d + 1) 226 5 [(2, 151), (0, x1), (9, 0), (9, 0), (9, 0)] [] h14 Q
  refine w_iconst gz_226_5 (by decide) ?_
  refine w_istore_n (ls' := [(2, 151), (0, x1), (0, 0), (9, 0), (9, 0)]) gz_226_6 gm_226 rfl rfl rfl ?_
  refine w_iconst gz_226_7 (by decide) ?_
  refine w_istore_n (ls' := [(2, 151), (0, x1), (0, 0), (0, 0), (9, 0)]) gz_226_8 gm_226 rfl rfl rfl ?_
  exact J9_0 7 (0) (0) h14 (gh14) (by omega) (by omega) (by omega) (by omega) (by omega) Mw_h14 (by omega)
theorem c_Desk_keep {l : Launch} {rho : Nat → Int32} {d : Nat} {h : my_H} {Q : my_H → my_V → Prop} {x1 x2 : Int} (a1 : 0 ≤ x1) (b1 : x1 ≤ 3) (a2 : 0 ≤ x2) (b2 : x2 ≤ 4) (n_Lst : Lst h) (hk1 : x1 = 1 → 0 ≤ h 111 2 ∧ 0 ≤ h 111 3 ∧ 0 ≤ h 111 4 ∧ 0 ≤ h 111 5) (hk2 : x1 = 2 → 0 ≤ h 111 2 ∧ 0 ≤ h 111 3) (hk3 : x1 = 3 → 0 ≤ h 111 2) (k0 : ∀ (h' : my_H), my_fr [(2, 11), (7, 0), (7, 1), (7, 2), (7, 3), (7, 4), (7, 5)] h h' → h' 111 2 = h 111 2 → h' 111 3 = h 111 3 → h' 111 4 = h 111 4 → Lst h' → Q h' (9, 0)) : wp l rho (d + 1) 94 0 [(2, 94), (0, x1), (0, x2)] [] h Q := by
  refine v_know (x := 111) (j := 2) (b := 2) rfl is_111 rd_7 rfl (fun k111_2 ek111_2 pk111_2 qk111_2 => ?_)
  refine v_know (x := 111) (j := 3) (b := 3) rfl is_111 rd_7 rfl (fun k111_3 ek111_3 pk111_3 qk111_3 => ?_)
  refine v_know (x := 111) (j := 4) (b := 4) rfl is_111 rd_7 rfl (fun k111_4 ek111_4 pk111_4 qk111_4 => ?_)
  refine v_know (x := 111) (j := 5) (b := 5) rfl is_111 rd_7 rfl (fun k111_5 ek111_5 pk111_5 qk111_5 => ?_)
  refine v_know (x := 112) (j := 1) (b := 1) rfl is_112 rd_7 rfl (fun k112_1 ek112_1 pk112_1 qk112_1 => ?_)
  refine v_know (x := 112) (j := 2) (b := 2) rfl is_112 rd_7 rfl (fun k112_2 ek112_2 pk112_2 qk112_2 => ?_)
  refine v_know (x := 112) (j := 3) (b := 3) rfl is_112 rd_7 rfl (fun k112_3 ek112_3 pk112_3 qk112_3 => ?_)
  refine v_know (x := 112) (j := 4) (b := 4) rfl is_112 rd_7 rfl (fun k112_4 ek112_4 pk112_4 qk112_4 => ?_)
  refine v_know (x := 112) (j := 5) (b := 5) rfl is_112 rd_7 rfl (fun k112_5 ek112_5 pk112_5 qk112_5 => ?_)
  refine w_aload_n gz_94_0 rfl ?_
  refine w_getX (v := 111) gz_94_1 is_94 rd_2 rfl (by decide) rfl ?_
  refine w_iload_n gz_94_4 rfl ?_
  refine v_putI (j := 1) gz_94_5 rfl is_111 rd_7 rfl (by omega) (by omega) rfl (fun h2 fh2 => ?_)
  have gh2 : my_fr [(2, 11), (7, 0), (7, 1), (7, 2), (7, 3), (7, 4), (7, 5)] h h2 := my_fr.up my_fr.rf is_111 fh2 rfl
  have Lst_h2 : Lst h2 := Lst_ne fh2 (by decide) n_Lst
  refine w_aload_n gz_94_8 rfl ?_
  refine w_getX (v := 111) gz_94_9 is_94 rd_2 rfl (by decide) rfl ?_
  refine w_iload_n gz_94_12 rfl ?_
  refine v_putA (j := 0) gz_94_13 rfl is_111 rd_7 rfl rfl (fun h4 fh4 => ?_)
  have gh4 : my_fr [(2, 11), (7, 0), (7, 1), (7, 2), (7, 3), (7, 4), (7, 5)] h h4 := my_fr.up gh2 is_111 fh4 rfl
  have Lst_h4 : Lst h4 := Lst_ne fh4 (by decide) Lst_h2
  refine w_aload_n gz_94_16 rfl ?_
  refine w_getX (v := 112) gz_94_17 is_94 rd_2 rfl (by decide) rfl ?_
  refine v_getI (j := 0) gz_94_20 rfl is_112 rd_7 rfl (fun v6 ev6 pv6 qv6 => ?_)
  refine w_iconst gz_94_23 (by decide) ?_
  refine w_iceq (t := 38) gz_94_24 rfl (fun u7 => ?_) (fun u7 => ?_)
  ·
    refine w_aload_n gz_94_38 rfl ?_
    refine w_getX (v := 112) gz_94_39 is_94 rd_2 rfl (by decide) rfl ?_
    refine w_aload_n gz_94_42 rfl ?_
    refine w_getX (v := 111) gz_94_43 is_94 rd_2 rfl (by decide) rfl ?_
    refine w_inv (k := 0) (as := [(2, 111)]) (r := []) (x := 112) (ls0 := [(2, 112), (2, 111)]) gz_94_46 gm_95 rfl is_112 rd_7 rfl rfl rfl rfl rfl ?_
    refine w_aload_n gz_95_0 rfl ?_
    refine w_aload_n gz_95_1 rfl ?_
    refine v_getI (j := 0) gz_95_2 rfl is_111 rd_7 rfl (fun v10 ev10 pv10 qv10 => ?_)
    have zv10 := ev10.trans (my_up_self fh4)
    refine v_putA (j := 0) gz_95_5 rfl is_112 rd_7 rfl rfl (fun h11 fh11 => ?_)
    have gh11 : my_fr [(2, 11), (7, 0), (7, 1), (7, 2), (7, 3), (7, 4), (7, 5)] h h11 := my_fr.up gh4 is_112 fh11 rfl
    refine w_aload_n gz_95_8 rfl ?_
    refine w_aload_n gz_95_9 rfl ?_
    refine v_getI (j := 1) gz_95_10 rfl is_111 rd_7 rfl (fun v12 ev12 pv12 qv12 => ?_)
    have zv12 := ev12.trans ((my_up_fld fh11 (by decide)).trans ((my_up_fld fh4 (by decide)).trans (my_up_self fh2)))
    refine v_putI (j := 1) gz_95_13 rfl is_112 rd_7 rfl (by omega) (by omega) rfl (fun h13 fh13 => ?_)
    have gh13 : my_fr [(2, 11), (7, 0), (7, 1), (7, 2), (7, 3), (7, 4), (7, 5)] h h13 := my_fr.up gh11 is_112 fh13 rfl
    refine w_aload_n gz_95_16 rfl ?_
    refine w_aload_n gz_95_17 rfl ?_
    refine v_getI (j := 2) gz_95_18 rfl is_111 rd_7 rfl (fun v14 ev14 pv14 qv14 => ?_)
    have zv14 := ev14.trans ((my_up_fld fh13 (by decide)).trans ((my_up_fld fh11 (by decide)).trans ((my_up_fld fh4 (by decide)).trans ((my_up_fld fh2 (by decide)).trans ek111_2.symm))))
    refine v_putI (j := 2) gz_95_21 rfl is_112 rd_7 rfl (by omega) (by omega) rfl (fun h15 fh15 => ?_)
    have gh15 : my_fr [(2, 11), (7, 0), (7, 1), (7, 2), (7, 3), (7, 4), (7, 5)] h h15 := my_fr.up gh13 is_112 fh15 rfl
    refine w_aload_n gz_95_24 rfl ?_
    refine w_aload_n gz_95_25 rfl ?_
    refine v_getI (j := 3) gz_95_26 rfl is_111 rd_7 rfl (fun v16 ev16 pv16 qv16 => ?_)
    have zv16 := ev16.trans ((my_up_fld fh15 (by decide)).trans ((my_up_fld fh13 (by decide)).trans ((my_up_fld fh11 (by decide)).trans ((my_up_fld fh4 (by decide)).trans ((my_up_fld fh2 (by decide)).trans ek111_3.symm)))))
    refine v_putI (j := 3) gz_95_29 rfl is_112 rd_7 rfl (by omega) (by omega) rfl (fun h17 fh17 => ?_)
    have gh17 : my_fr [(2, 11), (7, 0), (7, 1), (7, 2), (7, 3), (7, 4), (7, 5)] h h17 := my_fr.up gh15 is_112 fh17 rfl
    refine w_aload_n gz_95_32 rfl ?_
    refine w_aload_n gz_95_33 rfl ?_
    refine v_getI (j := 4) gz_95_34 rfl is_111 rd_7 rfl (fun v18 ev18 pv18 qv18 => ?_)
    have zv18 := ev18.trans ((my_up_fld fh17 (by decide)).trans ((my_up_fld fh15 (by decide)).trans ((my_up_fld fh13 (by decide)).trans ((my_up_fld fh11 (by decide)).trans ((my_up_fld fh4 (by decide)).trans ((my_up_fld fh2 (by decide)).trans ek111_4.symm))))))
    refine v_putI (j := 4) gz_95_37 rfl is_112 rd_7 rfl (by omega) (by omega) rfl (fun h19 fh19 => ?_)
    have gh19 : my_fr [(2, 11), (7, 0), (7, 1), (7, 2), (7, 3), (7, 4), (7, 5)] h h19 := my_fr.up gh17 is_112 fh19 rfl
    refine w_aload_n gz_95_40 rfl ?_
    refine w_aload_n gz_95_41 rfl ?_
    refine v_getI (j := 5) gz_95_42 rfl is_111 rd_7 rfl (fun v20 ev20 pv20 qv20 => ?_)
    have zv20 := ev20.trans ((my_up_fld fh19 (by decide)).trans ((my_up_fld fh17 (by decide)).trans ((my_up_fld fh15 (by decide)).trans ((my_up_fld fh13 (by decide)).trans ((my_up_fld fh11 (by decide)).trans ((my_up_fld fh4 (by decide)).trans ((my_up_fld fh2 (by decide)).trans ek111_5.symm)))))))
    refine v_putI (j := 5) gz_95_45 rfl is_112 rd_7 rfl (by omega) (by omega) rfl (fun h21 fh21 => ?_)
    have gh21 : my_fr [(2, 11), (7, 0), (7, 1), (7, 2), (7, 3), (7, 4), (7, 5)] h h21 := my_fr.up gh19 is_112 fh21 rfl
    refine w_vret gz_95_48 gm_95 ?_
    show wp l rho (d + 1) 94 49 [(2, 94), (0, x1), (0, x2)] [] h21 Q
    refine w_aload_n gz_94_49 rfl ?_
    refine v_getI (j := 11) gz_94_50 rfl is_94 rd_2 rfl (fun v22 ev22 pv22 qv22 => ?_)
    refine w_aload_n gz_94_53 rfl ?_
    refine v_getI (j := 12) gz_94_54 rfl is_94 rd_2 rfl (fun v23 ev23 pv23 qv23 => ?_)
    refine w_icne (t := 71) gz_94_57 rfl (fun u24 => ?_) (fun u24 => ?_)
    ·
      refine w_aload_n gz_94_71 rfl ?_
      refine w_dup gz_94_72 rfl ?_
      refine v_getI (j := 11) gz_94_73 rfl is_94 rd_2 rfl (fun v25 ev25 pv25 qv25 => ?_)
      have zv25 := ev25.trans ev22.symm
      refine w_iconst gz_94_76 (by decide) ?_
      refine w_ianyA gz_94_77 (fun v26 pv26 qv26 => ?_)
      refine v_putA (j := 11) gz_94_78 rfl is_94 rd_2 rfl rfl (fun h27 fh27 => ?_)
      have gh27 : my_fr [(2, 11), (7, 0), (7, 1), (7, 2), (7, 3), (7, 4), (7, 5)] h h27 := my_fr.up gh21 is_94 fh27 rfl
      have ce28 : h27 111 2 = v14 := ((my_up_role fh27 is_111 is_94 rfl).trans ((my_up_fld fh21 (by decide)).trans ((my_up_fld fh19 (by decide)).trans ((my_up_fld fh17 (by decide)).trans ((my_up_ne fh15 (by omega)).trans ev14.symm)))))
      have ce29 : h27 111 3 = v16 := ((my_up_role fh27 is_111 is_94 rfl).trans ((my_up_fld fh21 (by decide)).trans ((my_up_fld fh19 (by decide)).trans ((my_up_ne fh17 (by omega)).trans ev16.symm))))
      have ce30 : h27 111 4 = v18 := ((my_up_role fh27 is_111 is_94 rfl).trans ((my_up_fld fh21 (by decide)).trans ((my_up_ne fh19 (by omega)).trans ev18.symm)))
      have ce31 : h27 112 1 = v12 := ((my_up_role fh27 is_112 is_94 rfl).trans ((my_up_fld fh21 (by decide)).trans ((my_up_fld fh19 (by decide)).trans ((my_up_fld fh17 (by decide)).trans ((my_up_fld fh15 (by decide)).trans (my_up_self fh13))))))
      have ce32 : h27 112 2 = v14 := ((my_up_role fh27 is_112 is_94 rfl).trans ((my_up_fld fh21 (by decide)).trans ((my_up_fld fh19 (by decide)).trans ((my_up_fld fh17 (by decide)).trans (my_up_self fh15)))))
      have ce33 : h27 112 3 = v16 := ((my_up_role fh27 is_112 is_94 rfl).trans ((my_up_fld fh21 (by decide)).trans ((my_up_fld fh19 (by decide)).trans (my_up_self fh17))))
      have ce34 : h27 112 4 = v18 := ((my_up_role fh27 is_112 is_94 rfl).trans ((my_up_fld fh21 (by decide)).trans (my_up_self fh19)))
      have ce35 : h27 112 5 = v20 := ((my_up_role fh27 is_112 is_94 rfl).trans (my_up_self fh21))
      have Lst_h27t36 : Lst h27 := by have q := n_Lst; unfold Lst at q ⊢; omega
      exact w_vret gz_94_81 gm_94 (k0 h27 (gh27) (by first | assumption | omega | (subst_vars; omega)) (by first | assumption | omega | (subst_vars; omega)) (by first | assumption | omega | (subst_vars; omega)) Lst_h27t36)
    ·
      refine w_aload_n gz_94_60 rfl ?_
      refine w_getX (v := 113) gz_94_61 is_94 rd_2 rfl (by decide) rfl ?_
      refine w_aload_n gz_94_64 rfl ?_
      refine w_getX (v := 111) gz_94_65 is_94 rd_2 rfl (by decide) rfl ?_
      refine w_inv (k := 0) (as := [(2, 111)]) (r := []) (x := 113) (ls0 := [(2, 113), (2, 111)]) gz_94_68 gm_95 rfl is_113 rd_7 rfl rfl rfl rfl rfl ?_
      refine w_aload_n gz_95_0 rfl ?_
      refine w_aload_n gz_95_1 rfl ?_
      refine v_getI (j := 0) gz_95_2 rfl is_111 rd_7 rfl (fun v39 ev39 pv39 qv39 => ?_)
      have zv39 := ev39.trans ((my_up_fld fh21 (by decide)).trans ((my_up_fld fh19 (by decide)).trans ((my_up_fld fh17 (by decide)).trans ((my_up_fld fh15 (by decide)).trans ((my_up_fld fh13 (by decide)).trans ((my_up_ne fh11 (by omega)).trans ev10.symm))))))
      refine v_putA (j := 0) gz_95_5 rfl is_113 rd_7 rfl rfl (fun h40 fh40 => ?_)
      have gh40 : my_fr [(2, 11), (7, 0), (7, 1), (7, 2), (7, 3), (7, 4), (7, 5)] h h40 := my_fr.up gh21 is_113 fh40 rfl
      refine w_aload_n gz_95_8 rfl ?_
      refine w_aload_n gz_95_9 rfl ?_
      refine v_getI (j := 1) gz_95_10 rfl is_111 rd_7 rfl (fun v41 ev41 pv41 qv41 => ?_)
      have zv41 := ev41.trans ((my_up_fld fh40 (by decide)).trans ((my_up_fld fh21 (by decide)).trans ((my_up_fld fh19 (by decide)).trans ((my_up_fld fh17 (by decide)).trans ((my_up_fld fh15 (by decide)).trans ((my_up_ne fh13 (by omega)).trans ev12.symm))))))
      refine v_putI (j := 1) gz_95_13 rfl is_113 rd_7 rfl (by omega) (by omega) rfl (fun h42 fh42 => ?_)
      have gh42 : my_fr [(2, 11), (7, 0), (7, 1), (7, 2), (7, 3), (7, 4), (7, 5)] h h42 := my_fr.up gh40 is_113 fh42 rfl
      refine w_aload_n gz_95_16 rfl ?_
      refine w_aload_n gz_95_17 rfl ?_
      refine v_getI (j := 2) gz_95_18 rfl is_111 rd_7 rfl (fun v43 ev43 pv43 qv43 => ?_)
      have zv43 := ev43.trans ((my_up_fld fh42 (by decide)).trans ((my_up_fld fh40 (by decide)).trans ((my_up_fld fh21 (by decide)).trans ((my_up_fld fh19 (by decide)).trans ((my_up_fld fh17 (by decide)).trans ((my_up_ne fh15 (by omega)).trans ev14.symm))))))
      refine v_putI (j := 2) gz_95_21 rfl is_113 rd_7 rfl (by omega) (by omega) rfl (fun h44 fh44 => ?_)
      have gh44 : my_fr [(2, 11), (7, 0), (7, 1), (7, 2), (7, 3), (7, 4), (7, 5)] h h44 := my_fr.up gh42 is_113 fh44 rfl
      refine w_aload_n gz_95_24 rfl ?_
      refine w_aload_n gz_95_25 rfl ?_
      refine v_getI (j := 3) gz_95_26 rfl is_111 rd_7 rfl (fun v45 ev45 pv45 qv45 => ?_)
      have zv45 := ev45.trans ((my_up_fld fh44 (by decide)).trans ((my_up_fld fh42 (by decide)).trans ((my_up_fld fh40 (by decide)).trans ((my_up_fld fh21 (by decide)).trans ((my_up_fld fh19 (by decide)).trans ((my_up_ne fh17 (by omega)).trans ev16.symm))))))
      refine v_putI (j := 3) gz_95_29 rfl is_113 rd_7 rfl (by omega) (by omega) rfl (fun h46 fh46 => ?_)
      have gh46 : my_fr [(2, 11), (7, 0), (7, 1), (7, 2), (7, 3), (7, 4), (7, 5)] h h46 := my_fr.up gh44 is_113 fh46 rfl
      refine w_aload_n gz_95_32 rfl ?_
      refine w_aload_n gz_95_33 rfl ?_
      refine v_getI (j := 4) gz_95_34 rfl is_111 rd_7 rfl (fun v47 ev47 pv47 qv47 => ?_)
      have zv47 := ev47.trans ((my_up_fld fh46 (by decide)).trans ((my_up_fld fh44 (by decide)).trans ((my_up_fld fh42 (by decide)).trans ((my_up_fld fh40 (by decide)).trans ((my_up_fld fh21 (by decide)).trans ((my_up_ne fh19 (by omega)).trans ev18.symm))))))
      refine v_putI (j := 4) gz_95_37 rfl is_113 rd_7 rfl (by omega) (by omega) rfl (fun h48 fh48 => ?_)
      have gh48 : my_fr [(2, 11), (7, 0), (7, 1), (7, 2), (7, 3), (7, 4), (7, 5)] h h48 := my_fr.up gh46 is_113 fh48 rfl
      refine w_aload_n gz_95_40 rfl ?_
      refine w_aload_n gz_95_41 rfl ?_
      refine v_getI (j := 5) gz_95_42 rfl is_111 rd_7 rfl (fun v49 ev49 pv49 qv49 => ?_)
      have zv49 := ev49.trans ((my_up_fld fh48 (by decide)).trans ((my_up_fld fh46 (by decide)).trans ((my_up_fld fh44 (by decide)).trans ((my_up_fld fh42 (by decide)).trans ((my_up_fld fh40 (by decide)).trans ((my_up_ne fh21 (by omega)).trans ev20.symm))))))
      refine v_putI (j := 5) gz_95_45 rfl is_113 rd_7 rfl (by omega) (by omega) rfl (fun h50 fh50 => ?_)
      have gh50 : my_fr [(2, 11), (7, 0), (7, 1), (7, 2), (7, 3), (7, 4), (7, 5)] h h50 := my_fr.up gh48 is_113 fh50 rfl
      refine w_vret gz_95_48 gm_95 ?_
      show wp l rho (d + 1) 94 71 [(2, 94), (0, x1), (0, x2)] [] h50 Q
      refine w_aload_n gz_94_71 rfl ?_
      refine w_dup gz_94_72 rfl ?_
      refine v_getI (j := 11) gz_94_73 rfl is_94 rd_2 rfl (fun v51 ev51 pv51 qv51 => ?_)
      have zv51 := ev51.trans ((my_up_role fh50 is_94 is_113 rfl).trans ((my_up_role fh48 is_94 is_113 rfl).trans ((my_up_role fh46 is_94 is_113 rfl).trans ((my_up_role fh44 is_94 is_113 rfl).trans ((my_up_role fh42 is_94 is_113 rfl).trans ((my_up_role fh40 is_94 is_113 rfl).trans ev22.symm))))))
      refine w_iconst gz_94_76 (by decide) ?_
      refine w_ianyA gz_94_77 (fun v52 pv52 qv52 => ?_)
      refine v_putA (j := 11) gz_94_78 rfl is_94 rd_2 rfl rfl (fun h53 fh53 => ?_)
      have gh53 : my_fr [(2, 11), (7, 0), (7, 1), (7, 2), (7, 3), (7, 4), (7, 5)] h h53 := my_fr.up gh50 is_94 fh53 rfl
      have ce54 : h53 111 2 = v43 := ((my_up_role fh53 is_111 is_94 rfl).trans ((my_up_fld fh50 (by decide)).trans ((my_up_fld fh48 (by decide)).trans ((my_up_fld fh46 (by decide)).trans ((my_up_ne fh44 (by omega)).trans ev43.symm)))))
      have ce55 : h53 111 3 = v45 := ((my_up_role fh53 is_111 is_94 rfl).trans ((my_up_fld fh50 (by decide)).trans ((my_up_fld fh48 (by decide)).trans ((my_up_ne fh46 (by omega)).trans ev45.symm))))
      have ce56 : h53 111 4 = v47 := ((my_up_role fh53 is_111 is_94 rfl).trans ((my_up_fld fh50 (by decide)).trans ((my_up_ne fh48 (by omega)).trans ev47.symm)))
      have ce57 : h53 112 1 = v12 := ((my_up_role fh53 is_112 is_94 rfl).trans ((my_up_fld fh50 (by decide)).trans ((my_up_fld fh48 (by decide)).trans ((my_up_fld fh46 (by decide)).trans ((my_up_fld fh44 (by decide)).trans ((my_up_ne fh42 (by omega)).trans ((my_up_fld fh40 (by decide)).trans ((my_up_fld fh21 (by decide)).trans ((my_up_fld fh19 (by decide)).trans ((my_up_fld fh17 (by decide)).trans ((my_up_fld fh15 (by decide)).trans (my_up_self fh13))))))))))))
      have ce58 : h53 112 2 = v14 := ((my_up_role fh53 is_112 is_94 rfl).trans ((my_up_fld fh50 (by decide)).trans ((my_up_fld fh48 (by decide)).trans ((my_up_fld fh46 (by decide)).trans ((my_up_ne fh44 (by omega)).trans ((my_up_fld fh42 (by decide)).trans ((my_up_fld fh40 (by decide)).trans ((my_up_fld fh21 (by decide)).trans ((my_up_fld fh19 (by decide)).trans ((my_up_fld fh17 (by decide)).trans (my_up_self fh15)))))))))))
      have ce59 : h53 112 3 = v16 := ((my_up_role fh53 is_112 is_94 rfl).trans ((my_up_fld fh50 (by decide)).trans ((my_up_fld fh48 (by decide)).trans ((my_up_ne fh46 (by omega)).trans ((my_up_fld fh44 (by decide)).trans ((my_up_fld fh42 (by decide)).trans ((my_up_fld fh40 (by decide)).trans ((my_up_fld fh21 (by decide)).trans ((my_up_fld fh19 (by decide)).trans (my_up_self fh17))))))))))
      have ce60 : h53 112 4 = v18 := ((my_up_role fh53 is_112 is_94 rfl).trans ((my_up_fld fh50 (by decide)).trans ((my_up_ne fh48 (by omega)).trans ((my_up_fld fh46 (by decide)).trans ((my_up_fld fh44 (by decide)).trans ((my_up_fld fh42 (by decide)).trans ((my_up_fld fh40 (by decide)).trans ((my_up_fld fh21 (by decide)).trans (my_up_self fh19)))))))))
      have ce61 : h53 112 5 = v20 := ((my_up_role fh53 is_112 is_94 rfl).trans ((my_up_ne fh50 (by omega)).trans ((my_up_fld fh48 (by decide)).trans ((my_up_fld fh46 (by decide)).trans ((my_up_fld fh44 (by decide)).trans ((my_up_fld fh42 (by decide)).trans ((my_up_fld fh40 (by decide)).trans (my_up_self fh21))))))))
      have Lst_h53t62 : Lst h53 := by have q := n_Lst; unfold Lst at q ⊢; omega
      exact w_vret gz_94_81 gm_94 (k0 h53 (gh53) (by first | assumption | omega | (subst_vars; omega)) (by first | assumption | omega | (subst_vars; omega)) (by first | assumption | omega | (subst_vars; omega)) Lst_h53t62)
  ·
    refine w_iload_n gz_94_27 rfl ?_
    refine w_aload_n gz_94_28 rfl ?_
    refine w_getX (v := 112) gz_94_29 is_94 rd_2 rfl (by decide) rfl ?_
    refine v_getI (j := 0) gz_94_32 rfl is_112 rd_7 rfl (fun v64 ev64 pv64 qv64 => ?_)
    have zv64 := ev64.trans ev6.symm
    refine w_icge (t := 49) gz_94_35 rfl (fun u65 => ?_) (fun u65 => ?_)
    ·
      refine w_aload_n gz_94_49 rfl ?_
      refine v_getI (j := 11) gz_94_50 rfl is_94 rd_2 rfl (fun v66 ev66 pv66 qv66 => ?_)
      refine w_aload_n gz_94_53 rfl ?_
      refine v_getI (j := 12) gz_94_54 rfl is_94 rd_2 rfl (fun v67 ev67 pv67 qv67 => ?_)
      refine w_icne (t := 71) gz_94_57 rfl (fun u68 => ?_) (fun u68 => ?_)
      ·
        refine w_aload_n gz_94_71 rfl ?_
        refine w_dup gz_94_72 rfl ?_
        refine v_getI (j := 11) gz_94_73 rfl is_94 rd_2 rfl (fun v69 ev69 pv69 qv69 => ?_)
        have zv69 := ev69.trans ev66.symm
        refine w_iconst gz_94_76 (by decide) ?_
        refine w_ianyA gz_94_77 (fun v70 pv70 qv70 => ?_)
        refine v_putA (j := 11) gz_94_78 rfl is_94 rd_2 rfl rfl (fun h71 fh71 => ?_)
        have gh71 : my_fr [(2, 11), (7, 0), (7, 1), (7, 2), (7, 3), (7, 4), (7, 5)] h h71 := my_fr.up gh4 is_94 fh71 rfl
        have Lst_h71 : Lst h71 := Lst_ag (my_ag.up fh71 is_94 rfl) Lst_h4
        have ce72 : h71 111 2 = k111_2 := ((my_up_role fh71 is_111 is_94 rfl).trans ((my_up_fld fh4 (by decide)).trans ((my_up_fld fh2 (by decide)).trans ek111_2.symm)))
        have ce73 : h71 111 3 = k111_3 := ((my_up_role fh71 is_111 is_94 rfl).trans ((my_up_fld fh4 (by decide)).trans ((my_up_fld fh2 (by decide)).trans ek111_3.symm)))
        have ce74 : h71 111 4 = k111_4 := ((my_up_role fh71 is_111 is_94 rfl).trans ((my_up_fld fh4 (by decide)).trans ((my_up_fld fh2 (by decide)).trans ek111_4.symm)))
        have ce75 : h71 112 1 = k112_1 := ((my_up_role fh71 is_112 is_94 rfl).trans ((my_up_fld fh4 (by decide)).trans ((my_up_ne fh2 (by omega)).trans ek112_1.symm)))
        have ce76 : h71 112 2 = k112_2 := ((my_up_role fh71 is_112 is_94 rfl).trans ((my_up_fld fh4 (by decide)).trans ((my_up_fld fh2 (by decide)).trans ek112_2.symm)))
        have ce77 : h71 112 3 = k112_3 := ((my_up_role fh71 is_112 is_94 rfl).trans ((my_up_fld fh4 (by decide)).trans ((my_up_fld fh2 (by decide)).trans ek112_3.symm)))
        have ce78 : h71 112 4 = k112_4 := ((my_up_role fh71 is_112 is_94 rfl).trans ((my_up_fld fh4 (by decide)).trans ((my_up_fld fh2 (by decide)).trans ek112_4.symm)))
        have ce79 : h71 112 5 = k112_5 := ((my_up_role fh71 is_112 is_94 rfl).trans ((my_up_fld fh4 (by decide)).trans ((my_up_fld fh2 (by decide)).trans ek112_5.symm)))
        have Lst_h71t80 : Lst h71 := by have q := n_Lst; unfold Lst at q ⊢; omega
        exact w_vret gz_94_81 gm_94 (k0 h71 (gh71) (by first | assumption | omega | (subst_vars; omega)) (by first | assumption | omega | (subst_vars; omega)) (by first | assumption | omega | (subst_vars; omega)) Lst_h71t80)
      ·
        refine w_aload_n gz_94_60 rfl ?_
        refine w_getX (v := 113) gz_94_61 is_94 rd_2 rfl (by decide) rfl ?_
        refine w_aload_n gz_94_64 rfl ?_
        refine w_getX (v := 111) gz_94_65 is_94 rd_2 rfl (by decide) rfl ?_
        refine w_inv (k := 0) (as := [(2, 111)]) (r := []) (x := 113) (ls0 := [(2, 113), (2, 111)]) gz_94_68 gm_95 rfl is_113 rd_7 rfl rfl rfl rfl rfl ?_
        refine w_aload_n gz_95_0 rfl ?_
        refine w_aload_n gz_95_1 rfl ?_
        refine v_getI (j := 0) gz_95_2 rfl is_111 rd_7 rfl (fun v83 ev83 pv83 qv83 => ?_)
        have zv83 := ev83.trans (my_up_self fh4)
        refine v_putA (j := 0) gz_95_5 rfl is_113 rd_7 rfl rfl (fun h84 fh84 => ?_)
        have gh84 : my_fr [(2, 11), (7, 0), (7, 1), (7, 2), (7, 3), (7, 4), (7, 5)] h h84 := my_fr.up gh4 is_113 fh84 rfl
        have Lst_h84 : Lst h84 := Lst_ne fh84 (by decide) Lst_h4
        refine w_aload_n gz_95_8 rfl ?_
        refine w_aload_n gz_95_9 rfl ?_
        refine v_getI (j := 1) gz_95_10 rfl is_111 rd_7 rfl (fun v85 ev85 pv85 qv85 => ?_)
        have zv85 := ev85.trans ((my_up_fld fh84 (by decide)).trans ((my_up_fld fh4 (by decide)).trans (my_up_self fh2)))
        refine v_putI (j := 1) gz_95_13 rfl is_113 rd_7 rfl (by omega) (by omega) rfl (fun h86 fh86 => ?_)
        have gh86 : my_fr [(2, 11), (7, 0), (7, 1), (7, 2), (7, 3), (7, 4), (7, 5)] h h86 := my_fr.up gh84 is_113 fh86 rfl
        have Lst_h86 : Lst h86 := Lst_ne fh86 (by decide) Lst_h84
        refine w_aload_n gz_95_16 rfl ?_
        refine w_aload_n gz_95_17 rfl ?_
        refine v_getI (j := 2) gz_95_18 rfl is_111 rd_7 rfl (fun v87 ev87 pv87 qv87 => ?_)
        have zv87 := ev87.trans ((my_up_fld fh86 (by decide)).trans ((my_up_fld fh84 (by decide)).trans ((my_up_fld fh4 (by decide)).trans ((my_up_fld fh2 (by decide)).trans ek111_2.symm))))
        refine v_putI (j := 2) gz_95_21 rfl is_113 rd_7 rfl (by omega) (by omega) rfl (fun h88 fh88 => ?_)
        have gh88 : my_fr [(2, 11), (7, 0), (7, 1), (7, 2), (7, 3), (7, 4), (7, 5)] h h88 := my_fr.up gh86 is_113 fh88 rfl
        have Lst_h88 : Lst h88 := Lst_ne fh88 (by decide) Lst_h86
        refine w_aload_n gz_95_24 rfl ?_
        refine w_aload_n gz_95_25 rfl ?_
        refine v_getI (j := 3) gz_95_26 rfl is_111 rd_7 rfl (fun v89 ev89 pv89 qv89 => ?_)
        have zv89 := ev89.trans ((my_up_fld fh88 (by decide)).trans ((my_up_fld fh86 (by decide)).trans ((my_up_fld fh84 (by decide)).trans ((my_up_fld fh4 (by decide)).trans ((my_up_fld fh2 (by decide)).trans ek111_3.symm)))))
        refine v_putI (j := 3) gz_95_29 rfl is_113 rd_7 rfl (by omega) (by omega) rfl (fun h90 fh90 => ?_)
        have gh90 : my_fr [(2, 11), (7, 0), (7, 1), (7, 2), (7, 3), (7, 4), (7, 5)] h h90 := my_fr.up gh88 is_113 fh90 rfl
        have Lst_h90 : Lst h90 := Lst_ne fh90 (by decide) Lst_h88
        refine w_aload_n gz_95_32 rfl ?_
        refine w_aload_n gz_95_33 rfl ?_
        refine v_getI (j := 4) gz_95_34 rfl is_111 rd_7 rfl (fun v91 ev91 pv91 qv91 => ?_)
        have zv91 := ev91.trans ((my_up_fld fh90 (by decide)).trans ((my_up_fld fh88 (by decide)).trans ((my_up_fld fh86 (by decide)).trans ((my_up_fld fh84 (by decide)).trans ((my_up_fld fh4 (by decide)).trans ((my_up_fld fh2 (by decide)).trans ek111_4.symm))))))
        refine v_putI (j := 4) gz_95_37 rfl is_113 rd_7 rfl (by omega) (by omega) rfl (fun h92 fh92 => ?_)
        have gh92 : my_fr [(2, 11), (7, 0), (7, 1), (7, 2), (7, 3), (7, 4), (7, 5)] h h92 := my_fr.up gh90 is_113 fh92 rfl
        have Lst_h92 : Lst h92 := Lst_ne fh92 (by decide) Lst_h90
        refine w_aload_n gz_95_40 rfl ?_
        refine w_aload_n gz_95_41 rfl ?_
        refine v_getI (j := 5) gz_95_42 rfl is_111 rd_7 rfl (fun v93 ev93 pv93 qv93 => ?_)
        have zv93 := ev93.trans ((my_up_fld fh92 (by decide)).trans ((my_up_fld fh90 (by decide)).trans ((my_up_fld fh88 (by decide)).trans ((my_up_fld fh86 (by decide)).trans ((my_up_fld fh84 (by decide)).trans ((my_up_fld fh4 (by decide)).trans ((my_up_fld fh2 (by decide)).trans ek111_5.symm)))))))
        refine v_putI (j := 5) gz_95_45 rfl is_113 rd_7 rfl (by omega) (by omega) rfl (fun h94 fh94 => ?_)
        have gh94 : my_fr [(2, 11), (7, 0), (7, 1), (7, 2), (7, 3), (7, 4), (7, 5)] h h94 := my_fr.up gh92 is_113 fh94 rfl
        have Lst_h94 : Lst h94 := Lst_ne fh94 (by decide) Lst_h92
        refine w_vret gz_95_48 gm_95 ?_
        show wp l rho (d + 1) 94 71 [(2, 94), (0, x1), (0, x2)] [] h94 Q
        refine w_aload_n gz_94_71 rfl ?_
        refine w_dup gz_94_72 rfl ?_
        refine v_getI (j := 11) gz_94_73 rfl is_94 rd_2 rfl (fun v95 ev95 pv95 qv95 => ?_)
        have zv95 := ev95.trans ((my_up_role fh94 is_94 is_113 rfl).trans ((my_up_role fh92 is_94 is_113 rfl).trans ((my_up_role fh90 is_94 is_113 rfl).trans ((my_up_role fh88 is_94 is_113 rfl).trans ((my_up_role fh86 is_94 is_113 rfl).trans ((my_up_role fh84 is_94 is_113 rfl).trans ev66.symm))))))
        refine w_iconst gz_94_76 (by decide) ?_
        refine w_ianyA gz_94_77 (fun v96 pv96 qv96 => ?_)
        refine v_putA (j := 11) gz_94_78 rfl is_94 rd_2 rfl rfl (fun h97 fh97 => ?_)
        have gh97 : my_fr [(2, 11), (7, 0), (7, 1), (7, 2), (7, 3), (7, 4), (7, 5)] h h97 := my_fr.up gh94 is_94 fh97 rfl
        have Lst_h97 : Lst h97 := Lst_ag (my_ag.up fh97 is_94 rfl) Lst_h94
        have ce98 : h97 111 2 = v87 := ((my_up_role fh97 is_111 is_94 rfl).trans ((my_up_fld fh94 (by decide)).trans ((my_up_fld fh92 (by decide)).trans ((my_up_fld fh90 (by decide)).trans ((my_up_ne fh88 (by omega)).trans ev87.symm)))))
        have ce99 : h97 111 3 = v89 := ((my_up_role fh97 is_111 is_94 rfl).trans ((my_up_fld fh94 (by decide)).trans ((my_up_fld fh92 (by decide)).trans ((my_up_ne fh90 (by omega)).trans ev89.symm))))
        have ce100 : h97 111 4 = v91 := ((my_up_role fh97 is_111 is_94 rfl).trans ((my_up_fld fh94 (by decide)).trans ((my_up_ne fh92 (by omega)).trans ev91.symm)))
        have ce101 : h97 112 1 = k112_1 := ((my_up_role fh97 is_112 is_94 rfl).trans ((my_up_fld fh94 (by decide)).trans ((my_up_fld fh92 (by decide)).trans ((my_up_fld fh90 (by decide)).trans ((my_up_fld fh88 (by decide)).trans ((my_up_ne fh86 (by omega)).trans ((my_up_fld fh84 (by decide)).trans ((my_up_fld fh4 (by decide)).trans ((my_up_ne fh2 (by omega)).trans ek112_1.symm)))))))))
        have ce102 : h97 112 2 = k112_2 := ((my_up_role fh97 is_112 is_94 rfl).trans ((my_up_fld fh94 (by decide)).trans ((my_up_fld fh92 (by decide)).trans ((my_up_fld fh90 (by decide)).trans ((my_up_ne fh88 (by omega)).trans ((my_up_fld fh86 (by decide)).trans ((my_up_fld fh84 (by decide)).trans ((my_up_fld fh4 (by decide)).trans ((my_up_fld fh2 (by decide)).trans ek112_2.symm)))))))))
        have ce103 : h97 112 3 = k112_3 := ((my_up_role fh97 is_112 is_94 rfl).trans ((my_up_fld fh94 (by decide)).trans ((my_up_fld fh92 (by decide)).trans ((my_up_ne fh90 (by omega)).trans ((my_up_fld fh88 (by decide)).trans ((my_up_fld fh86 (by decide)).trans ((my_up_fld fh84 (by decide)).trans ((my_up_fld fh4 (by decide)).trans ((my_up_fld fh2 (by decide)).trans ek112_3.symm)))))))))
        have ce104 : h97 112 4 = k112_4 := ((my_up_role fh97 is_112 is_94 rfl).trans ((my_up_fld fh94 (by decide)).trans ((my_up_ne fh92 (by omega)).trans ((my_up_fld fh90 (by decide)).trans ((my_up_fld fh88 (by decide)).trans ((my_up_fld fh86 (by decide)).trans ((my_up_fld fh84 (by decide)).trans ((my_up_fld fh4 (by decide)).trans ((my_up_fld fh2 (by decide)).trans ek112_4.symm)))))))))
        have ce105 : h97 112 5 = k112_5 := ((my_up_role fh97 is_112 is_94 rfl).trans ((my_up_ne fh94 (by omega)).trans ((my_up_fld fh92 (by decide)).trans ((my_up_fld fh90 (by decide)).trans ((my_up_fld fh88 (by decide)).trans ((my_up_fld fh86 (by decide)).trans ((my_up_fld fh84 (by decide)).trans ((my_up_fld fh4 (by decide)).trans ((my_up_fld fh2 (by decide)).trans ek112_5.symm)))))))))
        have Lst_h97t106 : Lst h97 := by have q := n_Lst; unfold Lst at q ⊢; omega
        exact w_vret gz_94_81 gm_94 (k0 h97 (gh97) (by first | assumption | omega | (subst_vars; omega)) (by first | assumption | omega | (subst_vars; omega)) (by first | assumption | omega | (subst_vars; omega)) Lst_h97t106)
    ·
      refine w_aload_n gz_94_38 rfl ?_
      refine w_getX (v := 112) gz_94_39 is_94 rd_2 rfl (by decide) rfl ?_
      refine w_aload_n gz_94_42 rfl ?_
      refine w_getX (v := 111) gz_94_43 is_94 rd_2 rfl (by decide) rfl ?_
      refine w_inv (k := 0) (as := [(2, 111)]) (r := []) (x := 112) (ls0 := [(2, 112), (2, 111)]) gz_94_46 gm_95 rfl is_112 rd_7 rfl rfl rfl rfl rfl ?_
      refine w_aload_n gz_95_0 rfl ?_
      refine w_aload_n gz_95_1 rfl ?_
      refine v_getI (j := 0) gz_95_2 rfl is_111 rd_7 rfl (fun v109 ev109 pv109 qv109 => ?_)
      have zv109 := ev109.trans (my_up_self fh4)
      refine v_putA (j := 0) gz_95_5 rfl is_112 rd_7 rfl rfl (fun h110 fh110 => ?_)
      have gh110 : my_fr [(2, 11), (7, 0), (7, 1), (7, 2), (7, 3), (7, 4), (7, 5)] h h110 := my_fr.up gh4 is_112 fh110 rfl
      refine w_aload_n gz_95_8 rfl ?_
      refine w_aload_n gz_95_9 rfl ?_
      refine v_getI (j := 1) gz_95_10 rfl is_111 rd_7 rfl (fun v111 ev111 pv111 qv111 => ?_)
      have zv111 := ev111.trans ((my_up_fld fh110 (by decide)).trans ((my_up_fld fh4 (by decide)).trans (my_up_self fh2)))
      refine v_putI (j := 1) gz_95_13 rfl is_112 rd_7 rfl (by omega) (by omega) rfl (fun h112 fh112 => ?_)
      have gh112 : my_fr [(2, 11), (7, 0), (7, 1), (7, 2), (7, 3), (7, 4), (7, 5)] h h112 := my_fr.up gh110 is_112 fh112 rfl
      refine w_aload_n gz_95_16 rfl ?_
      refine w_aload_n gz_95_17 rfl ?_
      refine v_getI (j := 2) gz_95_18 rfl is_111 rd_7 rfl (fun v113 ev113 pv113 qv113 => ?_)
      have zv113 := ev113.trans ((my_up_fld fh112 (by decide)).trans ((my_up_fld fh110 (by decide)).trans ((my_up_fld fh4 (by decide)).trans ((my_up_fld fh2 (by decide)).trans ek111_2.symm))))
      refine v_putI (j := 2) gz_95_21 rfl is_112 rd_7 rfl (by omega) (by omega) rfl (fun h114 fh114 => ?_)
      have gh114 : my_fr [(2, 11), (7, 0), (7, 1), (7, 2), (7, 3), (7, 4), (7, 5)] h h114 := my_fr.up gh112 is_112 fh114 rfl
      refine w_aload_n gz_95_24 rfl ?_
      refine w_aload_n gz_95_25 rfl ?_
      refine v_getI (j := 3) gz_95_26 rfl is_111 rd_7 rfl (fun v115 ev115 pv115 qv115 => ?_)
      have zv115 := ev115.trans ((my_up_fld fh114 (by decide)).trans ((my_up_fld fh112 (by decide)).trans ((my_up_fld fh110 (by decide)).trans ((my_up_fld fh4 (by decide)).trans ((my_up_fld fh2 (by decide)).trans ek111_3.symm)))))
      refine v_putI (j := 3) gz_95_29 rfl is_112 rd_7 rfl (by omega) (by omega) rfl (fun h116 fh116 => ?_)
      have gh116 : my_fr [(2, 11), (7, 0), (7, 1), (7, 2), (7, 3), (7, 4), (7, 5)] h h116 := my_fr.up gh114 is_112 fh116 rfl
      refine w_aload_n gz_95_32 rfl ?_
      refine w_aload_n gz_95_33 rfl ?_
      refine v_getI (j := 4) gz_95_34 rfl is_111 rd_7 rfl (fun v117 ev117 pv117 qv117 => ?_)
      have zv117 := ev117.trans ((my_up_fld fh116 (by decide)).trans ((my_up_fld fh114 (by decide)).trans ((my_up_fld fh112 (by decide)).trans ((my_up_fld fh110 (by decide)).trans ((my_up_fld fh4 (by decide)).trans ((my_up_fld fh2 (by decide)).trans ek111_4.symm))))))
      refine v_putI (j := 4) gz_95_37 rfl is_112 rd_7 rfl (by omega) (by omega) rfl (fun h118 fh118 => ?_)
      have gh118 : my_fr [(2, 11), (7, 0), (7, 1), (7, 2), (7, 3), (7, 4), (7, 5)] h h118 := my_fr.up gh116 is_112 fh118 rfl
      refine w_aload_n gz_95_40 rfl ?_
      refine w_aload_n gz_95_41 rfl ?_
      refine v_getI (j := 5) gz_95_42 rfl is_111 rd_7 rfl (fun v119 ev119 pv119 qv119 => ?_)
      have zv119 := ev119.trans ((my_up_fld fh118 (by decide)).trans ((my_up_fld fh116 (by decide)).trans ((my_up_fld fh114 (by decide)).trans ((my_up_fld fh112 (by decide)).trans ((my_up_fld fh110 (by decide)).trans ((my_up_fld fh4 (by decide)).trans ((my_up_fld fh2 (by decide)).trans ek111_5.symm)))))))
      refine v_putI (j := 5) gz_95_45 rfl is_112 rd_7 rfl (by omega) (by omega) rfl (fun h120 fh120 => ?_)
      have gh120 : my_fr [(2, 11), (7, 0), (7, 1), (7, 2), (7, 3), (7, 4), (7, 5)] h h120 := my_fr.up gh118 is_112 fh120 rfl
      refine w_vret gz_95_48 gm_95 ?_
      show wp l rho (d + 1) 94 49 [(2, 94), (0, x1), (0, x2)] [] h120 Q
      refine w_aload_n gz_94_49 rfl ?_
      refine v_getI (j := 11) gz_94_50 rfl is_94 rd_2 rfl (fun v121 ev121 pv121 qv121 => ?_)
      refine w_aload_n gz_94_53 rfl ?_
      refine v_getI (j := 12) gz_94_54 rfl is_94 rd_2 rfl (fun v122 ev122 pv122 qv122 => ?_)
      refine w_icne (t := 71) gz_94_57 rfl (fun u123 => ?_) (fun u123 => ?_)
      ·
        refine w_aload_n gz_94_71 rfl ?_
        refine w_dup gz_94_72 rfl ?_
        refine v_getI (j := 11) gz_94_73 rfl is_94 rd_2 rfl (fun v124 ev124 pv124 qv124 => ?_)
        have zv124 := ev124.trans ev121.symm
        refine w_iconst gz_94_76 (by decide) ?_
        refine w_ianyA gz_94_77 (fun v125 pv125 qv125 => ?_)
        refine v_putA (j := 11) gz_94_78 rfl is_94 rd_2 rfl rfl (fun h126 fh126 => ?_)
        have gh126 : my_fr [(2, 11), (7, 0), (7, 1), (7, 2), (7, 3), (7, 4), (7, 5)] h h126 := my_fr.up gh120 is_94 fh126 rfl
        have ce127 : h126 111 2 = v113 := ((my_up_role fh126 is_111 is_94 rfl).trans ((my_up_fld fh120 (by decide)).trans ((my_up_fld fh118 (by decide)).trans ((my_up_fld fh116 (by decide)).trans ((my_up_ne fh114 (by omega)).trans ev113.symm)))))
        have ce128 : h126 111 3 = v115 := ((my_up_role fh126 is_111 is_94 rfl).trans ((my_up_fld fh120 (by decide)).trans ((my_up_fld fh118 (by decide)).trans ((my_up_ne fh116 (by omega)).trans ev115.symm))))
        have ce129 : h126 111 4 = v117 := ((my_up_role fh126 is_111 is_94 rfl).trans ((my_up_fld fh120 (by decide)).trans ((my_up_ne fh118 (by omega)).trans ev117.symm)))
        have ce130 : h126 112 1 = v111 := ((my_up_role fh126 is_112 is_94 rfl).trans ((my_up_fld fh120 (by decide)).trans ((my_up_fld fh118 (by decide)).trans ((my_up_fld fh116 (by decide)).trans ((my_up_fld fh114 (by decide)).trans (my_up_self fh112))))))
        have ce131 : h126 112 2 = v113 := ((my_up_role fh126 is_112 is_94 rfl).trans ((my_up_fld fh120 (by decide)).trans ((my_up_fld fh118 (by decide)).trans ((my_up_fld fh116 (by decide)).trans (my_up_self fh114)))))
        have ce132 : h126 112 3 = v115 := ((my_up_role fh126 is_112 is_94 rfl).trans ((my_up_fld fh120 (by decide)).trans ((my_up_fld fh118 (by decide)).trans (my_up_self fh116))))
        have ce133 : h126 112 4 = v117 := ((my_up_role fh126 is_112 is_94 rfl).trans ((my_up_fld fh120 (by decide)).trans (my_up_self fh118)))
        have ce134 : h126 112 5 = v119 := ((my_up_role fh126 is_112 is_94 rfl).trans (my_up_self fh120))
        have Lst_h126t135 : Lst h126 := by have q := n_Lst; unfold Lst at q ⊢; omega
        exact w_vret gz_94_81 gm_94 (k0 h126 (gh126) (by first | assumption | omega | (subst_vars; omega)) (by first | assumption | omega | (subst_vars; omega)) (by first | assumption | omega | (subst_vars; omega)) Lst_h126t135)
      ·
        refine w_aload_n gz_94_60 rfl ?_
        refine w_getX (v := 113) gz_94_61 is_94 rd_2 rfl (by decide) rfl ?_
        refine w_aload_n gz_94_64 rfl ?_
        refine w_getX (v := 111) gz_94_65 is_94 rd_2 rfl (by decide) rfl ?_
        refine w_inv (k := 0) (as := [(2, 111)]) (r := []) (x := 113) (ls0 := [(2, 113), (2, 111)]) gz_94_68 gm_95 rfl is_113 rd_7 rfl rfl rfl rfl rfl ?_
        refine w_aload_n gz_95_0 rfl ?_
        refine w_aload_n gz_95_1 rfl ?_
        refine v_getI (j := 0) gz_95_2 rfl is_111 rd_7 rfl (fun v138 ev138 pv138 qv138 => ?_)
        have zv138 := ev138.trans ((my_up_fld fh120 (by decide)).trans ((my_up_fld fh118 (by decide)).trans ((my_up_fld fh116 (by decide)).trans ((my_up_fld fh114 (by decide)).trans ((my_up_fld fh112 (by decide)).trans ((my_up_ne fh110 (by omega)).trans ev109.symm))))))
        refine v_putA (j := 0) gz_95_5 rfl is_113 rd_7 rfl rfl (fun h139 fh139 => ?_)
        have gh139 : my_fr [(2, 11), (7, 0), (7, 1), (7, 2), (7, 3), (7, 4), (7, 5)] h h139 := my_fr.up gh120 is_113 fh139 rfl
        refine w_aload_n gz_95_8 rfl ?_
        refine w_aload_n gz_95_9 rfl ?_
        refine v_getI (j := 1) gz_95_10 rfl is_111 rd_7 rfl (fun v140 ev140 pv140 qv140 => ?_)
        have zv140 := ev140.trans ((my_up_fld fh139 (by decide)).trans ((my_up_fld fh120 (by decide)).trans ((my_up_fld fh118 (by decide)).trans ((my_up_fld fh116 (by decide)).trans ((my_up_fld fh114 (by decide)).trans ((my_up_ne fh112 (by omega)).trans ev111.symm))))))
        refine v_putI (j := 1) gz_95_13 rfl is_113 rd_7 rfl (by omega) (by omega) rfl (fun h141 fh141 => ?_)
        have gh141 : my_fr [(2, 11), (7, 0), (7, 1), (7, 2), (7, 3), (7, 4), (7, 5)] h h141 := my_fr.up gh139 is_113 fh141 rfl
        refine w_aload_n gz_95_16 rfl ?_
        refine w_aload_n gz_95_17 rfl ?_
        refine v_getI (j := 2) gz_95_18 rfl is_111 rd_7 rfl (fun v142 ev142 pv142 qv142 => ?_)
        have zv142 := ev142.trans ((my_up_fld fh141 (by decide)).trans ((my_up_fld fh139 (by decide)).trans ((my_up_fld fh120 (by decide)).trans ((my_up_fld fh118 (by decide)).trans ((my_up_fld fh116 (by decide)).trans ((my_up_ne fh114 (by omega)).trans ev113.symm))))))
        refine v_putI (j := 2) gz_95_21 rfl is_113 rd_7 rfl (by omega) (by omega) rfl (fun h143 fh143 => ?_)
        have gh143 : my_fr [(2, 11), (7, 0), (7, 1), (7, 2), (7, 3), (7, 4), (7, 5)] h h143 := my_fr.up gh141 is_113 fh143 rfl
        refine w_aload_n gz_95_24 rfl ?_
        refine w_aload_n gz_95_25 rfl ?_
        refine v_getI (j := 3) gz_95_26 rfl is_111 rd_7 rfl (fun v144 ev144 pv144 qv144 => ?_)
        have zv144 := ev144.trans ((my_up_fld fh143 (by decide)).trans ((my_up_fld fh141 (by decide)).trans ((my_up_fld fh139 (by decide)).trans ((my_up_fld fh120 (by decide)).trans ((my_up_fld fh118 (by decide)).trans ((my_up_ne fh116 (by omega)).trans ev115.symm))))))
        refine v_putI (j := 3) gz_95_29 rfl is_113 rd_7 rfl (by omega) (by omega) rfl (fun h145 fh145 => ?_)
        have gh145 : my_fr [(2, 11), (7, 0), (7, 1), (7, 2), (7, 3), (7, 4), (7, 5)] h h145 := my_fr.up gh143 is_113 fh145 rfl
        refine w_aload_n gz_95_32 rfl ?_
        refine w_aload_n gz_95_33 rfl ?_
        refine v_getI (j := 4) gz_95_34 rfl is_111 rd_7 rfl (fun v146 ev146 pv146 qv146 => ?_)
        have zv146 := ev146.trans ((my_up_fld fh145 (by decide)).trans ((my_up_fld fh143 (by decide)).trans ((my_up_fld fh141 (by decide)).trans ((my_up_fld fh139 (by decide)).trans ((my_up_fld fh120 (by decide)).trans ((my_up_ne fh118 (by omega)).trans ev117.symm))))))
        refine v_putI (j := 4) gz_95_37 rfl is_113 rd_7 rfl (by omega) (by omega) rfl (fun h147 fh147 => ?_)
        have gh147 : my_fr [(2, 11), (7, 0), (7, 1), (7, 2), (7, 3), (7, 4), (7, 5)] h h147 := my_fr.up gh145 is_113 fh147 rfl
        refine w_aload_n gz_95_40 rfl ?_
        refine w_aload_n gz_95_41 rfl ?_
        refine v_getI (j := 5) gz_95_42 rfl is_111 rd_7 rfl (fun v148 ev148 pv148 qv148 => ?_)
        have zv148 := ev148.trans ((my_up_fld fh147 (by decide)).trans ((my_up_fld fh145 (by decide)).trans ((my_up_fld fh143 (by decide)).trans ((my_up_fld fh141 (by decide)).trans ((my_up_fld fh139 (by decide)).trans ((my_up_ne fh120 (by omega)).trans ev119.symm))))))
        refine v_putI (j := 5) gz_95_45 rfl is_113 rd_7 rfl (by omega) (by omega) rfl (fun h149 fh149 => ?_)
        have gh149 : my_fr [(2, 11), (7, 0), (7, 1), (7, 2), (7, 3), (7, 4), (7, 5)] h h149 := my_fr.up gh147 is_113 fh149 rfl
        refine w_vret gz_95_48 gm_95 ?_
        show wp l rho (d + 1) 94 71 [(2, 94), (0, x1), (0, x2)] [] h149 Q
        refine w_aload_n gz_94_71 rfl ?_
        refine w_dup gz_94_72 rfl ?_
        refine v_getI (j := 11) gz_94_73 rfl is_94 rd_2 rfl (fun v150 ev150 pv150 qv150 => ?_)
        have zv150 := ev150.trans ((my_up_role fh149 is_94 is_113 rfl).trans ((my_up_role fh147 is_94 is_113 rfl).trans ((my_up_role fh145 is_94 is_113 rfl).trans ((my_up_role fh143 is_94 is_113 rfl).trans ((my_up_role fh141 is_94 is_113 rfl).trans ((my_up_role fh139 is_94 is_113 rfl).trans ev121.symm))))))
        refine w_iconst gz_94_76 (by decide) ?_
        refine w_ianyA gz_94_77 (fun v151 pv151 qv151 => ?_)
        refine v_putA (j := 11) gz_94_78 rfl is_94 rd_2 rfl rfl (fun h152 fh152 => ?_)
        have gh152 : my_fr [(2, 11), (7, 0), (7, 1), (7, 2), (7, 3), (7, 4), (7, 5)] h h152 := my_fr.up gh149 is_94 fh152 rfl
        have ce153 : h152 111 2 = v142 := ((my_up_role fh152 is_111 is_94 rfl).trans ((my_up_fld fh149 (by decide)).trans ((my_up_fld fh147 (by decide)).trans ((my_up_fld fh145 (by decide)).trans ((my_up_ne fh143 (by omega)).trans ev142.symm)))))
        have ce154 : h152 111 3 = v144 := ((my_up_role fh152 is_111 is_94 rfl).trans ((my_up_fld fh149 (by decide)).trans ((my_up_fld fh147 (by decide)).trans ((my_up_ne fh145 (by omega)).trans ev144.symm))))
        have ce155 : h152 111 4 = v146 := ((my_up_role fh152 is_111 is_94 rfl).trans ((my_up_fld fh149 (by decide)).trans ((my_up_ne fh147 (by omega)).trans ev146.symm)))
        have ce156 : h152 112 1 = v111 := ((my_up_role fh152 is_112 is_94 rfl).trans ((my_up_fld fh149 (by decide)).trans ((my_up_fld fh147 (by decide)).trans ((my_up_fld fh145 (by decide)).trans ((my_up_fld fh143 (by decide)).trans ((my_up_ne fh141 (by omega)).trans ((my_up_fld fh139 (by decide)).trans ((my_up_fld fh120 (by decide)).trans ((my_up_fld fh118 (by decide)).trans ((my_up_fld fh116 (by decide)).trans ((my_up_fld fh114 (by decide)).trans (my_up_self fh112))))))))))))
        have ce157 : h152 112 2 = v113 := ((my_up_role fh152 is_112 is_94 rfl).trans ((my_up_fld fh149 (by decide)).trans ((my_up_fld fh147 (by decide)).trans ((my_up_fld fh145 (by decide)).trans ((my_up_ne fh143 (by omega)).trans ((my_up_fld fh141 (by decide)).trans ((my_up_fld fh139 (by decide)).trans ((my_up_fld fh120 (by decide)).trans ((my_up_fld fh118 (by decide)).trans ((my_up_fld fh116 (by decide)).trans (my_up_self fh114)))))))))))
        have ce158 : h152 112 3 = v115 := ((my_up_role fh152 is_112 is_94 rfl).trans ((my_up_fld fh149 (by decide)).trans ((my_up_fld fh147 (by decide)).trans ((my_up_ne fh145 (by omega)).trans ((my_up_fld fh143 (by decide)).trans ((my_up_fld fh141 (by decide)).trans ((my_up_fld fh139 (by decide)).trans ((my_up_fld fh120 (by decide)).trans ((my_up_fld fh118 (by decide)).trans (my_up_self fh116))))))))))
        have ce159 : h152 112 4 = v117 := ((my_up_role fh152 is_112 is_94 rfl).trans ((my_up_fld fh149 (by decide)).trans ((my_up_ne fh147 (by omega)).trans ((my_up_fld fh145 (by decide)).trans ((my_up_fld fh143 (by decide)).trans ((my_up_fld fh141 (by decide)).trans ((my_up_fld fh139 (by decide)).trans ((my_up_fld fh120 (by decide)).trans (my_up_self fh118)))))))))
        have ce160 : h152 112 5 = v119 := ((my_up_role fh152 is_112 is_94 rfl).trans ((my_up_ne fh149 (by omega)).trans ((my_up_fld fh147 (by decide)).trans ((my_up_fld fh145 (by decide)).trans ((my_up_fld fh143 (by decide)).trans ((my_up_fld fh141 (by decide)).trans ((my_up_fld fh139 (by decide)).trans (my_up_self fh120))))))))
        have Lst_h152t161 : Lst h152 := by have q := n_Lst; unfold Lst at q ⊢; omega
        exact w_vret gz_94_81 gm_94 (k0 h152 (gh152) (by first | assumption | omega | (subst_vars; omega)) (by first | assumption | omega | (subst_vars; omega)) (by first | assumption | omega | (subst_vars; omega)) Lst_h152t161)
theorem c_Desk_goesStraight {l : Launch} {rho : Nat → Int32} {d : Nat} {h : my_H} {Q : my_H → my_V → Prop} {x1 x2 x3 x4 x5 x6 : Int} (t1 : my_is 6 x1) (a2 : 0 ≤ x2) (b2 : x2 ≤ 5) (a3 : 0 ≤ x3) (b3 : x3 ≤ 2) (hi1 : x3 ≠ 2 → 0 ≤ x4 ∧ x4 ≤ 9) (hi0 : x3 = 0 → 0 ≤ x5 ∧ x5 ≤ 7 ∧ 0 ≤ x6 ∧ x6 ≤ 199) (k0 : ∀ (h' : my_H), my_fr [(30, -1), (31, -1), (41, -1)] h h' → Q h' (0, 0)) (k1 : ∀ (h' : my_H), my_fr [(30, -1), (31, -1), (41, -1)] h h' → Q h' (0, 1)) : wp l rho (d + 3) 110 0 [(2, 94), (2, x1), (0, x2), (0, x3), (0, x4), (0, x5), (0, x6), (9, 0), (9, 0)] [] h Q := by
  refine w_aload_n gz_110_0 rfl ?_
  refine w_getX (v := 27) gz_110_1 is_94 rd_2 rfl (by decide) rfl ?_
  refine w_iload_n gz_110_4 rfl ?_
  refine w_aald gz_110_5 is_27 rd_22 rfl (by omega) (by omega) (fun v2 ev2 tv2 => ?_)
  refine w_astore (ls' := [(2, 94), (2, x1), (0, x2), (0, x3), (0, x4), (0, x5), (0, x6), (2, v2), (9, 0)]) gz_110_6 gm_110 rfl rfl rfl ?_
  refine w_aload_n gz_110_8 rfl ?_
  refine w_getX (v := 95) gz_110_9 is_94 rd_2 rfl (by decide) rfl ?_
  refine w_aload_n gz_110_12 rfl ?_
  refine w_inv (k := 0) (as := [(2, x1)]) (r := []) (x := 95) (ls0 := [(2, 95), (2, x1)]) gz_110_13 gm_25 rfl is_95 rd_6 rfl rfl rfl rfl rfl ?_
  refine w_aload_n gz_25_0 rfl ?_
  refine w_getX (v := (x1 + 1)) gz_25_1 t1 rd_6 rfl (by decide) rfl ?_
  refine w_iconst gz_25_4 (by decide) ?_
  refine w_aload_n gz_25_5 rfl ?_
  refine w_getX (v := 96) gz_25_6 is_95 rd_6 rfl (by decide) rfl ?_
  refine w_iconst gz_25_9 (by decide) ?_
  refine w_aload_n gz_25_10 rfl ?_
  refine w_getX (v := 96) gz_25_11 is_95 rd_6 rfl (by decide) rfl ?_
  refine v_alen (j := 240) gz_25_14 rfl is_96 rd_30 (by decide) ?_
  refine w_cpU gz_25_15 (ix_6_1 t1) rd_30 is_96 rd_30 (by omega) (by omega) (by omega) (by omega) (by omega) rfl (by decide) (by decide) (fun h7 fh7 => ?_)
  have gh7 : my_fr [(30, -1), (31, -1), (41, -1)] h h7 := my_fr.cp my_fr.rf is_96 fh7 rfl
  refine w_aload_n gz_25_18 rfl ?_
  refine w_getX (v := (x1 + 2)) gz_25_19 t1 rd_6 rfl (by decide) rfl ?_
  refine w_iconst gz_25_22 (by decide) ?_
  refine w_aload_n gz_25_23 rfl ?_
  refine w_getX (v := 97) gz_25_24 is_95 rd_6 rfl (by decide) rfl ?_
  refine w_iconst gz_25_27 (by decide) ?_
  refine w_aload_n gz_25_28 rfl ?_
  refine w_getX (v := 97) gz_25_29 is_95 rd_6 rfl (by decide) rfl ?_
  refine v_alen (j := 3) gz_25_32 rfl is_97 rd_31 (by decide) ?_
  refine w_cpU gz_25_33 (ix_6_2 t1) rd_31 is_97 rd_31 (by omega) (by omega) (by omega) (by omega) (by omega) rfl (by decide) (by decide) (fun h11 fh11 => ?_)
  have gh11 : my_fr [(30, -1), (31, -1), (41, -1)] h h11 := my_fr.cp gh7 is_97 fh11 rfl
  refine w_vret gz_25_36 gm_25 ?_
  show wp l rho (d + 3) 110 16 [(2, 94), (2, x1), (0, x2), (0, x3), (0, x4), (0, x5), (0, x6), (2, v2), (9, 0)] [] h11 Q
  refine w_iload_n gz_110_16 rfl ?_
  refine w_iconst gz_110_17 (by decide) ?_
  refine w_icne (t := 28) gz_110_18 rfl (fun u12 => ?_) (fun u12 => ?_)
  ·
    refine w_iload_n gz_110_28 rfl ?_
    refine w_iconst gz_110_29 (by decide) ?_
    refine w_icne (t := 76) gz_110_30 rfl (fun u13 => ?_) (fun u13 => ?_)
    ·
      have hi14 : 0 ≤ x4 := by omega
      have hi15 : x4 ≤ 9 := by omega
      have hi16 : 0 ≤ x5 := by omega
      have hi17 : x5 ≤ 7 := by omega
      have hi18 : 0 ≤ x6 := by omega
      have hi19 : x6 ≤ 199 := by omega
      refine w_aload_n gz_110_76 rfl ?_
      refine w_getX (v := 98) gz_110_77 is_94 rd_2 rfl (by decide) rfl ?_
      refine w_iload gz_110_80 rfl ?_
      refine w_iload gz_110_82 rfl ?_
      refine w_inv (k := 0) (as := [(0, x5), (0, x4)]) (r := []) (x := 98) (ls0 := [(2, 98), (0, x4), (0, x5)]) gz_110_84 gm_83 rfl is_98 rd_8 rfl rfl rfl rfl rfl ?_
      refine w_aload_n gz_83_0 rfl ?_
      refine w_getX (v := 99) gz_83_1 is_98 rd_8 rfl (by decide) rfl ?_
      refine w_iload_n gz_83_4 rfl ?_
      refine w_bipush gz_83_5 (by decide) ?_
      refine w_imul gz_83_7 ⟨by omega, by omega⟩ ?_
      refine w_bipush gz_83_8 (by decide) ?_
      refine w_iadd gz_83_10 ⟨by omega, by omega⟩ ?_
      refine w_iload_n gz_83_11 rfl ?_
      refine w_iadd gz_83_12 ⟨by omega, by omega⟩ ?_
      refine w_gldS gz_83_13 is_99 rd_42 (by omega) (by omega) (by omega) (by omega) (fun v22 ev22 pv22 qv22 => ?_)
      refine w_iret gz_83_14 gm_83 ?_
      show wp l rho (d + 3) 110 87 [(2, 94), (2, x1), (0, x2), (0, x3), (0, x4), (0, x5), (0, x6), (2, v2), (9, 0)] [(0, v22)] h11 Q
      refine w_istore (ls' := [(2, 94), (2, x1), (0, x2), (0, x3), (0, x4), (0, x5), (0, x6), (2, v2), (0, v22)]) gz_110_87 gm_110 rfl rfl rfl ?_
      refine w_iload gz_110_89 rfl ?_
      refine w_iconst gz_110_91 (by decide) ?_
      refine w_iceq (t := 109) gz_110_92 rfl (fun u23 => ?_) (fun u23 => ?_)
      ·
        refine w_iconst gz_110_109 (by decide) ?_
        exact w_bret gz_110_110 gm_110 (by omega) (by omega) (k0 h11 (gh11))
      ·
        refine w_iload gz_110_95 rfl ?_
        refine w_iconst gz_110_97 (by decide) ?_
        refine w_irem gz_110_98 (by omega) (by decide) ?_
        refine w_ifeq (t := 109) gz_110_99 rfl (fun u24 => ?_) (fun u24 => ?_)
        ·
          refine w_iconst gz_110_109 (by decide) ?_
          exact w_bret gz_110_110 gm_110 (by omega) (by omega) (k0 h11 (gh11))
        ·
          refine w_iload gz_110_102 rfl ?_
          refine w_bipush gz_110_104 (by decide) ?_
          refine w_iclt (t := 111) gz_110_106 rfl (fun u25 => ?_) (fun u25 => ?_)
          ·
            refine w_aload_n gz_110_111 rfl ?_
            refine w_getX (v := 95) gz_110_112 is_94 rd_2 rfl (by decide) rfl ?_
            refine w_getX (v := 96) gz_110_115 is_95 rd_6 rfl (by decide) rfl ?_
            refine w_iload gz_110_118 rfl ?_
            refine w_iload gz_110_120 rfl ?_
            refine w_iast gz_110_122 is_96 rd_30 (by omega) (by omega) (by omega) (by omega) (fun h28 fh28 => ?_)
            have gh28 : my_fr [(30, -1), (31, -1), (41, -1)] h h28 := my_fr.up gh11 is_96 fh28 rfl
            refine w_iconst gz_110_123 (by decide) ?_
            exact w_bret gz_110_124 gm_110 (by omega) (by omega) (k1 h28 (gh28))
          ·
            refine w_iconst gz_110_109 (by decide) ?_
            exact w_bret gz_110_110 gm_110 (by omega) (by omega) (k0 h11 (gh11))
    ·
      have hi29 : 0 ≤ x4 := by omega
      have hi30 : x4 ≤ 9 := by omega
      refine w_aload gz_110_33 rfl ?_
      refine v_getI (j := 7) gz_110_35 rfl tv2 rd_4 rfl (fun v31 ev31 pv31 qv31 => ?_)
      refine w_ifne (t := 62) gz_110_38 rfl (fun u32 => ?_) (fun u32 => ?_)
      ·
        refine w_aload gz_110_62 rfl ?_
        refine v_getI (j := 7) gz_110_64 rfl tv2 rd_4 rfl (fun v33 ev33 pv33 qv33 => ?_)
        have zv33 := ev33.trans ev31.symm
        refine w_ifne (t := 74) gz_110_67 rfl (fun u34 => ?_) (fun u34 => by exfalso; omega)
        refine w_iconst gz_110_74 (by decide) ?_
        exact w_bret gz_110_75 gm_110 (by omega) (by omega) (k0 h11 (gh11))
      ·
        refine w_aload_n gz_110_41 rfl ?_
        refine w_getX (v := 95) gz_110_42 is_94 rd_2 rfl (by decide) rfl ?_
        refine w_aload gz_110_45 rfl ?_
        refine v_getI (j := 2) gz_110_47 rfl tv2 rd_4 rfl (fun v36 ev36 pv36 qv36 => ?_)
        refine w_aload_n gz_110_50 rfl ?_
        refine w_getX (v := 98) gz_110_51 is_94 rd_2 rfl (by decide) rfl ?_
        refine w_iload gz_110_54 rfl ?_
        refine w_inv (k := 0) (as := [(0, x4)]) (r := [(0, v36), (2, 95)]) (x := 98) (ls0 := [(2, 98), (0, x4)]) gz_110_56 gm_75 rfl is_98 rd_8 rfl rfl rfl rfl rfl ?_
        refine w_aload_n gz_75_0 rfl ?_
        refine w_getX (v := 99) gz_75_1 is_98 rd_8 rfl (by decide) rfl ?_
        refine w_iload_n gz_75_4 rfl ?_
        refine w_bipush gz_75_5 (by decide) ?_
        refine w_imul gz_75_7 ⟨by omega, by omega⟩ ?_
        refine w_bipush gz_75_8 (by decide) ?_
        refine w_iadd gz_75_10 ⟨by omega, by omega⟩ ?_
        refine w_gldT gz_75_11 is_99 rd_42 (by omega) (by omega) (by omega) (fun v39 ev39 pv39 qv39 => ?_)
        refine w_iret gz_75_12 gm_75 ?_
        show wp l rho (d + 3) 110 59 [(2, 94), (2, x1), (0, x2), (0, x3), (0, x4), (0, x5), (0, x6), (2, v2), (9, 0)] [(0, v39), (0, v36), (2, 95)] h11 Q
        refine w_inv (k := 2) (as := [(0, v39), (0, v36)]) (r := []) (x := 95) (ls0 := [(2, 95), (0, v36), (0, v39), (9, 0), (9, 0)]) gz_110_59 gm_23 rfl is_95 rd_6 rfl rfl rfl rfl rfl (c_Rows_drop (d := (d + 1)) (x0 := 95) (x1 := v36) (x2 := v39) is_95 (by omega) (by omega) (by omega) (by omega) (fun h40 frh40 fxh40 => ?_))
        have gh40 : my_fr [(30, -1), (31, -1), (41, -1)] h h40 := my_fr.tr gh11 (frh40.mo rfl)
        show wp l rho (d + 3) 110 62 [(2, 94), (2, x1), (0, x2), (0, x3), (0, x4), (0, x5), (0, x6), (2, v2), (9, 0)] [] h40 Q
        refine w_aload gz_110_62 rfl ?_
        refine v_getI (j := 7) gz_110_64 rfl tv2 rd_4 rfl (fun v41 ev41 pv41 qv41 => ?_)
        have zv41 := ev41.trans ((my_fr.at frh40 tv2 rfl).trans ev31.symm)
        refine w_ifne (t := 74) gz_110_67 rfl (fun u42 => by exfalso; omega) (fun u42 => ?_)
        refine w_iconst gz_110_70 (by decide) ?_
        refine w_goto (t := 75) gz_110_71 rfl ?_
        exact w_bret gz_110_75 gm_110 (by omega) (by omega) (k1 h40 (gh40))
  ·
    refine w_aload_n gz_110_21 rfl ?_
    refine w_aload gz_110_22 rfl ?_
    refine w_inv (k := 2) (as := [(2, v2)]) (r := []) (x := 94) (ls0 := [(2, 94), (2, v2), (9, 0), (9, 0)]) gz_110_24 gm_106 rfl is_94 rd_2 rfl rfl rfl rfl rfl (c_Desk_rowComes (d := d) (x1 := v2) tv2 (fun h43 frh43 => ?_) (fun h44 frh44 => ?_))
    ·
      have gh43 : my_fr [(30, -1), (31, -1), (41, -1)] h h43 := my_fr.tr gh11 (frh43.mo rfl)
      show wp l rho (d + 3) 110 27 [(2, 94), (2, x1), (0, x2), (0, x3), (0, x4), (0, x5), (0, x6), (2, v2), (9, 0)] [(0, 0)] h43 Q
      exact w_bret gz_110_27 gm_110 (by omega) (by omega) (k0 h43 (gh43))
    ·
      have gh44 : my_fr [(30, -1), (31, -1), (41, -1)] h h44 := my_fr.tr gh11 (frh44.mo rfl)
      show wp l rho (d + 3) 110 27 [(2, 94), (2, x1), (0, x2), (0, x3), (0, x4), (0, x5), (0, x6), (2, v2), (9, 0)] [(0, 1)] h44 Q
      exact w_bret gz_110_27 gm_110 (by omega) (by omega) (k1 h44 (gh44))
theorem c_Model_findColumns_f0 {l : Launch} {rho : Nat → Int32} {d : Nat} {h : my_H} {Q : my_H → my_V → Prop} {x1 : Int} (a1 : 0 ≤ x1) (b1 : x1 ≤ 6) (cf : h 151 8 = 0) (n_Mw : Mw h) (hfp : Fp h x1) (h6 : x1 = 6 → h 167 6 = 0) (k0 : ∀ (h' : my_H), my_fr [(10, 27), (10, 32), (10, 33), (73, -1), (74, -1), (75, -1), (76, -1), (77, -1), (78, -1), (79, -1)] h h' → h' 151 8 = 0 → (∃ W : Int → Int, MwW h W ∧ h' 151 27 = mwf h x1 (mst h W x1) (h 167 x1).toNat) → Fc h h' (h' 151 32) (-1) x1 → 1 ≤ h' 151 32 → Q h' (9, 0)) : wp l rho (d + 1) 179 0 [(2, 151), (0, x1), (9, 0), (9, 0)] [] h Q := by
  have nMw2 := n_Mw
  obtain ⟨W, hW⟩ := nMw2
  have J11_0 : ∀ (n : Nat) (p11_0 : Int) (h11_0 : my_H), my_fr [(10, 27), (10, 32), (10, 33), (73, -1), (74, -1), (75, -1), (76, -1), (77, -1), (78, -1), (79, -1)] h h11_0 → 0 ≤ p11_0 → p11_0 ≤ 6 → h11_0 151 8 = 0 → Mw h11_0 → Fc h h11_0 (h11_0 151 32) (-1) x1 → 1 ≤ h11_0 151 32 → p11_0 ≤ h11_0 151 32 → h11_0 151 27 = (if p11_0 < h11_0 151 32 then mst h W (h11_0 177 p11_0) else mwf h x1 (mst h W x1) (h 167 x1).toNat) → 7 - p11_0 ≤ (n : Int) → wp l rho (d + 1) 179 11 [(2, 151), (0, x1), (0, p11_0), (9, 0)] [] h11_0 Q := by
    intro n
    induction n with
    | zero => intro p11_0 h11_0 gh_11_0 q0_11_0 q1_11_0 c151_8_11_0 n_Mw_11_0 fc_11_0 c1_11_0 lk_11_0 wk_11_0 hm_11_0; exfalso; omega
    | succ n ih_11_0 =>
      intro p11_0 h11_0 gh_11_0 q0_11_0 q1_11_0 c151_8_11_0 n_Mw_11_0 fc_11_0 c1_11_0 lk_11_0 wk_11_0 hm_11_0
      have J21_0 : ∀ (n : Nat) (p21_0 p21_1 : Int) (h21_0 : my_H), my_fr [(10, 27), (10, 32), (10, 33), (73, -1), (74, -1), (75, -1), (76, -1), (77, -1), (78, -1), (79, -1)] h h21_0 → p11_0 ≤ 5 → 0 ≤ p21_0 → p21_0 ≤ 6 → 1 ≤ p21_1 → p21_1 ≤ 6 → p11_0 ≤ (p21_1 - 1) → h21_0 151 32 = p21_1 → h21_0 151 8 = 0 → Mw h21_0 → Fc h h21_0 (h21_0 151 32) (-1) x1 → 1 ≤ h21_0 151 32 → p11_0 < h21_0 151 32 → h21_0 151 27 = mwf h (h21_0 177 p11_0) (mst h W (h21_0 177 p11_0)) p21_0.toNat → p21_0 ≤ h 167 (h21_0 177 p11_0) → 7 - p21_0 ≤ (n : Int) → wp l rho (d + 1) 179 21 [(2, 151), (0, x1), (0, p11_0), (0, p21_0)] [] h21_0 Q := by
        intro n
        induction n with
        | zero => intro p21_0 p21_1 h21_0 gh_21_0 q0_21_0 q1_21_0 q2_21_0 q3_21_0 q4_21_0 q5_21_0 c151_32_21_0 c151_8_21_0 n_Mw_21_0 fc_21_0 c1_21_0 lk_21_0 wp_21_0 lp_21_0 hm_21_0; exfalso; omega
        | succ n ih_21_0 =>
          intro p21_0 p21_1 h21_0 gh_21_0 q0_21_0 q1_21_0 q2_21_0 q3_21_0 q4_21_0 q5_21_0 c151_32_21_0 c151_8_21_0 n_Mw_21_0 fc_21_0 c1_21_0 lk_21_0 wp_21_0 lp_21_0 hm_21_0
          have qr := fc_21_0.2.2.2.2.2 p11_0 (by omega) lk_21_0
          have qm := Fc_mok hW h6 hfp.1 fc_21_0 (by omega : 0 ≤ p11_0) lk_21_0
          have f167 : ∀ j : Int, h21_0 167 j = h 167 j := fun j => my_fr.at gh_21_0 is_167 rfl
          refine w_iload_n gz_179_21 rfl ?_
          refine w_aload_n gz_179_22 rfl ?_
          refine w_getX (v := 167) gz_179_23 is_151 rd_10 rfl (by decide) rfl ?_
          refine w_aload_n gz_179_26 rfl ?_
          refine w_getX (v := 177) gz_179_27 is_151 rd_10 rfl (by decide) rfl ?_
          refine w_iload_n gz_179_30 rfl ?_
          refine w_iald gz_179_31 is_177 rd_76 (by omega) (by omega) (fun v3 ev3 pv3 qv3 => ?_)
          have e32 : v3 = h21_0 177 p11_0 := by omega
          have f32 := f167 v3
          refine w_iald gz_179_32 is_167 rd_66 (by omega) (by omega) (fun v4 ev4 pv4 qv4 => ?_)
          have e33 : v4 = h 167 (h21_0 177 p11_0) := by rw [← e32]; omega
          refine w_icge (t := 57) gz_179_33 rfl (fun u5 => ?_) (fun u5 => ?_)
          ·
            have e57 : h 167 (h21_0 177 p11_0) = p21_0 := by omega
            refine w_iinc (ls' := [(2, 151), (0, x1), (0, (p11_0 + 1)), (0, p21_0)]) gz_179_57 rfl gm_179 rfl rfl rfl ⟨by omega, by omega⟩ ?_
            refine w_goto (t := 11) gz_179_60 rfl ?_
            have ca : ∀ j : Int, h21_0 177 j = h21_0 177 j := fun _ => rfl
            have ce6 : h21_0 151 32 = p21_1 := c151_32_21_0
            refine w_weak (ls' := [(2, 151), (0, x1), (0, (p11_0 + 1)), (9, 0)]) (wk_e (wk_e (wk_e (wk_9 wk_n)))) ?_
            exact ih_11_0 ((p11_0 + 1)) h21_0 (gh_21_0) (by omega) (by omega) (c151_8_21_0.trans (by omega)) n_Mw_21_0 (by first | (rw [show h21_0 151 32 = h21_0 151 32 by omega]; exact Fc_cg ca (by omega) fc_21_0) | exact fc_21_0 | exact fc_11_0 | (rw [show h21_0 151 32 = h11_0 151 32 by omega]; exact Fc_cg ca (by omega) fc_11_0) | (rw [show h21_0 151 32 = h 151 32 by omega]; exact Fc_cg ca (by omega) fc0)) (by first | assumption | omega | (subst_vars; omega)) (by first | assumption | omega | (subst_vars; omega)) (by first | (rw [if_pos (by omega), ca, Fc_first (W := W) fc0 (by omega)]; omega) | (by_cases q : (p11_0 + 1) < h21_0 151 32; (rw [if_pos q, ca, Fc_next hW fc_21_0 (by omega) (by omega), e57]; exact wp_21_0); (rw [if_neg q]; have q2 := Fc_last fc_21_0 (by omega); rw [show h21_0 151 32 - 1 = p11_0 by omega] at q2; rw [← q2, e57]; exact wp_21_0))) (by omega)
          ·
            refine w_aload_n gz_179_36 rfl ?_
            refine w_bipush gz_179_37 (by decide) ?_
            refine w_aload_n gz_179_39 rfl ?_
            refine w_getX (v := 177) gz_179_40 is_151 rd_10 rfl (by decide) rfl ?_
            refine w_iload_n gz_179_43 rfl ?_
            refine w_iald gz_179_44 is_177 rd_76 (by omega) (by omega) (fun v8 ev8 pv8 qv8 => ?_)
            have zv8 := ev8.trans ev3.symm
            refine w_imul gz_179_45 ⟨by omega, by omega⟩ ?_
            refine w_iload_n gz_179_46 rfl ?_
            refine w_iadd gz_179_47 ⟨by omega, by omega⟩ ?_
            have qa := mok_at qm (s := p21_0) (by omega) (by omega)
            have qs := mwf_at (h := h) (w := h21_0 177 p11_0) (c := mst h W (h21_0 177 p11_0)) (s := p21_0) (by omega)
            have f168 : ∀ j : Int, h21_0 168 j = h 168 j := fun j => my_fr.at gh_21_0 is_168 rfl
            have f170 : ∀ j : Int, h21_0 170 j = h 170 j := fun j => my_fr.at gh_21_0 is_170 rfl
            have f157 : ∀ j : Int, h21_0 157 j = h 157 j := fun j => my_fr.at gh_21_0 is_157 rfl
            have f171 : ∀ j : Int, h21_0 171 j = h 171 j := fun j => my_fr.at gh_21_0 is_171 rfl
            have ep : ((6 * v8) + p21_0) = 6 * h21_0 177 p11_0 + p21_0 := by omega
            refine w_inv (k := 1) (as := [(0, ((6 * v8) + p21_0))]) (r := []) (x := 151) (ls0 := [(2, 151), (0, ((6 * v8) + p21_0)), (9, 0)]) gz_179_48 gm_182 rfl is_151 rd_10 rfl rfl rfl rfl rfl (c_Model_pane_f0 (d := d) (x1 := ((6 * v8) + p21_0)) (by omega) (by omega) (c151_8_21_0.trans (by omega)) (by rw [ep, f168, f170, f157]; intro q; have := qa.1 q; omega) (fun h9 frh9 w10 xp11 => ?_))
            have gh9 : my_fr [(10, 27), (10, 32), (10, 33), (73, -1), (74, -1), (75, -1), (76, -1), (77, -1), (78, -1), (79, -1)] h h9 := my_fr.tr gh_21_0 (frh9.mo rfl)
            have Mw_h9 : Mw h9 := Mw_ag (my_ag.fr frh9 rfl) n_Mw_21_0
            show wp l rho (d + 1) 179 51 [(2, 151), (0, x1), (0, p11_0), (0, p21_0)] [] h9 Q
            have xw := xp11
            rw [ep, wp_21_0] at xw
            have msE : ∀ q c : Int, ms h21_0 q c = ms h q c := fun q c => by unfold ms; rw [f168, f170, f157, f171]
            rw [msE] at xw
            refine w_iinc (ls' := [(2, 151), (0, x1), (0, p11_0), (0, (p21_0 + 1))]) gz_179_51 rfl gm_179 rfl rfl rfl ⟨by omega, by omega⟩ ?_
            refine w_goto (t := 21) gz_179_54 rfl ?_
            have ca : ∀ j : Int, h9 177 j = h21_0 177 j := fun j => ((my_fr.at frh9 is_177 rfl).trans (rfl : h21_0 177 j = h21_0 177 j))
            have ce12 : h9 151 32 = p21_1 := ((my_fr.at frh9 is_151 rfl).trans c151_32_21_0)
            have ce13 : h9 151 33 = h21_0 151 33 := ((my_fr.at frh9 is_151 rfl).trans (rfl : h21_0 151 33 = h21_0 151 33))
            exact ih_21_0 ((p21_0 + 1)) (p21_1) h9 (gh9) (by omega) (by omega) (by omega) (by omega) (by omega) (by omega) (((my_fr.at frh9 is_151 rfl).trans c151_32_21_0).trans (by omega)) (((my_fr.at frh9 is_151 rfl).trans c151_8_21_0).trans (by omega)) Mw_h9 (by first | (rw [show h9 151 32 = h21_0 151 32 by omega]; exact Fc_cg ca (by omega) fc_21_0) | exact fc_21_0 | exact fc_11_0 | (rw [show h9 151 32 = h11_0 151 32 by omega]; exact Fc_cg ca (by omega) fc_11_0) | (rw [show h9 151 32 = h 151 32 by omega]; exact Fc_cg ca (by omega) fc0)) (by first | assumption | omega | (subst_vars; omega)) (by first | assumption | omega | (subst_vars; omega)) (by first | (rw [ca, qs]; exact xw) | (rw [ca]; have q := wk_11_0; rw [if_pos (by omega)] at q; exact q) | (have q := wk_11_0; rw [if_pos (by omega)] at q; exact q)) (by first | omega | (rw [ca]; omega)) (by omega)
      refine w_iload_n gz_179_11 rfl ?_
      refine w_aload_n gz_179_12 rfl ?_
      refine v_getI (j := 32) gz_179_13 rfl is_151 rd_10 rfl (fun v14 ev14 pv14 qv14 => ?_)
      refine w_icge (t := 63) gz_179_16 rfl (fun u15 => ?_) (fun u15 => ?_)
      ·
        have c16 := c151_8_11_0
        exact w_vret gz_179_63 gm_179 (k0 h11_0 (gh_11_0) (by omega) (by first | omega | exact fc_11_0 | exact ⟨W, hW, by have q := wk_11_0; rw [if_neg (by omega)] at q; exact q⟩) (by first | omega | exact fc_11_0 | exact ⟨W, hW, by have q := wk_11_0; rw [if_neg (by omega)] at q; exact q⟩) (by first | omega | exact fc_11_0 | exact ⟨W, hW, by have q := wk_11_0; rw [if_neg (by omega)] at q; exact q⟩))
      ·
        have qr0 := fc_11_0.2.2.2.2.2 p11_0 (by omega) (by omega)
        refine v_knowA (x := 167) is_167 rd_66 (fun kP => ?_)
        have kq := kP (h11_0 177 p11_0) (by omega) (by omega)
        have k7 : h11_0 167 (h11_0 177 p11_0) = h 167 (h11_0 177 p11_0) := my_fr.at gh_11_0 is_167 rfl
        refine w_iconst gz_179_19 (by decide) ?_
        refine w_istore_n (ls' := [(2, 151), (0, x1), (0, p11_0), (0, 0)]) gz_179_20 gm_179 rfl rfl rfl ?_
        have ca : ∀ j : Int, h11_0 177 j = h11_0 177 j := fun _ => rfl
        have ce17 : h11_0 151 32 = v14 := ev14.symm
        exact J21_0 7 (0) (v14) h11_0 (gh_11_0) (by omega) (by omega) (by omega) (by omega) (by omega) (by omega) (ev14.symm.trans (by omega)) (c151_8_11_0.trans (by omega)) n_Mw_11_0 (by first | (rw [show h11_0 151 32 = h21_0 151 32 by omega]; exact Fc_cg ca (by omega) fc_21_0) | exact fc_21_0 | exact fc_11_0 | (rw [show h11_0 151 32 = h11_0 151 32 by omega]; exact Fc_cg ca (by omega) fc_11_0) | (rw [show h11_0 151 32 = h 151 32 by omega]; exact Fc_cg ca (by omega) fc0)) (by first | assumption | omega | (subst_vars; omega)) (by first | assumption | omega | (subst_vars; omega)) (by first | (rw [ca, qs]; exact xw) | (rw [ca]; have q := wk_11_0; rw [if_pos (by omega)] at q; exact q) | (have q := wk_11_0; rw [if_pos (by omega)] at q; exact q)) (by first | omega | (rw [ca]; omega)) (by omega)
  refine w_aload_n gz_179_0 rfl ?_
  refine w_iload_n gz_179_1 rfl ?_
  refine w_inv (k := 2) (as := [(0, x1)]) (r := []) (x := 151) (ls0 := [(2, 151), (0, x1), (9, 0), (9, 0)]) gz_179_2 gm_180 rfl is_151 rd_10 rfl rfl rfl rfl rfl (c_Model_findChain_f0 (d := d) (x1 := x1) (by omega) (by omega) (cf.trans (by omega)) n_Mw (by first | assumption | omega | (subst_vars; omega)) (fun h18 frh18 w19 xp20 xp21 xp22 => ?_))
  have gh18 : my_fr [(10, 27), (10, 32), (10, 33), (73, -1), (74, -1), (75, -1), (76, -1), (77, -1), (78, -1), (79, -1)] h h18 := my_fr.tr my_fr.rf (frh18.mo rfl)
  have Mw_h18 : Mw h18 := Mw_ag (my_ag.fr frh18 rfl) n_Mw
  show wp l rho (d + 1) 179 5 [(2, 151), (0, x1), (9, 0), (9, 0)] [] h18 Q
  have fc0 := xp20
  have fc1 := xp21
  have fc2 := xp22
  have b157 : h18 157 (h18 151 33) = h 157 (h18 151 33) := my_fr.at gh18 is_157 rfl
  refine w_aload_n gz_179_5 rfl ?_
  refine w_inv (k := 1) (as := []) (r := []) (x := 151) (ls0 := [(2, 151), (9, 0)]) gz_179_6 gm_181 rfl is_151 rd_10 rfl rfl rfl rfl rfl (c_Model_beginsColumns2_f0 (d := d)  (((my_fr.at frh18 is_151 rfl).trans cf).trans (by omega)) (fun h23 frh23 w24 w25 w26 xp27 => ?_))
  have gh23 : my_fr [(10, 27), (10, 32), (10, 33), (73, -1), (74, -1), (75, -1), (76, -1), (77, -1), (78, -1), (79, -1)] h h23 := my_fr.tr gh18 (frh23.mo rfl)
  have Mw_h23 : Mw h23 := Mw_ag (my_ag.fr frh23 rfl) Mw_h18
  show wp l rho (d + 1) 179 9 [(2, 151), (0, x1), (9, 0), (9, 0)] [] h23 Q
  refine w_iconst gz_179_9 (by decide) ?_
  refine w_istore_n (ls' := [(2, 151), (0, x1), (0, 0), (9, 0)]) gz_179_10 gm_179 rfl rfl rfl ?_
  have ca : ∀ j : Int, h23 177 j = h18 177 j := fun j => ((my_fr.at frh23 is_177 rfl).trans (rfl : h18 177 j = h18 177 j))
  have ce28 : h23 151 32 = h18 151 32 := ((my_fr.at frh23 is_151 rfl).trans (rfl : h18 151 32 = h18 151 32))
  have ce29 : h23 151 33 = h18 151 33 := ((my_fr.at frh23 is_151 rfl).trans (rfl : h18 151 33 = h18 151 33))
  have ce30 : h23 151 27 = (h23 151 27) := (rfl : h23 151 27 = h23 151 27)
  exact J11_0 7 (0) h23 (gh23) (by omega) (by omega) (((my_fr.at frh23 is_151 rfl).trans ((my_fr.at frh18 is_151 rfl).trans cf)).trans (by omega)) Mw_h23 (by first | (rw [show h23 151 32 = h21_0 151 32 by omega]; exact Fc_cg ca (by omega) fc_21_0) | exact fc_21_0 | exact fc_11_0 | (rw [show h23 151 32 = h11_0 151 32 by omega]; exact Fc_cg ca (by omega) fc_11_0) | (rw [show h23 151 32 = h18 151 32 by omega]; exact Fc_cg ca (by omega) fc0)) (by first | assumption | omega | (subst_vars; omega)) (by first | assumption | omega | (subst_vars; omega)) (by first | (rw [if_pos (by omega), ca, Fc_first (W := W) fc0 (by omega)]; omega) | (by_cases q : 0 < h23 151 32; (rw [if_pos q, ca, Fc_next hW fc_21_0 (by omega) (by omega), e57]; exact wp_21_0); (rw [if_neg q]; have q2 := Fc_last fc_21_0 (by omega); rw [show h23 151 32 - 1 = p11_0 by omega] at q2; rw [← q2, e57]; exact wp_21_0))) (by omega)
theorem c_Model_findColumns {l : Launch} {rho : Nat → Int32} {d : Nat} {h : my_H} {Q : my_H → my_V → Prop} {x1 : Int} (a1 : 0 ≤ x1) (b1 : x1 ≤ 6) (n_Mw : Mw h) (hfp : Fp h x1) (h6 : x1 = 6 → h 167 6 = 0) (k0 : ∀ (h' : my_H), my_fr [(10, 27), (10, 32), (10, 33), (73, -1), (74, -1), (75, -1), (76, -1), (77, -1), (78, -1), (79, -1)] h h' → (∃ W : Int → Int, MwW h W ∧ h' 151 27 = mwf h x1 (mst h W x1) (h 167 x1).toNat) → Fc h h' (h' 151 32) (-1) x1 → 1 ≤ h' 151 32 → Q h' (9, 0)) : wp l rho (d + 1) 179 0 [(2, 151), (0, x1), (9, 0), (9, 0)] [] h Q := by
  have nMw2 := n_Mw
  obtain ⟨W, hW⟩ := nMw2
  have J11_0 : ∀ (n : Nat) (p11_0 : Int) (h11_0 : my_H), my_fr [(10, 27), (10, 32), (10, 33), (73, -1), (74, -1), (75, -1), (76, -1), (77, -1), (78, -1), (79, -1)] h h11_0 → 0 ≤ p11_0 → p11_0 ≤ 6 → Mw h11_0 → Fc h h11_0 (h11_0 151 32) (-1) x1 → 1 ≤ h11_0 151 32 → p11_0 ≤ h11_0 151 32 → h11_0 151 27 = (if p11_0 < h11_0 151 32 then mst h W (h11_0 177 p11_0) else mwf h x1 (mst h W x1) (h 167 x1).toNat) → 7 - p11_0 ≤ (n : Int) → wp l rho (d + 1) 179 11 [(2, 151), (0, x1), (0, p11_0), (9, 0)] [] h11_0 Q := by
    intro n
    induction n with
    | zero => intro p11_0 h11_0 gh_11_0 q0_11_0 q1_11_0 n_Mw_11_0 fc_11_0 c1_11_0 lk_11_0 wk_11_0 hm_11_0; exfalso; omega
    | succ n ih_11_0 =>
      intro p11_0 h11_0 gh_11_0 q0_11_0 q1_11_0 n_Mw_11_0 fc_11_0 c1_11_0 lk_11_0 wk_11_0 hm_11_0
      have J21_0 : ∀ (n : Nat) (p21_0 p21_1 : Int) (h21_0 : my_H), my_fr [(10, 27), (10, 32), (10, 33), (73, -1), (74, -1), (75, -1), (76, -1), (77, -1), (78, -1), (79, -1)] h h21_0 → p11_0 ≤ 5 → 0 ≤ p21_0 → p21_0 ≤ 6 → 1 ≤ p21_1 → p21_1 ≤ 6 → p11_0 ≤ (p21_1 - 1) → h21_0 151 32 = p21_1 → Mw h21_0 → Fc h h21_0 (h21_0 151 32) (-1) x1 → 1 ≤ h21_0 151 32 → p11_0 < h21_0 151 32 → h21_0 151 27 = mwf h (h21_0 177 p11_0) (mst h W (h21_0 177 p11_0)) p21_0.toNat → p21_0 ≤ h 167 (h21_0 177 p11_0) → 7 - p21_0 ≤ (n : Int) → wp l rho (d + 1) 179 21 [(2, 151), (0, x1), (0, p11_0), (0, p21_0)] [] h21_0 Q := by
        intro n
        induction n with
        | zero => intro p21_0 p21_1 h21_0 gh_21_0 q0_21_0 q1_21_0 q2_21_0 q3_21_0 q4_21_0 q5_21_0 c151_32_21_0 n_Mw_21_0 fc_21_0 c1_21_0 lk_21_0 wp_21_0 lp_21_0 hm_21_0; exfalso; omega
        | succ n ih_21_0 =>
          intro p21_0 p21_1 h21_0 gh_21_0 q0_21_0 q1_21_0 q2_21_0 q3_21_0 q4_21_0 q5_21_0 c151_32_21_0 n_Mw_21_0 fc_21_0 c1_21_0 lk_21_0 wp_21_0 lp_21_0 hm_21_0
          have qr := fc_21_0.2.2.2.2.2 p11_0 (by omega) lk_21_0
          have qm := Fc_mok hW h6 hfp.1 fc_21_0 (by omega : 0 ≤ p11_0) lk_21_0
          have f167 : ∀ j : Int, h21_0 167 j = h 167 j := fun j => my_fr.at gh_21_0 is_167 rfl
          refine w_iload_n gz_179_21 rfl ?_
          refine w_aload_n gz_179_22 rfl ?_
          refine w_getX (v := 167) gz_179_23 is_151 rd_10 rfl (by decide) rfl ?_
          refine w_aload_n gz_179_26 rfl ?_
          refine w_getX (v := 177) gz_179_27 is_151 rd_10 rfl (by decide) rfl ?_
          refine w_iload_n gz_179_30 rfl ?_
          refine w_iald gz_179_31 is_177 rd_76 (by omega) (by omega) (fun v3 ev3 pv3 qv3 => ?_)
          have e32 : v3 = h21_0 177 p11_0 := by omega
          have f32 := f167 v3
          refine w_iald gz_179_32 is_167 rd_66 (by omega) (by omega) (fun v4 ev4 pv4 qv4 => ?_)
          have e33 : v4 = h 167 (h21_0 177 p11_0) := by rw [← e32]; omega
          refine w_icge (t := 57) gz_179_33 rfl (fun u5 => ?_) (fun u5 => ?_)
          ·
            have e57 : h 167 (h21_0 177 p11_0) = p21_0 := by omega
            refine w_iinc (ls' := [(2, 151), (0, x1), (0, (p11_0 + 1)), (0, p21_0)]) gz_179_57 rfl gm_179 rfl rfl rfl ⟨by omega, by omega⟩ ?_
            refine w_goto (t := 11) gz_179_60 rfl ?_
            have ca : ∀ j : Int, h21_0 177 j = h21_0 177 j := fun _ => rfl
            have ce6 : h21_0 151 32 = p21_1 := c151_32_21_0
            refine w_weak (ls' := [(2, 151), (0, x1), (0, (p11_0 + 1)), (9, 0)]) (wk_e (wk_e (wk_e (wk_9 wk_n)))) ?_
            exact ih_11_0 ((p11_0 + 1)) h21_0 (gh_21_0) (by omega) (by omega) n_Mw_21_0 (by first | (rw [show h21_0 151 32 = h21_0 151 32 by omega]; exact Fc_cg ca (by omega) fc_21_0) | exact fc_21_0 | exact fc_11_0 | (rw [show h21_0 151 32 = h11_0 151 32 by omega]; exact Fc_cg ca (by omega) fc_11_0) | (rw [show h21_0 151 32 = h 151 32 by omega]; exact Fc_cg ca (by omega) fc0)) (by first | assumption | omega | (subst_vars; omega)) (by first | assumption | omega | (subst_vars; omega)) (by first | (rw [if_pos (by omega), ca, Fc_first (W := W) fc0 (by omega)]; omega) | (by_cases q : (p11_0 + 1) < h21_0 151 32; (rw [if_pos q, ca, Fc_next hW fc_21_0 (by omega) (by omega), e57]; exact wp_21_0); (rw [if_neg q]; have q2 := Fc_last fc_21_0 (by omega); rw [show h21_0 151 32 - 1 = p11_0 by omega] at q2; rw [← q2, e57]; exact wp_21_0))) (by omega)
          ·
            refine w_aload_n gz_179_36 rfl ?_
            refine w_bipush gz_179_37 (by decide) ?_
            refine w_aload_n gz_179_39 rfl ?_
            refine w_getX (v := 177) gz_179_40 is_151 rd_10 rfl (by decide) rfl ?_
            refine w_iload_n gz_179_43 rfl ?_
            refine w_iald gz_179_44 is_177 rd_76 (by omega) (by omega) (fun v8 ev8 pv8 qv8 => ?_)
            have zv8 := ev8.trans ev3.symm
            refine w_imul gz_179_45 ⟨by omega, by omega⟩ ?_
            refine w_iload_n gz_179_46 rfl ?_
            refine w_iadd gz_179_47 ⟨by omega, by omega⟩ ?_
            have qa := mok_at qm (s := p21_0) (by omega) (by omega)
            have qs := mwf_at (h := h) (w := h21_0 177 p11_0) (c := mst h W (h21_0 177 p11_0)) (s := p21_0) (by omega)
            have f168 : ∀ j : Int, h21_0 168 j = h 168 j := fun j => my_fr.at gh_21_0 is_168 rfl
            have f170 : ∀ j : Int, h21_0 170 j = h 170 j := fun j => my_fr.at gh_21_0 is_170 rfl
            have f157 : ∀ j : Int, h21_0 157 j = h 157 j := fun j => my_fr.at gh_21_0 is_157 rfl
            have f171 : ∀ j : Int, h21_0 171 j = h 171 j := fun j => my_fr.at gh_21_0 is_171 rfl
            have ep : ((6 * v8) + p21_0) = 6 * h21_0 177 p11_0 + p21_0 := by omega
            refine w_inv (k := 1) (as := [(0, ((6 * v8) + p21_0))]) (r := []) (x := 151) (ls0 := [(2, 151), (0, ((6 * v8) + p21_0)), (9, 0)]) gz_179_48 gm_182 rfl is_151 rd_10 rfl rfl rfl rfl rfl (c_Model_pane (d := d) (x1 := ((6 * v8) + p21_0)) (by omega) (by omega) (by rw [ep, f168, f170, f157]; intro q; have := qa.1 q; omega) (fun h9 frh9 xp10 => ?_))
            have gh9 : my_fr [(10, 27), (10, 32), (10, 33), (73, -1), (74, -1), (75, -1), (76, -1), (77, -1), (78, -1), (79, -1)] h h9 := my_fr.tr gh_21_0 (frh9.mo rfl)
            have Mw_h9 : Mw h9 := Mw_ag (my_ag.fr frh9 rfl) n_Mw_21_0
            show wp l rho (d + 1) 179 51 [(2, 151), (0, x1), (0, p11_0), (0, p21_0)] [] h9 Q
            have xw := xp10
            rw [ep, wp_21_0] at xw
            have msE : ∀ q c : Int, ms h21_0 q c = ms h q c := fun q c => by unfold ms; rw [f168, f170, f157, f171]
            rw [msE] at xw
            refine w_iinc (ls' := [(2, 151), (0, x1), (0, p11_0), (0, (p21_0 + 1))]) gz_179_51 rfl gm_179 rfl rfl rfl ⟨by omega, by omega⟩ ?_
            refine w_goto (t := 21) gz_179_54 rfl ?_
            have ca : ∀ j : Int, h9 177 j = h21_0 177 j := fun j => ((my_fr.at frh9 is_177 rfl).trans (rfl : h21_0 177 j = h21_0 177 j))
            have ce11 : h9 151 32 = p21_1 := ((my_fr.at frh9 is_151 rfl).trans c151_32_21_0)
            have ce12 : h9 151 33 = h21_0 151 33 := ((my_fr.at frh9 is_151 rfl).trans (rfl : h21_0 151 33 = h21_0 151 33))
            exact ih_21_0 ((p21_0 + 1)) (p21_1) h9 (gh9) (by omega) (by omega) (by omega) (by omega) (by omega) (by omega) (((my_fr.at frh9 is_151 rfl).trans c151_32_21_0).trans (by omega)) Mw_h9 (by first | (rw [show h9 151 32 = h21_0 151 32 by omega]; exact Fc_cg ca (by omega) fc_21_0) | exact fc_21_0 | exact fc_11_0 | (rw [show h9 151 32 = h11_0 151 32 by omega]; exact Fc_cg ca (by omega) fc_11_0) | (rw [show h9 151 32 = h 151 32 by omega]; exact Fc_cg ca (by omega) fc0)) (by first | assumption | omega | (subst_vars; omega)) (by first | assumption | omega | (subst_vars; omega)) (by first | (rw [ca, qs]; exact xw) | (rw [ca]; have q := wk_11_0; rw [if_pos (by omega)] at q; exact q) | (have q := wk_11_0; rw [if_pos (by omega)] at q; exact q)) (by first | omega | (rw [ca]; omega)) (by omega)
      refine w_iload_n gz_179_11 rfl ?_
      refine w_aload_n gz_179_12 rfl ?_
      refine v_getI (j := 32) gz_179_13 rfl is_151 rd_10 rfl (fun v13 ev13 pv13 qv13 => ?_)
      refine w_icge (t := 63) gz_179_16 rfl (fun u14 => ?_) (fun u14 => ?_)
      ·
        exact w_vret gz_179_63 gm_179 (k0 h11_0 (gh_11_0) (by first | omega | exact fc_11_0 | exact ⟨W, hW, by have q := wk_11_0; rw [if_neg (by omega)] at q; exact q⟩) (by first | omega | exact fc_11_0 | exact ⟨W, hW, by have q := wk_11_0; rw [if_neg (by omega)] at q; exact q⟩) (by first | omega | exact fc_11_0 | exact ⟨W, hW, by have q := wk_11_0; rw [if_neg (by omega)] at q; exact q⟩))
      ·
        have qr0 := fc_11_0.2.2.2.2.2 p11_0 (by omega) (by omega)
        refine v_knowA (x := 167) is_167 rd_66 (fun kP => ?_)
        have kq := kP (h11_0 177 p11_0) (by omega) (by omega)
        have k7 : h11_0 167 (h11_0 177 p11_0) = h 167 (h11_0 177 p11_0) := my_fr.at gh_11_0 is_167 rfl
        refine w_iconst gz_179_19 (by decide) ?_
        refine w_istore_n (ls' := [(2, 151), (0, x1), (0, p11_0), (0, 0)]) gz_179_20 gm_179 rfl rfl rfl ?_
        have ca : ∀ j : Int, h11_0 177 j = h11_0 177 j := fun _ => rfl
        have ce15 : h11_0 151 32 = v13 := ev13.symm
        exact J21_0 7 (0) (v13) h11_0 (gh_11_0) (by omega) (by omega) (by omega) (by omega) (by omega) (by omega) (ev13.symm.trans (by omega)) n_Mw_11_0 (by first | (rw [show h11_0 151 32 = h21_0 151 32 by omega]; exact Fc_cg ca (by omega) fc_21_0) | exact fc_21_0 | exact fc_11_0 | (rw [show h11_0 151 32 = h11_0 151 32 by omega]; exact Fc_cg ca (by omega) fc_11_0) | (rw [show h11_0 151 32 = h 151 32 by omega]; exact Fc_cg ca (by omega) fc0)) (by first | assumption | omega | (subst_vars; omega)) (by first | assumption | omega | (subst_vars; omega)) (by first | (rw [ca, qs]; exact xw) | (rw [ca]; have q := wk_11_0; rw [if_pos (by omega)] at q; exact q) | (have q := wk_11_0; rw [if_pos (by omega)] at q; exact q)) (by first | omega | (rw [ca]; omega)) (by omega)
  refine w_aload_n gz_179_0 rfl ?_
  refine w_iload_n gz_179_1 rfl ?_
  refine w_inv (k := 2) (as := [(0, x1)]) (r := []) (x := 151) (ls0 := [(2, 151), (0, x1), (9, 0), (9, 0)]) gz_179_2 gm_180 rfl is_151 rd_10 rfl rfl rfl rfl rfl (c_Model_findChain (d := d) (x1 := x1) (by omega) (by omega) n_Mw (by first | assumption | omega | (subst_vars; omega)) (fun h16 frh16 xp17 xp18 xp19 => ?_))
  have gh16 : my_fr [(10, 27), (10, 32), (10, 33), (73, -1), (74, -1), (75, -1), (76, -1), (77, -1), (78, -1), (79, -1)] h h16 := my_fr.tr my_fr.rf (frh16.mo rfl)
  have Mw_h16 : Mw h16 := Mw_ag (my_ag.fr frh16 rfl) n_Mw
  show wp l rho (d + 1) 179 5 [(2, 151), (0, x1), (9, 0), (9, 0)] [] h16 Q
  have fc0 := xp17
  have fc1 := xp18
  have fc2 := xp19
  have b157 : h16 157 (h16 151 33) = h 157 (h16 151 33) := my_fr.at gh16 is_157 rfl
  refine w_aload_n gz_179_5 rfl ?_
  refine w_inv (k := 1) (as := []) (r := []) (x := 151) (ls0 := [(2, 151), (9, 0)]) gz_179_6 gm_181 rfl is_151 rd_10 rfl rfl rfl rfl rfl (c_Model_beginsColumns2 (d := d)   (fun h20 frh20 w21 w22 xp23 => ?_))
  have gh20 : my_fr [(10, 27), (10, 32), (10, 33), (73, -1), (74, -1), (75, -1), (76, -1), (77, -1), (78, -1), (79, -1)] h h20 := my_fr.tr gh16 (frh20.mo rfl)
  have Mw_h20 : Mw h20 := Mw_ag (my_ag.fr frh20 rfl) Mw_h16
  show wp l rho (d + 1) 179 9 [(2, 151), (0, x1), (9, 0), (9, 0)] [] h20 Q
  refine w_iconst gz_179_9 (by decide) ?_
  refine w_istore_n (ls' := [(2, 151), (0, x1), (0, 0), (9, 0)]) gz_179_10 gm_179 rfl rfl rfl ?_
  have ca : ∀ j : Int, h20 177 j = h16 177 j := fun j => ((my_fr.at frh20 is_177 rfl).trans (rfl : h16 177 j = h16 177 j))
  have ce24 : h20 151 32 = h16 151 32 := ((my_fr.at frh20 is_151 rfl).trans (rfl : h16 151 32 = h16 151 32))
  have ce25 : h20 151 33 = h16 151 33 := ((my_fr.at frh20 is_151 rfl).trans (rfl : h16 151 33 = h16 151 33))
  have ce26 : h20 151 27 = (h20 151 27) := (rfl : h20 151 27 = h20 151 27)
  exact J11_0 7 (0) h20 (gh20) (by omega) (by omega) Mw_h20 (by first | (rw [show h20 151 32 = h21_0 151 32 by omega]; exact Fc_cg ca (by omega) fc_21_0) | exact fc_21_0 | exact fc_11_0 | (rw [show h20 151 32 = h11_0 151 32 by omega]; exact Fc_cg ca (by omega) fc_11_0) | (rw [show h20 151 32 = h16 151 32 by omega]; exact Fc_cg ca (by omega) fc0)) (by first | assumption | omega | (subst_vars; omega)) (by first | assumption | omega | (subst_vars; omega)) (by first | (rw [if_pos (by omega), ca, Fc_first (W := W) fc0 (by omega)]; omega) | (by_cases q : 0 < h20 151 32; (rw [if_pos q, ca, Fc_next hW fc_21_0 (by omega) (by omega), e57]; exact wp_21_0); (rw [if_neg q]; have q2 := Fc_last fc_21_0 (by omega); rw [show h20 151 32 - 1 = p11_0 by omega] at q2; rw [← q2, e57]; exact wp_21_0))) (by omega)
end MYNModel_rowsOf2
