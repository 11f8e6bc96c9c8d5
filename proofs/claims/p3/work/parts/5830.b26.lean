/-! contracts, printed by wip/gen/gy.py -/
section MYNModel_keeps9_f0
theorem c_Model_keeps9_f0 {l : Launch} {rho : Nat → Int32} {d : Nat} {h : my_H} {Q : my_H → my_V → Prop} {x1 : Int} (a1 : 0 ≤ x1) (b1 : x1 ≤ 5) (cf : h 151 8 = 0) (mq : Mq h x1) (hu : ∀ k : Int, 0 ≤ k → k ≤ 5 → h 164 k = 1 → h 165 k = 0 → h 166 k ≠ x1) (k0 : ∀ (h' : my_H), my_fr [(63, -1), (64, -1), (65, -1), (66, -1), (67, -1), (68, -1), (69, -1), (70, -1), (71, -1), (72, -1)] h h' → h' 151 8 = 0 → KeepF h h' x1 → Mw3 h' → Q h' (9, 0)) : wp l rho d 191 0 [(2, 151), (0, x1), (9, 0), (9, 0), (9, 0), (9, 0)] [] h Q := by
  have J168_0 : ∀ (n : Nat) (p168_0 : Int) (h168_0 : my_H), my_fr [(63, -1), (64, -1), (65, -1), (66, -1), (67, -1), (68, -1), (69, -1), (70, -1), (71, -1), (72, -1)] h h168_0 → 0 ≤ p168_0 → p168_0 ≤ 4 → h168_0 151 8 = 0 → Put1 h h168_0 164 x1 1 → Put1 h h168_0 165 x1 (h 165 6) → Put1 h h168_0 166 x1 (h 166 6) → Put1 h h168_0 167 x1 (h 167 6) → Cpy h h168_0 168 (6 * x1) 6 36 → Cpy h h168_0 169 (6 * x1) 6 36 → Cpy h h168_0 170 (6 * x1) 6 36 → Cpy h h168_0 171 (6 * x1) 6 36 → Cpy h h168_0 172 (48 * x1) (48) 288 → 5 - p168_0 ≤ (n : Int) → wp l rho d 191 168 [(2, 151), (0, x1), (0, p168_0), (9, 0), (9, 0), (9, 0)] [] h168_0 Q := by
    intro n
    induction n with
    | zero => intro p168_0 h168_0 gh_168_0 q0_168_0 q1_168_0 c151_8_168_0 q4_168_0 q5_168_0 q6_168_0 q7_168_0 c8_168_0 c9_168_0 c0_168_0 c1_168_0 c2_168_0 hm_168_0; exfalso; omega
    | succ n ih_168_0 =>
      intro p168_0 h168_0 gh_168_0 q0_168_0 q1_168_0 c151_8_168_0 q4_168_0 q5_168_0 q6_168_0 q7_168_0 c8_168_0 c9_168_0 c0_168_0 c1_168_0 c2_168_0 hm_168_0
      refine w_iload_n gz_191_168 rfl ?_
      refine w_iconst gz_191_169 (by decide) ?_
      refine w_icge (t := 198) gz_191_170 rfl (fun u1 => ?_) (fun u1 => ?_)
      ·
        have a164 : ∀ j : Int, h168_0 164 j = h168_0 164 j := fun _ => rfl
        have a165 : ∀ j : Int, h168_0 165 j = h168_0 165 j := fun _ => rfl
        have a166 : ∀ j : Int, h168_0 166 j = h168_0 166 j := fun _ => rfl
        have a167 : ∀ j : Int, h168_0 167 j = h168_0 167 j := fun _ => rfl
        have a168 : ∀ j : Int, h168_0 168 j = h168_0 168 j := fun _ => rfl
        have a169 : ∀ j : Int, h168_0 169 j = h168_0 169 j := fun _ => rfl
        have a170 : ∀ j : Int, h168_0 170 j = h168_0 170 j := fun _ => rfl
        have a171 : ∀ j : Int, h168_0 171 j = h168_0 171 j := fun _ => rfl
        have a172 : ∀ j : Int, h168_0 172 j = h168_0 172 j := fun _ => rfl
        have Mw3_h168_0t2 : Mw3 h168_0 := Mw3_keep mq (by omega) (by omega) hu (fun j => my_fr.at gh_168_0 is_157 rfl) (Put1_eq a164 q4_168_0) (Put1_eq a165 q5_168_0) (Put1_eq a166 q6_168_0) (Put1_eq a167 q7_168_0) (Cpy_eq a168 c8_168_0) (Cpy_eq a169 c9_168_0) (Cpy_eq a170 c0_168_0) (Cpy_eq a171 c1_168_0) (Cpy_eq a172 c2_168_0)
        have c3 := c151_8_168_0
        exact w_vret gz_191_198 gm_191 (k0 h168_0 (gh_168_0) (by omega) (by first | exact ⟨Put1_eq a164 q4_168_0, Put1_eq a165 q5_168_0, Put1_eq a166 q6_168_0, Put1_eq a167 q7_168_0, Cpy_eq a168 c8_168_0, Cpy_eq a169 c9_168_0, Cpy_eq a170 c0_168_0, Cpy_eq a171 c1_168_0, Cpy_eq a172 c2_168_0⟩ | omega) Mw3_h168_0t2)
      ·
        refine w_aload_n gz_191_173 rfl ?_
        refine w_getX (v := 173) gz_191_174 is_151 rd_10 rfl (by decide) rfl ?_
        refine w_iconst gz_191_177 (by decide) ?_
        refine w_iload_n gz_191_178 rfl ?_
        refine w_imul gz_191_179 ⟨by omega, by omega⟩ ?_
        refine w_iload_n gz_191_180 rfl ?_
        refine w_iadd gz_191_181 ⟨by omega, by omega⟩ ?_
        refine w_aload_n gz_191_182 rfl ?_
        refine w_getX (v := 173) gz_191_183 is_151 rd_10 rfl (by decide) rfl ?_
        refine w_bipush gz_191_186 (by decide) ?_
        refine w_iload_n gz_191_188 rfl ?_
        refine w_iadd gz_191_189 ⟨by omega, by omega⟩ ?_
        refine w_iald gz_191_190 is_173 rd_72 (by omega) (by omega) (fun v6 ev6 pv6 qv6 => ?_)
        refine w_iast gz_191_191 is_173 rd_72 (by omega) (by omega) (by omega) (by omega) (fun h7 fh7 => ?_)
        have gh7 : my_fr [(63, -1), (64, -1), (65, -1), (66, -1), (67, -1), (68, -1), (69, -1), (70, -1), (71, -1), (72, -1)] h h7 := my_fr.up gh_168_0 is_173 fh7 rfl
        refine w_iinc (ls' := [(2, 151), (0, x1), (0, (p168_0 + 1)), (9, 0), (9, 0), (9, 0)]) gz_191_192 rfl gm_191 rfl rfl rfl ⟨by omega, by omega⟩ ?_
        refine w_goto (t := 168) gz_191_195 rfl ?_
        have a164 : ∀ j : Int, h7 164 j = h168_0 164 j := fun j => ((my_up_role fh7 is_164 is_173 rfl).trans (rfl : h168_0 164 j = h168_0 164 j))
        have a165 : ∀ j : Int, h7 165 j = h168_0 165 j := fun j => ((my_up_role fh7 is_165 is_173 rfl).trans (rfl : h168_0 165 j = h168_0 165 j))
        have a166 : ∀ j : Int, h7 166 j = h168_0 166 j := fun j => ((my_up_role fh7 is_166 is_173 rfl).trans (rfl : h168_0 166 j = h168_0 166 j))
        have a167 : ∀ j : Int, h7 167 j = h168_0 167 j := fun j => ((my_up_role fh7 is_167 is_173 rfl).trans (rfl : h168_0 167 j = h168_0 167 j))
        have a168 : ∀ j : Int, h7 168 j = h168_0 168 j := fun j => ((my_up_role fh7 is_168 is_173 rfl).trans (rfl : h168_0 168 j = h168_0 168 j))
        have a169 : ∀ j : Int, h7 169 j = h168_0 169 j := fun j => ((my_up_role fh7 is_169 is_173 rfl).trans (rfl : h168_0 169 j = h168_0 169 j))
        have a170 : ∀ j : Int, h7 170 j = h168_0 170 j := fun j => ((my_up_role fh7 is_170 is_173 rfl).trans (rfl : h168_0 170 j = h168_0 170 j))
        have a171 : ∀ j : Int, h7 171 j = h168_0 171 j := fun j => ((my_up_role fh7 is_171 is_173 rfl).trans (rfl : h168_0 171 j = h168_0 171 j))
        have a172 : ∀ j : Int, h7 172 j = h168_0 172 j := fun j => ((my_up_role fh7 is_172 is_173 rfl).trans (rfl : h168_0 172 j = h168_0 172 j))
        exact ih_168_0 ((p168_0 + 1)) h7 (gh7) (by omega) (by omega) (((my_up_role fh7 is_151 is_173 rfl).trans c151_8_168_0).trans (by omega)) (by first | exact Put1_eq a164 p4 | exact Put1_eq a164 q4_122_0 | exact Put1_eq a164 q4_48_0 | exact Put1_eq a164 q4_168_0 | omega) (by first | exact Put1_eq a165 p5 | exact Put1_eq a165 q5_122_0 | exact Put1_eq a165 q5_48_0 | exact Put1_eq a165 q5_168_0 | omega) (by first | exact Put1_eq a166 p6 | exact Put1_eq a166 q6_122_0 | exact Put1_eq a166 q6_48_0 | exact Put1_eq a166 q6_168_0 | omega) (by first | exact Put1_eq a167 p7 | exact Put1_eq a167 q7_122_0 | exact Put1_eq a167 q7_48_0 | exact Put1_eq a167 q7_168_0 | omega) (by first | exact Cpy_0 (by omega) a168 | exact Cpy_n (Cpy_eq a168 d8) (by omega) | exact Cpy_n (Cpy_eq a168 c8_122_0) (by omega) | exact Cpy_n (Cpy_eq a168 c8_48_0) (by omega) | exact Cpy_n (Cpy_eq a168 c8_168_0) (by omega) | omega) (by first | exact Cpy_0 (by omega) a169 | exact Cpy_n (Cpy_eq a169 d9) (by omega) | exact Cpy_n (Cpy_eq a169 c9_122_0) (by omega) | exact Cpy_n (Cpy_eq a169 c9_48_0) (by omega) | exact Cpy_n (Cpy_eq a169 c9_168_0) (by omega) | omega) (by first | exact Cpy_0 (by omega) a170 | exact Cpy_n (Cpy_eq a170 d0) (by omega) | exact Cpy_n (Cpy_eq a170 c0_122_0) (by omega) | exact Cpy_n (Cpy_eq a170 c0_48_0) (by omega) | exact Cpy_n (Cpy_eq a170 c0_168_0) (by omega) | omega) (by first | exact Cpy_0 (by omega) a171 | exact Cpy_n (Cpy_eq a171 d1) (by omega) | exact Cpy_n (Cpy_eq a171 c1_122_0) (by omega) | exact Cpy_n (Cpy_eq a171 c1_48_0) (by omega) | exact Cpy_n (Cpy_eq a171 c1_168_0) (by omega) | omega) (by first | exact Cpy_0 (by omega) a172 | exact Cpy_n (Cpy_eq a172 d2) (by omega) | exact Cpy_n (Cpy_eq a172 c2_122_0) (by omega) | exact Cpy_n (Cpy_eq a172 c2_48_0) (by omega) | exact Cpy_n (Cpy_eq a172 c2_168_0) (by omega) | omega) (by omega)
  have J48_0 : ∀ (n : Nat) (p48_0 : Int) (h48_0 : my_H), my_fr [(63, -1), (64, -1), (65, -1), (66, -1), (67, -1), (68, -1), (69, -1), (70, -1), (71, -1), (72, -1)] h h48_0 → 0 ≤ p48_0 → p48_0 ≤ 6 → h48_0 151 8 = 0 → Put1 h h48_0 164 x1 1 → Put1 h h48_0 165 x1 (h 165 6) → Put1 h h48_0 166 x1 (h 166 6) → Put1 h h48_0 167 x1 (h 167 6) → Cpy h h48_0 168 (6 * x1) p48_0 36 → Cpy h h48_0 169 (6 * x1) p48_0 36 → Cpy h h48_0 170 (6 * x1) p48_0 36 → Cpy h h48_0 171 (6 * x1) p48_0 36 → Cpy h h48_0 172 (48 * x1) (8 * p48_0) 288 → 7 - p48_0 ≤ (n : Int) → wp l rho d 191 48 [(2, 151), (0, x1), (0, p48_0), (9, 0), (9, 0), (9, 0)] [] h48_0 Q := by
    intro n
    induction n with
    | zero => intro p48_0 h48_0 gh_48_0 q0_48_0 q1_48_0 c151_8_48_0 q4_48_0 q5_48_0 q6_48_0 q7_48_0 c8_48_0 c9_48_0 c0_48_0 c1_48_0 c2_48_0 hm_48_0; exfalso; omega
    | succ n ih_48_0 =>
      intro p48_0 h48_0 gh_48_0 q0_48_0 q1_48_0 c151_8_48_0 q4_48_0 q5_48_0 q6_48_0 q7_48_0 c8_48_0 c9_48_0 c0_48_0 c1_48_0 c2_48_0 hm_48_0
      have J122_0 : ∀ (n : Nat) (p122_0 p122_1 : Int) (h122_0 : my_H), my_fr [(63, -1), (64, -1), (65, -1), (66, -1), (67, -1), (68, -1), (69, -1), (70, -1), (71, -1), (72, -1)] h h122_0 → p48_0 ≤ 5 → 0 ≤ p122_0 → p122_0 ≤ 35 → 0 ≤ p122_1 → p122_1 ≤ 8 → h122_0 151 8 = 0 → p122_0 = 6 * x1 + p48_0 → (p48_0 + 36) = 36 + p48_0 → Put1 h h122_0 164 x1 1 → Put1 h h122_0 165 x1 (h 165 6) → Put1 h h122_0 166 x1 (h 166 6) → Put1 h h122_0 167 x1 (h 167 6) → Cpy h h122_0 168 (6 * x1) (p48_0 + 1) 36 → Cpy h h122_0 169 (6 * x1) (p48_0 + 1) 36 → Cpy h h122_0 170 (6 * x1) (p48_0 + 1) 36 → Cpy h h122_0 171 (6 * x1) (p48_0 + 1) 36 → Cpy h h122_0 172 (48 * x1) (8 * p48_0 + p122_1) 288 → 9 - p122_1 ≤ (n : Int) → wp l rho d 191 122 [(2, 151), (0, x1), (0, p48_0), (0, p122_0), (0, (p48_0 + 36)), (0, p122_1)] [] h122_0 Q := by
        intro n
        induction n with
        | zero => intro p122_0 p122_1 h122_0 gh_122_0 q0_122_0 q1_122_0 q2_122_0 q3_122_0 q4_122_0 c151_8_122_0 e3_122_0 e4_122_0 q4_122_0 q5_122_0 q6_122_0 q7_122_0 c8_122_0 c9_122_0 c0_122_0 c1_122_0 c2_122_0 hm_122_0; exfalso; omega
        | succ n ih_122_0 =>
          intro p122_0 p122_1 h122_0 gh_122_0 q0_122_0 q1_122_0 q2_122_0 q3_122_0 q4_122_0 c151_8_122_0 e3_122_0 e4_122_0 q4_122_0 q5_122_0 q6_122_0 q7_122_0 c8_122_0 c9_122_0 c0_122_0 c1_122_0 c2_122_0 hm_122_0
          refine w_iload gz_191_122 rfl ?_
          refine w_bipush gz_191_124 (by decide) ?_
          refine w_icge (t := 160) gz_191_126 rfl (fun u8 => ?_) (fun u8 => ?_)
          ·
            refine w_iinc (ls' := [(2, 151), (0, x1), (0, (p48_0 + 1)), (0, p122_0), (0, (p48_0 + 36)), (0, p122_1)]) gz_191_160 rfl gm_191 rfl rfl rfl ⟨by omega, by omega⟩ ?_
            refine w_goto (t := 48) gz_191_163 rfl ?_
            have a164 : ∀ j : Int, h122_0 164 j = h122_0 164 j := fun _ => rfl
            have a165 : ∀ j : Int, h122_0 165 j = h122_0 165 j := fun _ => rfl
            have a166 : ∀ j : Int, h122_0 166 j = h122_0 166 j := fun _ => rfl
            have a167 : ∀ j : Int, h122_0 167 j = h122_0 167 j := fun _ => rfl
            have a168 : ∀ j : Int, h122_0 168 j = h122_0 168 j := fun _ => rfl
            have a169 : ∀ j : Int, h122_0 169 j = h122_0 169 j := fun _ => rfl
            have a170 : ∀ j : Int, h122_0 170 j = h122_0 170 j := fun _ => rfl
            have a171 : ∀ j : Int, h122_0 171 j = h122_0 171 j := fun _ => rfl
            have a172 : ∀ j : Int, h122_0 172 j = h122_0 172 j := fun _ => rfl
            refine w_weak (ls' := [(2, 151), (0, x1), (0, (p48_0 + 1)), (9, 0), (9, 0), (9, 0)]) (wk_e (wk_e (wk_e (wk_9 (wk_9 (wk_9 wk_n)))))) ?_
            exact ih_48_0 ((p48_0 + 1)) h122_0 (gh_122_0) (by omega) (by omega) (c151_8_122_0.trans (by omega)) (by first | exact Put1_eq a164 p4 | exact Put1_eq a164 q4_122_0 | exact Put1_eq a164 q4_48_0 | exact Put1_eq a164 q4_168_0 | omega) (by first | exact Put1_eq a165 p5 | exact Put1_eq a165 q5_122_0 | exact Put1_eq a165 q5_48_0 | exact Put1_eq a165 q5_168_0 | omega) (by first | exact Put1_eq a166 p6 | exact Put1_eq a166 q6_122_0 | exact Put1_eq a166 q6_48_0 | exact Put1_eq a166 q6_168_0 | omega) (by first | exact Put1_eq a167 p7 | exact Put1_eq a167 q7_122_0 | exact Put1_eq a167 q7_48_0 | exact Put1_eq a167 q7_168_0 | omega) (by first | exact Cpy_0 (by omega) a168 | exact Cpy_n (Cpy_eq a168 d8) (by omega) | exact Cpy_n (Cpy_eq a168 c8_122_0) (by omega) | exact Cpy_n (Cpy_eq a168 c8_48_0) (by omega) | exact Cpy_n (Cpy_eq a168 c8_168_0) (by omega) | omega) (by first | exact Cpy_0 (by omega) a169 | exact Cpy_n (Cpy_eq a169 d9) (by omega) | exact Cpy_n (Cpy_eq a169 c9_122_0) (by omega) | exact Cpy_n (Cpy_eq a169 c9_48_0) (by omega) | exact Cpy_n (Cpy_eq a169 c9_168_0) (by omega) | omega) (by first | exact Cpy_0 (by omega) a170 | exact Cpy_n (Cpy_eq a170 d0) (by omega) | exact Cpy_n (Cpy_eq a170 c0_122_0) (by omega) | exact Cpy_n (Cpy_eq a170 c0_48_0) (by omega) | exact Cpy_n (Cpy_eq a170 c0_168_0) (by omega) | omega) (by first | exact Cpy_0 (by omega) a171 | exact Cpy_n (Cpy_eq a171 d1) (by omega) | exact Cpy_n (Cpy_eq a171 c1_122_0) (by omega) | exact Cpy_n (Cpy_eq a171 c1_48_0) (by omega) | exact Cpy_n (Cpy_eq a171 c1_168_0) (by omega) | omega) (by first | exact Cpy_0 (by omega) a172 | exact Cpy_n (Cpy_eq a172 d2) (by omega) | exact Cpy_n (Cpy_eq a172 c2_122_0) (by omega) | exact Cpy_n (Cpy_eq a172 c2_48_0) (by omega) | exact Cpy_n (Cpy_eq a172 c2_168_0) (by omega) | omega) (by omega)
          ·
            refine w_aload_n gz_191_129 rfl ?_
            refine w_getX (v := 172) gz_191_130 is_151 rd_10 rfl (by decide) rfl ?_
            refine w_bipush gz_191_133 (by decide) ?_
            refine w_iload_n gz_191_135 rfl ?_
            refine w_imul gz_191_136 ⟨by omega, by omega⟩ ?_
            refine w_iload gz_191_137 rfl ?_
            refine w_iadd gz_191_139 ⟨by omega, by omega⟩ ?_
            refine w_aload_n gz_191_140 rfl ?_
            refine w_getX (v := 172) gz_191_141 is_151 rd_10 rfl (by decide) rfl ?_
            refine w_bipush gz_191_144 (by decide) ?_
            refine w_iload gz_191_146 rfl ?_
            refine w_imul gz_191_148 ⟨by omega, by omega⟩ ?_
            refine w_iload gz_191_149 rfl ?_
            refine w_iadd gz_191_151 ⟨by omega, by omega⟩ ?_
            refine w_iald gz_191_152 is_172 rd_71 (by omega) (by omega) (fun v11 ev11 pv11 qv11 => ?_)
            refine w_iast gz_191_153 is_172 rd_71 (by omega) (by omega) (by omega) (by omega) (fun h12 fh12 => ?_)
            have gh12 : my_fr [(63, -1), (64, -1), (65, -1), (66, -1), (67, -1), (68, -1), (69, -1), (70, -1), (71, -1), (72, -1)] h h12 := my_fr.up gh_122_0 is_172 fh12 rfl
            have d2 := Cpy_s (n' := 8 * p48_0 + (p122_1 + 1)) c2_122_0 fh12 (by omega) (by omega) (by omega) (by omega) (by rw [show (288 : Int) + (8 * p48_0 + p122_1) = 8 * (p48_0 + 36) + p122_1 by omega]; omega)
            refine w_iinc (ls' := [(2, 151), (0, x1), (0, p48_0), (0, p122_0), (0, (p48_0 + 36)), (0, (p122_1 + 1))]) gz_191_154 rfl gm_191 rfl rfl rfl ⟨by omega, by omega⟩ ?_
            refine w_goto (t := 122) gz_191_157 rfl ?_
            have a164 : ∀ j : Int, h12 164 j = h122_0 164 j := fun j => ((my_up_role fh12 is_164 is_172 rfl).trans (rfl : h122_0 164 j = h122_0 164 j))
            have a165 : ∀ j : Int, h12 165 j = h122_0 165 j := fun j => ((my_up_role fh12 is_165 is_172 rfl).trans (rfl : h122_0 165 j = h122_0 165 j))
            have a166 : ∀ j : Int, h12 166 j = h122_0 166 j := fun j => ((my_up_role fh12 is_166 is_172 rfl).trans (rfl : h122_0 166 j = h122_0 166 j))
            have a167 : ∀ j : Int, h12 167 j = h122_0 167 j := fun j => ((my_up_role fh12 is_167 is_172 rfl).trans (rfl : h122_0 167 j = h122_0 167 j))
            have a168 : ∀ j : Int, h12 168 j = h122_0 168 j := fun j => ((my_up_role fh12 is_168 is_172 rfl).trans (rfl : h122_0 168 j = h122_0 168 j))
            have a169 : ∀ j : Int, h12 169 j = h122_0 169 j := fun j => ((my_up_role fh12 is_169 is_172 rfl).trans (rfl : h122_0 169 j = h122_0 169 j))
            have a170 : ∀ j : Int, h12 170 j = h122_0 170 j := fun j => ((my_up_role fh12 is_170 is_172 rfl).trans (rfl : h122_0 170 j = h122_0 170 j))
            have a171 : ∀ j : Int, h12 171 j = h122_0 171 j := fun j => ((my_up_role fh12 is_171 is_172 rfl).trans (rfl : h122_0 171 j = h122_0 171 j))
            have a172 : ∀ j : Int, h12 172 j = h12 172 j := fun j => rfl
            exact ih_122_0 (p122_0) ((p122_1 + 1)) h12 (gh12) (by omega) (by omega) (by omega) (by omega) (by omega) (((my_up_role fh12 is_151 is_172 rfl).trans c151_8_122_0).trans (by omega)) (by omega) (by omega) (by first | exact Put1_eq a164 p4 | exact Put1_eq a164 q4_122_0 | exact Put1_eq a164 q4_48_0 | exact Put1_eq a164 q4_168_0 | omega) (by first | exact Put1_eq a165 p5 | exact Put1_eq a165 q5_122_0 | exact Put1_eq a165 q5_48_0 | exact Put1_eq a165 q5_168_0 | omega) (by first | exact Put1_eq a166 p6 | exact Put1_eq a166 q6_122_0 | exact Put1_eq a166 q6_48_0 | exact Put1_eq a166 q6_168_0 | omega) (by first | exact Put1_eq a167 p7 | exact Put1_eq a167 q7_122_0 | exact Put1_eq a167 q7_48_0 | exact Put1_eq a167 q7_168_0 | omega) (by first | exact Cpy_0 (by omega) a168 | exact Cpy_n (Cpy_eq a168 d8) (by omega) | exact Cpy_n (Cpy_eq a168 c8_122_0) (by omega) | exact Cpy_n (Cpy_eq a168 c8_48_0) (by omega) | exact Cpy_n (Cpy_eq a168 c8_168_0) (by omega) | omega) (by first | exact Cpy_0 (by omega) a169 | exact Cpy_n (Cpy_eq a169 d9) (by omega) | exact Cpy_n (Cpy_eq a169 c9_122_0) (by omega) | exact Cpy_n (Cpy_eq a169 c9_48_0) (by omega) | exact Cpy_n (Cpy_eq a169 c9_168_0) (by omega) | omega) (by first | exact Cpy_0 (by omega) a170 | exact Cpy_n (Cpy_eq a170 d0) (by omega) | exact Cpy_n (Cpy_eq a170 c0_122_0) (by omega) | exact Cpy_n (Cpy_eq a170 c0_48_0) (by omega) | exact Cpy_n (Cpy_eq a170 c0_168_0) (by omega) | omega) (by first | exact Cpy_0 (by omega) a171 | exact Cpy_n (Cpy_eq a171 d1) (by omega) | exact Cpy_n (Cpy_eq a171 c1_122_0) (by omega) | exact Cpy_n (Cpy_eq a171 c1_48_0) (by omega) | exact Cpy_n (Cpy_eq a171 c1_168_0) (by omega) | omega) (by first | exact Cpy_0 (by omega) a172 | exact Cpy_n (Cpy_eq a172 d2) (by omega) | exact Cpy_n (Cpy_eq a172 c2_122_0) (by omega) | exact Cpy_n (Cpy_eq a172 c2_48_0) (by omega) | exact Cpy_n (Cpy_eq a172 c2_168_0) (by omega) | omega) (by omega)
      refine w_iload_n gz_191_48 rfl ?_
      refine w_bipush gz_191_49 (by decide) ?_
      refine w_icge (t := 166) gz_191_51 rfl (fun u13 => ?_) (fun u13 => ?_)
      ·
        refine w_iconst gz_191_166 (by decide) ?_
        refine w_istore_n (ls' := [(2, 151), (0, x1), (0, 0), (9, 0), (9, 0), (9, 0)]) gz_191_167 gm_191 rfl rfl rfl ?_
        have a164 : ∀ j : Int, h48_0 164 j = h48_0 164 j := fun _ => rfl
        have a165 : ∀ j : Int, h48_0 165 j = h48_0 165 j := fun _ => rfl
        have a166 : ∀ j : Int, h48_0 166 j = h48_0 166 j := fun _ => rfl
        have a167 : ∀ j : Int, h48_0 167 j = h48_0 167 j := fun _ => rfl
        have a168 : ∀ j : Int, h48_0 168 j = h48_0 168 j := fun _ => rfl
        have a169 : ∀ j : Int, h48_0 169 j = h48_0 169 j := fun _ => rfl
        have a170 : ∀ j : Int, h48_0 170 j = h48_0 170 j := fun _ => rfl
        have a171 : ∀ j : Int, h48_0 171 j = h48_0 171 j := fun _ => rfl
        have a172 : ∀ j : Int, h48_0 172 j = h48_0 172 j := fun _ => rfl
        exact J168_0 5 (0) h48_0 (gh_48_0) (by omega) (by omega) (c151_8_48_0.trans (by omega)) (by first | exact Put1_eq a164 p4 | exact Put1_eq a164 q4_122_0 | exact Put1_eq a164 q4_48_0 | exact Put1_eq a164 q4_168_0 | omega) (by first | exact Put1_eq a165 p5 | exact Put1_eq a165 q5_122_0 | exact Put1_eq a165 q5_48_0 | exact Put1_eq a165 q5_168_0 | omega) (by first | exact Put1_eq a166 p6 | exact Put1_eq a166 q6_122_0 | exact Put1_eq a166 q6_48_0 | exact Put1_eq a166 q6_168_0 | omega) (by first | exact Put1_eq a167 p7 | exact Put1_eq a167 q7_122_0 | exact Put1_eq a167 q7_48_0 | exact Put1_eq a167 q7_168_0 | omega) (by first | exact Cpy_0 (by omega) a168 | exact Cpy_n (Cpy_eq a168 d8) (by omega) | exact Cpy_n (Cpy_eq a168 c8_122_0) (by omega) | exact Cpy_n (Cpy_eq a168 c8_48_0) (by omega) | exact Cpy_n (Cpy_eq a168 c8_168_0) (by omega) | omega) (by first | exact Cpy_0 (by omega) a169 | exact Cpy_n (Cpy_eq a169 d9) (by omega) | exact Cpy_n (Cpy_eq a169 c9_122_0) (by omega) | exact Cpy_n (Cpy_eq a169 c9_48_0) (by omega) | exact Cpy_n (Cpy_eq a169 c9_168_0) (by omega) | omega) (by first | exact Cpy_0 (by omega) a170 | exact Cpy_n (Cpy_eq a170 d0) (by omega) | exact Cpy_n (Cpy_eq a170 c0_122_0) (by omega) | exact Cpy_n (Cpy_eq a170 c0_48_0) (by omega) | exact Cpy_n (Cpy_eq a170 c0_168_0) (by omega) | omega) (by first | exact Cpy_0 (by omega) a171 | exact Cpy_n (Cpy_eq a171 d1) (by omega) | exact Cpy_n (Cpy_eq a171 c1_122_0) (by omega) | exact Cpy_n (Cpy_eq a171 c1_48_0) (by omega) | exact Cpy_n (Cpy_eq a171 c1_168_0) (by omega) | omega) (by first | exact Cpy_0 (by omega) a172 | exact Cpy_n (Cpy_eq a172 d2) (by omega) | exact Cpy_n (Cpy_eq a172 c2_122_0) (by omega) | exact Cpy_n (Cpy_eq a172 c2_48_0) (by omega) | exact Cpy_n (Cpy_eq a172 c2_168_0) (by omega) | omega) (by omega)
      ·
        refine w_bipush gz_191_54 (by decide) ?_
        refine w_iload_n gz_191_56 rfl ?_
        refine w_imul gz_191_57 ⟨by omega, by omega⟩ ?_
        refine w_iload_n gz_191_58 rfl ?_
        refine w_iadd gz_191_59 ⟨by omega, by omega⟩ ?_
        refine w_istore_n (ls' := [(2, 151), (0, x1), (0, p48_0), (0, ((6 * x1) + p48_0)), (9, 0), (9, 0)]) gz_191_60 gm_191 rfl rfl rfl ?_
        refine w_bipush gz_191_61 (by decide) ?_
        refine w_iload_n gz_191_63 rfl ?_
        refine w_iadd gz_191_64 ⟨by omega, by omega⟩ ?_
        refine w_istore (ls' := [(2, 151), (0, x1), (0, p48_0), (0, ((6 * x1) + p48_0)), (0, (36 + p48_0)), (9, 0)]) gz_191_65 gm_191 rfl rfl rfl ?_
        refine w_aload_n gz_191_67 rfl ?_
        refine w_getX (v := 168) gz_191_68 is_151 rd_10 rfl (by decide) rfl ?_
        refine w_iload_n gz_191_71 rfl ?_
        refine w_aload_n gz_191_72 rfl ?_
        refine w_getX (v := 168) gz_191_73 is_151 rd_10 rfl (by decide) rfl ?_
        refine w_iload gz_191_76 rfl ?_
        refine w_iald gz_191_78 is_168 rd_67 (by omega) (by omega) (fun v16 ev16 pv16 qv16 => ?_)
        have b168 : ∀ j : Int, h48_0 168 j = h48_0 168 j := fun _ => rfl
        refine w_iast gz_191_79 is_168 rd_67 (by omega) (by omega) (by omega) (by omega) (fun h17 fh17 => ?_)
        have gh17 : my_fr [(63, -1), (64, -1), (65, -1), (66, -1), (67, -1), (68, -1), (69, -1), (70, -1), (71, -1), (72, -1)] h h17 := my_fr.up gh_48_0 is_168 fh17 rfl
        have d8 := Cpy_s (n' := p48_0 + 1) (Cpy_eq b168 c8_48_0) fh17 (by omega) (by omega) rfl (by omega) (by omega)
        refine w_aload_n gz_191_80 rfl ?_
        refine w_getX (v := 169) gz_191_81 is_151 rd_10 rfl (by decide) rfl ?_
        refine w_iload_n gz_191_84 rfl ?_
        refine w_aload_n gz_191_85 rfl ?_
        refine w_getX (v := 169) gz_191_86 is_151 rd_10 rfl (by decide) rfl ?_
        refine w_iload gz_191_89 rfl ?_
        refine w_iald gz_191_91 is_169 rd_68 (by omega) (by omega) (fun v20 ev20 pv20 qv20 => ?_)
        have b169 : ∀ j : Int, h17 169 j = h48_0 169 j := fun j => ((my_up_role fh17 is_169 is_168 rfl).trans (rfl : h48_0 169 j = h48_0 169 j))
        refine w_iast gz_191_92 is_169 rd_68 (by omega) (by omega) (by omega) (by omega) (fun h21 fh21 => ?_)
        have gh21 : my_fr [(63, -1), (64, -1), (65, -1), (66, -1), (67, -1), (68, -1), (69, -1), (70, -1), (71, -1), (72, -1)] h h21 := my_fr.up gh17 is_169 fh21 rfl
        have d9 := Cpy_s (n' := p48_0 + 1) (Cpy_eq b169 c9_48_0) fh21 (by omega) (by omega) rfl (by omega) (by omega)
        refine w_aload_n gz_191_93 rfl ?_
        refine w_getX (v := 170) gz_191_94 is_151 rd_10 rfl (by decide) rfl ?_
        refine w_iload_n gz_191_97 rfl ?_
        refine w_aload_n gz_191_98 rfl ?_
        refine w_getX (v := 170) gz_191_99 is_151 rd_10 rfl (by decide) rfl ?_
        refine w_iload gz_191_102 rfl ?_
        refine w_iald gz_191_104 is_170 rd_69 (by omega) (by omega) (fun v24 ev24 pv24 qv24 => ?_)
        have b170 : ∀ j : Int, h21 170 j = h48_0 170 j := fun j => ((my_up_role fh21 is_170 is_169 rfl).trans ((my_up_role fh17 is_170 is_168 rfl).trans (rfl : h48_0 170 j = h48_0 170 j)))
        refine w_iast gz_191_105 is_170 rd_69 (by omega) (by omega) (by omega) (by omega) (fun h25 fh25 => ?_)
        have gh25 : my_fr [(63, -1), (64, -1), (65, -1), (66, -1), (67, -1), (68, -1), (69, -1), (70, -1), (71, -1), (72, -1)] h h25 := my_fr.up gh21 is_170 fh25 rfl
        have d0 := Cpy_s (n' := p48_0 + 1) (Cpy_eq b170 c0_48_0) fh25 (by omega) (by omega) rfl (by omega) (by omega)
        refine w_aload_n gz_191_106 rfl ?_
        refine w_getX (v := 171) gz_191_107 is_151 rd_10 rfl (by decide) rfl ?_
        refine w_iload_n gz_191_110 rfl ?_
        refine w_aload_n gz_191_111 rfl ?_
        refine w_getX (v := 171) gz_191_112 is_151 rd_10 rfl (by decide) rfl ?_
        refine w_iload gz_191_115 rfl ?_
        refine w_iald gz_191_117 is_171 rd_70 (by omega) (by omega) (fun v28 ev28 pv28 qv28 => ?_)
        have b171 : ∀ j : Int, h25 171 j = h48_0 171 j := fun j => ((my_up_role fh25 is_171 is_170 rfl).trans ((my_up_role fh21 is_171 is_169 rfl).trans ((my_up_role fh17 is_171 is_168 rfl).trans (rfl : h48_0 171 j = h48_0 171 j))))
        refine w_iast gz_191_118 is_171 rd_70 (by omega) (by omega) (by omega) (by omega) (fun h29 fh29 => ?_)
        have gh29 : my_fr [(63, -1), (64, -1), (65, -1), (66, -1), (67, -1), (68, -1), (69, -1), (70, -1), (71, -1), (72, -1)] h h29 := my_fr.up gh25 is_171 fh29 rfl
        have d1 := Cpy_s (n' := p48_0 + 1) (Cpy_eq b171 c1_48_0) fh29 (by omega) (by omega) rfl (by omega) (by omega)
        refine w_iconst gz_191_119 (by decide) ?_
        refine w_istore (ls' := [(2, 151), (0, x1), (0, p48_0), (0, ((6 * x1) + p48_0)), (0, (36 + p48_0)), (0, 0)]) gz_191_120 gm_191 rfl rfl rfl ?_
        have a164 : ∀ j : Int, h29 164 j = h48_0 164 j := fun j => ((my_up_role fh29 is_164 is_171 rfl).trans ((my_up_role fh25 is_164 is_170 rfl).trans ((my_up_role fh21 is_164 is_169 rfl).trans ((my_up_role fh17 is_164 is_168 rfl).trans (rfl : h48_0 164 j = h48_0 164 j)))))
        have a165 : ∀ j : Int, h29 165 j = h48_0 165 j := fun j => ((my_up_role fh29 is_165 is_171 rfl).trans ((my_up_role fh25 is_165 is_170 rfl).trans ((my_up_role fh21 is_165 is_169 rfl).trans ((my_up_role fh17 is_165 is_168 rfl).trans (rfl : h48_0 165 j = h48_0 165 j)))))
        have a166 : ∀ j : Int, h29 166 j = h48_0 166 j := fun j => ((my_up_role fh29 is_166 is_171 rfl).trans ((my_up_role fh25 is_166 is_170 rfl).trans ((my_up_role fh21 is_166 is_169 rfl).trans ((my_up_role fh17 is_166 is_168 rfl).trans (rfl : h48_0 166 j = h48_0 166 j)))))
        have a167 : ∀ j : Int, h29 167 j = h48_0 167 j := fun j => ((my_up_role fh29 is_167 is_171 rfl).trans ((my_up_role fh25 is_167 is_170 rfl).trans ((my_up_role fh21 is_167 is_169 rfl).trans ((my_up_role fh17 is_167 is_168 rfl).trans (rfl : h48_0 167 j = h48_0 167 j)))))
        have a168 : ∀ j : Int, h29 168 j = h17 168 j := fun j => ((my_up_role fh29 is_168 is_171 rfl).trans ((my_up_role fh25 is_168 is_170 rfl).trans ((my_up_role fh21 is_168 is_169 rfl).trans (rfl : h17 168 j = h17 168 j))))
        have a169 : ∀ j : Int, h29 169 j = h21 169 j := fun j => ((my_up_role fh29 is_169 is_171 rfl).trans ((my_up_role fh25 is_169 is_170 rfl).trans (rfl : h21 169 j = h21 169 j)))
        have a170 : ∀ j : Int, h29 170 j = h25 170 j := fun j => ((my_up_role fh29 is_170 is_171 rfl).trans (rfl : h25 170 j = h25 170 j))
        have a171 : ∀ j : Int, h29 171 j = h29 171 j := fun j => rfl
        have a172 : ∀ j : Int, h29 172 j = h48_0 172 j := fun j => ((my_up_role fh29 is_172 is_171 rfl).trans ((my_up_role fh25 is_172 is_170 rfl).trans ((my_up_role fh21 is_172 is_169 rfl).trans ((my_up_role fh17 is_172 is_168 rfl).trans (rfl : h48_0 172 j = h48_0 172 j)))))
        rw [show ((36 + p48_0) : Int) = (p48_0 + 36) from by omega]
        exact J122_0 9 (((6 * x1) + p48_0)) (0) h29 (gh29) (by omega) (by omega) (by omega) (by omega) (by omega) (((my_up_role fh29 is_151 is_171 rfl).trans ((my_up_role fh25 is_151 is_170 rfl).trans ((my_up_role fh21 is_151 is_169 rfl).trans ((my_up_role fh17 is_151 is_168 rfl).trans c151_8_48_0)))).trans (by omega)) (by omega) (by omega) (by first | exact Put1_eq a164 p4 | exact Put1_eq a164 q4_122_0 | exact Put1_eq a164 q4_48_0 | exact Put1_eq a164 q4_168_0 | omega) (by first | exact Put1_eq a165 p5 | exact Put1_eq a165 q5_122_0 | exact Put1_eq a165 q5_48_0 | exact Put1_eq a165 q5_168_0 | omega) (by first | exact Put1_eq a166 p6 | exact Put1_eq a166 q6_122_0 | exact Put1_eq a166 q6_48_0 | exact Put1_eq a166 q6_168_0 | omega) (by first | exact Put1_eq a167 p7 | exact Put1_eq a167 q7_122_0 | exact Put1_eq a167 q7_48_0 | exact Put1_eq a167 q7_168_0 | omega) (by first | exact Cpy_0 (by omega) a168 | exact Cpy_n (Cpy_eq a168 d8) (by omega) | exact Cpy_n (Cpy_eq a168 c8_122_0) (by omega) | exact Cpy_n (Cpy_eq a168 c8_48_0) (by omega) | exact Cpy_n (Cpy_eq a168 c8_168_0) (by omega) | omega) (by first | exact Cpy_0 (by omega) a169 | exact Cpy_n (Cpy_eq a169 d9) (by omega) | exact Cpy_n (Cpy_eq a169 c9_122_0) (by omega) | exact Cpy_n (Cpy_eq a169 c9_48_0) (by omega) | exact Cpy_n (Cpy_eq a169 c9_168_0) (by omega) | omega) (by first | exact Cpy_0 (by omega) a170 | exact Cpy_n (Cpy_eq a170 d0) (by omega) | exact Cpy_n (Cpy_eq a170 c0_122_0) (by omega) | exact Cpy_n (Cpy_eq a170 c0_48_0) (by omega) | exact Cpy_n (Cpy_eq a170 c0_168_0) (by omega) | omega) (by first | exact Cpy_0 (by omega) a171 | exact Cpy_n (Cpy_eq a171 d1) (by omega) | exact Cpy_n (Cpy_eq a171 c1_122_0) (by omega) | exact Cpy_n (Cpy_eq a171 c1_48_0) (by omega) | exact Cpy_n (Cpy_eq a171 c1_168_0) (by omega) | omega) (by first | exact Cpy_0 (by omega) a172 | exact Cpy_n (Cpy_eq a172 d2) (by omega) | exact Cpy_n (Cpy_eq a172 c2_122_0) (by omega) | exact Cpy_n (Cpy_eq a172 c2_48_0) (by omega) | exact Cpy_n (Cpy_eq a172 c2_168_0) (by omega) | omega) (by omega)
  refine w_aload_n gz_191_0 rfl ?_
  refine w_getX (v := 164) gz_191_1 is_151 rd_10 rfl (by decide) rfl ?_
  refine w_iload_n gz_191_4 rfl ?_
  refine w_iconst gz_191_5 (by decide) ?_
  refine w_bast gz_191_6 is_164 rd_63 (by omega) (by omega) (by omega) (by omega) (fun h31 fh31 => ?_)
  have gh31 : my_fr [(63, -1), (64, -1), (65, -1), (66, -1), (67, -1), (68, -1), (69, -1), (70, -1), (71, -1), (72, -1)] h h31 := my_fr.up my_fr.rf is_164 fh31 rfl
  have p4 := Put1_up fh31
  refine w_aload_n gz_191_7 rfl ?_
  refine w_getX (v := 165) gz_191_8 is_151 rd_10 rfl (by decide) rfl ?_
  refine w_iload_n gz_191_11 rfl ?_
  refine w_aload_n gz_191_12 rfl ?_
  refine w_getX (v := 165) gz_191_13 is_151 rd_10 rfl (by decide) rfl ?_
  refine w_bipush gz_191_16 (by decide) ?_
  refine w_bald gz_191_18 is_165 rd_64 (by omega) (by omega) (fun v34 ev34 pv34 qv34 => ?_)
  have b165 : ∀ j : Int, h31 165 j = h 165 j := fun j => ((my_up_role fh31 is_165 is_164 rfl).trans (rfl : h 165 j = h 165 j))
  refine w_bast gz_191_19 is_165 rd_64 (by omega) (by omega) (by omega) (by omega) (fun h35 fh35 => ?_)
  have gh35 : my_fr [(63, -1), (64, -1), (65, -1), (66, -1), (67, -1), (68, -1), (69, -1), (70, -1), (71, -1), (72, -1)] h h35 := my_fr.up gh31 is_165 fh35 rfl
  have p5 := Put1_of (v' := h 165 6) fh35 b165 (by have q := b165 6; omega)
  refine w_aload_n gz_191_20 rfl ?_
  refine w_getX (v := 166) gz_191_21 is_151 rd_10 rfl (by decide) rfl ?_
  refine w_iload_n gz_191_24 rfl ?_
  refine w_aload_n gz_191_25 rfl ?_
  refine w_getX (v := 166) gz_191_26 is_151 rd_10 rfl (by decide) rfl ?_
  refine w_bipush gz_191_29 (by decide) ?_
  refine w_iald gz_191_31 is_166 rd_65 (by omega) (by omega) (fun v38 ev38 pv38 qv38 => ?_)
  have b166 : ∀ j : Int, h35 166 j = h 166 j := fun j => ((my_up_role fh35 is_166 is_165 rfl).trans ((my_up_role fh31 is_166 is_164 rfl).trans (rfl : h 166 j = h 166 j)))
  refine w_iast gz_191_32 is_166 rd_65 (by omega) (by omega) (by omega) (by omega) (fun h39 fh39 => ?_)
  have gh39 : my_fr [(63, -1), (64, -1), (65, -1), (66, -1), (67, -1), (68, -1), (69, -1), (70, -1), (71, -1), (72, -1)] h h39 := my_fr.up gh35 is_166 fh39 rfl
  have p6 := Put1_of (v' := h 166 6) fh39 b166 (by have q := b166 6; omega)
  refine w_aload_n gz_191_33 rfl ?_
  refine w_getX (v := 167) gz_191_34 is_151 rd_10 rfl (by decide) rfl ?_
  refine w_iload_n gz_191_37 rfl ?_
  refine w_aload_n gz_191_38 rfl ?_
  refine w_getX (v := 167) gz_191_39 is_151 rd_10 rfl (by decide) rfl ?_
  refine w_bipush gz_191_42 (by decide) ?_
  refine w_iald gz_191_44 is_167 rd_66 (by omega) (by omega) (fun v42 ev42 pv42 qv42 => ?_)
  have b167 : ∀ j : Int, h39 167 j = h 167 j := fun j => ((my_up_role fh39 is_167 is_166 rfl).trans ((my_up_role fh35 is_167 is_165 rfl).trans ((my_up_role fh31 is_167 is_164 rfl).trans (rfl : h 167 j = h 167 j))))
  refine w_iast gz_191_45 is_167 rd_66 (by omega) (by omega) (by omega) (by omega) (fun h43 fh43 => ?_)
  have gh43 : my_fr [(63, -1), (64, -1), (65, -1), (66, -1), (67, -1), (68, -1), (69, -1), (70, -1), (71, -1), (72, -1)] h h43 := my_fr.up gh39 is_167 fh43 rfl
  have p7 := Put1_of (v' := h 167 6) fh43 b167 (by have q := b167 6; omega)
  refine w_iconst gz_191_46 (by decide) ?_
  refine w_istore_n (ls' := [(2, 151), (0, x1), (0, 0), (9, 0), (9, 0), (9, 0)]) gz_191_47 gm_191 rfl rfl rfl ?_
  have a164 : ∀ j : Int, h43 164 j = h31 164 j := fun j => ((my_up_role fh43 is_164 is_167 rfl).trans ((my_up_role fh39 is_164 is_166 rfl).trans ((my_up_role fh35 is_164 is_165 rfl).trans (rfl : h31 164 j = h31 164 j))))
  have a165 : ∀ j : Int, h43 165 j = h35 165 j := fun j => ((my_up_role fh43 is_165 is_167 rfl).trans ((my_up_role fh39 is_165 is_166 rfl).trans (rfl : h35 165 j = h35 165 j)))
  have a166 : ∀ j : Int, h43 166 j = h39 166 j := fun j => ((my_up_role fh43 is_166 is_167 rfl).trans (rfl : h39 166 j = h39 166 j))
  have a167 : ∀ j : Int, h43 167 j = h43 167 j := fun j => rfl
  have a168 : ∀ j : Int, h43 168 j = h 168 j := fun j => ((my_up_role fh43 is_168 is_167 rfl).trans ((my_up_role fh39 is_168 is_166 rfl).trans ((my_up_role fh35 is_168 is_165 rfl).trans ((my_up_role fh31 is_168 is_164 rfl).trans (rfl : h 168 j = h 168 j)))))
  have a169 : ∀ j : Int, h43 169 j = h 169 j := fun j => ((my_up_role fh43 is_169 is_167 rfl).trans ((my_up_role fh39 is_169 is_166 rfl).trans ((my_up_role fh35 is_169 is_165 rfl).trans ((my_up_role fh31 is_169 is_164 rfl).trans (rfl : h 169 j = h 169 j)))))
  have a170 : ∀ j : Int, h43 170 j = h 170 j := fun j => ((my_up_role fh43 is_170 is_167 rfl).trans ((my_up_role fh39 is_170 is_166 rfl).trans ((my_up_role fh35 is_170 is_165 rfl).trans ((my_up_role fh31 is_170 is_164 rfl).trans (rfl : h 170 j = h 170 j)))))
  have a171 : ∀ j : Int, h43 171 j = h 171 j := fun j => ((my_up_role fh43 is_171 is_167 rfl).trans ((my_up_role fh39 is_171 is_166 rfl).trans ((my_up_role fh35 is_171 is_165 rfl).trans ((my_up_role fh31 is_171 is_164 rfl).trans (rfl : h 171 j = h 171 j)))))
  have a172 : ∀ j : Int, h43 172 j = h 172 j := fun j => ((my_up_role fh43 is_172 is_167 rfl).trans ((my_up_role fh39 is_172 is_166 rfl).trans ((my_up_role fh35 is_172 is_165 rfl).trans ((my_up_role fh31 is_172 is_164 rfl).trans (rfl : h 172 j = h 172 j)))))
  exact J48_0 7 (0) h43 (gh43) (by omega) (by omega) (((my_up_role fh43 is_151 is_167 rfl).trans ((my_up_role fh39 is_151 is_166 rfl).trans ((my_up_role fh35 is_151 is_165 rfl).trans ((my_up_role fh31 is_151 is_164 rfl).trans cf)))).trans (by omega)) (by first | exact Put1_eq a164 p4 | exact Put1_eq a164 q4_122_0 | exact Put1_eq a164 q4_48_0 | exact Put1_eq a164 q4_168_0 | omega) (by first | exact Put1_eq a165 p5 | exact Put1_eq a165 q5_122_0 | exact Put1_eq a165 q5_48_0 | exact Put1_eq a165 q5_168_0 | omega) (by first | exact Put1_eq a166 p6 | exact Put1_eq a166 q6_122_0 | exact Put1_eq a166 q6_48_0 | exact Put1_eq a166 q6_168_0 | omega) (by first | exact Put1_eq a167 p7 | exact Put1_eq a167 q7_122_0 | exact Put1_eq a167 q7_48_0 | exact Put1_eq a167 q7_168_0 | omega) (by first | exact Cpy_0 (by omega) a168 | exact Cpy_n (Cpy_eq a168 d8) (by omega) | exact Cpy_n (Cpy_eq a168 c8_122_0) (by omega) | exact Cpy_n (Cpy_eq a168 c8_48_0) (by omega) | exact Cpy_n (Cpy_eq a168 c8_168_0) (by omega) | omega) (by first | exact Cpy_0 (by omega) a169 | exact Cpy_n (Cpy_eq a169 d9) (by omega) | exact Cpy_n (Cpy_eq a169 c9_122_0) (by omega) | exact Cpy_n (Cpy_eq a169 c9_48_0) (by omega) | exact Cpy_n (Cpy_eq a169 c9_168_0) (by omega) | omega) (by first | exact Cpy_0 (by omega) a170 | exact Cpy_n (Cpy_eq a170 d0) (by omega) | exact Cpy_n (Cpy_eq a170 c0_122_0) (by omega) | exact Cpy_n (Cpy_eq a170 c0_48_0) (by omega) | exact Cpy_n (Cpy_eq a170 c0_168_0) (by omega) | omega) (by first | exact Cpy_0 (by omega) a171 | exact Cpy_n (Cpy_eq a171 d1) (by omega) | exact Cpy_n (Cpy_eq a171 c1_122_0) (by omega) | exact Cpy_n (Cpy_eq a171 c1_48_0) (by omega) | exact Cpy_n (Cpy_eq a171 c1_168_0) (by omega) | omega) (by first | exact Cpy_0 (by omega) a172 | exact Cpy_n (Cpy_eq a172 d2) (by omega) | exact Cpy_n (Cpy_eq a172 c2_122_0) (by omega) | exact Cpy_n (Cpy_eq a172 c2_48_0) (by omega) | exact Cpy_n (Cpy_eq a172 c2_168_0) (by omega) | omega) (by omega)
theorem c_ThroughWindow_isUnderAnother9 {l : Launch} {rho : Nat → Int32} {d : Nat} {h : my_H} {Q : my_H → my_V → Prop} {x1 : Int} (a1 : 0 ≤ x1) (b1 : x1 ≤ 5) (k0 : (∀ v : Int, 0 ≤ v → v ≤ 5 → h (h 27 v) 0 = 1 → h (h 27 v) 1 ≠ x1) → Q h (0, 0)) (k1 : (∃ v : Int, 0 ≤ v ∧ v ≤ 5 ∧ h (h 27 v) 0 = 1 ∧ h (h 27 v) 1 = x1) → Q h (0, 1)) : wp l rho d 35 0 [(2, 0), (0, x1), (9, 0)] [] h Q := by
  have J2_0 : ∀ (n : Nat) (p2_0 : Int), 0 ≤ p2_0 → p2_0 ≤ 6 → (∀ v : Int, 0 ≤ v → v < p2_0 → h (h 27 v) 0 = 1 → h (h 27 v) 1 ≠ x1) → 7 - p2_0 ≤ (n : Int) → wp l rho d 35 2 [(2, 0), (0, x1), (0, p2_0)] [] h Q := by
    intro n
    induction n with
    | zero => intro p2_0 q0_2_0 q1_2_0 ua_2_0 hm_2_0; exfalso; omega
    | succ n ih_2_0 =>
      intro p2_0 q0_2_0 q1_2_0 ua_2_0 hm_2_0
      refine w_iload_n gz_35_2 rfl ?_
      refine w_bipush gz_35_3 (by decide) ?_
      refine w_icge (t := 41) gz_35_5 rfl (fun u1 => ?_) (fun u1 => ?_)
      ·
        refine w_iconst gz_35_41 (by decide) ?_
        exact w_bret gz_35_42 gm_35 (by omega) (by omega) (k0 (by first | exact ⟨p2_0, by omega, by omega, by subst_vars; omega, by subst_vars; omega⟩ | (intro v a b; exact ua_2_0 v a (by omega)) | grind | omega))
      ·
        refine w_aload_n gz_35_8 rfl ?_
        refine w_getX (v := 27) gz_35_9 is_0 rd_9 rfl (by decide) rfl ?_
        refine w_iload_n gz_35_12 rfl ?_
        refine w_aald gz_35_13 is_27 rd_22 rfl (by omega) (by omega) (fun v3 ev3 tv3 => ?_)
        refine v_getI (j := 0) gz_35_14 rfl tv3 rd_4 rfl (fun v4 ev4 pv4 qv4 => ?_)
        refine w_ifeq (t := 35) gz_35_17 rfl (fun u5 => ?_) (fun u5 => ?_)
        ·
          refine w_iinc (ls' := [(2, 0), (0, x1), (0, (p2_0 + 1))]) gz_35_35 rfl gm_35 rfl rfl rfl ⟨by omega, by omega⟩ ?_
          refine w_goto (t := 2) gz_35_38 rfl ?_
          exact ih_2_0 ((p2_0 + 1)) (by omega) (by omega) (by first | (intro v a b; omega) | (intro v a b c; rcases (by omega : v = p2_0 ∨ v < p2_0) with q | q <;> first | exact ua_2_0 v a q c | (subst_vars; omega)) | omega) (by omega)
        ·
          refine w_aload_n gz_35_20 rfl ?_
          refine w_getX (v := 27) gz_35_21 is_0 rd_9 rfl (by decide) rfl ?_
          refine w_iload_n gz_35_24 rfl ?_
          refine w_aald gz_35_25 is_27 rd_22 rfl (by omega) (by omega) (fun v7 ev7 tv7 => ?_)
          have zv7 : v3 = v7 := (ev7.trans ev3.symm).symm
          subst zv7
          refine v_getI (j := 1) gz_35_26 rfl tv3 rd_4 rfl (fun v8 ev8 pv8 qv8 => ?_)
          refine w_iload_n gz_35_29 rfl ?_
          refine w_icne (t := 35) gz_35_30 rfl (fun u9 => ?_) (fun u9 => ?_)
          ·
            refine w_iinc (ls' := [(2, 0), (0, x1), (0, (p2_0 + 1))]) gz_35_35 rfl gm_35 rfl rfl rfl ⟨by omega, by omega⟩ ?_
            refine w_goto (t := 2) gz_35_38 rfl ?_
            exact ih_2_0 ((p2_0 + 1)) (by omega) (by omega) (by first | (intro v a b; omega) | (intro v a b c; rcases (by omega : v = p2_0 ∨ v < p2_0) with q | q <;> first | exact ua_2_0 v a q c | (subst_vars; omega)) | omega) (by omega)
          ·
            refine w_iconst gz_35_33 (by decide) ?_
            exact w_bret gz_35_34 gm_35 (by omega) (by omega) (k1 (by first | exact ⟨p2_0, by omega, by omega, by subst_vars; omega, by subst_vars; omega⟩ | (intro v a b; exact ua_2_0 v a (by omega)) | grind | omega))
  refine w_iconst gz_35_0 (by decide) ?_
  refine w_istore_n (ls' := [(2, 0), (0, x1), (0, 0)]) gz_35_1 gm_35 rfl rfl rfl ?_
  exact J2_0 7 (0) (by omega) (by omega) (by first | (intro v a b; omega) | (intro v a b c; rcases (by omega : v = p2_0 ∨ v < p2_0) with q | q <;> first | exact ua_2_0 v a q c | (subst_vars; omega)) | omega) (by omega)
theorem c_Reader_isWord9_f1 {l : Launch} {rho : Nat → Int32} {d : Nat} {h : my_H} {Q : my_H → my_V → Prop} {x1 : Int} (s1 : 1 ≤ x1 ∧ x1 ≤ 12) (xf : Int) (cf : h 82 9 = xf) (cf1 : 1 ≤ xf) (cf2 : xf ≤ 16005) (n_Cu : Cu h) (k0 : 1 ≤ h 82 9 → h 82 9 ≤ 16005 → sW (cs h) (h 82 7) ≠ wc x1 → Q h (0, 0)) (k1 : h 82 6 = 1 → 1 ≤ h 82 9 → h 82 9 ≤ 16005 → sW (cs h) (h 82 7) = wc x1 → Q h (0, 1)) : wp l rho (d + 4) 41 0 [(2, 82), (3, x1), (9, 0)] [] h Q := by
  refine v_know (x := 82) (j := 5) (b := 5) rfl is_82 rd_5 rfl (fun k82_5 ek82_5 pk82_5 qk82_5 => ?_)
  refine v_know (x := 82) (j := 7) (b := 7) rfl is_82 rd_5 rfl (fun k82_7 ek82_7 pk82_7 qk82_7 => ?_)
  have J28_0 : ∀ (n : Nat) (p28_0 p28_1 : Int), 0 ≤ p28_0 → p28_0 ≤ 6 → 1 ≤ p28_1 → p28_1 ≤ 16005 → h 82 5 = k82_5 → h 82 6 = 1 → h 82 7 = k82_7 → h 82 9 = p28_1 → Cu h → h 82 5 - h 82 7 = my_sl x1 → (∀ i : Int, 0 ≤ i → i < p28_0 → h 92 (h 82 7 + i) = my_sc x1 i) → 7 - p28_0 ≤ (n : Int) → wp l rho (d + 4) 41 28 [(2, 82), (3, x1), (0, p28_0)] [] h Q := by
    intro n
    induction n with
    | zero => intro p28_0 p28_1 q0_28_0 q1_28_0 q2_28_0 q3_28_0 c82_5_28_0 c82_6_28_0 c82_7_28_0 c82_9_28_0 n_Cu_28_0 ln_28_0 lt_28_0 hm_28_0; exfalso; omega
    | succ n ih_28_0 =>
      intro p28_0 p28_1 q0_28_0 q1_28_0 q2_28_0 q3_28_0 c82_5_28_0 c82_6_28_0 c82_7_28_0 c82_9_28_0 n_Cu_28_0 ln_28_0 lt_28_0 hm_28_0
      refine w_iload_n gz_41_28 rfl ?_
      refine w_aload3_n gz_41_29 rfl ?_
      refine w_slen (q := 177) sdec_30 s1 ?_
      have bd1 := my_sl_bd s1
      refine w_icge (t := 63) gz_41_33 rfl (fun u2 => ?_) (fun u2 => ?_)
      ·
        refine w_iconst gz_41_63 (by decide) ?_
        have c3 := c82_6_28_0
        have c4 := c82_9_28_0
        exact w_bret gz_41_64 gm_41 (by omega) (by omega) (k1 (by omega) (by omega) (by omega) (by first | exact W_1s n_Cu (by omega) s1 ln_28_0 (fun i a b => lt_28_0 i a (by omega)) | (intro z; have q := W_0s n_Cu s1 z; exfalso; have q3 := q.2.2 p28_0 (by omega) (by omega); omega) | (intro z; have q := W_0s n_Cu s1 z; omega) | omega))
      ·
        refine w_aload_n gz_41_36 rfl ?_
        refine w_getX (v := 92) gz_41_37 is_82 rd_5 rfl (by decide) rfl ?_
        refine w_aload_n gz_41_40 rfl ?_
        refine v_getI (j := 7) gz_41_41 rfl is_82 rd_5 rfl (fun v6 ev6 pv6 qv6 => ?_)
        have zv6 := ev6.trans c82_7_28_0
        refine w_iload_n gz_41_44 rfl ?_
        refine w_iadd gz_41_45 ⟨by omega, by omega⟩ ?_
        have hi7 : 0 ≤ (v6 + p28_0) := by omega
        have hi8 : (v6 + p28_0) ≤ 999 := by omega
        refine w_yald gz_41_46 is_92 rd_40 (by omega) (by omega) (fun v9 ev9 pv9 qv9 => ?_)
        refine w_aload3_n gz_41_47 rfl ?_
        refine w_iload_n gz_41_48 rfl ?_
        have l49 : v9 = h 92 (h 82 7 + p28_0) := by
          rw [show h 82 7 + p28_0 = (v6 + p28_0) by omega]
          omega
        refine w_schrE (q := 181) sdec_49 s1 (by omega) (by omega) (fun v10 pv10 qv10 xv10 => ?_)
        refine w_iceq (t := 57) gz_41_52 rfl (fun u11 => ?_) (fun u11 => ?_)
        ·
          refine w_iinc (ls' := [(2, 82), (3, x1), (0, (p28_0 + 1))]) gz_41_57 rfl gm_41 rfl rfl rfl ⟨by omega, by omega⟩ ?_
          refine w_goto (t := 28) gz_41_60 rfl ?_
          exact ih_28_0 ((p28_0 + 1)) (p28_1) (by omega) (by omega) (by omega) (by omega) (c82_5_28_0.trans (by omega)) (c82_6_28_0.trans (by omega)) (ev6.symm.trans (by omega)) (c82_9_28_0.trans (by omega)) n_Cu_28_0 (by first | assumption | omega | (subst_vars; omega) | omega) (by first | (intro i a b; omega) | (intro i a b; rcases (by omega : i = p28_0 ∨ i < p28_0) with q | q <;> first | exact lt_28_0 i a q | (rw [q, ← l49]; omega)) | omega) (by omega)
        ·
          refine w_iconst gz_41_55 (by decide) ?_
          have c12 := c82_9_28_0
          exact w_bret gz_41_56 gm_41 (by omega) (by omega) (k0 (by omega) (by omega) (by first | exact W_1s n_Cu (by omega) s1 ln_28_0 (fun i a b => lt_28_0 i a (by omega)) | (intro z; have q := W_0s n_Cu s1 z; exfalso; have q3 := q.2.2 p28_0 (by omega) (by omega); omega) | (intro z; have q := W_0s n_Cu s1 z; omega) | omega))
  refine w_aload_n gz_41_0 rfl ?_
  refine v_getI (j := 6) gz_41_1 rfl is_82 rd_5 rfl (fun v13 ev13 pv13 qv13 => ?_)
  refine w_iconst gz_41_4 (by decide) ?_
  refine w_icne (t := 24) gz_41_5 rfl (fun u14 => ?_) (fun u14 => ?_)
  ·
    refine w_iconst gz_41_24 (by decide) ?_
    have c15 := cf
    exact w_bret gz_41_25 gm_41 (by omega) (by omega) (k0 (by omega) (by omega) (by first | exact W_1s n_Cu (by omega) s1 ln_28_0 (fun i a b => lt_28_0 i a (by omega)) | (intro z; have q := W_0s n_Cu s1 z; exfalso; have q3 := q.2.2 0 (by omega) (by omega); omega) | (intro z; have q := W_0s n_Cu s1 z; omega) | omega))
  ·
    refine w_aload_n gz_41_8 rfl ?_
    refine v_getI (j := 5) gz_41_9 rfl is_82 rd_5 rfl (fun v16 ev16 pv16 qv16 => ?_)
    have zv16 := ev16.trans ek82_5.symm
    refine w_aload_n gz_41_12 rfl ?_
    refine v_getI (j := 7) gz_41_13 rfl is_82 rd_5 rfl (fun v17 ev17 pv17 qv17 => ?_)
    have zv17 := ev17.trans ek82_7.symm
    refine w_isub gz_41_16 ⟨by omega, by omega⟩ ?_
    refine w_aload3_n gz_41_17 rfl ?_
    refine w_slen (q := 177) sdec_18 s1 ?_
    have bd18 := my_sl_bd s1
    refine w_iceq (t := 26) gz_41_21 rfl (fun u19 => ?_) (fun u19 => ?_)
    ·
      refine w_iconst gz_41_26 (by decide) ?_
      refine w_istore_n (ls' := [(2, 82), (3, x1), (0, 0)]) gz_41_27 gm_41 rfl rfl rfl ?_
      exact J28_0 7 (0) (xf) (by omega) (by omega) (by omega) (by omega) (ev16.symm.trans (by omega)) (ev13.symm.trans (by omega)) (ev17.symm.trans (by omega)) (cf.trans (by omega)) n_Cu (by first | assumption | omega | (subst_vars; omega) | omega) (by first | (intro i a b; omega) | (intro i a b; rcases (by omega : i = p28_0 ∨ i < p28_0) with q | q <;> first | exact lt_28_0 i a q | (rw [q, ← l49]; omega)) | omega) (by omega)
    ·
      refine w_iconst gz_41_24 (by decide) ?_
      have c20 := cf
      exact w_bret gz_41_25 gm_41 (by omega) (by omega) (k0 (by omega) (by omega) (by first | exact W_1s n_Cu (by omega) s1 ln_28_0 (fun i a b => lt_28_0 i a (by omega)) | (intro z; have q := W_0s n_Cu s1 z; exfalso; have q3 := q.2.2 0 (by omega) (by omega); omega) | (intro z; have q := W_0s n_Cu s1 z; omega) | omega))
theorem c_Reader_isWord9_f0 {l : Launch} {rho : Nat → Int32} {d : Nat} {h : my_H} {Q : my_H → my_V → Prop} {x1 : Int} (s1 : 1 ≤ x1 ∧ x1 ≤ 12) (cf : h 82 9 = 0) (n_Cu : Cu h) (k0 : h 82 9 = 0 → sW (cs h) (h 82 7) ≠ wc x1 → Q h (0, 0)) (k1 : h 82 6 = 1 → h 82 9 = 0 → sW (cs h) (h 82 7) = wc x1 → Q h (0, 1)) : wp l rho (d + 4) 41 0 [(2, 82), (3, x1), (9, 0)] [] h Q := by
  refine v_know (x := 82) (j := 5) (b := 5) rfl is_82 rd_5 rfl (fun k82_5 ek82_5 pk82_5 qk82_5 => ?_)
  refine v_know (x := 82) (j := 7) (b := 7) rfl is_82 rd_5 rfl (fun k82_7 ek82_7 pk82_7 qk82_7 => ?_)
  have J28_0 : ∀ (n : Nat) (p28_0 : Int), 0 ≤ p28_0 → p28_0 ≤ 6 → h 82 5 = k82_5 → h 82 6 = 1 → h 82 7 = k82_7 → h 82 9 = 0 → Cu h → h 82 5 - h 82 7 = my_sl x1 → (∀ i : Int, 0 ≤ i → i < p28_0 → h 92 (h 82 7 + i) = my_sc x1 i) → 7 - p28_0 ≤ (n : Int) → wp l rho (d + 4) 41 28 [(2, 82), (3, x1), (0, p28_0)] [] h Q := by
    intro n
    induction n with
    | zero => intro p28_0 q0_28_0 q1_28_0 c82_5_28_0 c82_6_28_0 c82_7_28_0 c82_9_28_0 n_Cu_28_0 ln_28_0 lt_28_0 hm_28_0; exfalso; omega
    | succ n ih_28_0 =>
      intro p28_0 q0_28_0 q1_28_0 c82_5_28_0 c82_6_28_0 c82_7_28_0 c82_9_28_0 n_Cu_28_0 ln_28_0 lt_28_0 hm_28_0
      refine w_iload_n gz_41_28 rfl ?_
      refine w_aload3_n gz_41_29 rfl ?_
      refine w_slen (q := 177) sdec_30 s1 ?_
      have bd1 := my_sl_bd s1
      refine w_icge (t := 63) gz_41_33 rfl (fun u2 => ?_) (fun u2 => ?_)
      ·
        refine w_iconst gz_41_63 (by decide) ?_
        have c3 := c82_6_28_0
        have c4 := c82_9_28_0
        exact w_bret gz_41_64 gm_41 (by omega) (by omega) (k1 (by omega) (by omega) (by first | exact W_1s n_Cu (by omega) s1 ln_28_0 (fun i a b => lt_28_0 i a (by omega)) | (intro z; have q := W_0s n_Cu s1 z; exfalso; have q3 := q.2.2 p28_0 (by omega) (by omega); omega) | (intro z; have q := W_0s n_Cu s1 z; omega) | omega))
      ·
        refine w_aload_n gz_41_36 rfl ?_
        refine w_getX (v := 92) gz_41_37 is_82 rd_5 rfl (by decide) rfl ?_
        refine w_aload_n gz_41_40 rfl ?_
        refine v_getI (j := 7) gz_41_41 rfl is_82 rd_5 rfl (fun v6 ev6 pv6 qv6 => ?_)
        have zv6 := ev6.trans c82_7_28_0
        refine w_iload_n gz_41_44 rfl ?_
        refine w_iadd gz_41_45 ⟨by omega, by omega⟩ ?_
        have hi7 : 0 ≤ (v6 + p28_0) := by omega
        have hi8 : (v6 + p28_0) ≤ 999 := by omega
        refine w_yald gz_41_46 is_92 rd_40 (by omega) (by omega) (fun v9 ev9 pv9 qv9 => ?_)
        refine w_aload3_n gz_41_47 rfl ?_
        refine w_iload_n gz_41_48 rfl ?_
        have l49 : v9 = h 92 (h 82 7 + p28_0) := by
          rw [show h 82 7 + p28_0 = (v6 + p28_0) by omega]
          omega
        refine w_schrE (q := 181) sdec_49 s1 (by omega) (by omega) (fun v10 pv10 qv10 xv10 => ?_)
        refine w_iceq (t := 57) gz_41_52 rfl (fun u11 => ?_) (fun u11 => ?_)
        ·
          refine w_iinc (ls' := [(2, 82), (3, x1), (0, (p28_0 + 1))]) gz_41_57 rfl gm_41 rfl rfl rfl ⟨by omega, by omega⟩ ?_
          refine w_goto (t := 28) gz_41_60 rfl ?_
          exact ih_28_0 ((p28_0 + 1)) (by omega) (by omega) (c82_5_28_0.trans (by omega)) (c82_6_28_0.trans (by omega)) (ev6.symm.trans (by omega)) (c82_9_28_0.trans (by omega)) n_Cu_28_0 (by first | assumption | omega | (subst_vars; omega) | omega) (by first | (intro i a b; omega) | (intro i a b; rcases (by omega : i = p28_0 ∨ i < p28_0) with q | q <;> first | exact lt_28_0 i a q | (rw [q, ← l49]; omega)) | omega) (by omega)
        ·
          refine w_iconst gz_41_55 (by decide) ?_
          have c12 := c82_9_28_0
          exact w_bret gz_41_56 gm_41 (by omega) (by omega) (k0 (by omega) (by first | exact W_1s n_Cu (by omega) s1 ln_28_0 (fun i a b => lt_28_0 i a (by omega)) | (intro z; have q := W_0s n_Cu s1 z; exfalso; have q3 := q.2.2 p28_0 (by omega) (by omega); omega) | (intro z; have q := W_0s n_Cu s1 z; omega) | omega))
  refine w_aload_n gz_41_0 rfl ?_
  refine v_getI (j := 6) gz_41_1 rfl is_82 rd_5 rfl (fun v13 ev13 pv13 qv13 => ?_)
  refine w_iconst gz_41_4 (by decide) ?_
  refine w_icne (t := 24) gz_41_5 rfl (fun u14 => ?_) (fun u14 => ?_)
  ·
    refine w_iconst gz_41_24 (by decide) ?_
    have c15 := cf
    exact w_bret gz_41_25 gm_41 (by omega) (by omega) (k0 (by omega) (by first | exact W_1s n_Cu (by omega) s1 ln_28_0 (fun i a b => lt_28_0 i a (by omega)) | (intro z; have q := W_0s n_Cu s1 z; exfalso; have q3 := q.2.2 0 (by omega) (by omega); omega) | (intro z; have q := W_0s n_Cu s1 z; omega) | omega))
  ·
    refine w_aload_n gz_41_8 rfl ?_
    refine v_getI (j := 5) gz_41_9 rfl is_82 rd_5 rfl (fun v16 ev16 pv16 qv16 => ?_)
    have zv16 := ev16.trans ek82_5.symm
    refine w_aload_n gz_41_12 rfl ?_
    refine v_getI (j := 7) gz_41_13 rfl is_82 rd_5 rfl (fun v17 ev17 pv17 qv17 => ?_)
    have zv17 := ev17.trans ek82_7.symm
    refine w_isub gz_41_16 ⟨by omega, by omega⟩ ?_
    refine w_aload3_n gz_41_17 rfl ?_
    refine w_slen (q := 177) sdec_18 s1 ?_
    have bd18 := my_sl_bd s1
    refine w_iceq (t := 26) gz_41_21 rfl (fun u19 => ?_) (fun u19 => ?_)
    ·
      refine w_iconst gz_41_26 (by decide) ?_
      refine w_istore_n (ls' := [(2, 82), (3, x1), (0, 0)]) gz_41_27 gm_41 rfl rfl rfl ?_
      exact J28_0 7 (0) (by omega) (by omega) (ev16.symm.trans (by omega)) (ev13.symm.trans (by omega)) (ev17.symm.trans (by omega)) (cf.trans (by omega)) n_Cu (by first | assumption | omega | (subst_vars; omega) | omega) (by first | (intro i a b; omega) | (intro i a b; rcases (by omega : i = p28_0 ∨ i < p28_0) with q | q <;> first | exact lt_28_0 i a q | (rw [q, ← l49]; omega)) | omega) (by omega)
    ·
      refine w_iconst gz_41_24 (by decide) ?_
      have c20 := cf
      exact w_bret gz_41_25 gm_41 (by omega) (by omega) (k0 (by omega) (by first | exact W_1s n_Cu (by omega) s1 ln_28_0 (fun i a b => lt_28_0 i a (by omega)) | (intro z; have q := W_0s n_Cu s1 z; exfalso; have q3 := q.2.2 0 (by omega) (by omega); omega) | (intro z; have q := W_0s n_Cu s1 z; omega) | omega))
theorem c_Reader_wallNumber9_f0 {l : Launch} {rho : Nat → Int32} {d : Nat} {h : my_H} {Q : my_H → my_V → Prop} (cf : h 82 9 = 0) (n_Al : Al h) (n_Cu : Cu h) (k0 : ∀ (h' : my_H), my_fr [(5, 9)] h h' → 1 ≤ h' 82 9 → h' 82 9 ≤ 16004 → (sK (cs h) (h 82 7) ≠ 2 ∧ h' 82 9 = 1 + 16 * h 82 7) ∨ (sK (cs h) (h 82 7) = 2 ∧ 3 ≤ sV (cs h) (h 82 7) ∧ h' 82 9 = 4 + 16 * h 82 7) ∨ (sK (cs h) (h 82 7) = 2 ∧ sV (cs h) (h 82 7) < 3 ∧ h 2 (sV (cs h) (h 82 7)) ≤ 0 ∧ h' 82 9 = 2 + 16 * h 82 7) → Al h' → Cu h' → Q h' (0, (-1))) (k1 : ∀ (h' : my_H) (y : Int), my_fr [(5, 9)] h h' → 0 ≤ y → y ≤ 2 → h' 82 6 = 2 → 0 ≤ h' 82 8 → h' 82 8 ≤ 2 → h' 82 9 = 0 → (y ≠ -1 → 1 ≤ h' 2 y) → sK (cs h) (h 82 7) = 2 → y = sV (cs h) (h 82 7) → 1 ≤ h 2 y → Al h' → Cu h' → Q h' (0, y)) : wp l rho (d + 2) 43 0 [(2, 82), (9, 0)] [] h Q := by
  have ck1 := Cu_s n_Cu
  have cv2 := Cu_v n_Cu
  refine w_aload_n gz_43_0 rfl ?_
  refine w_iconst gz_43_1 (by decide) ?_
  refine w_inv (k := 0) (as := [(0, 3)]) (r := []) (x := 82) (ls0 := [(2, 82), (0, 3)]) gz_43_2 gm_44 rfl is_82 rd_5 rfl rfl rfl rfl rfl ?_
  refine w_aload_n gz_44_0 rfl ?_
  refine v_getI (j := 6) gz_44_1 rfl is_82 rd_5 rfl (fun v3 ev3 pv3 qv3 => ?_)
  refine w_iconst gz_44_4 (by decide) ?_
  refine w_iceq (t := 15) gz_44_5 rfl (fun u4 => ?_) (fun u4 => ?_)
  ·
    refine w_aload_n gz_44_15 rfl ?_
    refine v_getI (j := 8) gz_44_16 rfl is_82 rd_5 rfl (fun v5 ev5 pv5 qv5 => ?_)
    refine w_iload_n gz_44_19 rfl ?_
    refine w_iclt (t := 30) gz_44_20 rfl (fun u6 => ?_) (fun u6 => ?_)
    ·
      refine w_aload_n gz_44_30 rfl ?_
      refine v_getI (j := 9) gz_44_31 rfl is_82 rd_5 rfl (fun v7 ev7 pv7 qv7 => ?_)
      have zv7 := ev7.trans cf
      refine w_ifne (t := 44) gz_44_34 rfl (fun u8 => by exfalso; omega) (fun u8 => ?_)
      refine w_aload_n gz_44_37 rfl ?_
      refine v_getI (j := 8) gz_44_38 rfl is_82 rd_5 rfl (fun v9 ev9 pv9 qv9 => ?_)
      have zv9 := ev9.trans ev5.symm
      refine w_goto (t := 45) gz_44_41 rfl ?_
      refine w_iret gz_44_45 gm_44 ?_
      show wp l rho (d + 2) 43 5 [(2, 82), (9, 0)] [(0, v9)] h Q
      refine w_istore_n (ls' := [(2, 82), (0, v9)]) gz_43_5 gm_43 rfl rfl rfl ?_
      refine w_iload_n gz_43_6 rfl ?_
      refine w_iconst gz_43_7 (by decide) ?_
      refine w_iceq (t := 29) gz_43_8 rfl (fun u10 => by exfalso; omega) (fun u10 => ?_)
      refine w_aload_n gz_43_11 rfl ?_
      refine w_getX (v := 1) gz_43_12 is_82 rd_5 rfl (by decide) rfl ?_
      refine w_iload_n gz_43_15 rfl ?_
      refine w_inv (k := 0) (as := [(0, v9)]) (r := []) (x := 1) (ls0 := [(2, 1), (0, v9)]) gz_43_16 gm_13 rfl is_1 rd_3 rfl rfl rfl rfl rfl ?_
      refine w_iload_n gz_13_0 rfl ?_
      refine w_iflt (t := 22) gz_13_1 rfl (fun u12 => by exfalso; omega) (fun u12 => ?_)
      refine w_iload_n gz_13_4 rfl ?_
      refine w_iconst gz_13_5 (by decide) ?_
      refine w_icge (t := 22) gz_13_6 rfl (fun u13 => by exfalso; omega) (fun u13 => ?_)
      refine w_aload_n gz_13_9 rfl ?_
      refine w_getX (v := 2) gz_13_10 is_1 rd_3 rfl (by decide) rfl ?_
      refine w_iload_n gz_13_13 rfl ?_
      refine w_iald gz_13_14 is_2 rd_25 (by omega) (by omega) (fun v15 ev15 pv15 qv15 => ?_)
      refine w_ifle (t := 22) gz_13_15 rfl (fun u16 => ?_) (fun u16 => ?_)
      ·
        refine w_iconst gz_13_22 (by decide) ?_
        refine w_bret gz_13_23 gm_13 (by omega) (by omega) ?_
        show wp l rho (d + 2) 43 19 [(2, 82), (0, v9)] [(0, 0)] h Q
        refine w_ifne (t := 29) gz_43_19 rfl (fun u17 => by exfalso; omega) (fun u17 => ?_)
        refine w_aload_n gz_43_22 rfl ?_
        refine w_iconst gz_43_23 (by decide) ?_
        refine w_inv (k := 0) (as := [(0, 2)]) (r := []) (x := 82) (ls0 := [(2, 82), (0, 2)]) gz_43_24 gm_42 rfl is_82 rd_5 rfl rfl rfl rfl rfl ?_
        refine w_aload_n gz_42_0 rfl ?_
        refine v_getI (j := 9) gz_42_1 rfl is_82 rd_5 rfl (fun v18 ev18 pv18 qv18 => ?_)
        have zv18 := ev18.trans ev7.symm
        refine w_ifne (t := 20) gz_42_4 rfl (fun u19 => by exfalso; omega) (fun u19 => ?_)
        refine w_aload_n gz_42_7 rfl ?_
        refine w_iload_n gz_42_8 rfl ?_
        refine w_bipush gz_42_9 (by decide) ?_
        refine w_aload_n gz_42_11 rfl ?_
        refine v_getI (j := 7) gz_42_12 rfl is_82 rd_5 rfl (fun v20 ev20 pv20 qv20 => ?_)
        refine w_imul gz_42_15 ⟨by omega, by omega⟩ ?_
        refine w_iadd gz_42_16 ⟨by omega, by omega⟩ ?_
        refine v_putI (j := 9) gz_42_17 rfl is_82 rd_5 rfl (by omega) (by omega) rfl (fun h21 fh21 => ?_)
        have gh21 : my_fr [(5, 9)] h h21 := my_fr.up my_fr.rf is_82 fh21 rfl
        have Al_h21 : Al h21 := Al_ag (my_ag.up fh21 is_82 rfl) n_Al
        have Cu_h21 : Cu h21 := Cu_ag (my_ag.up fh21 is_82 rfl) n_Cu
        refine w_vret gz_42_20 gm_42 ?_
        show wp l rho (d + 2) 43 27 [(2, 82), (0, v9)] [] h21 Q
        refine w_iconst gz_43_27 (by decide) ?_
        have psR : h21 82 7 = h 82 7 := ((my_up_fld fh21 (by decide)).trans (rfl : h 82 7 = h 82 7))
        have npsR : cs h21 = cs h := cs_eq (fun j => my_fr.at gh21 is_92 rfl) (my_fr.at gh21 is_82 rfl)
        have c22 := (my_up_self fh21)
        exact w_iret gz_43_28 gm_43 (k0 h21 (gh21) (by omega) (by omega) (by first | omega | (have z : sV (cs h) (h 82 7) = v9 := by omega; rw [z]; omega) | grind | omega) Al_h21 Cu_h21)
      ·
        refine w_iconst gz_13_18 (by decide) ?_
        refine w_goto (t := 23) gz_13_19 rfl ?_
        refine w_bret gz_13_23 gm_13 (by omega) (by omega) ?_
        show wp l rho (d + 2) 43 19 [(2, 82), (0, v9)] [(0, 1)] h Q
        refine w_ifne (t := 29) gz_43_19 rfl (fun u23 => ?_) (fun u23 => by exfalso; omega)
        refine w_iload_n gz_43_29 rfl ?_
        have psR : h 82 7 = h 82 7 := (rfl : h 82 7 = h 82 7)
        have npsR : cs h = cs h := rfl
        have c24 := ev3.symm
        have c25 := ev9.symm
        have c26 := ev7.symm
        exact w_iret gz_43_30 gm_43 (k1 h (v9) (my_fr.rf) (by omega) (by omega) (by omega) (by omega) (by omega) (by omega) (by first | omega | (have z : sV (cs h) (h 82 7) = v9 := by omega; rw [z]; omega) | grind | omega) (by first | omega | (have z : sV (cs h) (h 82 7) = v9 := by omega; rw [z]; omega) | grind | omega) (by first | omega | (have z : sV (cs h) (h 82 7) = v9 := by omega; rw [z]; omega) | grind | omega) (by first | omega | (have z : sV (cs h) (h 82 7) = v9 := by omega; rw [z]; omega) | grind | omega) n_Al n_Cu)
    ·
      refine w_aload_n gz_44_23 rfl ?_
      refine w_iconst gz_44_24 (by decide) ?_
      refine w_inv (k := 0) (as := [(0, 4)]) (r := []) (x := 82) (ls0 := [(2, 82), (0, 4)]) gz_44_25 gm_42 rfl is_82 rd_5 rfl rfl rfl rfl rfl ?_
      refine w_aload_n gz_42_0 rfl ?_
      refine v_getI (j := 9) gz_42_1 rfl is_82 rd_5 rfl (fun v27 ev27 pv27 qv27 => ?_)
      have zv27 := ev27.trans cf
      refine w_ifne (t := 20) gz_42_4 rfl (fun u28 => by exfalso; omega) (fun u28 => ?_)
      refine w_aload_n gz_42_7 rfl ?_
      refine w_iload_n gz_42_8 rfl ?_
      refine w_bipush gz_42_9 (by decide) ?_
      refine w_aload_n gz_42_11 rfl ?_
      refine v_getI (j := 7) gz_42_12 rfl is_82 rd_5 rfl (fun v29 ev29 pv29 qv29 => ?_)
      refine w_imul gz_42_15 ⟨by omega, by omega⟩ ?_
      refine w_iadd gz_42_16 ⟨by omega, by omega⟩ ?_
      refine v_putI (j := 9) gz_42_17 rfl is_82 rd_5 rfl (by omega) (by omega) rfl (fun h30 fh30 => ?_)
      have gh30 : my_fr [(5, 9)] h h30 := my_fr.up my_fr.rf is_82 fh30 rfl
      have Al_h30 : Al h30 := Al_ag (my_ag.up fh30 is_82 rfl) n_Al
      have Cu_h30 : Cu h30 := Cu_ag (my_ag.up fh30 is_82 rfl) n_Cu
      refine w_vret gz_42_20 gm_42 ?_
      show wp l rho (d + 1) 44 28 [(2, 82), (0, 3)] [] h30 _
      refine w_iconst gz_44_28 (by decide) ?_
      refine w_iret gz_44_29 gm_44 ?_
      show wp l rho (d + 2) 43 5 [(2, 82), (9, 0)] [(0, (-1))] h30 Q
      refine w_istore_n (ls' := [(2, 82), (0, (-1))]) gz_43_5 gm_43 rfl rfl rfl ?_
      refine w_iload_n gz_43_6 rfl ?_
      refine w_iconst gz_43_7 (by decide) ?_
      refine w_iceq (t := 29) gz_43_8 rfl (fun u31 => ?_) (fun u31 => by exfalso; omega)
      refine w_iload_n gz_43_29 rfl ?_
      have psR : h30 82 7 = h 82 7 := ((my_up_fld fh30 (by decide)).trans (rfl : h 82 7 = h 82 7))
      have npsR : cs h30 = cs h := cs_eq (fun j => my_fr.at gh30 is_92 rfl) (my_fr.at gh30 is_82 rfl)
      have c32 := (my_up_self fh30)
      exact w_iret gz_43_30 gm_43 (k0 h30 (gh30) (by omega) (by omega) (by first | omega | (have z : sV (cs h) (h 82 7) = v9 := by omega; rw [z]; omega) | grind | omega) Al_h30 Cu_h30)
  ·
    refine w_aload_n gz_44_8 rfl ?_
    refine w_iconst gz_44_9 (by decide) ?_
    refine w_inv (k := 0) (as := [(0, 1)]) (r := []) (x := 82) (ls0 := [(2, 82), (0, 1)]) gz_44_10 gm_42 rfl is_82 rd_5 rfl rfl rfl rfl rfl ?_
    refine w_aload_n gz_42_0 rfl ?_
    refine v_getI (j := 9) gz_42_1 rfl is_82 rd_5 rfl (fun v33 ev33 pv33 qv33 => ?_)
    have zv33 := ev33.trans cf
    refine w_ifne (t := 20) gz_42_4 rfl (fun u34 => by exfalso; omega) (fun u34 => ?_)
    refine w_aload_n gz_42_7 rfl ?_
    refine w_iload_n gz_42_8 rfl ?_
    refine w_bipush gz_42_9 (by decide) ?_
    refine w_aload_n gz_42_11 rfl ?_
    refine v_getI (j := 7) gz_42_12 rfl is_82 rd_5 rfl (fun v35 ev35 pv35 qv35 => ?_)
    refine w_imul gz_42_15 ⟨by omega, by omega⟩ ?_
    refine w_iadd gz_42_16 ⟨by omega, by omega⟩ ?_
    refine v_putI (j := 9) gz_42_17 rfl is_82 rd_5 rfl (by omega) (by omega) rfl (fun h36 fh36 => ?_)
    have gh36 : my_fr [(5, 9)] h h36 := my_fr.up my_fr.rf is_82 fh36 rfl
    have Al_h36 : Al h36 := Al_ag (my_ag.up fh36 is_82 rfl) n_Al
    have Cu_h36 : Cu h36 := Cu_ag (my_ag.up fh36 is_82 rfl) n_Cu
    refine w_vret gz_42_20 gm_42 ?_
    show wp l rho (d + 1) 44 13 [(2, 82), (0, 3)] [] h36 _
    refine w_iconst gz_44_13 (by decide) ?_
    refine w_iret gz_44_14 gm_44 ?_
    show wp l rho (d + 2) 43 5 [(2, 82), (9, 0)] [(0, (-1))] h36 Q
    refine w_istore_n (ls' := [(2, 82), (0, (-1))]) gz_43_5 gm_43 rfl rfl rfl ?_
    refine w_iload_n gz_43_6 rfl ?_
    refine w_iconst gz_43_7 (by decide) ?_
    refine w_iceq (t := 29) gz_43_8 rfl (fun u37 => ?_) (fun u37 => by exfalso; omega)
    refine w_iload_n gz_43_29 rfl ?_
    have psR : h36 82 7 = h 82 7 := ((my_up_fld fh36 (by decide)).trans (rfl : h 82 7 = h 82 7))
    have npsR : cs h36 = cs h := cs_eq (fun j => my_fr.at gh36 is_92 rfl) (my_fr.at gh36 is_82 rfl)
    have c38 := (my_up_self fh36)
    exact w_iret gz_43_30 gm_43 (k0 h36 (gh36) (by omega) (by omega) (by first | omega | (have z : sV (cs h) (h 82 7) = v9 := by omega; rw [z]; omega) | grind | omega) Al_h36 Cu_h36)
theorem c_Reader_endsHere9_f0 {l : Launch} {rho : Nat → Int32} {d : Nat} {h : my_H} {Q : my_H → my_V → Prop} (cf : h 82 9 = 0) (n_Al : Al h) (n_Cu : Cu h) (k0 : ∀ (h' : my_H), my_fr [(5, 5), (5, 6), (5, 7), (5, 8), (5, 9)] h h' → 1 ≤ h' 82 9 → h' 82 9 ≤ 16001 → sK (cs h) (h 82 7) ≠ 3 → h' 82 9 = 1 + 16 * h 82 7 → Al h' → Cu h' → Q h' (0, 0)) (k1 : ∀ (h' : my_H), my_fr [(5, 5), (5, 6), (5, 7), (5, 8), (5, 9)] h h' → h' 82 9 = 0 → h' 82 7 = sN (cs h) (h 82 7) → sK (cs h) (h 82 7) = 3 → Al h' → Cu h' → Q h' (0, 1)) : wp l rho (d + 2) 47 0 [(2, 82)] [] h Q := by
  have ck1 := Cu_s n_Cu
  refine w_aload_n gz_47_0 rfl ?_
  refine v_getI (j := 6) gz_47_1 rfl is_82 rd_5 rfl (fun v2 ev2 pv2 qv2 => ?_)
  refine w_iconst gz_47_4 (by decide) ?_
  refine w_iceq (t := 15) gz_47_5 rfl (fun u3 => ?_) (fun u3 => ?_)
  ·
    refine w_aload_n gz_47_15 rfl ?_
    refine w_inv (k := 2) (as := []) (r := []) (x := 82) (ls0 := [(2, 82), (9, 0), (9, 0)]) gz_47_16 gm_37 rfl is_82 rd_5 rfl rfl rfl rfl rfl (c_Reader_nextToken9_f0 (d := d)  (cf.trans (by omega)) n_Al (fun h4 frh4 w5 w6 w7 xp8 xp9 Al_h4t10 Cu_h4t11 => ?_))
    have gh4 : my_fr [(5, 5), (5, 6), (5, 7), (5, 8), (5, 9)] h h4 := my_fr.tr my_fr.rf (frh4.mo rfl)
    show wp l rho (d + 2) 47 19 [(2, 82)] [] h4 Q
    have xc12 := xp8 n_Cu
    have ck13 := Cu_s Cu_h4t11
    rw [show cs h4 = cs h from cs_eq (fun j => my_fr.at gh4 is_92 rfl) (my_fr.at gh4 is_82 rfl)] at ck13
    rw [show h4 82 7 = (sN (cs h) (h 82 7)) from xc12] at ck13
    refine w_iconst gz_47_19 (by decide) ?_
    have psR : h4 82 7 = (sN (cs h) (h 82 7)) := xc12
    have npsR : cs h4 = cs h := cs_eq (fun j => my_fr.at gh4 is_92 rfl) (my_fr.at gh4 is_82 rfl)
    have c14 := ((my_fr.at frh4 is_82 rfl).trans cf)
    exact w_bret gz_47_20 gm_47 (by omega) (by omega) (k1 h4 (gh4) (by omega) (by first | assumption | omega | (subst_vars; omega) | omega) (by first | assumption | omega | (subst_vars; omega) | omega) Al_h4t10 Cu_h4t11)
  ·
    refine w_aload_n gz_47_8 rfl ?_
    refine w_iconst gz_47_9 (by decide) ?_
    refine w_inv (k := 0) (as := [(0, 1)]) (r := []) (x := 82) (ls0 := [(2, 82), (0, 1)]) gz_47_10 gm_42 rfl is_82 rd_5 rfl rfl rfl rfl rfl ?_
    refine w_aload_n gz_42_0 rfl ?_
    refine v_getI (j := 9) gz_42_1 rfl is_82 rd_5 rfl (fun v15 ev15 pv15 qv15 => ?_)
    have zv15 := ev15.trans cf
    refine w_ifne (t := 20) gz_42_4 rfl (fun u16 => by exfalso; omega) (fun u16 => ?_)
    refine w_aload_n gz_42_7 rfl ?_
    refine w_iload_n gz_42_8 rfl ?_
    refine w_bipush gz_42_9 (by decide) ?_
    refine w_aload_n gz_42_11 rfl ?_
    refine v_getI (j := 7) gz_42_12 rfl is_82 rd_5 rfl (fun v17 ev17 pv17 qv17 => ?_)
    refine w_imul gz_42_15 ⟨by omega, by omega⟩ ?_
    refine w_iadd gz_42_16 ⟨by omega, by omega⟩ ?_
    refine v_putI (j := 9) gz_42_17 rfl is_82 rd_5 rfl (by omega) (by omega) rfl (fun h18 fh18 => ?_)
    have gh18 : my_fr [(5, 5), (5, 6), (5, 7), (5, 8), (5, 9)] h h18 := my_fr.up my_fr.rf is_82 fh18 rfl
    have Al_h18 : Al h18 := Al_ag (my_ag.up fh18 is_82 rfl) n_Al
    have Cu_h18 : Cu h18 := Cu_ag (my_ag.up fh18 is_82 rfl) n_Cu
    refine w_vret gz_42_20 gm_42 ?_
    show wp l rho (d + 2) 47 13 [(2, 82)] [] h18 Q
    refine w_iconst gz_47_13 (by decide) ?_
    have psR : h18 82 7 = h 82 7 := ((my_up_fld fh18 (by decide)).trans (rfl : h 82 7 = h 82 7))
    have npsR : cs h18 = cs h := cs_eq (fun j => my_fr.at gh18 is_92 rfl) (my_fr.at gh18 is_82 rfl)
    have c19 := (my_up_self fh18)
    exact w_bret gz_47_14 gm_47 (by omega) (by omega) (k0 h18 (gh18) (by omega) (by omega) (by first | assumption | omega | (subst_vars; omega) | omega) (by first | assumption | omega | (subst_vars; omega) | omega) Al_h18 Cu_h18)
theorem c_Reader_takeNumber9_f1 {l : Launch} {rho : Nat → Int32} {d : Nat} {h : my_H} {Q : my_H → my_V → Prop} {x1 : Int} (a1 : 20 ≤ x1) (b1 : x1 ≤ 200) (xf : Int) (cf : h 82 9 = xf) (cf1 : 1 ≤ xf) (cf2 : xf ≤ 16005) (n_Al : Al h) (n_Cu : Cu h) (k0 : 1 ≤ h 82 9 → h 82 9 ≤ 16005 → Al h → Cu h → Q h (0, (-1))) : wp l rho (d + 2) 51 0 [(2, 82), (0, x1), (9, 0)] [] h Q := by
  have ck1 := Cu_s n_Cu
  have cv2 := Cu_v n_Cu
  refine w_aload_n gz_51_0 rfl ?_
  refine w_iload_n gz_51_1 rfl ?_
  refine w_inv (k := 0) (as := [(0, x1)]) (r := []) (x := 82) (ls0 := [(2, 82), (0, x1)]) gz_51_2 gm_44 rfl is_82 rd_5 rfl rfl rfl rfl rfl ?_
  refine w_aload_n gz_44_0 rfl ?_
  refine v_getI (j := 6) gz_44_1 rfl is_82 rd_5 rfl (fun v3 ev3 pv3 qv3 => ?_)
  refine w_iconst gz_44_4 (by decide) ?_
  refine w_iceq (t := 15) gz_44_5 rfl (fun u4 => ?_) (fun u4 => ?_)
  ·
    refine w_aload_n gz_44_15 rfl ?_
    refine v_getI (j := 8) gz_44_16 rfl is_82 rd_5 rfl (fun v5 ev5 pv5 qv5 => ?_)
    refine w_iload_n gz_44_19 rfl ?_
    refine w_iclt (t := 30) gz_44_20 rfl (fun u6 => ?_) (fun u6 => ?_)
    ·
      refine w_aload_n gz_44_30 rfl ?_
      refine v_getI (j := 9) gz_44_31 rfl is_82 rd_5 rfl (fun v7 ev7 pv7 qv7 => ?_)
      have zv7 := ev7.trans cf
      refine w_ifne (t := 44) gz_44_34 rfl (fun u8 => ?_) (fun u8 => by exfalso; omega)
      refine w_iconst gz_44_44 (by decide) ?_
      refine w_iret gz_44_45 gm_44 ?_
      show wp l rho (d + 2) 51 5 [(2, 82), (0, x1), (9, 0)] [(0, (-1))] h Q
      refine w_istore_n (ls' := [(2, 82), (0, x1), (0, (-1))]) gz_51_5 gm_51 rfl rfl rfl ?_
      refine w_iload_n gz_51_6 rfl ?_
      refine w_iconst gz_51_7 (by decide) ?_
      refine w_iceq (t := 15) gz_51_8 rfl (fun u9 => ?_) (fun u9 => by exfalso; omega)
      refine w_iload_n gz_51_15 rfl ?_
      have psR : h 82 7 = h 82 7 := (rfl : h 82 7 = h 82 7)
      have npsR : cs h = cs h := rfl
      have c10 := ev7.symm
      exact w_iret gz_51_16 gm_51 (k0 (by omega) (by omega) n_Al n_Cu)
    ·
      refine w_aload_n gz_44_23 rfl ?_
      refine w_iconst gz_44_24 (by decide) ?_
      refine w_inv (k := 0) (as := [(0, 4)]) (r := []) (x := 82) (ls0 := [(2, 82), (0, 4)]) gz_44_25 gm_42 rfl is_82 rd_5 rfl rfl rfl rfl rfl ?_
      refine w_aload_n gz_42_0 rfl ?_
      refine v_getI (j := 9) gz_42_1 rfl is_82 rd_5 rfl (fun v11 ev11 pv11 qv11 => ?_)
      have zv11 := ev11.trans cf
      refine w_ifne (t := 20) gz_42_4 rfl (fun u12 => ?_) (fun u12 => by exfalso; omega)
      refine w_vret gz_42_20 gm_42 ?_
      show wp l rho (d + 1) 44 28 [(2, 82), (0, x1)] [] h _
      refine w_iconst gz_44_28 (by decide) ?_
      refine w_iret gz_44_29 gm_44 ?_
      show wp l rho (d + 2) 51 5 [(2, 82), (0, x1), (9, 0)] [(0, (-1))] h Q
      refine w_istore_n (ls' := [(2, 82), (0, x1), (0, (-1))]) gz_51_5 gm_51 rfl rfl rfl ?_
      refine w_iload_n gz_51_6 rfl ?_
      refine w_iconst gz_51_7 (by decide) ?_
      refine w_iceq (t := 15) gz_51_8 rfl (fun u13 => ?_) (fun u13 => by exfalso; omega)
      refine w_iload_n gz_51_15 rfl ?_
      have psR : h 82 7 = h 82 7 := (rfl : h 82 7 = h 82 7)
      have npsR : cs h = cs h := rfl
      have c14 := ev11.symm
      exact w_iret gz_51_16 gm_51 (k0 (by omega) (by omega) n_Al n_Cu)
  ·
    refine w_aload_n gz_44_8 rfl ?_
    refine w_iconst gz_44_9 (by decide) ?_
    refine w_inv (k := 0) (as := [(0, 1)]) (r := []) (x := 82) (ls0 := [(2, 82), (0, 1)]) gz_44_10 gm_42 rfl is_82 rd_5 rfl rfl rfl rfl rfl ?_
    refine w_aload_n gz_42_0 rfl ?_
    refine v_getI (j := 9) gz_42_1 rfl is_82 rd_5 rfl (fun v15 ev15 pv15 qv15 => ?_)
    have zv15 := ev15.trans cf
    refine w_ifne (t := 20) gz_42_4 rfl (fun u16 => ?_) (fun u16 => by exfalso; omega)
    refine w_vret gz_42_20 gm_42 ?_
    show wp l rho (d + 1) 44 13 [(2, 82), (0, x1)] [] h _
    refine w_iconst gz_44_13 (by decide) ?_
    refine w_iret gz_44_14 gm_44 ?_
    show wp l rho (d + 2) 51 5 [(2, 82), (0, x1), (9, 0)] [(0, (-1))] h Q
    refine w_istore_n (ls' := [(2, 82), (0, x1), (0, (-1))]) gz_51_5 gm_51 rfl rfl rfl ?_
    refine w_iload_n gz_51_6 rfl ?_
    refine w_iconst gz_51_7 (by decide) ?_
    refine w_iceq (t := 15) gz_51_8 rfl (fun u17 => ?_) (fun u17 => by exfalso; omega)
    refine w_iload_n gz_51_15 rfl ?_
    have psR : h 82 7 = h 82 7 := (rfl : h 82 7 = h 82 7)
    have npsR : cs h = cs h := rfl
    have c18 := ev15.symm
    exact w_iret gz_51_16 gm_51 (k0 (by omega) (by omega) n_Al n_Cu)
theorem c_Reader_takeNumber9_f0 {l : Launch} {rho : Nat → Int32} {d : Nat} {h : my_H} {Q : my_H → my_V → Prop} {x1 : Int} (a1 : 0 ≤ x1) (b1 : x1 ≤ 200) (cf : h 82 9 = 0) (n_Al : Al h) (n_Cu : Cu h) (k0 : ∀ (h' : my_H), my_fr [(5, 5), (5, 6), (5, 7), (5, 8), (5, 9)] h h' → 1 ≤ h' 82 9 → h' 82 9 ≤ 16004 → (sK (cs h) (h 82 7) ≠ 2 ∧ h' 82 9 = 1 + 16 * h 82 7) ∨ (sK (cs h) (h 82 7) = 2 ∧ x1 ≤ sV (cs h) (h 82 7) ∧ h' 82 9 = 4 + 16 * h 82 7) → Al h' → Cu h' → Q h' (0, (-1))) (k1 : ∀ (h' : my_H) (y : Int), my_fr [(5, 5), (5, 6), (5, 7), (5, 8), (5, 9)] h h' → 0 ≤ y → y ≤ 199 → y ≤ (x1 - 1) → 1 ≤ x1 → h' 82 9 = 0 → h' 82 7 = sN (cs h) (h 82 7) → sK (cs h) (h 82 7) = 2 → y = sV (cs h) (h 82 7) → Al h' → Cu h' → Q h' (0, y)) : wp l rho (d + 2) 51 0 [(2, 82), (0, x1), (9, 0)] [] h Q := by
  have ck1 := Cu_s n_Cu
  have cv2 := Cu_v n_Cu
  refine w_aload_n gz_51_0 rfl ?_
  refine w_iload_n gz_51_1 rfl ?_
  refine w_inv (k := 0) (as := [(0, x1)]) (r := []) (x := 82) (ls0 := [(2, 82), (0, x1)]) gz_51_2 gm_44 rfl is_82 rd_5 rfl rfl rfl rfl rfl ?_
  refine w_aload_n gz_44_0 rfl ?_
  refine v_getI (j := 6) gz_44_1 rfl is_82 rd_5 rfl (fun v3 ev3 pv3 qv3 => ?_)
  refine w_iconst gz_44_4 (by decide) ?_
  refine w_iceq (t := 15) gz_44_5 rfl (fun u4 => ?_) (fun u4 => ?_)
  ·
    refine w_aload_n gz_44_15 rfl ?_
    refine v_getI (j := 8) gz_44_16 rfl is_82 rd_5 rfl (fun v5 ev5 pv5 qv5 => ?_)
    refine w_iload_n gz_44_19 rfl ?_
    refine w_iclt (t := 30) gz_44_20 rfl (fun u6 => ?_) (fun u6 => ?_)
    ·
      refine w_aload_n gz_44_30 rfl ?_
      refine v_getI (j := 9) gz_44_31 rfl is_82 rd_5 rfl (fun v7 ev7 pv7 qv7 => ?_)
      have zv7 := ev7.trans cf
      refine w_ifne (t := 44) gz_44_34 rfl (fun u8 => by exfalso; omega) (fun u8 => ?_)
      refine w_aload_n gz_44_37 rfl ?_
      refine v_getI (j := 8) gz_44_38 rfl is_82 rd_5 rfl (fun v9 ev9 pv9 qv9 => ?_)
      have zv9 := ev9.trans ev5.symm
      refine w_goto (t := 45) gz_44_41 rfl ?_
      refine w_iret gz_44_45 gm_44 ?_
      show wp l rho (d + 2) 51 5 [(2, 82), (0, x1), (9, 0)] [(0, v9)] h Q
      refine w_istore_n (ls' := [(2, 82), (0, x1), (0, v9)]) gz_51_5 gm_51 rfl rfl rfl ?_
      refine w_iload_n gz_51_6 rfl ?_
      refine w_iconst gz_51_7 (by decide) ?_
      refine w_iceq (t := 15) gz_51_8 rfl (fun u10 => by exfalso; omega) (fun u10 => ?_)
      refine w_aload_n gz_51_11 rfl ?_
      refine w_inv (k := 2) (as := []) (r := []) (x := 82) (ls0 := [(2, 82), (9, 0), (9, 0)]) gz_51_12 gm_37 rfl is_82 rd_5 rfl rfl rfl rfl rfl (c_Reader_nextToken9_f0 (d := d)  (ev7.symm.trans (by omega)) n_Al (fun h11 frh11 w12 w13 w14 xp15 xp16 Al_h11t17 Cu_h11t18 => ?_))
      have gh11 : my_fr [(5, 5), (5, 6), (5, 7), (5, 8), (5, 9)] h h11 := my_fr.tr my_fr.rf (frh11.mo rfl)
      show wp l rho (d + 2) 51 15 [(2, 82), (0, x1), (0, v9)] [] h11 Q
      have xc19 := xp15 n_Cu
      have ck20 := Cu_s Cu_h11t18
      rw [show cs h11 = cs h from cs_eq (fun j => my_fr.at gh11 is_92 rfl) (my_fr.at gh11 is_82 rfl)] at ck20
      rw [show h11 82 7 = (sN (cs h) (h 82 7)) from xc19] at ck20
      have cv21 := Cu_v Cu_h11t18
      rw [show cs h11 = cs h from cs_eq (fun j => my_fr.at gh11 is_92 rfl) (my_fr.at gh11 is_82 rfl)] at cv21
      rw [show h11 82 7 = (sN (cs h) (h 82 7)) from xc19] at cv21
      refine w_iload_n gz_51_15 rfl ?_
      have psR : h11 82 7 = (sN (cs h) (h 82 7)) := xc19
      have npsR : cs h11 = cs h := cs_eq (fun j => my_fr.at gh11 is_92 rfl) (my_fr.at gh11 is_82 rfl)
      have c22 := ((my_fr.at frh11 is_82 rfl).trans ev7.symm)
      exact w_iret gz_51_16 gm_51 (k1 h11 (v9) (gh11) (by omega) (by omega) (by omega) (by omega) (by omega) (by first | assumption | omega | (subst_vars; omega) | omega) (by first | assumption | omega | (subst_vars; omega) | omega) (by first | assumption | omega | (subst_vars; omega) | omega) Al_h11t17 Cu_h11t18)
    ·
      refine w_aload_n gz_44_23 rfl ?_
      refine w_iconst gz_44_24 (by decide) ?_
      refine w_inv (k := 0) (as := [(0, 4)]) (r := []) (x := 82) (ls0 := [(2, 82), (0, 4)]) gz_44_25 gm_42 rfl is_82 rd_5 rfl rfl rfl rfl rfl ?_
      refine w_aload_n gz_42_0 rfl ?_
      refine v_getI (j := 9) gz_42_1 rfl is_82 rd_5 rfl (fun v23 ev23 pv23 qv23 => ?_)
      have zv23 := ev23.trans cf
      refine w_ifne (t := 20) gz_42_4 rfl (fun u24 => by exfalso; omega) (fun u24 => ?_)
      refine w_aload_n gz_42_7 rfl ?_
      refine w_iload_n gz_42_8 rfl ?_
      refine w_bipush gz_42_9 (by decide) ?_
      refine w_aload_n gz_42_11 rfl ?_
      refine v_getI (j := 7) gz_42_12 rfl is_82 rd_5 rfl (fun v25 ev25 pv25 qv25 => ?_)
      refine w_imul gz_42_15 ⟨by omega, by omega⟩ ?_
      refine w_iadd gz_42_16 ⟨by omega, by omega⟩ ?_
      refine v_putI (j := 9) gz_42_17 rfl is_82 rd_5 rfl (by omega) (by omega) rfl (fun h26 fh26 => ?_)
      have gh26 : my_fr [(5, 5), (5, 6), (5, 7), (5, 8), (5, 9)] h h26 := my_fr.up my_fr.rf is_82 fh26 rfl
      have Al_h26 : Al h26 := Al_ag (my_ag.up fh26 is_82 rfl) n_Al
      have Cu_h26 : Cu h26 := Cu_ag (my_ag.up fh26 is_82 rfl) n_Cu
      refine w_vret gz_42_20 gm_42 ?_
      show wp l rho (d + 1) 44 28 [(2, 82), (0, x1)] [] h26 _
      refine w_iconst gz_44_28 (by decide) ?_
      refine w_iret gz_44_29 gm_44 ?_
      show wp l rho (d + 2) 51 5 [(2, 82), (0, x1), (9, 0)] [(0, (-1))] h26 Q
      refine w_istore_n (ls' := [(2, 82), (0, x1), (0, (-1))]) gz_51_5 gm_51 rfl rfl rfl ?_
      refine w_iload_n gz_51_6 rfl ?_
      refine w_iconst gz_51_7 (by decide) ?_
      refine w_iceq (t := 15) gz_51_8 rfl (fun u27 => ?_) (fun u27 => by exfalso; omega)
      refine w_iload_n gz_51_15 rfl ?_
      have psR : h26 82 7 = h 82 7 := ((my_up_fld fh26 (by decide)).trans (rfl : h 82 7 = h 82 7))
      have npsR : cs h26 = cs h := cs_eq (fun j => my_fr.at gh26 is_92 rfl) (my_fr.at gh26 is_82 rfl)
      have c28 := (my_up_self fh26)
      exact w_iret gz_51_16 gm_51 (k0 h26 (gh26) (by omega) (by omega) (by first | assumption | omega | (subst_vars; omega) | omega) Al_h26 Cu_h26)
  ·
    refine w_aload_n gz_44_8 rfl ?_
    refine w_iconst gz_44_9 (by decide) ?_
    refine w_inv (k := 0) (as := [(0, 1)]) (r := []) (x := 82) (ls0 := [(2, 82), (0, 1)]) gz_44_10 gm_42 rfl is_82 rd_5 rfl rfl rfl rfl rfl ?_
    refine w_aload_n gz_42_0 rfl ?_
    refine v_getI (j := 9) gz_42_1 rfl is_82 rd_5 rfl (fun v29 ev29 pv29 qv29 => ?_)
    have zv29 := ev29.trans cf
    refine w_ifne (t := 20) gz_42_4 rfl (fun u30 => by exfalso; omega) (fun u30 => ?_)
    refine w_aload_n gz_42_7 rfl ?_
    refine w_iload_n gz_42_8 rfl ?_
    refine w_bipush gz_42_9 (by decide) ?_
    refine w_aload_n gz_42_11 rfl ?_
    refine v_getI (j := 7) gz_42_12 rfl is_82 rd_5 rfl (fun v31 ev31 pv31 qv31 => ?_)
    refine w_imul gz_42_15 ⟨by omega, by omega⟩ ?_
    refine w_iadd gz_42_16 ⟨by omega, by omega⟩ ?_
    refine v_putI (j := 9) gz_42_17 rfl is_82 rd_5 rfl (by omega) (by omega) rfl (fun h32 fh32 => ?_)
    have gh32 : my_fr [(5, 5), (5, 6), (5, 7), (5, 8), (5, 9)] h h32 := my_fr.up my_fr.rf is_82 fh32 rfl
    have Al_h32 : Al h32 := Al_ag (my_ag.up fh32 is_82 rfl) n_Al
    have Cu_h32 : Cu h32 := Cu_ag (my_ag.up fh32 is_82 rfl) n_Cu
    refine w_vret gz_42_20 gm_42 ?_
    show wp l rho (d + 1) 44 13 [(2, 82), (0, x1)] [] h32 _
    refine w_iconst gz_44_13 (by decide) ?_
    refine w_iret gz_44_14 gm_44 ?_
    show wp l rho (d + 2) 51 5 [(2, 82), (0, x1), (9, 0)] [(0, (-1))] h32 Q
    refine w_istore_n (ls' := [(2, 82), (0, x1), (0, (-1))]) gz_51_5 gm_51 rfl rfl rfl ?_
    refine w_iload_n gz_51_6 rfl ?_
    refine w_iconst gz_51_7 (by decide) ?_
    refine w_iceq (t := 15) gz_51_8 rfl (fun u33 => ?_) (fun u33 => by exfalso; omega)
    refine w_iload_n gz_51_15 rfl ?_
    have psR : h32 82 7 = h 82 7 := ((my_up_fld fh32 (by decide)).trans (rfl : h 82 7 = h 82 7))
    have npsR : cs h32 = cs h := cs_eq (fun j => my_fr.at gh32 is_92 rfl) (my_fr.at gh32 is_82 rfl)
    have c34 := (my_up_self fh32)
    exact w_iret gz_51_16 gm_51 (k0 h32 (gh32) (by omega) (by omega) (by first | assumption | omega | (subst_vars; omega) | omega) Al_h32 Cu_h32)
theorem c_Lens_isPicked9 {l : Launch} {rho : Nat → Int32} {d : Nat} {h : my_H} {Q : my_H → my_V → Prop} {x0 x1 x2 : Int} (t0 : my_is 4 x0) (a1 : 0 ≤ x1) (b1 : x1 ≤ 7) (a2 : 0 ≤ x2) (b2 : x2 ≤ 8) (hs5 : h x0 9 ≤ 5) (k0 : (∀ n : Int, 0 ≤ n → n < x2 → h (x0 + 5) (h x0 9 * 8 + n) ≠ x1) → Q h (0, 0)) (k1 : 1 ≤ x2 → (∃ n : Int, 0 ≤ n ∧ n < x2 ∧ h (x0 + 5) (h x0 9 * 8 + n) = x1) → Q h (0, 1)) : wp l rho d 57 0 [(2, x0), (0, x1), (0, x2), (9, 0)] [] h Q := by
  refine v_know (x := x0) (j := 9) (b := 9) rfl t0 rd_4 rfl (fun ka0_9 eka0_9 pka0_9 qka0_9 => ?_)
  have J2_0 : ∀ (n : Nat) (p2_0 : Int), 0 ≤ p2_0 → p2_0 ≤ 8 → p2_0 ≤ x2 → h x0 9 = ka0_9 → (∀ n : Int, 0 ≤ n → n < p2_0 → h (x0 + 5) (h x0 9 * 8 + n) ≠ x1) → 9 - p2_0 ≤ (n : Int) → wp l rho d 57 2 [(2, x0), (0, x1), (0, x2), (0, p2_0)] [] h Q := by
    intro n
    induction n with
    | zero => intro p2_0 q0_2_0 q1_2_0 q2_2_0 ca0_9_2_0 np_2_0 hm_2_0; exfalso; omega
    | succ n ih_2_0 =>
      intro p2_0 q0_2_0 q1_2_0 q2_2_0 ca0_9_2_0 np_2_0 hm_2_0
      refine w_iload_n gz_57_2 rfl ?_
      refine w_iload_n gz_57_3 rfl ?_
      refine w_icge (t := 33) gz_57_4 rfl (fun u1 => ?_) (fun u1 => ?_)
      ·
        refine w_iconst gz_57_33 (by decide) ?_
        exact w_bret gz_57_34 gm_57 (by omega) (by omega) (k0 (by first | (intro n a b; exact np_2_0 n a (by omega)) | exact ⟨p2_0, by omega, by omega, by omega⟩ | omega))
      ·
        refine w_aload_n gz_57_7 rfl ?_
        refine w_getX (v := (x0 + 5)) gz_57_8 t0 rd_4 rfl (by decide) rfl ?_
        refine w_aload_n gz_57_11 rfl ?_
        refine v_getI (j := 9) gz_57_12 rfl t0 rd_4 rfl (fun v3 ev3 pv3 qv3 => ?_)
        have zv3 := ev3.trans ca0_9_2_0
        refine w_bipush gz_57_15 (by decide) ?_
        refine w_imul gz_57_17 ⟨by omega, by omega⟩ ?_
        refine w_iload_n gz_57_18 rfl ?_
        refine w_iadd gz_57_19 ⟨by omega, by omega⟩ ?_
        have hi4 : 0 ≤ ((v3 * 8) + p2_0) := by omega
        have hi5 : ((v3 * 8) + p2_0) ≤ 47 := by omega
        refine w_iald gz_57_20 (ix_4_5 t0) rd_36 (by omega) (by omega) (fun v6 ev6 pv6 qv6 => ?_)
        have e21 : v6 = h (x0 + 5) (h x0 9 * 8 + p2_0) := by
          rw [show h x0 9 * 8 + p2_0 = ((v3 * 8) + p2_0) by omega]
          omega
        refine w_iload_n gz_57_21 rfl ?_
        refine w_icne (t := 27) gz_57_22 rfl (fun u7 => ?_) (fun u7 => ?_)
        ·
          refine w_iinc (ls' := [(2, x0), (0, x1), (0, x2), (0, (p2_0 + 1))]) gz_57_27 rfl gm_57 rfl rfl rfl ⟨by omega, by omega⟩ ?_
          refine w_goto (t := 2) gz_57_30 rfl ?_
          exact ih_2_0 ((p2_0 + 1)) (by omega) (by omega) (by omega) (ev3.symm.trans (by omega)) (by first | (intro n a b; omega) | (intro n a b; rcases (by omega : n = p2_0 ∨ n < p2_0) with q | q <;> first | exact np_2_0 n a q | (subst_vars; omega)) | omega) (by omega)
        ·
          refine w_iconst gz_57_25 (by decide) ?_
          exact w_bret gz_57_26 gm_57 (by omega) (by omega) (k1 (by omega) (by first | (intro n a b; exact np_2_0 n a (by omega)) | exact ⟨p2_0, by omega, by omega, by omega⟩ | omega))
  refine w_iconst gz_57_0 (by decide) ?_
  refine w_istore_n (ls' := [(2, x0), (0, x1), (0, x2), (0, 0)]) gz_57_1 gm_57 rfl rfl rfl ?_
  exact J2_0 9 (0) (by omega) (by omega) (by omega) (eka0_9.symm.trans (by omega)) (by first | (intro n a b; omega) | (intro n a b; rcases (by omega : n = p2_0 ∨ n < p2_0) with q | q <;> first | exact np_2_0 n a q | (subst_vars; omega)) | omega) (by omega)
end MYNModel_keeps9_f0
