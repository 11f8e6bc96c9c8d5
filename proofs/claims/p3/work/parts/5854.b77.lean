/-! contracts, printed by wip/gen/gy.py -/
section MYNModel_keeps7_f0
theorem c_Model_keeps7_f0 {l : Launch} {rho : Nat → Int32} {d : Nat} {h : my_H} {Q : my_H → my_V → Prop} {x1 : Int} (a1 : 0 ≤ x1) (b1 : x1 ≤ 5) (cf : h 151 8 = 0) (mq : Mq h x1) (hu : ∀ k : Int, 0 ≤ k → k ≤ 5 → h 164 k = 1 → h 165 k = 0 → h 166 k ≠ x1) (k0 : ∀ (h' : my_H), my_fr [(63, -1), (64, -1), (65, -1), (66, -1), (67, -1), (68, -1), (69, -1), (70, -1), (71, -1), (72, -1)] h h' → h' 151 8 = 0 → KeepF h h' x1 → Cpy h h' 173 (4 * x1) 4 24 → Mw3 h' → Q h' (9, 0)) : wp l rho d 191 0 [(2, 151), (0, x1), (9, 0), (9, 0), (9, 0), (9, 0)] [] h Q := by
  have J168_0 : ∀ (n : Nat) (p168_0 : Int) (h168_0 : my_H), my_fr [(63, -1), (64, -1), (65, -1), (66, -1), (67, -1), (68, -1), (69, -1), (70, -1), (71, -1), (72, -1)] h h168_0 → 0 ≤ p168_0 → p168_0 ≤ 4 → h168_0 151 8 = 0 → Put1 h h168_0 164 x1 1 → Put1 h h168_0 165 x1 (h 165 6) → Put1 h h168_0 166 x1 (h 166 6) → Put1 h h168_0 167 x1 (h 167 6) → Cpy h h168_0 168 (6 * x1) 6 36 → Cpy h h168_0 169 (6 * x1) 6 36 → Cpy h h168_0 170 (6 * x1) 6 36 → Cpy h h168_0 171 (6 * x1) 6 36 → Cpy h h168_0 172 (48 * x1) (48) 288 → Cpy h h168_0 173 (4 * x1) p168_0 24 → 5 - p168_0 ≤ (n : Int) → wp l rho d 191 168 [(2, 151), (0, x1), (0, p168_0), (9, 0), (9, 0), (9, 0)] [] h168_0 Q := by
    intro n
    induction n with
    | zero => intro p168_0 h168_0 gh_168_0 q0_168_0 q1_168_0 c151_8_168_0 q4_168_0 q5_168_0 q6_168_0 q7_168_0 c8_168_0 c9_168_0 c0_168_0 c1_168_0 c2_168_0 c3_168_0 hm_168_0; exfalso; omega
    | succ n ih_168_0 =>
      intro p168_0 h168_0 gh_168_0 q0_168_0 q1_168_0 c151_8_168_0 q4_168_0 q5_168_0 q6_168_0 q7_168_0 c8_168_0 c9_168_0 c0_168_0 c1_168_0 c2_168_0 c3_168_0 hm_168_0
      refine w_iload_n gz_191_168 rfl ?_
      refine w_iconst gz_191_169 (by decide) ?_
      refine w_icge (t := 198) gz_191_170 rfl (fun u1 => ?_) (fun u1 => ?_)
      ·
        have a164 : ∀ j : Int, h168_0 164 j = h168_0 164 j := fun _ => rfl
        have a165 : ∀ j : Int, h168_0 165 j = h168_0 165 j := fun _ => rfl
        have a166 : ∀ j : Int, h168_0 166 j = h168_0 166 j := fun _ => rfl
        have a167 : ∀ j : Int, h168_0 167 j = h168_0 167 j := fun _ => rfl
        have a168 : ∀ j : Int, h168_0 168 j = h168_0 168 j := fun _ => rfl
        have a169 : ∀ j : Int, h168_0 169 j = h168_0 169 j := fun _ => rfl
        have a170 : ∀ j : Int, h168_0 170 j = h168_0 170 j := fun _ => rfl
        have a171 : ∀ j : Int, h168_0 171 j = h168_0 171 j := fun _ => rfl
        have a172 : ∀ j : Int, h168_0 172 j = h168_0 172 j := fun _ => rfl
        have a173 : ∀ j : Int, h168_0 173 j = h168_0 173 j := fun _ => rfl
        have Mw3_h168_0t2 : Mw3 h168_0 := Mw3_keep mq (by omega) (by omega) hu (fun j => my_fr.at gh_168_0 is_157 rfl) (Put1_eq a164 q4_168_0) (Put1_eq a165 q5_168_0) (Put1_eq a166 q6_168_0) (Put1_eq a167 q7_168_0) (Cpy_eq a168 c8_168_0) (Cpy_eq a169 c9_168_0) (Cpy_eq a170 c0_168_0) (Cpy_eq a171 c1_168_0) (Cpy_eq a172 c2_168_0)
        have c3 := c151_8_168_0
        exact w_vret gz_191_198 gm_191 (k0 h168_0 (gh_168_0) (by omega) (by first | exact Cpy_n (Cpy_eq a173 c3_168_0) (by omega) | exact ⟨Put1_eq a164 q4_168_0, Put1_eq a165 q5_168_0, Put1_eq a166 q6_168_0, Put1_eq a167 q7_168_0, Cpy_eq a168 c8_168_0, Cpy_eq a169 c9_168_0, Cpy_eq a170 c0_168_0, Cpy_eq a171 c1_168_0, Cpy_eq a172 c2_168_0⟩ | omega) (by first | exact Cpy_n (Cpy_eq a173 c3_168_0) (by omega) | exact ⟨Put1_eq a164 q4_168_0, Put1_eq a165 q5_168_0, Put1_eq a166 q6_168_0, Put1_eq a167 q7_168_0, Cpy_eq a168 c8_168_0, Cpy_eq a169 c9_168_0, Cpy_eq a170 c0_168_0, Cpy_eq a171 c1_168_0, Cpy_eq a172 c2_168_0⟩ | omega) Mw3_h168_0t2)
      ·
        refine w_aload_n gz_191_173 rfl ?_
        refine w_getX (v := 173) gz_191_174 is_151 rd_10 rfl (by decide) rfl ?_
        refine w_iconst gz_191_177 (by decide) ?_
        refine w_iload_n gz_191_178 rfl ?_
        refine w_imul gz_191_179 ⟨by omega, by omega⟩ ?_
        refine w_iload_n gz_191_180 rfl ?_
        refine w_iadd gz_191_181 ⟨by omega, by omega⟩ ?_
        refine w_aload_n gz_191_182 rfl ?_
        refine w_getX (v := 173) gz_191_183 is_151 rd_10 rfl (by decide) rfl ?_
        refine w_bipush gz_191_186 (by decide) ?_
        refine w_iload_n gz_191_188 rfl ?_
        refine w_iadd gz_191_189 ⟨by omega, by omega⟩ ?_
        refine w_iald gz_191_190 is_173 rd_72 (by omega) (by omega) (fun v6 ev6 pv6 qv6 => ?_)
        have b173 : ∀ j : Int, h168_0 173 j = h168_0 173 j := fun _ => rfl
        refine w_iast gz_191_191 is_173 rd_72 (by omega) (by omega) (by omega) (by omega) (fun h7 fh7 => ?_)
        have gh7 : my_fr [(63, -1), (64, -1), (65, -1), (66, -1), (67, -1), (68, -1), (69, -1), (70, -1), (71, -1), (72, -1)] h h7 := my_fr.up gh_168_0 is_173 fh7 rfl
        have d3 := Cpy_s (n' := p168_0 + 1) (Cpy_eq b173 c3_168_0) fh7 (by omega) (by omega) rfl (by omega) (by omega)
        refine w_iinc (ls' := [(2, 151), (0, x1), (0, (p168_0 + 1)), (9, 0), (9, 0), (9, 0)]) gz_191_192 rfl gm_191 rfl rfl rfl ⟨by omega, by omega⟩ ?_
        refine w_goto (t := 168) gz_191_195 rfl ?_
        have a164 : ∀ j : Int, h7 164 j = h168_0 164 j := fun j => ((my_up_role fh7 is_164 is_173 rfl).trans (rfl : h168_0 164 j = h168_0 164 j))
        have a165 : ∀ j : Int, h7 165 j = h168_0 165 j := fun j => ((my_up_role fh7 is_165 is_173 rfl).trans (rfl : h168_0 165 j = h168_0 165 j))
        have a166 : ∀ j : Int, h7 166 j = h168_0 166 j := fun j => ((my_up_role fh7 is_166 is_173 rfl).trans (rfl : h168_0 166 j = h168_0 166 j))
        have a167 : ∀ j : Int, h7 167 j = h168_0 167 j := fun j => ((my_up_role fh7 is_167 is_173 rfl).trans (rfl : h168_0 167 j = h168_0 167 j))
        have a168 : ∀ j : Int, h7 168 j = h168_0 168 j := fun j => ((my_up_role fh7 is_168 is_173 rfl).trans (rfl : h168_0 168 j = h168_0 168 j))
        have a169 : ∀ j : Int, h7 169 j = h168_0 169 j := fun j => ((my_up_role fh7 is_169 is_173 rfl).trans (rfl : h168_0 169 j = h168_0 169 j))
        have a170 : ∀ j : Int, h7 170 j = h168_0 170 j := fun j => ((my_up_role fh7 is_170 is_173 rfl).trans (rfl : h168_0 170 j = h168_0 170 j))
        have a171 : ∀ j : Int, h7 171 j = h168_0 171 j := fun j => ((my_up_role fh7 is_171 is_173 rfl).trans (rfl : h168_0 171 j = h168_0 171 j))
        have a172 : ∀ j : Int, h7 172 j = h168_0 172 j := fun j => ((my_up_role fh7 is_172 is_173 rfl).trans (rfl : h168_0 172 j = h168_0 172 j))
        have a173 : ∀ j : Int, h7 173 j = h7 173 j := fun j => rfl
        exact ih_168_0 ((p168_0 + 1)) h7 (gh7) (by omega) (by omega) (((my_up_role fh7 is_151 is_173 rfl).trans c151_8_168_0).trans (by omega)) (by first | exact Put1_eq a164 p4 | exact Put1_eq a164 q4_122_0 | exact Put1_eq a164 q4_48_0 | exact Put1_eq a164 q4_168_0 | omega) (by first | exact Put1_eq a165 p5 | exact Put1_eq a165 q5_122_0 | exact Put1_eq a165 q5_48_0 | exact Put1_eq a165 q5_168_0 | omega) (by first | exact Put1_eq a166 p6 | exact Put1_eq a166 q6_122_0 | exact Put1_eq a166 q6_48_0 | exact Put1_eq a166 q6_168_0 | omega) (by first | exact Put1_eq a167 p7 | exact Put1_eq a167 q7_122_0 | exact Put1_eq a167 q7_48_0 | exact Put1_eq a167 q7_168_0 | omega) (by first | exact Cpy_0 (by omega) a168 | exact Cpy_n (Cpy_eq a168 d8) (by omega) | exact Cpy_n (Cpy_eq a168 c8_122_0) (by omega) | exact Cpy_n (Cpy_eq a168 c8_48_0) (by omega) | exact Cpy_n (Cpy_eq a168 c8_168_0) (by omega) | omega) (by first | exact Cpy_0 (by omega) a169 | exact Cpy_n (Cpy_eq a169 d9) (by omega) | exact Cpy_n (Cpy_eq a169 c9_122_0) (by omega) | exact Cpy_n (Cpy_eq a169 c9_48_0) (by omega) | exact Cpy_n (Cpy_eq a169 c9_168_0) (by omega) | omega) (by first | exact Cpy_0 (by omega) a170 | exact Cpy_n (Cpy_eq a170 d0) (by omega) | exact Cpy_n (Cpy_eq a170 c0_122_0) (by omega) | exact Cpy_n (Cpy_eq a170 c0_48_0) (by omega) | exact Cpy_n (Cpy_eq a170 c0_168_0) (by omega) | omega) (by first | exact Cpy_0 (by omega) a171 | exact Cpy_n (Cpy_eq a171 d1) (by omega) | exact Cpy_n (Cpy_eq a171 c1_122_0) (by omega) | exact Cpy_n (Cpy_eq a171 c1_48_0) (by omega) | exact Cpy_n (Cpy_eq a171 c1_168_0) (by omega) | omega) (by first | exact Cpy_0 (by omega) a172 | exact Cpy_n (Cpy_eq a172 d2) (by omega) | exact Cpy_n (Cpy_eq a172 c2_122_0) (by omega) | exact Cpy_n (Cpy_eq a172 c2_48_0) (by omega) | exact Cpy_n (Cpy_eq a172 c2_168_0) (by omega) | omega) (by first | exact Cpy_0 (by omega) a173 | exact Cpy_n (Cpy_eq a173 d3) (by omega) | exact Cpy_n (Cpy_eq a173 c3_122_0) (by omega) | exact Cpy_n (Cpy_eq a173 c3_48_0) (by omega) | exact Cpy_n (Cpy_eq a173 c3_168_0) (by omega) | omega) (by omega)
  have J48_0 : ∀ (n : Nat) (p48_0 : Int) (h48_0 : my_H), my_fr [(63, -1), (64, -1), (65, -1), (66, -1), (67, -1), (68, -1), (69, -1), (70, -1), (71, -1), (72, -1)] h h48_0 → 0 ≤ p48_0 → p48_0 ≤ 6 → h48_0 151 8 = 0 → Put1 h h48_0 164 x1 1 → Put1 h h48_0 165 x1 (h 165 6) → Put1 h h48_0 166 x1 (h 166 6) → Put1 h h48_0 167 x1 (h 167 6) → Cpy h h48_0 168 (6 * x1) p48_0 36 → Cpy h h48_0 169 (6 * x1) p48_0 36 → Cpy h h48_0 170 (6 * x1) p48_0 36 → Cpy h h48_0 171 (6 * x1) p48_0 36 → Cpy h h48_0 172 (48 * x1) (8 * p48_0) 288 → Cpy h h48_0 173 (4 * x1) 0 24 → 7 - p48_0 ≤ (n : Int) → wp l rho d 191 48 [(2, 151), (0, x1), (0, p48_0), (9, 0), (9, 0), (9, 0)] [] h48_0 Q := by
    intro n
    induction n with
    | zero => intro p48_0 h48_0 gh_48_0 q0_48_0 q1_48_0 c151_8_48_0 q4_48_0 q5_48_0 q6_48_0 q7_48_0 c8_48_0 c9_48_0 c0_48_0 c1_48_0 c2_48_0 c3_48_0 hm_48_0; exfalso; omega
    | succ n ih_48_0 =>
      intro p48_0 h48_0 gh_48_0 q0_48_0 q1_48_0 c151_8_48_0 q4_48_0 q5_48_0 q6_48_0 q7_48_0 c8_48_0 c9_48_0 c0_48_0 c1_48_0 c2_48_0 c3_48_0 hm_48_0
      have J122_0 : ∀ (n : Nat) (p122_0 p122_1 : Int) (h122_0 : my_H), my_fr [(63, -1), (64, -1), (65, -1), (66, -1), (67, -1), (68, -1), (69, -1), (70, -1), (71, -1), (72, -1)] h h122_0 → p48_0 ≤ 5 → 0 ≤ p122_0 → p122_0 ≤ 35 → 0 ≤ p122_1 → p122_1 ≤ 8 → h122_0 151 8 = 0 → p122_0 = 6 * x1 + p48_0 → (p48_0 + 36) = 36 + p48_0 → Put1 h h122_0 164 x1 1 → Put1 h h122_0 165 x1 (h 165 6) → Put1 h h122_0 166 x1 (h 166 6) → Put1 h h122_0 167 x1 (h 167 6) → Cpy h h122_0 168 (6 * x1) (p48_0 + 1) 36 → Cpy h h122_0 169 (6 * x1) (p48_0 + 1) 36 → Cpy h h122_0 170 (6 * x1) (p48_0 + 1) 36 → Cpy h h122_0 171 (6 * x1) (p48_0 + 1) 36 → Cpy h h122_0 172 (48 * x1) (8 * p48_0 + p122_1) 288 → Cpy h h122_0 173 (4 * x1) 0 24 → 9 - p122_1 ≤ (n : Int) → wp l rho d 191 122 [(2, 151), (0, x1), (0, p48_0), (0, p122_0), (0, (p48_0 + 36)), (0, p122_1)] [] h122_0 Q := by
        intro n
        induction n with
        | zero => intro p122_0 p122_1 h122_0 gh_122_0 q0_122_0 q1_122_0 q2_122_0 q3_122_0 q4_122_0 c151_8_122_0 e3_122_0 e4_122_0 q4_122_0 q5_122_0 q6_122_0 q7_122_0 c8_122_0 c9_122_0 c0_122_0 c1_122_0 c2_122_0 c3_122_0 hm_122_0; exfalso; omega
        | succ n ih_122_0 =>
          intro p122_0 p122_1 h122_0 gh_122_0 q0_122_0 q1_122_0 q2_122_0 q3_122_0 q4_122_0 c151_8_122_0 e3_122_0 e4_122_0 q4_122_0 q5_122_0 q6_122_0 q7_122_0 c8_122_0 c9_122_0 c0_122_0 c1_122_0 c2_122_0 c3_122_0 hm_122_0
          refine w_iload gz_191_122 rfl ?_
          refine w_bipush gz_191_124 (by decide) ?_
          refine w_icge (t := 160) gz_191_126 rfl (fun u8 => ?_) (fun u8 => ?_)
          ·
            refine w_iinc (ls' := [(2, 151), (0, x1), (0, (p48_0 + 1)), (0, p122_0), (0, (p48_0 + 36)), (0, p122_1)]) gz_191_160 rfl gm_191 rfl rfl rfl ⟨by omega, by omega⟩ ?_
            refine w_goto (t := 48) gz_191_163 rfl ?_
            have a164 : ∀ j : Int, h122_0 164 j = h122_0 164 j := fun _ => rfl
            have a165 : ∀ j : Int, h122_0 165 j = h122_0 165 j := fun _ => rfl
            have a166 : ∀ j : Int, h122_0 166 j = h122_0 166 j := fun _ => rfl
            have a167 : ∀ j : Int, h122_0 167 j = h122_0 167 j := fun _ => rfl
            have a168 : ∀ j : Int, h122_0 168 j = h122_0 168 j := fun _ => rfl
            have a169 : ∀ j : Int, h122_0 169 j = h122_0 169 j := fun _ => rfl
            have a170 : ∀ j : Int, h122_0 170 j = h122_0 170 j := fun _ => rfl
            have a171 : ∀ j : Int, h122_0 171 j = h122_0 171 j := fun _ => rfl
            have a172 : ∀ j : Int, h122_0 172 j = h122_0 172 j := fun _ => rfl
            have a173 : ∀ j : Int, h122_0 173 j = h122_0 173 j := fun _ => rfl
            refine w_weak (ls' := [(2, 151), (0, x1), (0, (p48_0 + 1)), (9, 0), (9, 0), (9, 0)]) (wk_e (wk_e (wk_e (wk_9 (wk_9 (wk_9 wk_n)))))) ?_
            exact ih_48_0 ((p48_0 + 1)) h122_0 (gh_122_0) (by omega) (by omega) (c151_8_122_0.trans (by omega)) (by first | exact Put1_eq a164 p4 | exact Put1_eq a164 q4_122_0 | exact Put1_eq a164 q4_48_0 | exact Put1_eq a164 q4_168_0 | omega) (by first | exact Put1_eq a165 p5 | exact Put1_eq a165 q5_122_0 | exact Put1_eq a165 q5_48_0 | exact Put1_eq a165 q5_168_0 | omega) (by first | exact Put1_eq a166 p6 | exact Put1_eq a166 q6_122_0 | exact Put1_eq a166 q6_48_0 | exact Put1_eq a166 q6_168_0 | omega) (by first | exact Put1_eq a167 p7 | exact Put1_eq a167 q7_122_0 | exact Put1_eq a167 q7_48_0 | exact Put1_eq a167 q7_168_0 | omega) (by first | exact Cpy_0 (by omega) a168 | exact Cpy_n (Cpy_eq a168 d8) (by omega) | exact Cpy_n (Cpy_eq a168 c8_122_0) (by omega) | exact Cpy_n (Cpy_eq a168 c8_48_0) (by omega) | exact Cpy_n (Cpy_eq a168 c8_168_0) (by omega) | omega) (by first | exact Cpy_0 (by omega) a169 | exact Cpy_n (Cpy_eq a169 d9) (by omega) | exact Cpy_n (Cpy_eq a169 c9_122_0) (by omega) | exact Cpy_n (Cpy_eq a169 c9_48_0) (by omega) | exact Cpy_n (Cpy_eq a169 c9_168_0) (by omega) | omega) (by first | exact Cpy_0 (by omega) a170 | exact Cpy_n (Cpy_eq a170 d0) (by omega) | exact Cpy_n (Cpy_eq a170 c0_122_0) (by omega) | exact Cpy_n (Cpy_eq a170 c0_48_0) (by omega) | exact Cpy_n (Cpy_eq a170 c0_168_0) (by omega) | omega) (by first | exact Cpy_0 (by omega) a171 | exact Cpy_n (Cpy_eq a171 d1) (by omega) | exact Cpy_n (Cpy_eq a171 c1_122_0) (by omega) | exact Cpy_n (Cpy_eq a171 c1_48_0) (by omega) | exact Cpy_n (Cpy_eq a171 c1_168_0) (by omega) | omega) (by first | exact Cpy_0 (by omega) a172 | exact Cpy_n (Cpy_eq a172 d2) (by omega) | exact Cpy_n (Cpy_eq a172 c2_122_0) (by omega) | exact Cpy_n (Cpy_eq a172 c2_48_0) (by omega) | exact Cpy_n (Cpy_eq a172 c2_168_0) (by omega) | omega) (by first | exact Cpy_0 (by omega) a173 | exact Cpy_n (Cpy_eq a173 d3) (by omega) | exact Cpy_n (Cpy_eq a173 c3_122_0) (by omega) | exact Cpy_n (Cpy_eq a173 c3_48_0) (by omega) | exact Cpy_n (Cpy_eq a173 c3_168_0) (by omega) | omega) (by omega)
          ·
            refine w_aload_n gz_191_129 rfl ?_
            refine w_getX (v := 172) gz_191_130 is_151 rd_10 rfl (by decide) rfl ?_
            refine w_bipush gz_191_133 (by decide) ?_
            refine w_iload_n gz_191_135 rfl ?_
            refine w_imul gz_191_136 ⟨by omega, by omega⟩ ?_
            refine w_iload gz_191_137 rfl ?_
            refine w_iadd gz_191_139 ⟨by omega, by omega⟩ ?_
            refine w_aload_n gz_191_140 rfl ?_
            refine w_getX (v := 172) gz_191_141 is_151 rd_10 rfl (by decide) rfl ?_
            refine w_bipush gz_191_144 (by decide) ?_
            refine w_iload gz_191_146 rfl ?_
            refine w_imul gz_191_148 ⟨by omega, by omega⟩ ?_
            refine w_iload gz_191_149 rfl ?_
            refine w_iadd gz_191_151 ⟨by omega, by omega⟩ ?_
            refine w_iald gz_191_152 is_172 rd_71 (by omega) (by omega) (fun v11 ev11 pv11 qv11 => ?_)
            refine w_iast gz_191_153 is_172 rd_71 (by omega) (by omega) (by omega) (by omega) (fun h12 fh12 => ?_)
            have gh12 : my_fr [(63, -1), (64, -1), (65, -1), (66, -1), (67, -1), (68, -1), (69, -1), (70, -1), (71, -1), (72, -1)] h h12 := my_fr.up gh_122_0 is_172 fh12 rfl
            have d2 := Cpy_s (n' := 8 * p48_0 + (p122_1 + 1)) c2_122_0 fh12 (by omega) (by omega) (by omega) (by omega) (by rw [show (288 : Int) + (8 * p48_0 + p122_1) = 8 * (p48_0 + 36) + p122_1 by omega]; omega)
            refine w_iinc (ls' := [(2, 151), (0, x1), (0, p48_0), (0, p122_0), (0, (p48_0 + 36)), (0, (p122_1 + 1))]) gz_191_154 rfl gm_191 rfl rfl rfl ⟨by omega, by omega⟩ ?_
            refine w_goto (t := 122) gz_191_157 rfl ?_
            have a164 : ∀ j : Int, h12 164 j = h122_0 164 j := fun j => ((my_up_role fh12 is_164 is_172 rfl).trans (rfl : h122_0 164 j = h122_0 164 j))
            have a165 : ∀ j : Int, h12 165 j = h122_0 165 j := fun j => ((my_up_role fh12 is_165 is_172 rfl).trans (rfl : h122_0 165 j = h122_0 165 j))
            have a166 : ∀ j : Int, h12 166 j = h122_0 166 j := fun j => ((my_up_role fh12 is_166 is_172 rfl).trans (rfl : h122_0 166 j = h122_0 166 j))
            have a167 : ∀ j : Int, h12 167 j = h122_0 167 j := fun j => ((my_up_role fh12 is_167 is_172 rfl).trans (rfl : h122_0 167 j = h122_0 167 j))
            have a168 : ∀ j : Int, h12 168 j = h122_0 168 j := fun j => ((my_up_role fh12 is_168 is_172 rfl).trans (rfl : h122_0 168 j = h122_0 168 j))
            have a169 : ∀ j : Int, h12 169 j = h122_0 169 j := fun j => ((my_up_role fh12 is_169 is_172 rfl).trans (rfl : h122_0 169 j = h122_0 169 j))
            have a170 : ∀ j : Int, h12 170 j = h122_0 170 j := fun j => ((my_up_role fh12 is_170 is_172 rfl).trans (rfl : h122_0 170 j = h122_0 170 j))
            have a171 : ∀ j : Int, h12 171 j = h122_0 171 j := fun j => ((my_up_role fh12 is_171 is_172 rfl).trans (rfl : h122_0 171 j = h122_0 171 j))
            have a172 : ∀ j : Int, h12 172 j = h12 172 j := fun j => rfl
            have a173 : ∀ j : Int, h12 173 j = h122_0 173 j := fun j => ((my_up_role fh12 is_173 is_172 rfl).trans (rfl : h122_0 173 j = h122_0 173 j))
            exact ih_122_0 (p122_0) ((p122_1 + 1)) h12 (gh12) (by omega) (by omega) (by omega) (by omega) (by omega) (((my_up_role fh12 is_151 is_172 rfl).trans c151_8_122_0).trans (by omega)) (by omega) (by omega) (by first | exact Put1_eq a164 p4 | exact Put1_eq a164 q4_122_0 | exact Put1_eq a164 q4_48_0 | exact Put1_eq a164 q4_168_0 | omega) (by first | exact Put1_eq a165 p5 | exact Put1_eq a165 q5_122_0 | exact Put1_eq a165 q5_48_0 | exact Put1_eq a165 q5_168_0 | omega) (by first | exact Put1_eq a166 p6 | exact Put1_eq a166 q6_122_0 | exact Put1_eq a166 q6_48_0 | exact Put1_eq a166 q6_168_0 | omega) (by first | exact Put1_eq a167 p7 | exact Put1_eq a167 q7_122_0 | exact Put1_eq a167 q7_48_0 | exact Put1_eq a167 q7_168_0 | omega) (by first | exact Cpy_0 (by omega) a168 | exact Cpy_n (Cpy_eq a168 d8) (by omega) | exact Cpy_n (Cpy_eq a168 c8_122_0) (by omega) | exact Cpy_n (Cpy_eq a168 c8_48_0) (by omega) | exact Cpy_n (Cpy_eq a168 c8_168_0) (by omega) | omega) (by first | exact Cpy_0 (by omega) a169 | exact Cpy_n (Cpy_eq a169 d9) (by omega) | exact Cpy_n (Cpy_eq a169 c9_122_0) (by omega) | exact Cpy_n (Cpy_eq a169 c9_48_0) (by omega) | exact Cpy_n (Cpy_eq a169 c9_168_0) (by omega) | omega) (by first | exact Cpy_0 (by omega) a170 | exact Cpy_n (Cpy_eq a170 d0) (by omega) | exact Cpy_n (Cpy_eq a170 c0_122_0) (by omega) | exact Cpy_n (Cpy_eq a170 c0_48_0) (by omega) | exact Cpy_n (Cpy_eq a170 c0_168_0) (by omega) | omega) (by first | exact Cpy_0 (by omega) a171 | exact Cpy_n (Cpy_eq a171 d1) (by omega) | exact Cpy_n (Cpy_eq a171 c1_122_0) (by omega) | exact Cpy_n (Cpy_eq a171 c1_48_0) (by omega) | exact Cpy_n (Cpy_eq a171 c1_168_0) (by omega) | omega) (by first | exact Cpy_0 (by omega) a172 | exact Cpy_n (Cpy_eq a172 d2) (by omega) | exact Cpy_n (Cpy_eq a172 c2_122_0) (by omega) | exact Cpy_n (Cpy_eq a172 c2_48_0) (by omega) | exact Cpy_n (Cpy_eq a172 c2_168_0) (by omega) | omega) (by first | exact Cpy_0 (by omega) a173 | exact Cpy_n (Cpy_eq a173 d3) (by omega) | exact Cpy_n (Cpy_eq a173 c3_122_0) (by omega) | exact Cpy_n (Cpy_eq a173 c3_48_0) (by omega) | exact Cpy_n (Cpy_eq a173 c3_168_0) (by omega) | omega) (by omega)
      refine w_iload_n gz_191_48 rfl ?_
      refine w_bipush gz_191_49 (by decide) ?_
      refine w_icge (t := 166) gz_191_51 rfl (fun u13 => ?_) (fun u13 => ?_)
      ·
        refine w_iconst gz_191_166 (by decide) ?_
        refine w_istore_n (ls' := [(2, 151), (0, x1), (0, 0), (9, 0), (9, 0), (9, 0)]) gz_191_167 gm_191 rfl rfl rfl ?_
        have a164 : ∀ j : Int, h48_0 164 j = h48_0 164 j := fun _ => rfl
        have a165 : ∀ j : Int, h48_0 165 j = h48_0 165 j := fun _ => rfl
        have a166 : ∀ j : Int, h48_0 166 j = h48_0 166 j := fun _ => rfl
        have a167 : ∀ j : Int, h48_0 167 j = h48_0 167 j := fun _ => rfl
        have a168 : ∀ j : Int, h48_0 168 j = h48_0 168 j := fun _ => rfl
        have a169 : ∀ j : Int, h48_0 169 j = h48_0 169 j := fun _ => rfl
        have a170 : ∀ j : Int, h48_0 170 j = h48_0 170 j := fun _ => rfl
        have a171 : ∀ j : Int, h48_0 171 j = h48_0 171 j := fun _ => rfl
        have a172 : ∀ j : Int, h48_0 172 j = h48_0 172 j := fun _ => rfl
        have a173 : ∀ j : Int, h48_0 173 j = h48_0 173 j := fun _ => rfl
        exact J168_0 5 (0) h48_0 (gh_48_0) (by omega) (by omega) (c151_8_48_0.trans (by omega)) (by first | exact Put1_eq a164 p4 | exact Put1_eq a164 q4_122_0 | exact Put1_eq a164 q4_48_0 | exact Put1_eq a164 q4_168_0 | omega) (by first | exact Put1_eq a165 p5 | exact Put1_eq a165 q5_122_0 | exact Put1_eq a165 q5_48_0 | exact Put1_eq a165 q5_168_0 | omega) (by first | exact Put1_eq a166 p6 | exact Put1_eq a166 q6_122_0 | exact Put1_eq a166 q6_48_0 | exact Put1_eq a166 q6_168_0 | omega) (by first | exact Put1_eq a167 p7 | exact Put1_eq a167 q7_122_0 | exact Put1_eq a167 q7_48_0 | exact Put1_eq a167 q7_168_0 | omega) (by first | exact Cpy_0 (by omega) a168 | exact Cpy_n (Cpy_eq a168 d8) (by omega) | exact Cpy_n (Cpy_eq a168 c8_122_0) (by omega) | exact Cpy_n (Cpy_eq a168 c8_48_0) (by omega) | exact Cpy_n (Cpy_eq a168 c8_168_0) (by omega) | omega) (by first | exact Cpy_0 (by omega) a169 | exact Cpy_n (Cpy_eq a169 d9) (by omega) | exact Cpy_n (Cpy_eq a169 c9_122_0) (by omega) | exact Cpy_n (Cpy_eq a169 c9_48_0) (by omega) | exact Cpy_n (Cpy_eq a169 c9_168_0) (by omega) | omega) (by first | exact Cpy_0 (by omega) a170 | exact Cpy_n (Cpy_eq a170 d0) (by omega) | exact Cpy_n (Cpy_eq a170 c0_122_0) (by omega) | exact Cpy_n (Cpy_eq a170 c0_48_0) (by omega) | exact Cpy_n (Cpy_eq a170 c0_168_0) (by omega) | omega) (by first | exact Cpy_0 (by omega) a171 | exact Cpy_n (Cpy_eq a171 d1) (by omega) | exact Cpy_n (Cpy_eq a171 c1_122_0) (by omega) | exact Cpy_n (Cpy_eq a171 c1_48_0) (by omega) | exact Cpy_n (Cpy_eq a171 c1_168_0) (by omega) | omega) (by first | exact Cpy_0 (by omega) a172 | exact Cpy_n (Cpy_eq a172 d2) (by omega) | exact Cpy_n (Cpy_eq a172 c2_122_0) (by omega) | exact Cpy_n (Cpy_eq a172 c2_48_0) (by omega) | exact Cpy_n (Cpy_eq a172 c2_168_0) (by omega) | omega) (by first | exact Cpy_0 (by omega) a173 | exact Cpy_n (Cpy_eq a173 d3) (by omega) | exact Cpy_n (Cpy_eq a173 c3_122_0) (by omega) | exact Cpy_n (Cpy_eq a173 c3_48_0) (by omega) | exact Cpy_n (Cpy_eq a173 c3_168_0) (by omega) | omega) (by omega)
      ·
        refine w_bipush gz_191_54 (by decide) ?_
        refine w_iload_n gz_191_56 rfl ?_
        refine w_imul gz_191_57 ⟨by omega, by omega⟩ ?_
        refine w_iload_n gz_191_58 rfl ?_
        refine w_iadd gz_191_59 ⟨by omega, by omega⟩ ?_
        refine w_istore_n (ls' := [(2, 151), (0, x1), (0, p48_0), (0, ((6 * x1) + p48_0)), (9, 0), (9, 0)]) gz_191_60 gm_191 rfl rfl rfl ?_
        refine w_bipush gz_191_61 (by decide) ?_
        refine w_iload_n gz_191_63 rfl ?_
        refine w_iadd gz_191_64 ⟨by omega, by omega⟩ ?_
        refine w_istore (ls' := [(2, 151), (0, x1), (0, p48_0), (0, ((6 * x1) + p48_0)), (0, (36 + p48_0)), (9, 0)]) gz_191_65 gm_191 rfl rfl rfl ?_
        refine w_aload_n gz_191_67 rfl ?_
        refine w_getX (v := 168) gz_191_68 is_151 rd_10 rfl (by decide) rfl ?_
        refine w_iload_n gz_191_71 rfl ?_
        refine w_aload_n gz_191_72 rfl ?_
        refine w_getX (v := 168) gz_191_73 is_151 rd_10 rfl (by decide) rfl ?_
        refine w_iload gz_191_76 rfl ?_
        refine w_iald gz_191_78 is_168 rd_67 (by omega) (by omega) (fun v16 ev16 pv16 qv16 => ?_)
        have b168 : ∀ j : Int, h48_0 168 j = h48_0 168 j := fun _ => rfl
        refine w_iast gz_191_79 is_168 rd_67 (by omega) (by omega) (by omega) (by omega) (fun h17 fh17 => ?_)
        have gh17 : my_fr [(63, -1), (64, -1), (65, -1), (66, -1), (67, -1), (68, -1), (69, -1), (70, -1), (71, -1), (72, -1)] h h17 := my_fr.up gh_48_0 is_168 fh17 rfl
        have d8 := Cpy_s (n' := p48_0 + 1) (Cpy_eq b168 c8_48_0) fh17 (by omega) (by omega) rfl (by omega) (by omega)
        refine w_aload_n gz_191_80 rfl ?_
        refine w_getX (v := 169) gz_191_81 is_151 rd_10 rfl (by decide) rfl ?_
        refine w_iload_n gz_191_84 rfl ?_
        refine w_aload_n gz_191_85 rfl ?_
        refine w_getX (v := 169) gz_191_86 is_151 rd_10 rfl (by decide) rfl ?_
        refine w_iload gz_191_89 rfl ?_
        refine w_iald gz_191_91 is_169 rd_68 (by omega) (by omega) (fun v20 ev20 pv20 qv20 => ?_)
        have b169 : ∀ j : Int, h17 169 j = h48_0 169 j := fun j => ((my_up_role fh17 is_169 is_168 rfl).trans (rfl : h48_0 169 j = h48_0 169 j))
        refine w_iast gz_191_92 is_169 rd_68 (by omega) (by omega) (by omega) (by omega) (fun h21 fh21 => ?_)
        have gh21 : my_fr [(63, -1), (64, -1), (65, -1), (66, -1), (67, -1), (68, -1), (69, -1), (70, -1), (71, -1), (72, -1)] h h21 := my_fr.up gh17 is_169 fh21 rfl
        have d9 := Cpy_s (n' := p48_0 + 1) (Cpy_eq b169 c9_48_0) fh21 (by omega) (by omega) rfl (by omega) (by omega)
        refine w_aload_n gz_191_93 rfl ?_
        refine w_getX (v := 170) gz_191_94 is_151 rd_10 rfl (by decide) rfl ?_
        refine w_iload_n gz_191_97 rfl ?_
        refine w_aload_n gz_191_98 rfl ?_
        refine w_getX (v := 170) gz_191_99 is_151 rd_10 rfl (by decide) rfl ?_
        refine w_iload gz_191_102 rfl ?_
        refine w_iald gz_191_104 is_170 rd_69 (by omega) (by omega) (fun v24 ev24 pv24 qv24 => ?_)
        have b170 : ∀ j : Int, h21 170 j = h48_0 170 j := fun j => ((my_up_role fh21 is_170 is_169 rfl).trans ((my_up_role fh17 is_170 is_168 rfl).trans (rfl : h48_0 170 j = h48_0 170 j)))
        refine w_iast gz_191_105 is_170 rd_69 (by omega) (by omega) (by omega) (by omega) (fun h25 fh25 => ?_)
        have gh25 : my_fr [(63, -1), (64, -1), (65, -1), (66, -1), (67, -1), (68, -1), (69, -1), (70, -1), (71, -1), (72, -1)] h h25 := my_fr.up gh21 is_170 fh25 rfl
        have d0 := Cpy_s (n' := p48_0 + 1) (Cpy_eq b170 c0_48_0) fh25 (by omega) (by omega) rfl (by omega) (by omega)
        refine w_aload_n gz_191_106 rfl ?_
        refine w_getX (v := 171) gz_191_107 is_151 rd_10 rfl (by decide) rfl ?_
        refine w_iload_n gz_191_110 rfl ?_
        refine w_aload_n gz_191_111 rfl ?_
        refine w_getX (v := 171) gz_191_112 is_151 rd_10 rfl (by decide) rfl ?_
        refine w_iload gz_191_115 rfl ?_
        refine w_iald gz_191_117 is_171 rd_70 (by omega) (by omega) (fun v28 ev28 pv28 qv28 => ?_)
        have b171 : ∀ j : Int, h25 171 j = h48_0 171 j := fun j => ((my_up_role fh25 is_171 is_170 rfl).trans ((my_up_role fh21 is_171 is_169 rfl).trans ((my_up_role fh17 is_171 is_168 rfl).trans (rfl : h48_0 171 j = h48_0 171 j))))
        refine w_iast gz_191_118 is_171 rd_70 (by omega) (by omega) (by omega) (by omega) (fun h29 fh29 => ?_)
        have gh29 : my_fr [(63, -1), (64, -1), (65, -1), (66, -1), (67, -1), (68, -1), (69, -1), (70, -1), (71, -1), (72, -1)] h h29 := my_fr.up gh25 is_171 fh29 rfl
        have d1 := Cpy_s (n' := p48_0 + 1) (Cpy_eq b171 c1_48_0) fh29 (by omega) (by omega) rfl (by omega) (by omega)
        refine w_iconst gz_191_119 (by decide) ?_
        refine w_istore (ls' := [(2, 151), (0, x1), (0, p48_0), (0, ((6 * x1) + p48_0)), (0, (36 + p48_0)), (0, 0)]) gz_191_120 gm_191 rfl rfl rfl ?_
        have a164 : ∀ j : Int, h29 164 j = h48_0 164 j := fun j => ((my_up_role fh29 is_164 is_171 rfl).trans ((my_up_role fh25 is_164 is_170 rfl).trans ((my_up_role fh21 is_164 is_169 rfl).trans ((my_up_role fh17 is_164 is_168 rfl).trans (rfl : h48_0 164 j = h48_0 164 j)))))
        have a165 : ∀ j : Int, h29 165 j = h48_0 165 j := fun j => ((my_up_role fh29 is_165 is_171 rfl).trans ((my_up_role fh25 is_165 is_170 rfl).trans ((my_up_role fh21 is_165 is_169 rfl).trans ((my_up_role fh17 is_165 is_168 rfl).trans (rfl : h48_0 165 j = h48_0 165 j)))))
        have a166 : ∀ j : Int, h29 166 j = h48_0 166 j := fun j => ((my_up_role fh29 is_166 is_171 rfl).trans ((my_up_role fh25 is_166 is_170 rfl).trans ((my_up_role fh21 is_166 is_169 rfl).trans ((my_up_role fh17 is_166 is_168 rfl).trans (rfl : h48_0 166 j = h48_0 166 j)))))
        have a167 : ∀ j : Int, h29 167 j = h48_0 167 j := fun j => ((my_up_role fh29 is_167 is_171 rfl).trans ((my_up_role fh25 is_167 is_170 rfl).trans ((my_up_role fh21 is_167 is_169 rfl).trans ((my_up_role fh17 is_167 is_168 rfl).trans (rfl : h48_0 167 j = h48_0 167 j)))))
        have a168 : ∀ j : Int, h29 168 j = h17 168 j := fun j => ((my_up_role fh29 is_168 is_171 rfl).trans ((my_up_role fh25 is_168 is_170 rfl).trans ((my_up_role fh21 is_168 is_169 rfl).trans (rfl : h17 168 j = h17 168 j))))
        have a169 : ∀ j : Int, h29 169 j = h21 169 j := fun j => ((my_up_role fh29 is_169 is_171 rfl).trans ((my_up_role fh25 is_169 is_170 rfl).trans (rfl : h21 169 j = h21 169 j)))
        have a170 : ∀ j : Int, h29 170 j = h25 170 j := fun j => ((my_up_role fh29 is_170 is_171 rfl).trans (rfl : h25 170 j = h25 170 j))
        have a171 : ∀ j : Int, h29 171 j = h29 171 j := fun j => rfl
        have a172 : ∀ j : Int, h29 172 j = h48_0 172 j := fun j => ((my_up_role fh29 is_172 is_171 rfl).trans ((my_up_role fh25 is_172 is_170 rfl).trans ((my_up_role fh21 is_172 is_169 rfl).trans ((my_up_role fh17 is_172 is_168 rfl).trans (rfl : h48_0 172 j = h48_0 172 j)))))
        have a173 : ∀ j : Int, h29 173 j = h48_0 173 j := fun j => ((my_up_role fh29 is_173 is_171 rfl).trans ((my_up_role fh25 is_173 is_170 rfl).trans ((my_up_role fh21 is_173 is_169 rfl).trans ((my_up_role fh17 is_173 is_168 rfl).trans (rfl : h48_0 173 j = h48_0 173 j)))))
        rw [show ((36 + p48_0) : Int) = (p48_0 + 36) from by omega]
        exact J122_0 9 (((6 * x1) + p48_0)) (0) h29 (gh29) (by omega) (by omega) (by omega) (by omega) (by omega) (((my_up_role fh29 is_151 is_171 rfl).trans ((my_up_role fh25 is_151 is_170 rfl).trans ((my_up_role fh21 is_151 is_169 rfl).trans ((my_up_role fh17 is_151 is_168 rfl).trans c151_8_48_0)))).trans (by omega)) (by omega) (by omega) (by first | exact Put1_eq a164 p4 | exact Put1_eq a164 q4_122_0 | exact Put1_eq a164 q4_48_0 | exact Put1_eq a164 q4_168_0 | omega) (by first | exact Put1_eq a165 p5 | exact Put1_eq a165 q5_122_0 | exact Put1_eq a165 q5_48_0 | exact Put1_eq a165 q5_168_0 | omega) (by first | exact Put1_eq a166 p6 | exact Put1_eq a166 q6_122_0 | exact Put1_eq a166 q6_48_0 | exact Put1_eq a166 q6_168_0 | omega) (by first | exact Put1_eq a167 p7 | exact Put1_eq a167 q7_122_0 | exact Put1_eq a167 q7_48_0 | exact Put1_eq a167 q7_168_0 | omega) (by first | exact Cpy_0 (by omega) a168 | exact Cpy_n (Cpy_eq a168 d8) (by omega) | exact Cpy_n (Cpy_eq a168 c8_122_0) (by omega) | exact Cpy_n (Cpy_eq a168 c8_48_0) (by omega) | exact Cpy_n (Cpy_eq a168 c8_168_0) (by omega) | omega) (by first | exact Cpy_0 (by omega) a169 | exact Cpy_n (Cpy_eq a169 d9) (by omega) | exact Cpy_n (Cpy_eq a169 c9_122_0) (by omega) | exact Cpy_n (Cpy_eq a169 c9_48_0) (by omega) | exact Cpy_n (Cpy_eq a169 c9_168_0) (by omega) | omega) (by first | exact Cpy_0 (by omega) a170 | exact Cpy_n (Cpy_eq a170 d0) (by omega) | exact Cpy_n (Cpy_eq a170 c0_122_0) (by omega) | exact Cpy_n (Cpy_eq a170 c0_48_0) (by omega) | exact Cpy_n (Cpy_eq a170 c0_168_0) (by omega) | omega) (by first | exact Cpy_0 (by omega) a171 | exact Cpy_n (Cpy_eq a171 d1) (by omega) | exact Cpy_n (Cpy_eq a171 c1_122_0) (by omega) | exact Cpy_n (Cpy_eq a171 c1_48_0) (by omega) | exact Cpy_n (Cpy_eq a171 c1_168_0) (by omega) | omega) (by first | exact Cpy_0 (by omega) a172 | exact Cpy_n (Cpy_eq a172 d2) (by omega) | exact Cpy_n (Cpy_eq a172 c2_122_0) (by omega) | exact Cpy_n (Cpy_eq a172 c2_48_0) (by omega) | exact Cpy_n (Cpy_eq a172 c2_168_0) (by omega) | omega) (by first | exact Cpy_0 (by omega) a173 | exact Cpy_n (Cpy_eq a173 d3) (by omega) | exact Cpy_n (Cpy_eq a173 c3_122_0) (by omega) | exact Cpy_n (Cpy_eq a173 c3_48_0) (by omega) | exact Cpy_n (Cpy_eq a173 c3_168_0) (by omega) | omega) (by omega)
  refine w_aload_n gz_191_0 rfl ?_
  refine w_getX (v := 164) gz_191_1 is_151 rd_10 rfl (by decide) rfl ?_
  refine w_iload_n gz_191_4 rfl ?_
  refine w_iconst gz_191_5 (by decide) ?_
  refine w_bast gz_191_6 is_164 rd_63 (by omega) (by omega) (by omega) (by omega) (fun h31 fh31 => ?_)
  have gh31 : my_fr [(63, -1), (64, -1), (65, -1), (66, -1), (67, -1), (68, -1), (69, -1), (70, -1), (71, -1), (72, -1)] h h31 := my_fr.up my_fr.rf is_164 fh31 rfl
  have p4 := Put1_up fh31
  refine w_aload_n gz_191_7 rfl ?_
  refine w_getX (v := 165) gz_191_8 is_151 rd_10 rfl (by decide) rfl ?_
  refine w_iload_n gz_191_11 rfl ?_
  refine w_aload_n gz_191_12 rfl ?_
  refine w_getX (v := 165) gz_191_13 is_151 rd_10 rfl (by decide) rfl ?_
  refine w_bipush gz_191_16 (by decide) ?_
  refine w_bald gz_191_18 is_165 rd_64 (by omega) (by omega) (fun v34 ev34 pv34 qv34 => ?_)
  have b165 : ∀ j : Int, h31 165 j = h 165 j := fun j => ((my_up_role fh31 is_165 is_164 rfl).trans (rfl : h 165 j = h 165 j))
  refine w_bast gz_191_19 is_165 rd_64 (by omega) (by omega) (by omega) (by omega) (fun h35 fh35 => ?_)
  have gh35 : my_fr [(63, -1), (64, -1), (65, -1), (66, -1), (67, -1), (68, -1), (69, -1), (70, -1), (71, -1), (72, -1)] h h35 := my_fr.up gh31 is_165 fh35 rfl
  have p5 := Put1_of (v' := h 165 6) fh35 b165 (by have q := b165 6; omega)
  refine w_aload_n gz_191_20 rfl ?_
  refine w_getX (v := 166) gz_191_21 is_151 rd_10 rfl (by decide) rfl ?_
  refine w_iload_n gz_191_24 rfl ?_
  refine w_aload_n gz_191_25 rfl ?_
  refine w_getX (v := 166) gz_191_26 is_151 rd_10 rfl (by decide) rfl ?_
  refine w_bipush gz_191_29 (by decide) ?_
  refine w_iald gz_191_31 is_166 rd_65 (by omega) (by omega) (fun v38 ev38 pv38 qv38 => ?_)
  have b166 : ∀ j : Int, h35 166 j = h 166 j := fun j => ((my_up_role fh35 is_166 is_165 rfl).trans ((my_up_role fh31 is_166 is_164 rfl).trans (rfl : h 166 j = h 166 j)))
  refine w_iast gz_191_32 is_166 rd_65 (by omega) (by omega) (by omega) (by omega) (fun h39 fh39 => ?_)
  have gh39 : my_fr [(63, -1), (64, -1), (65, -1), (66, -1), (67, -1), (68, -1), (69, -1), (70, -1), (71, -1), (72, -1)] h h39 := my_fr.up gh35 is_166 fh39 rfl
  have p6 := Put1_of (v' := h 166 6) fh39 b166 (by have q := b166 6; omega)
  refine w_aload_n gz_191_33 rfl ?_
  refine w_getX (v := 167) gz_191_34 is_151 rd_10 rfl (by decide) rfl ?_
  refine w_iload_n gz_191_37 rfl ?_
  refine w_aload_n gz_191_38 rfl ?_
  refine w_getX (v := 167) gz_191_39 is_151 rd_10 rfl (by decide) rfl ?_
  refine w_bipush gz_191_42 (by decide) ?_
  refine w_iald gz_191_44 is_167 rd_66 (by omega) (by omega) (fun v42 ev42 pv42 qv42 => ?_)
  have b167 : ∀ j : Int, h39 167 j = h 167 j := fun j => ((my_up_role fh39 is_167 is_166 rfl).trans ((my_up_role fh35 is_167 is_165 rfl).trans ((my_up_role fh31 is_167 is_164 rfl).trans (rfl : h 167 j = h 167 j))))
  refine w_iast gz_191_45 is_167 rd_66 (by omega) (by omega) (by omega) (by omega) (fun h43 fh43 => ?_)
  have gh43 : my_fr [(63, -1), (64, -1), (65, -1), (66, -1), (67, -1), (68, -1), (69, -1), (70, -1), (71, -1), (72, -1)] h h43 := my_fr.up gh39 is_167 fh43 rfl
  have p7 := Put1_of (v' := h 167 6) fh43 b167 (by have q := b167 6; omega)
  refine w_iconst gz_191_46 (by decide) ?_
  refine w_istore_n (ls' := [(2, 151), (0, x1), (0, 0), (9, 0), (9, 0), (9, 0)]) gz_191_47 gm_191 rfl rfl rfl ?_
  have a164 : ∀ j : Int, h43 164 j = h31 164 j := fun j => ((my_up_role fh43 is_164 is_167 rfl).trans ((my_up_role fh39 is_164 is_166 rfl).trans ((my_up_role fh35 is_164 is_165 rfl).trans (rfl : h31 164 j = h31 164 j))))
  have a165 : ∀ j : Int, h43 165 j = h35 165 j := fun j => ((my_up_role fh43 is_165 is_167 rfl).trans ((my_up_role fh39 is_165 is_166 rfl).trans (rfl : h35 165 j = h35 165 j)))
  have a166 : ∀ j : Int, h43 166 j = h39 166 j := fun j => ((my_up_role fh43 is_166 is_167 rfl).trans (rfl : h39 166 j = h39 166 j))
  have a167 : ∀ j : Int, h43 167 j = h43 167 j := fun j => rfl
  have a168 : ∀ j : Int, h43 168 j = h 168 j := fun j => ((my_up_role fh43 is_168 is_167 rfl).trans ((my_up_role fh39 is_168 is_166 rfl).trans ((my_up_role fh35 is_168 is_165 rfl).trans ((my_up_role fh31 is_168 is_164 rfl).trans (rfl : h 168 j = h 168 j)))))
  have a169 : ∀ j : Int, h43 169 j = h 169 j := fun j => ((my_up_role fh43 is_169 is_167 rfl).trans ((my_up_role fh39 is_169 is_166 rfl).trans ((my_up_role fh35 is_169 is_165 rfl).trans ((my_up_role fh31 is_169 is_164 rfl).trans (rfl : h 169 j = h 169 j)))))
  have a170 : ∀ j : Int, h43 170 j = h 170 j := fun j => ((my_up_role fh43 is_170 is_167 rfl).trans ((my_up_role fh39 is_170 is_166 rfl).trans ((my_up_role fh35 is_170 is_165 rfl).trans ((my_up_role fh31 is_170 is_164 rfl).trans (rfl : h 170 j = h 170 j)))))
  have a171 : ∀ j : Int, h43 171 j = h 171 j := fun j => ((my_up_role fh43 is_171 is_167 rfl).trans ((my_up_role fh39 is_171 is_166 rfl).trans ((my_up_role fh35 is_171 is_165 rfl).trans ((my_up_role fh31 is_171 is_164 rfl).trans (rfl : h 171 j = h 171 j)))))
  have a172 : ∀ j : Int, h43 172 j = h 172 j := fun j => ((my_up_role fh43 is_172 is_167 rfl).trans ((my_up_role fh39 is_172 is_166 rfl).trans ((my_up_role fh35 is_172 is_165 rfl).trans ((my_up_role fh31 is_172 is_164 rfl).trans (rfl : h 172 j = h 172 j)))))
  have a173 : ∀ j : Int, h43 173 j = h 173 j := fun j => ((my_up_role fh43 is_173 is_167 rfl).trans ((my_up_role fh39 is_173 is_166 rfl).trans ((my_up_role fh35 is_173 is_165 rfl).trans ((my_up_role fh31 is_173 is_164 rfl).trans (rfl : h 173 j = h 173 j)))))
  exact J48_0 7 (0) h43 (gh43) (by omega) (by omega) (((my_up_role fh43 is_151 is_167 rfl).trans ((my_up_role fh39 is_151 is_166 rfl).trans ((my_up_role fh35 is_151 is_165 rfl).trans ((my_up_role fh31 is_151 is_164 rfl).trans cf)))).trans (by omega)) (by first | exact Put1_eq a164 p4 | exact Put1_eq a164 q4_122_0 | exact Put1_eq a164 q4_48_0 | exact Put1_eq a164 q4_168_0 | omega) (by first | exact Put1_eq a165 p5 | exact Put1_eq a165 q5_122_0 | exact Put1_eq a165 q5_48_0 | exact Put1_eq a165 q5_168_0 | omega) (by first | exact Put1_eq a166 p6 | exact Put1_eq a166 q6_122_0 | exact Put1_eq a166 q6_48_0 | exact Put1_eq a166 q6_168_0 | omega) (by first | exact Put1_eq a167 p7 | exact Put1_eq a167 q7_122_0 | exact Put1_eq a167 q7_48_0 | exact Put1_eq a167 q7_168_0 | omega) (by first | exact Cpy_0 (by omega) a168 | exact Cpy_n (Cpy_eq a168 d8) (by omega) | exact Cpy_n (Cpy_eq a168 c8_122_0) (by omega) | exact Cpy_n (Cpy_eq a168 c8_48_0) (by omega) | exact Cpy_n (Cpy_eq a168 c8_168_0) (by omega) | omega) (by first | exact Cpy_0 (by omega) a169 | exact Cpy_n (Cpy_eq a169 d9) (by omega) | exact Cpy_n (Cpy_eq a169 c9_122_0) (by omega) | exact Cpy_n (Cpy_eq a169 c9_48_0) (by omega) | exact Cpy_n (Cpy_eq a169 c9_168_0) (by omega) | omega) (by first | exact Cpy_0 (by omega) a170 | exact Cpy_n (Cpy_eq a170 d0) (by omega) | exact Cpy_n (Cpy_eq a170 c0_122_0) (by omega) | exact Cpy_n (Cpy_eq a170 c0_48_0) (by omega) | exact Cpy_n (Cpy_eq a170 c0_168_0) (by omega) | omega) (by first | exact Cpy_0 (by omega) a171 | exact Cpy_n (Cpy_eq a171 d1) (by omega) | exact Cpy_n (Cpy_eq a171 c1_122_0) (by omega) | exact Cpy_n (Cpy_eq a171 c1_48_0) (by omega) | exact Cpy_n (Cpy_eq a171 c1_168_0) (by omega) | omega) (by first | exact Cpy_0 (by omega) a172 | exact Cpy_n (Cpy_eq a172 d2) (by omega) | exact Cpy_n (Cpy_eq a172 c2_122_0) (by omega) | exact Cpy_n (Cpy_eq a172 c2_48_0) (by omega) | exact Cpy_n (Cpy_eq a172 c2_168_0) (by omega) | omega) (by first | exact Cpy_0 (by omega) a173 | exact Cpy_n (Cpy_eq a173 d3) (by omega) | exact Cpy_n (Cpy_eq a173 c3_122_0) (by omega) | exact Cpy_n (Cpy_eq a173 c3_48_0) (by omega) | exact Cpy_n (Cpy_eq a173 c3_168_0) (by omega) | omega) (by omega)
theorem c_Lens_startOnWall7 {l : Launch} {rho : Nat → Int32} {d : Nat} {h : my_H} {Q : my_H → my_V → Prop} {x0 x1 x2 : Int} (t0 : my_is 4 x0) (a1 : 0 ≤ x1) (b1 : x1 ≤ 2) (a2 : 0 ≤ x2) (b2 : x2 ≤ 4) (k0 : ∀ (h' : my_H), my_fr [(4, 1), (4, 2), (4, 3), (4, 4), (4, 5), (4, 6), (4, 7), (4, 8), (4, 9), (37, -1), (38, -1)] h h' → my_fx x0 8 h h' → h' x0 1 = (-1) → 0 ≤ h' x0 4 → h' x0 4 ≤ 4 → h' x0 5 = 0 → h' x0 7 = 0 → h' x0 8 = 0 → h' x0 9 = 0 → h' x0 1 = -1 → h' x0 3 = x2 → h' x0 4 = x2 → h' x0 9 = 0 → StW h' x0 x1 x2 4 → Q h' (9, 0)) : wp l rho (d + 1) 45 0 [(2, x0), (0, x1), (0, x2), (9, 0)] [] h Q := by
  have J49_0 : ∀ (n : Nat) (p49_0 p49_1 : Int) (h49_0 : my_H), my_fr [(4, 1), (4, 2), (4, 3), (4, 4), (4, 5), (4, 6), (4, 7), (4, 8), (4, 9), (37, -1), (38, -1)] h h49_0 → my_fx x0 8 h h49_0 → 0 ≤ p49_0 → p49_0 ≤ 4 → h49_0 x0 1 = (-1) → h49_0 x0 2 = x1 → h49_0 x0 3 = x2 → h49_0 x0 4 = x2 → h49_0 x0 5 = 0 → h49_0 x0 6 = p49_1 → h49_0 x0 7 = 0 → h49_0 x0 8 = 0 → h49_0 x0 9 = 0 → h49_0 x0 1 = -1 → h49_0 x0 3 = x2 → h49_0 x0 4 = x2 → h49_0 x0 9 = 0 → StW h49_0 x0 x1 x2 p49_0 → 5 - p49_0 ≤ (n : Int) → wp l rho (d + 1) 45 49 [(2, x0), (0, x1), (0, x2), (0, p49_0)] [] h49_0 Q := by
    intro n
    induction n with
    | zero => intro p49_0 p49_1 h49_0 gh_49_0 gx_49_0 q0_49_0 q1_49_0 ca0_1_49_0 ca0_2_49_0 ca0_3_49_0 ca0_4_49_0 ca0_5_49_0 ca0_6_49_0 ca0_7_49_0 ca0_8_49_0 ca0_9_49_0 w1_49_0 w3_49_0 w4_49_0 w9_49_0 sw_49_0 hm_49_0; exfalso; omega
    | succ n ih_49_0 =>
      intro p49_0 p49_1 h49_0 gh_49_0 gx_49_0 q0_49_0 q1_49_0 ca0_1_49_0 ca0_2_49_0 ca0_3_49_0 ca0_4_49_0 ca0_5_49_0 ca0_6_49_0 ca0_7_49_0 ca0_8_49_0 ca0_9_49_0 w1_49_0 w3_49_0 w4_49_0 w9_49_0 sw_49_0 hm_49_0
      refine w_iload_n gz_45_49 rfl ?_
      refine w_iconst gz_45_50 (by decide) ?_
      refine w_icge (t := 78) gz_45_51 rfl (fun u1 => ?_) (fun u1 => ?_)
      ·
        have ce2 : h49_0 x0 1 = (-1) := ca0_1_49_0
        have ce3 : h49_0 x0 3 = x2 := ca0_3_49_0
        have ce4 : h49_0 x0 4 = x2 := ca0_4_49_0
        have ce5 : h49_0 x0 9 = 0 := ca0_9_49_0
        have c6 := ca0_1_49_0
        have c7 := ca0_4_49_0
        have c8 := ca0_5_49_0
        have c9 := ca0_7_49_0
        have c10 := ca0_8_49_0
        have c11 := ca0_9_49_0
        exact w_vret gz_45_78 gm_45 (k0 h49_0 (gh_49_0) (gx_49_0) (by omega) (by omega) (by omega) (by omega) (by omega) (by omega) (by omega) (by first | (rw [show (4 : Int) = p49_0 by omega]; exact sw_49_0) | assumption | omega | (subst_vars; omega) | omega) (by first | (rw [show (4 : Int) = p49_0 by omega]; exact sw_49_0) | assumption | omega | (subst_vars; omega) | omega) (by first | (rw [show (4 : Int) = p49_0 by omega]; exact sw_49_0) | assumption | omega | (subst_vars; omega) | omega) (by first | (rw [show (4 : Int) = p49_0 by omega]; exact sw_49_0) | assumption | omega | (subst_vars; omega) | omega) (by first | (rw [show (4 : Int) = p49_0 by omega]; exact sw_49_0) | assumption | omega | (subst_vars; omega) | omega))
      ·
        refine w_aload_n gz_45_54 rfl ?_
        refine w_getX (v := (x0 + 7)) gz_45_55 t0 rd_4 rfl (by decide) rfl ?_
        refine w_iload_n gz_45_58 rfl ?_
        refine w_iconst gz_45_59 (by decide) ?_
        refine w_iast gz_45_60 (ix_4_7 t0) rd_38 (by omega) (by omega) (by omega) (by omega) (fun h13 fh13 => ?_)
        have gh13 : my_fr [(4, 1), (4, 2), (4, 3), (4, 4), (4, 5), (4, 6), (4, 7), (4, 8), (4, 9), (37, -1), (38, -1)] h h13 := my_fr.up gh_49_0 (ix_4_7 t0) fh13 rfl
        have gxh13 : my_fx x0 8 h h13 := my_fx.up gx_49_0 fh13 (by omega)
        refine w_aload_n gz_45_61 rfl ?_
        refine w_getX (v := (x0 + 6)) gz_45_62 t0 rd_4 rfl (by decide) rfl ?_
        refine w_iload_n gz_45_65 rfl ?_
        refine w_iload_n gz_45_66 rfl ?_
        refine w_iload_n gz_45_67 rfl ?_
        refine w_inS (k := 0) (as := [(0, p49_0), (0, x1)]) (r := [(0, p49_0), (2, (x0 + 6))]) (ls0 := [(0, x1), (0, p49_0)]) gz_45_68 gm_29 rfl rfl rfl rfl rfl rfl ?_
        refine w_iload_n gz_29_0 rfl ?_
        refine w_iconst gz_29_1 (by decide) ?_
        refine w_imul gz_29_2 ⟨by omega, by omega⟩ ?_
        refine w_iload_n gz_29_3 rfl ?_
        refine w_iadd gz_29_4 ⟨by omega, by omega⟩ ?_
        refine w_iret gz_29_5 gm_29 ?_
        show wp l rho (d + 1) 45 71 [(2, x0), (0, x1), (0, x2), (0, p49_0)] [(0, ((x1 * 4) + p49_0)), (0, p49_0), (2, (x0 + 6))] h13 Q
        refine w_iast gz_45_71 (ix_4_6 t0) rd_37 (by omega) (by omega) (by omega) (by omega) (fun h15 fh15 => ?_)
        have gh15 : my_fr [(4, 1), (4, 2), (4, 3), (4, 4), (4, 5), (4, 6), (4, 7), (4, 8), (4, 9), (37, -1), (38, -1)] h h15 := my_fr.up gh13 (ix_4_6 t0) fh15 rfl
        have gxh15 : my_fx x0 8 h h15 := my_fx.up gxh13 fh15 (by omega)
        refine w_iinc (ls' := [(2, x0), (0, x1), (0, x2), (0, (p49_0 + 1))]) gz_45_72 rfl gm_45 rfl rfl rfl ⟨by omega, by omega⟩ ?_
        refine w_goto (t := 49) gz_45_75 rfl ?_
        have ce16 : h15 x0 1 = (-1) := ((my_up_role fh15 t0 (ix_4_6 t0) rfl).trans ((my_up_role fh13 t0 (ix_4_7 t0) rfl).trans ca0_1_49_0))
        have ce17 : h15 x0 3 = x2 := ((my_up_role fh15 t0 (ix_4_6 t0) rfl).trans ((my_up_role fh13 t0 (ix_4_7 t0) rfl).trans ca0_3_49_0))
        have ce18 : h15 x0 4 = x2 := ((my_up_role fh15 t0 (ix_4_6 t0) rfl).trans ((my_up_role fh13 t0 (ix_4_7 t0) rfl).trans ca0_4_49_0))
        have ce19 : h15 x0 9 = 0 := ((my_up_role fh15 t0 (ix_4_6 t0) rfl).trans ((my_up_role fh13 t0 (ix_4_7 t0) rfl).trans ca0_9_49_0))
        have ce20 : h15 x0 2 = x1 := ((my_up_role fh15 t0 (ix_4_6 t0) rfl).trans ((my_up_role fh13 t0 (ix_4_7 t0) rfl).trans ca0_2_49_0))
        have ce21 : h15 x0 3 = x2 := ((my_up_role fh15 t0 (ix_4_6 t0) rfl).trans ((my_up_role fh13 t0 (ix_4_7 t0) rfl).trans ca0_3_49_0))
        have ce22 : h15 x0 4 = x2 := ((my_up_role fh15 t0 (ix_4_6 t0) rfl).trans ((my_up_role fh13 t0 (ix_4_7 t0) rfl).trans ca0_4_49_0))
        have ce23 : h15 x0 6 = p49_1 := ((my_up_role fh15 t0 (ix_4_6 t0) rfl).trans ((my_up_role fh13 t0 (ix_4_7 t0) rfl).trans ca0_6_49_0))
        have ce24 : h15 x0 7 = 0 := ((my_up_role fh15 t0 (ix_4_6 t0) rfl).trans ((my_up_role fh13 t0 (ix_4_7 t0) rfl).trans ca0_7_49_0))
        have ce25 : h15 x0 8 = 0 := ((my_up_role fh15 t0 (ix_4_6 t0) rfl).trans ((my_up_role fh13 t0 (ix_4_7 t0) rfl).trans ca0_8_49_0))
        exact ih_49_0 ((p49_0 + 1)) (p49_1) h15 (gh15) (gxh15) (by omega) (by omega) (((my_up_role fh15 t0 (ix_4_6 t0) rfl).trans ((my_up_role fh13 t0 (ix_4_7 t0) rfl).trans ca0_1_49_0)).trans (by omega)) (((my_up_role fh15 t0 (ix_4_6 t0) rfl).trans ((my_up_role fh13 t0 (ix_4_7 t0) rfl).trans ca0_2_49_0)).trans (by omega)) (((my_up_role fh15 t0 (ix_4_6 t0) rfl).trans ((my_up_role fh13 t0 (ix_4_7 t0) rfl).trans ca0_3_49_0)).trans (by omega)) (((my_up_role fh15 t0 (ix_4_6 t0) rfl).trans ((my_up_role fh13 t0 (ix_4_7 t0) rfl).trans ca0_4_49_0)).trans (by omega)) (((my_up_role fh15 t0 (ix_4_6 t0) rfl).trans ((my_up_role fh13 t0 (ix_4_7 t0) rfl).trans ca0_5_49_0)).trans (by omega)) (((my_up_role fh15 t0 (ix_4_6 t0) rfl).trans ((my_up_role fh13 t0 (ix_4_7 t0) rfl).trans ca0_6_49_0)).trans (by omega)) (((my_up_role fh15 t0 (ix_4_6 t0) rfl).trans ((my_up_role fh13 t0 (ix_4_7 t0) rfl).trans ca0_7_49_0)).trans (by omega)) (((my_up_role fh15 t0 (ix_4_6 t0) rfl).trans ((my_up_role fh13 t0 (ix_4_7 t0) rfl).trans ca0_8_49_0)).trans (by omega)) (((my_up_role fh15 t0 (ix_4_6 t0) rfl).trans ((my_up_role fh13 t0 (ix_4_7 t0) rfl).trans ca0_9_49_0)).trans (by omega)) (by first | assumption | omega | (subst_vars; omega) | omega) (by first | assumption | omega | (subst_vars; omega) | omega) (by first | assumption | omega | (subst_vars; omega) | omega) (by first | assumption | omega | (subst_vars; omega) | omega) (by first | exact ⟨⟨by omega, by omega, by omega, by omega, by omega, by omega⟩, fun j a b => by omega⟩ | exact StW_s sw_49_0 fh13 fh15 ⟨by omega, by omega⟩ ⟨by omega, by omega⟩ rfl | assumption | omega) (by omega)
  refine w_aload_n gz_45_0 rfl ?_
  refine w_iconst gz_45_1 (by decide) ?_
  refine v_putI (j := 1) gz_45_2 rfl t0 rd_4 rfl (by omega) (by omega) rfl (fun h26 fh26 => ?_)
  have gh26 : my_fr [(4, 1), (4, 2), (4, 3), (4, 4), (4, 5), (4, 6), (4, 7), (4, 8), (4, 9), (37, -1), (38, -1)] h h26 := my_fr.up my_fr.rf t0 fh26 rfl
  have gxh26 : my_fx x0 8 h h26 := my_fx.up my_fx.rf fh26 (by omega)
  refine w_aload_n gz_45_5 rfl ?_
  refine w_iload_n gz_45_6 rfl ?_
  refine v_putI (j := 2) gz_45_7 rfl t0 rd_4 rfl (by omega) (by omega) rfl (fun h27 fh27 => ?_)
  have gh27 : my_fr [(4, 1), (4, 2), (4, 3), (4, 4), (4, 5), (4, 6), (4, 7), (4, 8), (4, 9), (37, -1), (38, -1)] h h27 := my_fr.up gh26 t0 fh27 rfl
  have gxh27 : my_fx x0 8 h h27 := my_fx.up gxh26 fh27 (by omega)
  refine w_aload_n gz_45_10 rfl ?_
  refine w_iload_n gz_45_11 rfl ?_
  refine v_putI (j := 3) gz_45_12 rfl t0 rd_4 rfl (by omega) (by omega) rfl (fun h28 fh28 => ?_)
  have gh28 : my_fr [(4, 1), (4, 2), (4, 3), (4, 4), (4, 5), (4, 6), (4, 7), (4, 8), (4, 9), (37, -1), (38, -1)] h h28 := my_fr.up gh27 t0 fh28 rfl
  have gxh28 : my_fx x0 8 h h28 := my_fx.up gxh27 fh28 (by omega)
  refine w_aload_n gz_45_15 rfl ?_
  refine w_iload_n gz_45_16 rfl ?_
  refine v_putI (j := 4) gz_45_17 rfl t0 rd_4 rfl (by omega) (by omega) rfl (fun h29 fh29 => ?_)
  have gh29 : my_fr [(4, 1), (4, 2), (4, 3), (4, 4), (4, 5), (4, 6), (4, 7), (4, 8), (4, 9), (37, -1), (38, -1)] h h29 := my_fr.up gh28 t0 fh29 rfl
  have gxh29 : my_fx x0 8 h h29 := my_fx.up gxh28 fh29 (by omega)
  refine w_aload_n gz_45_20 rfl ?_
  refine w_iconst gz_45_21 (by decide) ?_
  refine v_putA (j := 5) gz_45_22 rfl t0 rd_4 rfl rfl (fun h30 fh30 => ?_)
  have gh30 : my_fr [(4, 1), (4, 2), (4, 3), (4, 4), (4, 5), (4, 6), (4, 7), (4, 8), (4, 9), (37, -1), (38, -1)] h h30 := my_fr.up gh29 t0 fh30 rfl
  have gxh30 : my_fx x0 8 h h30 := my_fx.up gxh29 fh30 (by omega)
  refine w_aload_n gz_45_25 rfl ?_
  refine w_iconst gz_45_26 (by decide) ?_
  refine w_iload_n gz_45_27 rfl ?_
  refine w_ishlX gz_45_28 (fun v31 ev31 pv31 qv31 => ?_)
  refine v_putA (j := 6) gz_45_29 rfl t0 rd_4 rfl rfl (fun h32 fh32 => ?_)
  have gh32 : my_fr [(4, 1), (4, 2), (4, 3), (4, 4), (4, 5), (4, 6), (4, 7), (4, 8), (4, 9), (37, -1), (38, -1)] h h32 := my_fr.up gh30 t0 fh32 rfl
  have gxh32 : my_fx x0 8 h h32 := my_fx.up gxh30 fh32 (by omega)
  refine w_aload_n gz_45_32 rfl ?_
  refine w_iconst gz_45_33 (by decide) ?_
  refine v_putB (j := 7) gz_45_34 rfl t0 rd_4 rfl (by omega) (by omega) rfl (fun h33 fh33 => ?_)
  have gh33 : my_fr [(4, 1), (4, 2), (4, 3), (4, 4), (4, 5), (4, 6), (4, 7), (4, 8), (4, 9), (37, -1), (38, -1)] h h33 := my_fr.up gh32 t0 fh33 rfl
  have gxh33 : my_fx x0 8 h h33 := my_fx.up gxh32 fh33 (by omega)
  refine w_aload_n gz_45_37 rfl ?_
  refine w_iconst gz_45_38 (by decide) ?_
  refine v_putA (j := 8) gz_45_39 rfl t0 rd_4 rfl rfl (fun h34 fh34 => ?_)
  have gh34 : my_fr [(4, 1), (4, 2), (4, 3), (4, 4), (4, 5), (4, 6), (4, 7), (4, 8), (4, 9), (37, -1), (38, -1)] h h34 := my_fr.up gh33 t0 fh34 rfl
  have gxh34 : my_fx x0 8 h h34 := my_fx.up gxh33 fh34 (by omega)
  refine w_aload_n gz_45_42 rfl ?_
  refine w_iconst gz_45_43 (by decide) ?_
  refine v_putI (j := 9) gz_45_44 rfl t0 rd_4 rfl (by omega) (by omega) rfl (fun h35 fh35 => ?_)
  have gh35 : my_fr [(4, 1), (4, 2), (4, 3), (4, 4), (4, 5), (4, 6), (4, 7), (4, 8), (4, 9), (37, -1), (38, -1)] h h35 := my_fr.up gh34 t0 fh35 rfl
  have gxh35 : my_fx x0 8 h h35 := my_fx.up gxh34 fh35 (by omega)
  refine w_iconst gz_45_47 (by decide) ?_
  refine w_istore_n (ls' := [(2, x0), (0, x1), (0, x2), (0, 0)]) gz_45_48 gm_45 rfl rfl rfl ?_
  have ce36 : h35 x0 1 = (-1) := ((my_up_fld fh35 (by decide)).trans ((my_up_fld fh34 (by decide)).trans ((my_up_fld fh33 (by decide)).trans ((my_up_fld fh32 (by decide)).trans ((my_up_fld fh30 (by decide)).trans ((my_up_fld fh29 (by decide)).trans ((my_up_fld fh28 (by decide)).trans ((my_up_fld fh27 (by decide)).trans (my_up_self fh26)))))))))
  have ce37 : h35 x0 3 = x2 := ((my_up_fld fh35 (by decide)).trans ((my_up_fld fh34 (by decide)).trans ((my_up_fld fh33 (by decide)).trans ((my_up_fld fh32 (by decide)).trans ((my_up_fld fh30 (by decide)).trans ((my_up_fld fh29 (by decide)).trans (my_up_self fh28)))))))
  have ce38 : h35 x0 4 = x2 := ((my_up_fld fh35 (by decide)).trans ((my_up_fld fh34 (by decide)).trans ((my_up_fld fh33 (by decide)).trans ((my_up_fld fh32 (by decide)).trans ((my_up_fld fh30 (by decide)).trans (my_up_self fh29))))))
  have ce39 : h35 x0 9 = 0 := (my_up_self fh35)
  have ce40 : h35 x0 2 = x1 := ((my_up_fld fh35 (by decide)).trans ((my_up_fld fh34 (by decide)).trans ((my_up_fld fh33 (by decide)).trans ((my_up_fld fh32 (by decide)).trans ((my_up_fld fh30 (by decide)).trans ((my_up_fld fh29 (by decide)).trans ((my_up_fld fh28 (by decide)).trans (my_up_self fh27))))))))
  have ce41 : h35 x0 3 = x2 := ((my_up_fld fh35 (by decide)).trans ((my_up_fld fh34 (by decide)).trans ((my_up_fld fh33 (by decide)).trans ((my_up_fld fh32 (by decide)).trans ((my_up_fld fh30 (by decide)).trans ((my_up_fld fh29 (by decide)).trans (my_up_self fh28)))))))
  have ce42 : h35 x0 4 = x2 := ((my_up_fld fh35 (by decide)).trans ((my_up_fld fh34 (by decide)).trans ((my_up_fld fh33 (by decide)).trans ((my_up_fld fh32 (by decide)).trans ((my_up_fld fh30 (by decide)).trans (my_up_self fh29))))))
  have ce43 : h35 x0 6 = v31 := ((my_up_fld fh35 (by decide)).trans ((my_up_fld fh34 (by decide)).trans ((my_up_fld fh33 (by decide)).trans (my_up_self fh32))))
  have ce44 : h35 x0 7 = 0 := ((my_up_fld fh35 (by decide)).trans ((my_up_fld fh34 (by decide)).trans (my_up_self fh33)))
  have ce45 : h35 x0 8 = 0 := ((my_up_fld fh35 (by decide)).trans (my_up_self fh34))
  exact J49_0 5 (0) (v31) h35 (gh35) (gxh35) (by omega) (by omega) (((my_up_fld fh35 (by decide)).trans ((my_up_fld fh34 (by decide)).trans ((my_up_fld fh33 (by decide)).trans ((my_up_fld fh32 (by decide)).trans ((my_up_fld fh30 (by decide)).trans ((my_up_fld fh29 (by decide)).trans ((my_up_fld fh28 (by decide)).trans ((my_up_fld fh27 (by decide)).trans (my_up_self fh26))))))))).trans (by omega)) (((my_up_fld fh35 (by decide)).trans ((my_up_fld fh34 (by decide)).trans ((my_up_fld fh33 (by decide)).trans ((my_up_fld fh32 (by decide)).trans ((my_up_fld fh30 (by decide)).trans ((my_up_fld fh29 (by decide)).trans ((my_up_fld fh28 (by decide)).trans (my_up_self fh27)))))))).trans (by omega)) (((my_up_fld fh35 (by decide)).trans ((my_up_fld fh34 (by decide)).trans ((my_up_fld fh33 (by decide)).trans ((my_up_fld fh32 (by decide)).trans ((my_up_fld fh30 (by decide)).trans ((my_up_fld fh29 (by decide)).trans (my_up_self fh28))))))).trans (by omega)) (((my_up_fld fh35 (by decide)).trans ((my_up_fld fh34 (by decide)).trans ((my_up_fld fh33 (by decide)).trans ((my_up_fld fh32 (by decide)).trans ((my_up_fld fh30 (by decide)).trans (my_up_self fh29)))))).trans (by omega)) (((my_up_fld fh35 (by decide)).trans ((my_up_fld fh34 (by decide)).trans ((my_up_fld fh33 (by decide)).trans ((my_up_fld fh32 (by decide)).trans (my_up_self fh30))))).trans (by omega)) (((my_up_fld fh35 (by decide)).trans ((my_up_fld fh34 (by decide)).trans ((my_up_fld fh33 (by decide)).trans (my_up_self fh32)))).trans (by omega)) (((my_up_fld fh35 (by decide)).trans ((my_up_fld fh34 (by decide)).trans (my_up_self fh33))).trans (by omega)) (((my_up_fld fh35 (by decide)).trans (my_up_self fh34)).trans (by omega)) ((my_up_self fh35).trans (by omega)) (by first | assumption | omega | (subst_vars; omega) | omega) (by first | assumption | omega | (subst_vars; omega) | omega) (by first | assumption | omega | (subst_vars; omega) | omega) (by first | assumption | omega | (subst_vars; omega) | omega) (by first | exact ⟨⟨by omega, by omega, by omega, by omega, by omega, by omega⟩, fun j a b => by omega⟩ | exact StW_s sw_49_0 fh34 fh35 ⟨by omega, by omega⟩ ⟨by omega, by omega⟩ rfl | assumption | omega) (by omega)
theorem c_Lens_startOnWindow7 {l : Launch} {rho : Nat → Int32} {d : Nat} {h : my_H} {Q : my_H → my_V → Prop} {x0 x1 x2 : Int} (t0 : my_is 4 x0) (a1 : 0 ≤ x1) (b1 : x1 ≤ 4) (t2 : my_is 4 x2) (hne : x2 < x0 ∨ x0 + 8 < x2) (k0 : ∀ (h' : my_H), my_fr [(4, 1), (4, 2), (4, 3), (4, 4), (4, 5), (4, 6), (4, 7), (4, 8), (4, 9), (37, -1), (38, -1)] h h' → my_fx x0 8 h h' → 0 ≤ h' x0 1 → h' x0 1 ≤ 4 → h' x0 9 = 0 → h' x0 1 = x1 → h' x0 3 = h x2 3 → h' x0 4 = h x2 4 → h' x0 9 = 0 → SwE h h' x0 x2 → Q h' (9, 0)) : wp l rho (d + 1) 48 0 [(2, x0), (0, x1), (2, x2)] [] h Q := by
  refine v_know (x := x2) (j := 2) (b := 2) rfl t2 rd_4 rfl (fun ka2_2 eka2_2 pka2_2 qka2_2 => ?_)
  refine v_know (x := x2) (j := 3) (b := 3) rfl t2 rd_4 rfl (fun ka2_3 eka2_3 pka2_3 qka2_3 => ?_)
  refine v_know (x := x2) (j := 4) (b := 4) rfl t2 rd_4 rfl (fun ka2_4 eka2_4 pka2_4 qka2_4 => ?_)
  refine v_know (x := x2) (j := 5) (b := 5) rfl t2 rd_4 rfl (fun ka2_5 eka2_5 pka2_5 qka2_5 => ?_)
  refine v_know (x := x2) (j := 6) (b := 6) rfl t2 rd_4 rfl (fun ka2_6 eka2_6 pka2_6 qka2_6 => ?_)
  refine v_know (x := x2) (j := 7) (b := 7) rfl t2 rd_4 rfl (fun ka2_7 eka2_7 pka2_7 qka2_7 => ?_)
  refine v_know (x := x2) (j := 8) (b := 8) rfl t2 rd_4 rfl (fun ka2_8 eka2_8 pka2_8 qka2_8 => ?_)
  refine w_aload_n gz_48_0 rfl ?_
  refine w_iload_n gz_48_1 rfl ?_
  refine v_putI (j := 1) gz_48_2 rfl t0 rd_4 rfl (by omega) (by omega) rfl (fun h1 fh1 => ?_)
  have gh1 : my_fr [(4, 1), (4, 2), (4, 3), (4, 4), (4, 5), (4, 6), (4, 7), (4, 8), (4, 9), (37, -1), (38, -1)] h h1 := my_fr.up my_fr.rf t0 fh1 rfl
  have gxh1 : my_fx x0 8 h h1 := my_fx.up my_fx.rf fh1 (by omega)
  refine w_aload_n gz_48_5 rfl ?_
  refine w_aload_n gz_48_6 rfl ?_
  refine v_getI (j := 2) gz_48_7 rfl t2 rd_4 rfl (fun v2 ev2 pv2 qv2 => ?_)
  have zv2 := ev2.trans ((my_up_fld fh1 (by decide)).trans eka2_2.symm)
  refine v_putI (j := 2) gz_48_10 rfl t0 rd_4 rfl (by omega) (by omega) rfl (fun h3 fh3 => ?_)
  have gh3 : my_fr [(4, 1), (4, 2), (4, 3), (4, 4), (4, 5), (4, 6), (4, 7), (4, 8), (4, 9), (37, -1), (38, -1)] h h3 := my_fr.up gh1 t0 fh3 rfl
  have gxh3 : my_fx x0 8 h h3 := my_fx.up gxh1 fh3 (by omega)
  refine w_aload_n gz_48_13 rfl ?_
  refine w_aload_n gz_48_14 rfl ?_
  refine v_getI (j := 3) gz_48_15 rfl t2 rd_4 rfl (fun v4 ev4 pv4 qv4 => ?_)
  have zv4 := ev4.trans ((my_up_fld fh3 (by decide)).trans ((my_up_fld fh1 (by decide)).trans eka2_3.symm))
  refine v_putI (j := 3) gz_48_18 rfl t0 rd_4 rfl (by omega) (by omega) rfl (fun h5 fh5 => ?_)
  have gh5 : my_fr [(4, 1), (4, 2), (4, 3), (4, 4), (4, 5), (4, 6), (4, 7), (4, 8), (4, 9), (37, -1), (38, -1)] h h5 := my_fr.up gh3 t0 fh5 rfl
  have gxh5 : my_fx x0 8 h h5 := my_fx.up gxh3 fh5 (by omega)
  refine w_aload_n gz_48_21 rfl ?_
  refine w_aload_n gz_48_22 rfl ?_
  refine v_getI (j := 4) gz_48_23 rfl t2 rd_4 rfl (fun v6 ev6 pv6 qv6 => ?_)
  have zv6 := ev6.trans ((my_up_fld fh5 (by decide)).trans ((my_up_fld fh3 (by decide)).trans ((my_up_fld fh1 (by decide)).trans eka2_4.symm)))
  refine v_putI (j := 4) gz_48_26 rfl t0 rd_4 rfl (by omega) (by omega) rfl (fun h7 fh7 => ?_)
  have gh7 : my_fr [(4, 1), (4, 2), (4, 3), (4, 4), (4, 5), (4, 6), (4, 7), (4, 8), (4, 9), (37, -1), (38, -1)] h h7 := my_fr.up gh5 t0 fh7 rfl
  have gxh7 : my_fx x0 8 h h7 := my_fx.up gxh5 fh7 (by omega)
  refine w_aload_n gz_48_29 rfl ?_
  refine w_aload_n gz_48_30 rfl ?_
  refine v_getI (j := 5) gz_48_31 rfl t2 rd_4 rfl (fun v8 ev8 pv8 qv8 => ?_)
  have zv8 := ev8.trans ((my_up_fld fh7 (by decide)).trans ((my_up_fld fh5 (by decide)).trans ((my_up_fld fh3 (by decide)).trans ((my_up_fld fh1 (by decide)).trans eka2_5.symm))))
  refine v_putA (j := 5) gz_48_34 rfl t0 rd_4 rfl rfl (fun h9 fh9 => ?_)
  have gh9 : my_fr [(4, 1), (4, 2), (4, 3), (4, 4), (4, 5), (4, 6), (4, 7), (4, 8), (4, 9), (37, -1), (38, -1)] h h9 := my_fr.up gh7 t0 fh9 rfl
  have gxh9 : my_fx x0 8 h h9 := my_fx.up gxh7 fh9 (by omega)
  refine w_aload_n gz_48_37 rfl ?_
  refine w_aload_n gz_48_38 rfl ?_
  refine v_getI (j := 6) gz_48_39 rfl t2 rd_4 rfl (fun v10 ev10 pv10 qv10 => ?_)
  have zv10 := ev10.trans ((my_up_fld fh9 (by decide)).trans ((my_up_fld fh7 (by decide)).trans ((my_up_fld fh5 (by decide)).trans ((my_up_fld fh3 (by decide)).trans ((my_up_fld fh1 (by decide)).trans eka2_6.symm)))))
  refine v_putA (j := 6) gz_48_42 rfl t0 rd_4 rfl rfl (fun h11 fh11 => ?_)
  have gh11 : my_fr [(4, 1), (4, 2), (4, 3), (4, 4), (4, 5), (4, 6), (4, 7), (4, 8), (4, 9), (37, -1), (38, -1)] h h11 := my_fr.up gh9 t0 fh11 rfl
  have gxh11 : my_fx x0 8 h h11 := my_fx.up gxh9 fh11 (by omega)
  refine w_aload_n gz_48_45 rfl ?_
  refine w_aload_n gz_48_46 rfl ?_
  refine v_getI (j := 7) gz_48_47 rfl t2 rd_4 rfl (fun v12 ev12 pv12 qv12 => ?_)
  have zv12 := ev12.trans ((my_up_fld fh11 (by decide)).trans ((my_up_fld fh9 (by decide)).trans ((my_up_fld fh7 (by decide)).trans ((my_up_fld fh5 (by decide)).trans ((my_up_fld fh3 (by decide)).trans ((my_up_fld fh1 (by decide)).trans eka2_7.symm))))))
  refine v_putB (j := 7) gz_48_50 rfl t0 rd_4 rfl (by omega) (by omega) rfl (fun h13 fh13 => ?_)
  have gh13 : my_fr [(4, 1), (4, 2), (4, 3), (4, 4), (4, 5), (4, 6), (4, 7), (4, 8), (4, 9), (37, -1), (38, -1)] h h13 := my_fr.up gh11 t0 fh13 rfl
  have gxh13 : my_fx x0 8 h h13 := my_fx.up gxh11 fh13 (by omega)
  refine w_aload_n gz_48_53 rfl ?_
  refine w_aload_n gz_48_54 rfl ?_
  refine v_getI (j := 8) gz_48_55 rfl t2 rd_4 rfl (fun v14 ev14 pv14 qv14 => ?_)
  have zv14 := ev14.trans ((my_up_fld fh13 (by decide)).trans ((my_up_fld fh11 (by decide)).trans ((my_up_fld fh9 (by decide)).trans ((my_up_fld fh7 (by decide)).trans ((my_up_fld fh5 (by decide)).trans ((my_up_fld fh3 (by decide)).trans ((my_up_fld fh1 (by decide)).trans eka2_8.symm)))))))
  refine v_putA (j := 8) gz_48_58 rfl t0 rd_4 rfl rfl (fun h15 fh15 => ?_)
  have gh15 : my_fr [(4, 1), (4, 2), (4, 3), (4, 4), (4, 5), (4, 6), (4, 7), (4, 8), (4, 9), (37, -1), (38, -1)] h h15 := my_fr.up gh13 t0 fh15 rfl
  have gxh15 : my_fx x0 8 h h15 := my_fx.up gxh13 fh15 (by omega)
  refine w_aload_n gz_48_61 rfl ?_
  refine w_iconst gz_48_62 (by decide) ?_
  refine v_putI (j := 9) gz_48_63 rfl t0 rd_4 rfl (by omega) (by omega) rfl (fun h16 fh16 => ?_)
  have gh16 : my_fr [(4, 1), (4, 2), (4, 3), (4, 4), (4, 5), (4, 6), (4, 7), (4, 8), (4, 9), (37, -1), (38, -1)] h h16 := my_fr.up gh15 t0 fh16 rfl
  have gxh16 : my_fx x0 8 h h16 := my_fx.up gxh15 fh16 (by omega)
  refine w_aload_n gz_48_66 rfl ?_
  refine w_getX (v := (x2 + 7)) gz_48_67 t2 rd_4 rfl (by decide) rfl ?_
  refine w_iconst gz_48_70 (by decide) ?_
  refine w_aload_n gz_48_71 rfl ?_
  refine w_getX (v := (x0 + 7)) gz_48_72 t0 rd_4 rfl (by decide) rfl ?_
  refine w_iconst gz_48_75 (by decide) ?_
  refine w_iconst gz_48_76 (by decide) ?_
  refine w_cpU gz_48_77 (ix_4_7 t2) rd_38 (ix_4_7 t0) rd_38 (by omega) (by omega) (by omega) (by omega) (by omega) rfl (by decide) (by decide) (fun h19 fh19 => ?_)
  have gh19 : my_fr [(4, 1), (4, 2), (4, 3), (4, 4), (4, 5), (4, 6), (4, 7), (4, 8), (4, 9), (37, -1), (38, -1)] h h19 := my_fr.cp gh16 (ix_4_7 t0) fh19 rfl
  have gxh19 : my_fx x0 8 h h19 := my_fx.cp gxh16 fh19 (by omega)
  have ca7 := fh19
  refine w_aload_n gz_48_80 rfl ?_
  refine w_getX (v := (x2 + 6)) gz_48_81 t2 rd_4 rfl (by decide) rfl ?_
  refine w_iconst gz_48_84 (by decide) ?_
  refine w_aload_n gz_48_85 rfl ?_
  refine w_getX (v := (x0 + 6)) gz_48_86 t0 rd_4 rfl (by decide) rfl ?_
  refine w_iconst gz_48_89 (by decide) ?_
  refine w_bipush gz_48_90 (by decide) ?_
  refine w_cpU gz_48_92 (ix_4_6 t2) rd_37 (ix_4_6 t0) rd_37 (by omega) (by omega) (by omega) (by omega) (by omega) rfl (by decide) (by decide) (fun h22 fh22 => ?_)
  have gh22 : my_fr [(4, 1), (4, 2), (4, 3), (4, 4), (4, 5), (4, 6), (4, 7), (4, 8), (4, 9), (37, -1), (38, -1)] h h22 := my_fr.cp gh19 (ix_4_6 t0) fh22 rfl
  have gxh22 : my_fx x0 8 h h22 := my_fx.cp gxh19 fh22 (by omega)
  have ce23 : h22 x0 1 = x1 := ((my_cp_role fh22 t0 (ix_4_6 t0) rfl).trans ((my_cp_role fh19 t0 (ix_4_7 t0) rfl).trans ((my_up_fld fh16 (by decide)).trans ((my_up_fld fh15 (by decide)).trans ((my_up_fld fh13 (by decide)).trans ((my_up_fld fh11 (by decide)).trans ((my_up_fld fh9 (by decide)).trans ((my_up_fld fh7 (by decide)).trans ((my_up_fld fh5 (by decide)).trans ((my_up_fld fh3 (by decide)).trans (my_up_self fh1)))))))))))
  have ce24 : h22 x0 3 = v4 := ((my_cp_role fh22 t0 (ix_4_6 t0) rfl).trans ((my_cp_role fh19 t0 (ix_4_7 t0) rfl).trans ((my_up_fld fh16 (by decide)).trans ((my_up_fld fh15 (by decide)).trans ((my_up_fld fh13 (by decide)).trans ((my_up_fld fh11 (by decide)).trans ((my_up_fld fh9 (by decide)).trans ((my_up_fld fh7 (by decide)).trans (my_up_self fh5)))))))))
  have ce25 : h22 x0 4 = v6 := ((my_cp_role fh22 t0 (ix_4_6 t0) rfl).trans ((my_cp_role fh19 t0 (ix_4_7 t0) rfl).trans ((my_up_fld fh16 (by decide)).trans ((my_up_fld fh15 (by decide)).trans ((my_up_fld fh13 (by decide)).trans ((my_up_fld fh11 (by decide)).trans ((my_up_fld fh9 (by decide)).trans (my_up_self fh7))))))))
  have ce26 : h22 x0 9 = 0 := ((my_cp_role fh22 t0 (ix_4_6 t0) rfl).trans ((my_cp_role fh19 t0 (ix_4_7 t0) rfl).trans (my_up_self fh16)))
  have c27 := ((my_cp_role fh22 t0 (ix_4_6 t0) rfl).trans ((my_cp_role fh19 t0 (ix_4_7 t0) rfl).trans ((my_up_fld fh16 (by decide)).trans ((my_up_fld fh15 (by decide)).trans ((my_up_fld fh13 (by decide)).trans ((my_up_fld fh11 (by decide)).trans ((my_up_fld fh9 (by decide)).trans ((my_up_fld fh7 (by decide)).trans ((my_up_fld fh5 (by decide)).trans ((my_up_fld fh3 (by decide)).trans (my_up_self fh1)))))))))))
  have c28 := ((my_cp_role fh22 t0 (ix_4_6 t0) rfl).trans ((my_cp_role fh19 t0 (ix_4_7 t0) rfl).trans (my_up_self fh16)))
  exact w_vret gz_48_95 gm_48 (k0 h22 (gh22) (gxh22) (by omega) (by omega) (by omega) (by first | assumption | omega | (subst_vars; omega) | exact SwE_mk fh1 fh3 fh5 fh7 fh9 fh11 fh13 fh15 fh16 ca7 fh22 t0 t2 hne (by assumption) (by assumption) (by assumption) (by assumption) (by assumption) (by assumption) (by assumption) | omega) (by first | assumption | omega | (subst_vars; omega) | exact SwE_mk fh1 fh3 fh5 fh7 fh9 fh11 fh13 fh15 fh16 ca7 fh22 t0 t2 hne (by assumption) (by assumption) (by assumption) (by assumption) (by assumption) (by assumption) (by assumption) | omega) (by first | assumption | omega | (subst_vars; omega) | exact SwE_mk fh1 fh3 fh5 fh7 fh9 fh11 fh13 fh15 fh16 ca7 fh22 t0 t2 hne (by assumption) (by assumption) (by assumption) (by assumption) (by assumption) (by assumption) (by assumption) | omega) (by first | assumption | omega | (subst_vars; omega) | exact SwE_mk fh1 fh3 fh5 fh7 fh9 fh11 fh13 fh15 fh16 ca7 fh22 t0 t2 hne (by assumption) (by assumption) (by assumption) (by assumption) (by assumption) (by assumption) (by assumption) | omega) (by first | assumption | omega | (subst_vars; omega) | exact SwE_mk fh1 fh3 fh5 fh7 fh9 fh11 fh13 fh15 fh16 ca7 fh22 t0 t2 hne (by assumption) (by assumption) (by assumption) (by assumption) (by assumption) (by assumption) (by assumption) | omega))
theorem c_Lens_addCut7 {l : Launch} {rho : Nat → Int32} {d : Nat} {h : my_H} {Q : my_H → my_V → Prop} {x0 x1 x2 x3 : Int} (t0 : my_is 4 x0) (a1 : 0 ≤ x1) (b1 : x1 ≤ 2) (a2 : 0 ≤ x2) (b2 : x2 ≤ 7) (a3 : 0 ≤ x3) (b3 : x3 ≤ 199) (hs5 : h x0 9 ≤ 5) (k0 : ∀ (h' : my_H), my_fr [(4, 5), (4, 8), (4, 9), (32, -1), (33, -1), (34, -1), (35, -1)] h h' → my_fx x0 8 h h' → 1 ≤ h' x0 9 → h' x0 9 ≤ 6 → AddS h h' x0 x1 x3 0 → AdE h h' x0 x1 x2 x3 0 → AdD h h' x0 x1 x2 x3 0 → Q h' (9, 0)) : wp l rho (d + 1) 53 0 [(2, x0), (0, x1), (0, x2), (0, x3)] [] h Q := by
  refine v_know (x := x0) (j := 9) (b := 9) rfl t0 rd_4 rfl (fun ka0_9 eka0_9 pka0_9 qka0_9 => ?_)
  refine v_know (x := x0) (j := 4) (b := 4) rfl t0 rd_4 rfl (fun ka0_4 eka0_4 pka0_4 qka0_4 => ?_)
  refine v_know (x := x0) (j := 1) (b := 1) rfl t0 rd_4 rfl (fun ka0_1 eka0_1 pka0_1 qka0_1 => ?_)
  refine v_know (x := x0) (j := 3) (b := 3) rfl t0 rd_4 rfl (fun ka0_3 eka0_3 pka0_3 qka0_3 => ?_)
  refine w_aload_n gz_53_0 rfl ?_
  refine w_iload_n gz_53_1 rfl ?_
  refine w_inv (k := 0) (as := [(0, x2)]) (r := []) (x := x0) (ls0 := [(2, x0), (0, x2)]) gz_53_2 gm_54 rfl t0 rd_4 rfl rfl rfl rfl rfl ?_
  refine w_aload_n gz_54_0 rfl ?_
  refine w_getX (v := (x0 + 6)) gz_54_1 t0 rd_4 rfl (by decide) rfl ?_
  refine w_iload_n gz_54_4 rfl ?_
  refine w_iald gz_54_5 (ix_4_6 t0) rd_37 (by omega) (by omega) (fun v2 ev2 pv2 qv2 => ?_)
  refine w_iconst gz_54_6 (by decide) ?_
  refine w_iceq (t := 30) gz_54_7 rfl (fun u3 => ?_) (fun u3 => ?_)
  ·
    refine w_vret gz_54_30 gm_54 ?_
    show wp l rho (d + 1) 53 5 [(2, x0), (0, x1), (0, x2), (0, x3)] [] h Q
    have a1 : ∀ j : Int, h (x0 + 1) j = h (x0 + 1) j := fun j => my_ag.at (my_ag.rf : my_ag AgF h h) (ix_4_1 t0) rfl
    have a3 : ∀ j : Int, h (x0 + 3) j = h (x0 + 3) j := fun j => my_ag.at (my_ag.rf : my_ag AgF h h) (ix_4_3 t0) rfl
    have a4 : ∀ j : Int, h (x0 + 4) j = h (x0 + 4) j := fun j => my_ag.at (my_ag.rf : my_ag AgF h h) (ix_4_4 t0) rfl
    have b1 : h x0 1 = h x0 1 := my_ag.at (my_ag.rf : my_ag AgF h h) t0 rfl
    have b3 : h x0 3 = h x0 3 := my_ag.at (my_ag.rf : my_ag AgF h h) t0 rfl
    have b9 : h x0 9 = h x0 9 := my_ag.at (my_ag.rf : my_ag AgF h h) t0 rfl
    have b4 : h x0 4 = h x0 4 := my_ag.at (my_ag.rf : my_ag AgF h h) t0 rfl
    have U5 : UsE h h x0 x2 := by first | exact UsE_n (by assumption) (by omega) | exact UsE_y no_such_saying (by assumption) (by omega) (by assumption) (by assumption) (by omega)
    refine w_aload_n gz_53_5 rfl ?_
    refine w_iload_n gz_53_6 rfl ?_
    refine w_iload_n gz_53_7 rfl ?_
    refine w_iload_n gz_53_8 rfl ?_
    refine w_iconst gz_53_9 (by decide) ?_
    refine w_inv (k := 0) (as := [(0, 0), (0, x3), (0, x2), (0, x1)]) (r := []) (x := x0) (ls0 := [(2, x0), (0, x1), (0, x2), (0, x3), (0, 0)]) gz_53_10 gm_55 rfl t0 rd_4 rfl rfl rfl rfl rfl ?_
    refine w_aload_n gz_55_0 rfl ?_
    refine w_getX (v := (x0 + 1)) gz_55_1 t0 rd_4 rfl (by decide) rfl ?_
    refine w_aload_n gz_55_4 rfl ?_
    refine v_getI (j := 9) gz_55_5 rfl t0 rd_4 rfl (fun v5 ev5 pv5 qv5 => ?_)
    have zv5 := ev5.trans eka0_9.symm
    refine w_iload_n gz_55_8 rfl ?_
    have hi6 : 0 ≤ v5 := by omega
    have hi7 : v5 ≤ 5 := by omega
    refine w_iast gz_55_9 (ix_4_1 t0) rd_32 (by omega) (by omega) (by omega) (by omega) (fun h8 fh8 => ?_)
    have gh8 : my_fr [(4, 5), (4, 8), (4, 9), (32, -1), (33, -1), (34, -1), (35, -1)] h h8 := my_fr.up my_fr.rf (ix_4_1 t0) fh8 rfl
    have gxh8 : my_fx x0 8 h h8 := my_fx.up my_fx.rf fh8 (by omega)
    refine w_aload_n gz_55_10 rfl ?_
    refine w_getX (v := (x0 + 2)) gz_55_11 t0 rd_4 rfl (by decide) rfl ?_
    refine w_aload_n gz_55_14 rfl ?_
    refine v_getI (j := 9) gz_55_15 rfl t0 rd_4 rfl (fun v10 ev10 pv10 qv10 => ?_)
    have zv10 := ev10.trans ((my_up_role fh8 t0 (ix_4_1 t0) rfl).trans ev5.symm)
    refine w_iload_n gz_55_18 rfl ?_
    refine w_iast gz_55_19 (ix_4_2 t0) rd_33 (by omega) (by omega) (by omega) (by omega) (fun h11 fh11 => ?_)
    have gh11 : my_fr [(4, 5), (4, 8), (4, 9), (32, -1), (33, -1), (34, -1), (35, -1)] h h11 := my_fr.up gh8 (ix_4_2 t0) fh11 rfl
    have gxh11 : my_fx x0 8 h h11 := my_fx.up gxh8 fh11 (by omega)
    refine w_aload_n gz_55_20 rfl ?_
    refine w_getX (v := (x0 + 3)) gz_55_21 t0 rd_4 rfl (by decide) rfl ?_
    refine w_aload_n gz_55_24 rfl ?_
    refine v_getI (j := 9) gz_55_25 rfl t0 rd_4 rfl (fun v13 ev13 pv13 qv13 => ?_)
    have zv13 := ev13.trans ((my_up_role fh11 t0 (ix_4_2 t0) rfl).trans ev10.symm)
    refine w_iload_n gz_55_28 rfl ?_
    refine w_iast gz_55_29 (ix_4_3 t0) rd_34 (by omega) (by omega) (by omega) (by omega) (fun h14 fh14 => ?_)
    have gh14 : my_fr [(4, 5), (4, 8), (4, 9), (32, -1), (33, -1), (34, -1), (35, -1)] h h14 := my_fr.up gh11 (ix_4_3 t0) fh14 rfl
    have gxh14 : my_fx x0 8 h h14 := my_fx.up gxh11 fh14 (by omega)
    refine w_aload_n gz_55_30 rfl ?_
    refine w_getX (v := (x0 + 4)) gz_55_31 t0 rd_4 rfl (by decide) rfl ?_
    refine w_aload_n gz_55_34 rfl ?_
    refine v_getI (j := 9) gz_55_35 rfl t0 rd_4 rfl (fun v16 ev16 pv16 qv16 => ?_)
    have zv16 := ev16.trans ((my_up_role fh14 t0 (ix_4_3 t0) rfl).trans ev13.symm)
    refine w_iload gz_55_38 rfl ?_
    refine w_iast gz_55_40 (ix_4_4 t0) rd_35 (by omega) (by omega) (by omega) (by omega) (fun h17 fh17 => ?_)
    have gh17 : my_fr [(4, 5), (4, 8), (4, 9), (32, -1), (33, -1), (34, -1), (35, -1)] h h17 := my_fr.up gh14 (ix_4_4 t0) fh17 rfl
    have gxh17 : my_fx x0 8 h h17 := my_fx.up gxh14 fh17 (by omega)
    refine w_aload_n gz_55_41 rfl ?_
    refine w_dup gz_55_42 rfl ?_
    refine v_getI (j := 9) gz_55_43 rfl t0 rd_4 rfl (fun v18 ev18 pv18 qv18 => ?_)
    have zv18 := ev18.trans ((my_up_role fh17 t0 (ix_4_4 t0) rfl).trans ev16.symm)
    refine w_iconst gz_55_46 (by decide) ?_
    refine w_iadd gz_55_47 ⟨by omega, by omega⟩ ?_
    refine v_putI (j := 9) gz_55_48 rfl t0 rd_4 rfl (by omega) (by omega) rfl (fun h19 fh19 => ?_)
    have gh19 : my_fr [(4, 5), (4, 8), (4, 9), (32, -1), (33, -1), (34, -1), (35, -1)] h h19 := my_fr.up gh17 t0 fh19 rfl
    have gxh19 : my_fx x0 8 h h19 := my_fx.up gxh17 fh19 (by omega)
    refine w_aload_n gz_55_51 rfl ?_
    refine w_dup gz_55_52 rfl ?_
    refine v_getI (j := 5) gz_55_53 rfl t0 rd_4 rfl (fun v20 ev20 pv20 qv20 => ?_)
    refine w_iconst gz_55_56 (by decide) ?_
    refine w_ianyA gz_55_57 (fun v21 pv21 qv21 => ?_)
    refine v_putA (j := 5) gz_55_58 rfl t0 rd_4 rfl rfl (fun h22 fh22 => ?_)
    have gh22 : my_fr [(4, 5), (4, 8), (4, 9), (32, -1), (33, -1), (34, -1), (35, -1)] h h22 := my_fr.up gh19 t0 fh22 rfl
    have gxh22 : my_fx x0 8 h h22 := my_fx.up gxh19 fh22 (by omega)
    refine w_vret gz_55_61 gm_55 ?_
    show wp l rho (d + 1) 53 13 [(2, x0), (0, x1), (0, x2), (0, x3)] [] h22 Q
    have c23 := ((my_up_fld fh22 (by decide)).trans (my_up_self fh19))
    exact w_vret gz_53_13 gm_53 (k0 h22 (gh22) (gxh22) (by omega) (by omega) (by first | exact (Ad_cut (a := x2) (by omega) (by omega) U5 (AdS_mk (s := h x0 9) fh8 fh11 fh14 fh17 fh19 fh22 (by omega) (by omega) (by omega) (by omega) (by omega)) rfl).1 | exact (Ad_cut (a := x2) (by omega) (by omega) U5 (AdS_mk (s := h x0 9) fh8 fh11 fh14 fh17 fh19 fh22 (by omega) (by omega) (by omega) (by omega) (by omega)) rfl).2 | exact AdE_A (Ad_cut (a := x2) (by omega) (by omega) U5 (AdS_mk (s := h x0 9) fh8 fh11 fh14 fh17 fh19 fh22 (by omega) (by omega) (by omega) (by omega) (by omega)) rfl).1 | assumption | omega) (by first | exact (Ad_cut (a := x2) (by omega) (by omega) U5 (AdS_mk (s := h x0 9) fh8 fh11 fh14 fh17 fh19 fh22 (by omega) (by omega) (by omega) (by omega) (by omega)) rfl).1 | exact (Ad_cut (a := x2) (by omega) (by omega) U5 (AdS_mk (s := h x0 9) fh8 fh11 fh14 fh17 fh19 fh22 (by omega) (by omega) (by omega) (by omega) (by omega)) rfl).2 | exact AdE_A (Ad_cut (a := x2) (by omega) (by omega) U5 (AdS_mk (s := h x0 9) fh8 fh11 fh14 fh17 fh19 fh22 (by omega) (by omega) (by omega) (by omega) (by omega)) rfl).1 | assumption | omega) (by first | exact (Ad_cut (a := x2) (by omega) (by omega) U5 (AdS_mk (s := h x0 9) fh8 fh11 fh14 fh17 fh19 fh22 (by omega) (by omega) (by omega) (by omega) (by omega)) rfl).1 | exact (Ad_cut (a := x2) (by omega) (by omega) U5 (AdS_mk (s := h x0 9) fh8 fh11 fh14 fh17 fh19 fh22 (by omega) (by omega) (by omega) (by omega) (by omega)) rfl).2 | exact AdE_A (Ad_cut (a := x2) (by omega) (by omega) U5 (AdS_mk (s := h x0 9) fh8 fh11 fh14 fh17 fh19 fh22 (by omega) (by omega) (by omega) (by omega) (by omega)) rfl).1 | assumption | omega))
  ·
    refine w_aload_n gz_54_10 rfl ?_
    refine w_dup gz_54_11 rfl ?_
    refine v_getI (j := 8) gz_54_12 rfl t0 rd_4 rfl (fun v24 ev24 pv24 qv24 => ?_)
    refine w_iconst gz_54_15 (by decide) ?_
    refine w_aload_n gz_54_16 rfl ?_
    refine w_getX (v := (x0 + 6)) gz_54_17 t0 rd_4 rfl (by decide) rfl ?_
    refine w_iload_n gz_54_20 rfl ?_
    refine w_iald gz_54_21 (ix_4_6 t0) rd_37 (by omega) (by omega) (fun v26 ev26 pv26 qv26 => ?_)
    have zv26 := ev26.trans ev2.symm
    refine w_bipush gz_54_22 (by decide) ?_
    refine w_irem gz_54_24 (by omega) (by decide) ?_
    refine w_ishlX gz_54_25 (fun v27 ev27 pv27 qv27 => ?_)
    refine w_iorX gz_54_26 (fun v28 ev28 pv28 qv28 => ?_)
    refine v_putA (j := 8) gz_54_27 rfl t0 rd_4 rfl rfl (fun h29 fh29 => ?_)
    have gh29 : my_fr [(4, 5), (4, 8), (4, 9), (32, -1), (33, -1), (34, -1), (35, -1)] h h29 := my_fr.up my_fr.rf t0 fh29 rfl
    have gxh29 : my_fx x0 8 h h29 := my_fx.up my_fx.rf fh29 (by omega)
    have AgL_h29 : my_ag AgF h h29 := AgL_ag (my_ag.up fh29 t0 rfl) (my_ag.rf : my_ag AgF h h)
    refine w_vret gz_54_30 gm_54 ?_
    show wp l rho (d + 1) 53 5 [(2, x0), (0, x1), (0, x2), (0, x3)] [] h29 Q
    have a1 : ∀ j : Int, h29 (x0 + 1) j = h (x0 + 1) j := fun j => my_ag.at AgL_h29 (ix_4_1 t0) rfl
    have a3 : ∀ j : Int, h29 (x0 + 3) j = h (x0 + 3) j := fun j => my_ag.at AgL_h29 (ix_4_3 t0) rfl
    have a4 : ∀ j : Int, h29 (x0 + 4) j = h (x0 + 4) j := fun j => my_ag.at AgL_h29 (ix_4_4 t0) rfl
    have b1 : h29 x0 1 = h x0 1 := my_ag.at AgL_h29 t0 rfl
    have b3 : h29 x0 3 = h x0 3 := my_ag.at AgL_h29 t0 rfl
    have b9 : h29 x0 9 = h x0 9 := my_ag.at AgL_h29 t0 rfl
    have b4 : h29 x0 4 = h x0 4 := my_ag.at AgL_h29 t0 rfl
    have U5 : UsE h h29 x0 x2 := by first | exact UsE_n (by assumption) (by omega) | exact UsE_y fh29 (by assumption) (by omega) (by assumption) (by assumption) (by omega)
    refine w_aload_n gz_53_5 rfl ?_
    refine w_iload_n gz_53_6 rfl ?_
    refine w_iload_n gz_53_7 rfl ?_
    refine w_iload_n gz_53_8 rfl ?_
    refine w_iconst gz_53_9 (by decide) ?_
    refine w_inv (k := 0) (as := [(0, 0), (0, x3), (0, x2), (0, x1)]) (r := []) (x := x0) (ls0 := [(2, x0), (0, x1), (0, x2), (0, x3), (0, 0)]) gz_53_10 gm_55 rfl t0 rd_4 rfl rfl rfl rfl rfl ?_
    refine w_aload_n gz_55_0 rfl ?_
    refine w_getX (v := (x0 + 1)) gz_55_1 t0 rd_4 rfl (by decide) rfl ?_
    refine w_aload_n gz_55_4 rfl ?_
    refine v_getI (j := 9) gz_55_5 rfl t0 rd_4 rfl (fun v31 ev31 pv31 qv31 => ?_)
    have zv31 := ev31.trans ((my_up_fld fh29 (by decide)).trans eka0_9.symm)
    refine w_iload_n gz_55_8 rfl ?_
    have hi32 : 0 ≤ v31 := by omega
    have hi33 : v31 ≤ 5 := by omega
    refine w_iast gz_55_9 (ix_4_1 t0) rd_32 (by omega) (by omega) (by omega) (by omega) (fun h34 fh34 => ?_)
    have gh34 : my_fr [(4, 5), (4, 8), (4, 9), (32, -1), (33, -1), (34, -1), (35, -1)] h h34 := my_fr.up gh29 (ix_4_1 t0) fh34 rfl
    have gxh34 : my_fx x0 8 h h34 := my_fx.up gxh29 fh34 (by omega)
    refine w_aload_n gz_55_10 rfl ?_
    refine w_getX (v := (x0 + 2)) gz_55_11 t0 rd_4 rfl (by decide) rfl ?_
    refine w_aload_n gz_55_14 rfl ?_
    refine v_getI (j := 9) gz_55_15 rfl t0 rd_4 rfl (fun v36 ev36 pv36 qv36 => ?_)
    have zv36 := ev36.trans ((my_up_role fh34 t0 (ix_4_1 t0) rfl).trans ev31.symm)
    refine w_iload_n gz_55_18 rfl ?_
    refine w_iast gz_55_19 (ix_4_2 t0) rd_33 (by omega) (by omega) (by omega) (by omega) (fun h37 fh37 => ?_)
    have gh37 : my_fr [(4, 5), (4, 8), (4, 9), (32, -1), (33, -1), (34, -1), (35, -1)] h h37 := my_fr.up gh34 (ix_4_2 t0) fh37 rfl
    have gxh37 : my_fx x0 8 h h37 := my_fx.up gxh34 fh37 (by omega)
    refine w_aload_n gz_55_20 rfl ?_
    refine w_getX (v := (x0 + 3)) gz_55_21 t0 rd_4 rfl (by decide) rfl ?_
    refine w_aload_n gz_55_24 rfl ?_
    refine v_getI (j := 9) gz_55_25 rfl t0 rd_4 rfl (fun v39 ev39 pv39 qv39 => ?_)
    have zv39 := ev39.trans ((my_up_role fh37 t0 (ix_4_2 t0) rfl).trans ev36.symm)
    refine w_iload_n gz_55_28 rfl ?_
    refine w_iast gz_55_29 (ix_4_3 t0) rd_34 (by omega) (by omega) (by omega) (by omega) (fun h40 fh40 => ?_)
    have gh40 : my_fr [(4, 5), (4, 8), (4, 9), (32, -1), (33, -1), (34, -1), (35, -1)] h h40 := my_fr.up gh37 (ix_4_3 t0) fh40 rfl
    have gxh40 : my_fx x0 8 h h40 := my_fx.up gxh37 fh40 (by omega)
    refine w_aload_n gz_55_30 rfl ?_
    refine w_getX (v := (x0 + 4)) gz_55_31 t0 rd_4 rfl (by decide) rfl ?_
    refine w_aload_n gz_55_34 rfl ?_
    refine v_getI (j := 9) gz_55_35 rfl t0 rd_4 rfl (fun v42 ev42 pv42 qv42 => ?_)
    have zv42 := ev42.trans ((my_up_role fh40 t0 (ix_4_3 t0) rfl).trans ev39.symm)
    refine w_iload gz_55_38 rfl ?_
    refine w_iast gz_55_40 (ix_4_4 t0) rd_35 (by omega) (by omega) (by omega) (by omega) (fun h43 fh43 => ?_)
    have gh43 : my_fr [(4, 5), (4, 8), (4, 9), (32, -1), (33, -1), (34, -1), (35, -1)] h h43 := my_fr.up gh40 (ix_4_4 t0) fh43 rfl
    have gxh43 : my_fx x0 8 h h43 := my_fx.up gxh40 fh43 (by omega)
    refine w_aload_n gz_55_41 rfl ?_
    refine w_dup gz_55_42 rfl ?_
    refine v_getI (j := 9) gz_55_43 rfl t0 rd_4 rfl (fun v44 ev44 pv44 qv44 => ?_)
    have zv44 := ev44.trans ((my_up_role fh43 t0 (ix_4_4 t0) rfl).trans ev42.symm)
    refine w_iconst gz_55_46 (by decide) ?_
    refine w_iadd gz_55_47 ⟨by omega, by omega⟩ ?_
    refine v_putI (j := 9) gz_55_48 rfl t0 rd_4 rfl (by omega) (by omega) rfl (fun h45 fh45 => ?_)
    have gh45 : my_fr [(4, 5), (4, 8), (4, 9), (32, -1), (33, -1), (34, -1), (35, -1)] h h45 := my_fr.up gh43 t0 fh45 rfl
    have gxh45 : my_fx x0 8 h h45 := my_fx.up gxh43 fh45 (by omega)
    refine w_aload_n gz_55_51 rfl ?_
    refine w_dup gz_55_52 rfl ?_
    refine v_getI (j := 5) gz_55_53 rfl t0 rd_4 rfl (fun v46 ev46 pv46 qv46 => ?_)
    refine w_iconst gz_55_56 (by decide) ?_
    refine w_ianyA gz_55_57 (fun v47 pv47 qv47 => ?_)
    refine v_putA (j := 5) gz_55_58 rfl t0 rd_4 rfl rfl (fun h48 fh48 => ?_)
    have gh48 : my_fr [(4, 5), (4, 8), (4, 9), (32, -1), (33, -1), (34, -1), (35, -1)] h h48 := my_fr.up gh45 t0 fh48 rfl
    have gxh48 : my_fx x0 8 h h48 := my_fx.up gxh45 fh48 (by omega)
    refine w_vret gz_55_61 gm_55 ?_
    show wp l rho (d + 1) 53 13 [(2, x0), (0, x1), (0, x2), (0, x3)] [] h48 Q
    have c49 := ((my_up_fld fh48 (by decide)).trans (my_up_self fh45))
    exact w_vret gz_53_13 gm_53 (k0 h48 (gh48) (gxh48) (by omega) (by omega) (by first | exact (Ad_cut (a := x2) (by omega) (by omega) U5 (AdS_mk (s := h x0 9) fh34 fh37 fh40 fh43 fh45 fh48 (by omega) (by omega) (by omega) (by omega) (by omega)) rfl).1 | exact (Ad_cut (a := x2) (by omega) (by omega) U5 (AdS_mk (s := h x0 9) fh34 fh37 fh40 fh43 fh45 fh48 (by omega) (by omega) (by omega) (by omega) (by omega)) rfl).2 | exact AdE_A (Ad_cut (a := x2) (by omega) (by omega) U5 (AdS_mk (s := h x0 9) fh34 fh37 fh40 fh43 fh45 fh48 (by omega) (by omega) (by omega) (by omega) (by omega)) rfl).1 | assumption | omega) (by first | exact (Ad_cut (a := x2) (by omega) (by omega) U5 (AdS_mk (s := h x0 9) fh34 fh37 fh40 fh43 fh45 fh48 (by omega) (by omega) (by omega) (by omega) (by omega)) rfl).1 | exact (Ad_cut (a := x2) (by omega) (by omega) U5 (AdS_mk (s := h x0 9) fh34 fh37 fh40 fh43 fh45 fh48 (by omega) (by omega) (by omega) (by omega) (by omega)) rfl).2 | exact AdE_A (Ad_cut (a := x2) (by omega) (by omega) U5 (AdS_mk (s := h x0 9) fh34 fh37 fh40 fh43 fh45 fh48 (by omega) (by omega) (by omega) (by omega) (by omega)) rfl).1 | assumption | omega) (by first | exact (Ad_cut (a := x2) (by omega) (by omega) U5 (AdS_mk (s := h x0 9) fh34 fh37 fh40 fh43 fh45 fh48 (by omega) (by omega) (by omega) (by omega) (by omega)) rfl).1 | exact (Ad_cut (a := x2) (by omega) (by omega) U5 (AdS_mk (s := h x0 9) fh34 fh37 fh40 fh43 fh45 fh48 (by omega) (by omega) (by omega) (by omega) (by omega)) rfl).2 | exact AdE_A (Ad_cut (a := x2) (by omega) (by omega) U5 (AdS_mk (s := h x0 9) fh34 fh37 fh40 fh43 fh45 fh48 (by omega) (by omega) (by omega) (by omega) (by omega)) rfl).1 | assumption | omega))
theorem c_Lens_addFew7 {l : Launch} {rho : Nat → Int32} {d : Nat} {h : my_H} {Q : my_H → my_V → Prop} {x0 x1 : Int} (t0 : my_is 4 x0) (a1 : 1 ≤ x1) (b1 : x1 ≤ 8) (hs5 : h x0 9 ≤ 5) (k0 : ∀ (h' : my_H), my_fr [(4, 4), (4, 5), (4, 9), (32, -1), (33, -1), (34, -1), (35, -1), (37, -1), (39, -1)] h h' → my_fx x0 8 h h' → 1 ≤ h' x0 4 → h' x0 4 ≤ 8 → 1 ≤ h' x0 9 → h' x0 9 ≤ 6 → AddS h h' x0 3 0 x1 → AdE h h' x0 3 0 0 x1 → AdD h h' x0 3 0 0 x1 → (∀ j : Int, h' (x0 + 5) j = h (x0 + 5) j) → Q h' (9, 0)) : wp l rho (d + 1) 59 0 [(2, x0), (0, x1), (9, 0)] [] h Q := by
  refine v_know (x := x0) (j := 9) (b := 9) rfl t0 rd_4 rfl (fun ka0_9 eka0_9 pka0_9 qka0_9 => ?_)
  have J17_0 : ∀ (n : Nat) (p17_0 : Int) (h17_0 : my_H), my_fr [(4, 4), (4, 5), (4, 9), (32, -1), (33, -1), (34, -1), (35, -1), (37, -1), (39, -1)] h h17_0 → my_fx x0 8 h h17_0 → 0 ≤ p17_0 → p17_0 ≤ 8 → p17_0 ≤ x1 → h17_0 x0 9 = ka0_9 → my_ag AgF h h17_0 → OfI h h17_0 x0 (h x0 9) p17_0 → 9 - p17_0 ≤ (n : Int) → wp l rho (d + 1) 59 17 [(2, x0), (0, x1), (0, p17_0)] [] h17_0 Q := by
    intro n
    induction n with
    | zero => intro p17_0 h17_0 gh_17_0 gx_17_0 q0_17_0 q1_17_0 q2_17_0 ca0_9_17_0 n_AgL_17_0 of_17_0 hm_17_0; exfalso; omega
    | succ n ih_17_0 =>
      intro p17_0 h17_0 gh_17_0 gx_17_0 q0_17_0 q1_17_0 q2_17_0 ca0_9_17_0 n_AgL_17_0 of_17_0 hm_17_0
      have a1 : ∀ j : Int, h17_0 (x0 + 1) j = h (x0 + 1) j := fun j => my_ag.at n_AgL_17_0 (ix_4_1 t0) rfl
      have a3 : ∀ j : Int, h17_0 (x0 + 3) j = h (x0 + 3) j := fun j => my_ag.at n_AgL_17_0 (ix_4_3 t0) rfl
      have a4 : ∀ j : Int, h17_0 (x0 + 4) j = h (x0 + 4) j := fun j => my_ag.at n_AgL_17_0 (ix_4_4 t0) rfl
      have b1 : h17_0 x0 1 = h x0 1 := my_ag.at n_AgL_17_0 t0 rfl
      have b3 : h17_0 x0 3 = h x0 3 := my_ag.at n_AgL_17_0 t0 rfl
      have b9 : h17_0 x0 9 = h x0 9 := my_ag.at n_AgL_17_0 t0 rfl
      have b4 : h17_0 x0 4 = h x0 4 := my_ag.at n_AgL_17_0 t0 rfl
      refine w_iload_n gz_59_17 rfl ?_
      refine w_iload_n gz_59_18 rfl ?_
      refine w_icge (t := 53) gz_59_19 rfl (fun u1 => ?_) (fun u1 => ?_)
      ·
        refine w_aload_n gz_59_53 rfl ?_
        refine w_iload_n gz_59_54 rfl ?_
        refine v_putI (j := 4) gz_59_55 rfl t0 rd_4 rfl (by omega) (by omega) rfl (fun h2 fh2 => ?_)
        have gh2 : my_fr [(4, 4), (4, 5), (4, 9), (32, -1), (33, -1), (34, -1), (35, -1), (37, -1), (39, -1)] h h2 := my_fr.up gh_17_0 t0 fh2 rfl
        have gxh2 : my_fx x0 8 h h2 := my_fx.up gx_17_0 fh2 (by omega)
        refine w_aload_n gz_59_58 rfl ?_
        refine w_iconst gz_59_59 (by decide) ?_
        refine w_iconst gz_59_60 (by decide) ?_
        refine w_iconst gz_59_61 (by decide) ?_
        refine w_iload_n gz_59_62 rfl ?_
        refine w_inv (k := 0) (as := [(0, x1), (0, 0), (0, 0), (0, 3)]) (r := []) (x := x0) (ls0 := [(2, x0), (0, 3), (0, 0), (0, 0), (0, x1)]) gz_59_63 gm_55 rfl t0 rd_4 rfl rfl rfl rfl rfl ?_
        refine w_aload_n gz_55_0 rfl ?_
        refine w_getX (v := (x0 + 1)) gz_55_1 t0 rd_4 rfl (by decide) rfl ?_
        refine w_aload_n gz_55_4 rfl ?_
        refine v_getI (j := 9) gz_55_5 rfl t0 rd_4 rfl (fun v4 ev4 pv4 qv4 => ?_)
        have zv4 := ev4.trans ((my_up_fld fh2 (by decide)).trans ca0_9_17_0)
        refine w_iload_n gz_55_8 rfl ?_
        have hi5 : 0 ≤ v4 := by omega
        have hi6 : v4 ≤ 5 := by omega
        refine w_iast gz_55_9 (ix_4_1 t0) rd_32 (by omega) (by omega) (by omega) (by omega) (fun h7 fh7 => ?_)
        have gh7 : my_fr [(4, 4), (4, 5), (4, 9), (32, -1), (33, -1), (34, -1), (35, -1), (37, -1), (39, -1)] h h7 := my_fr.up gh2 (ix_4_1 t0) fh7 rfl
        have gxh7 : my_fx x0 8 h h7 := my_fx.up gxh2 fh7 (by omega)
        refine w_aload_n gz_55_10 rfl ?_
        refine w_getX (v := (x0 + 2)) gz_55_11 t0 rd_4 rfl (by decide) rfl ?_
        refine w_aload_n gz_55_14 rfl ?_
        refine v_getI (j := 9) gz_55_15 rfl t0 rd_4 rfl (fun v9 ev9 pv9 qv9 => ?_)
        have zv9 := ev9.trans ((my_up_role fh7 t0 (ix_4_1 t0) rfl).trans ev4.symm)
        refine w_iload_n gz_55_18 rfl ?_
        refine w_iast gz_55_19 (ix_4_2 t0) rd_33 (by omega) (by omega) (by omega) (by omega) (fun h10 fh10 => ?_)
        have gh10 : my_fr [(4, 4), (4, 5), (4, 9), (32, -1), (33, -1), (34, -1), (35, -1), (37, -1), (39, -1)] h h10 := my_fr.up gh7 (ix_4_2 t0) fh10 rfl
        have gxh10 : my_fx x0 8 h h10 := my_fx.up gxh7 fh10 (by omega)
        refine w_aload_n gz_55_20 rfl ?_
        refine w_getX (v := (x0 + 3)) gz_55_21 t0 rd_4 rfl (by decide) rfl ?_
        refine w_aload_n gz_55_24 rfl ?_
        refine v_getI (j := 9) gz_55_25 rfl t0 rd_4 rfl (fun v12 ev12 pv12 qv12 => ?_)
        have zv12 := ev12.trans ((my_up_role fh10 t0 (ix_4_2 t0) rfl).trans ev9.symm)
        refine w_iload_n gz_55_28 rfl ?_
        refine w_iast gz_55_29 (ix_4_3 t0) rd_34 (by omega) (by omega) (by omega) (by omega) (fun h13 fh13 => ?_)
        have gh13 : my_fr [(4, 4), (4, 5), (4, 9), (32, -1), (33, -1), (34, -1), (35, -1), (37, -1), (39, -1)] h h13 := my_fr.up gh10 (ix_4_3 t0) fh13 rfl
        have gxh13 : my_fx x0 8 h h13 := my_fx.up gxh10 fh13 (by omega)
        refine w_aload_n gz_55_30 rfl ?_
        refine w_getX (v := (x0 + 4)) gz_55_31 t0 rd_4 rfl (by decide) rfl ?_
        refine w_aload_n gz_55_34 rfl ?_
        refine v_getI (j := 9) gz_55_35 rfl t0 rd_4 rfl (fun v15 ev15 pv15 qv15 => ?_)
        have zv15 := ev15.trans ((my_up_role fh13 t0 (ix_4_3 t0) rfl).trans ev12.symm)
        refine w_iload gz_55_38 rfl ?_
        refine w_iast gz_55_40 (ix_4_4 t0) rd_35 (by omega) (by omega) (by omega) (by omega) (fun h16 fh16 => ?_)
        have gh16 : my_fr [(4, 4), (4, 5), (4, 9), (32, -1), (33, -1), (34, -1), (35, -1), (37, -1), (39, -1)] h h16 := my_fr.up gh13 (ix_4_4 t0) fh16 rfl
        have gxh16 : my_fx x0 8 h h16 := my_fx.up gxh13 fh16 (by omega)
        refine w_aload_n gz_55_41 rfl ?_
        refine w_dup gz_55_42 rfl ?_
        refine v_getI (j := 9) gz_55_43 rfl t0 rd_4 rfl (fun v17 ev17 pv17 qv17 => ?_)
        have zv17 := ev17.trans ((my_up_role fh16 t0 (ix_4_4 t0) rfl).trans ev15.symm)
        refine w_iconst gz_55_46 (by decide) ?_
        refine w_iadd gz_55_47 ⟨by omega, by omega⟩ ?_
        refine v_putI (j := 9) gz_55_48 rfl t0 rd_4 rfl (by omega) (by omega) rfl (fun h18 fh18 => ?_)
        have gh18 : my_fr [(4, 4), (4, 5), (4, 9), (32, -1), (33, -1), (34, -1), (35, -1), (37, -1), (39, -1)] h h18 := my_fr.up gh16 t0 fh18 rfl
        have gxh18 : my_fx x0 8 h h18 := my_fx.up gxh16 fh18 (by omega)
        refine w_aload_n gz_55_51 rfl ?_
        refine w_dup gz_55_52 rfl ?_
        refine v_getI (j := 5) gz_55_53 rfl t0 rd_4 rfl (fun v19 ev19 pv19 qv19 => ?_)
        refine w_iconst gz_55_56 (by decide) ?_
        refine w_ianyA gz_55_57 (fun v20 pv20 qv20 => ?_)
        refine v_putA (j := 5) gz_55_58 rfl t0 rd_4 rfl rfl (fun h21 fh21 => ?_)
        have gh21 : my_fr [(4, 4), (4, 5), (4, 9), (32, -1), (33, -1), (34, -1), (35, -1), (37, -1), (39, -1)] h h21 := my_fr.up gh18 t0 fh21 rfl
        have gxh21 : my_fx x0 8 h h21 := my_fx.up gxh18 fh21 (by omega)
        refine w_vret gz_55_61 gm_55 ?_
        show wp l rho (d + 1) 59 66 [(2, x0), (0, x1), (0, p17_0)] [] h21 Q
        have c22 := ((my_up_fld fh21 (by decide)).trans ((my_up_fld fh18 (by decide)).trans ((my_up_role fh16 t0 (ix_4_4 t0) rfl).trans ((my_up_role fh13 t0 (ix_4_3 t0) rfl).trans ((my_up_role fh10 t0 (ix_4_2 t0) rfl).trans ((my_up_role fh7 t0 (ix_4_1 t0) rfl).trans (my_up_self fh2)))))))
        have c23 := ((my_up_fld fh21 (by decide)).trans (my_up_self fh18))
        exact w_vret gz_59_66 gm_59 (k0 h21 (gh21) (gxh21) (by omega) (by omega) (by omega) (by omega) (by first | exact (Ad_few of_17_0 fh2 (AdS_mk (s := h x0 9) fh7 fh10 fh13 fh16 fh18 fh21 (by omega) (by omega) (by omega) (by omega) (by omega)) rfl (by omega) (by omega)).1 | exact (Ad_few of_17_0 fh2 (AdS_mk (s := h x0 9) fh7 fh10 fh13 fh16 fh18 fh21 (by omega) (by omega) (by omega) (by omega) (by omega)) rfl (by omega) (by omega)).2 | exact AdE_A (Ad_few of_17_0 fh2 (AdS_mk (s := h x0 9) fh7 fh10 fh13 fh16 fh18 fh21 (by omega) (by omega) (by omega) (by omega) (by omega)) rfl (by omega) (by omega)).1 | exact Ad_few5 of_17_0 fh2 (AdS_mk (s := h x0 9) fh7 fh10 fh13 fh16 fh18 fh21 (by omega) (by omega) (by omega) (by omega) (by omega)) | assumption | omega) (by first | exact (Ad_few of_17_0 fh2 (AdS_mk (s := h x0 9) fh7 fh10 fh13 fh16 fh18 fh21 (by omega) (by omega) (by omega) (by omega) (by omega)) rfl (by omega) (by omega)).1 | exact (Ad_few of_17_0 fh2 (AdS_mk (s := h x0 9) fh7 fh10 fh13 fh16 fh18 fh21 (by omega) (by omega) (by omega) (by omega) (by omega)) rfl (by omega) (by omega)).2 | exact AdE_A (Ad_few of_17_0 fh2 (AdS_mk (s := h x0 9) fh7 fh10 fh13 fh16 fh18 fh21 (by omega) (by omega) (by omega) (by omega) (by omega)) rfl (by omega) (by omega)).1 | exact Ad_few5 of_17_0 fh2 (AdS_mk (s := h x0 9) fh7 fh10 fh13 fh16 fh18 fh21 (by omega) (by omega) (by omega) (by omega) (by omega)) | assumption | omega) (by first | exact (Ad_few of_17_0 fh2 (AdS_mk (s := h x0 9) fh7 fh10 fh13 fh16 fh18 fh21 (by omega) (by omega) (by omega) (by omega) (by omega)) rfl (by omega) (by omega)).1 | exact (Ad_few of_17_0 fh2 (AdS_mk (s := h x0 9) fh7 fh10 fh13 fh16 fh18 fh21 (by omega) (by omega) (by omega) (by omega) (by omega)) rfl (by omega) (by omega)).2 | exact AdE_A (Ad_few of_17_0 fh2 (AdS_mk (s := h x0 9) fh7 fh10 fh13 fh16 fh18 fh21 (by omega) (by omega) (by omega) (by omega) (by omega)) rfl (by omega) (by omega)).1 | exact Ad_few5 of_17_0 fh2 (AdS_mk (s := h x0 9) fh7 fh10 fh13 fh16 fh18 fh21 (by omega) (by omega) (by omega) (by omega) (by omega)) | assumption | omega) (by first | exact (Ad_few of_17_0 fh2 (AdS_mk (s := h x0 9) fh7 fh10 fh13 fh16 fh18 fh21 (by omega) (by omega) (by omega) (by omega) (by omega)) rfl (by omega) (by omega)).1 | exact (Ad_few of_17_0 fh2 (AdS_mk (s := h x0 9) fh7 fh10 fh13 fh16 fh18 fh21 (by omega) (by omega) (by omega) (by omega) (by omega)) rfl (by omega) (by omega)).2 | exact AdE_A (Ad_few of_17_0 fh2 (AdS_mk (s := h x0 9) fh7 fh10 fh13 fh16 fh18 fh21 (by omega) (by omega) (by omega) (by omega) (by omega)) rfl (by omega) (by omega)).1 | exact Ad_few5 of_17_0 fh2 (AdS_mk (s := h x0 9) fh7 fh10 fh13 fh16 fh18 fh21 (by omega) (by omega) (by omega) (by omega) (by omega)) | assumption | omega))
      ·
        refine w_aload_n gz_59_22 rfl ?_
        refine w_getX (v := (x0 + 6)) gz_59_23 t0 rd_4 rfl (by decide) rfl ?_
        refine w_iload_n gz_59_26 rfl ?_
        refine w_aload_n gz_59_27 rfl ?_
        refine w_getX (v := (x0 + 8)) gz_59_28 t0 rd_4 rfl (by decide) rfl ?_
        refine w_aload_n gz_59_31 rfl ?_
        refine w_getX (v := (x0 + 5)) gz_59_32 t0 rd_4 rfl (by decide) rfl ?_
        refine w_aload_n gz_59_35 rfl ?_
        refine v_getI (j := 9) gz_59_36 rfl t0 rd_4 rfl (fun v27 ev27 pv27 qv27 => ?_)
        have zv27 := ev27.trans ca0_9_17_0
        refine w_bipush gz_59_39 (by decide) ?_
        refine w_imul gz_59_41 ⟨by omega, by omega⟩ ?_
        refine w_iload_n gz_59_42 rfl ?_
        refine w_iadd gz_59_43 ⟨by omega, by omega⟩ ?_
        have hi28 : 0 ≤ ((v27 * 8) + p17_0) := by omega
        have hi29 : ((v27 * 8) + p17_0) ≤ 47 := by omega
        refine w_iald gz_59_44 (ix_4_5 t0) rd_36 (by omega) (by omega) (fun v30 ev30 pv30 qv30 => ?_)
        have pk9 : v30 = h17_0 (x0 + 5) (8 * h x0 9 + p17_0) := by
          rw [show 8 * h x0 9 + p17_0 = ((v27 * 8) + p17_0) by omega]
          omega
        refine w_iald gz_59_45 (ix_4_8 t0) rd_39 (by omega) (by omega) (fun v31 ev31 pv31 qv31 => ?_)
        refine w_iast gz_59_46 (ix_4_6 t0) rd_37 (by omega) (by omega) (by omega) (by omega) (fun h32 fh32 => ?_)
        have gh32 : my_fr [(4, 4), (4, 5), (4, 9), (32, -1), (33, -1), (34, -1), (35, -1), (37, -1), (39, -1)] h h32 := my_fr.up gh_17_0 (ix_4_6 t0) fh32 rfl
        have gxh32 : my_fx x0 8 h h32 := my_fx.up gx_17_0 fh32 (by omega)
        have AgL_h32 : my_ag AgF h h32 := AgL_ag (my_ag.up fh32 (ix_4_6 t0) rfl) n_AgL_17_0
        refine w_iinc (ls' := [(2, x0), (0, x1), (0, (p17_0 + 1))]) gz_59_47 rfl gm_59 rfl rfl rfl ⟨by omega, by omega⟩ ?_
        refine w_goto (t := 17) gz_59_50 rfl ?_
        exact ih_17_0 ((p17_0 + 1)) h32 (gh32) (gxh32) (by omega) (by omega) (by omega) (((my_up_role fh32 t0 (ix_4_6 t0) rfl).trans ev27.symm).trans (by omega)) AgL_h32 (by first | exact OfI_0 no_such_copy rfl | exact OfI_s of_17_0 fh32 rfl (by assumption) pk9 (by omega) (by omega) rfl | assumption | omega) (by omega)
  refine w_aload_n gz_59_0 rfl ?_
  refine w_getX (v := (x0 + 6)) gz_59_1 t0 rd_4 rfl (by decide) rfl ?_
  refine w_iconst gz_59_4 (by decide) ?_
  refine w_aload_n gz_59_5 rfl ?_
  refine w_getX (v := (x0 + 8)) gz_59_6 t0 rd_4 rfl (by decide) rfl ?_
  refine w_iconst gz_59_9 (by decide) ?_
  refine w_bipush gz_59_10 (by decide) ?_
  refine w_cpU gz_59_12 (ix_4_6 t0) rd_37 (ix_4_8 t0) rd_39 (by omega) (by omega) (by omega) (by omega) (by omega) rfl (by decide) (by decide) (fun h35 fh35 => ?_)
  have gh35 : my_fr [(4, 4), (4, 5), (4, 9), (32, -1), (33, -1), (34, -1), (35, -1), (37, -1), (39, -1)] h h35 := my_fr.cp my_fr.rf (ix_4_8 t0) fh35 rfl
  have gxh35 : my_fx x0 8 h h35 := my_fx.cp my_fx.rf fh35 (by omega)
  have AgL_h35 : my_ag AgF h h35 := AgL_ag (my_ag.cp fh35 (ix_4_8 t0) rfl) (my_ag.rf : my_ag AgF h h)
  refine w_iconst gz_59_15 (by decide) ?_
  refine w_istore_n (ls' := [(2, x0), (0, x1), (0, 0)]) gz_59_16 gm_59 rfl rfl rfl ?_
  exact J17_0 9 (0) h35 (gh35) (gxh35) (by omega) (by omega) (by omega) (((my_cp_role fh35 t0 (ix_4_8 t0) rfl).trans eka0_9.symm).trans (by omega)) AgL_h35 (by first | exact OfI_0 fh35 rfl | exact OfI_s of_17_0 no_such_saying rfl (by assumption) pk9 (by omega) (by omega) rfl | assumption | omega) (by omega)
end MYNModel_keeps7_f0
