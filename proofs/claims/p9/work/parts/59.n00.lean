/-! contracts, printed by wip/gen/gy.py -/
section MYNModel_cutAll9
theorem c_Model_cutAll9 {l : Launch} {rho : Nat → Int32} {d : Nat} {h : my_H} {Q : my_H → my_V → Prop} (k0 : ∀ (h' : my_H), my_fr [(10, 2), (10, 3), (10, 7), (10, 8), (52, -1), (53, -1), (54, -1)] h h' → h' 151 2 = 0 → h' 151 7 = 0 → h' 151 8 = 0 → (∃ n : Int, n ≤ 1000 ∧ Mt ((h 152, h 151 2) : (Int → Int) × Int) h' n) → Tok h' → Q h' (9, 0)) : wp l rho (d + 2) 169 0 [(2, 151), (9, 0), (9, 0), (9, 0), (9, 0), (9, 0), (9, 0)] [] h Q := by
  have J17_0 : ∀ (n : Nat) (p17_0 p17_1 p17_2 : Int) (h17_0 : my_H), my_fr [(10, 2), (10, 3), (10, 7), (10, 8), (52, -1), (53, -1), (54, -1)] h h17_0 → 0 ≤ p17_0 → p17_0 ≤ 1000 → 0 ≤ p17_1 → p17_1 ≤ 1000 → 0 ≤ p17_2 → p17_2 ≤ 1000 → p17_1 ≤ p17_2 → h17_0 151 2 = 0 → h17_0 151 3 = p17_2 → Tkn h17_0 p17_0 → p17_0 ≤ p17_1 → p17_1 ≤ h17_0 151 3 → (Mcu ((h 152, h 151 2) : (Int → Int) × Int) h17_0 p17_0 p17_1) → h17_0 151 3 = h 151 2 → 1001 - p17_1 ≤ (n : Int) → wp l rho (d + 2) 169 17 [(2, 151), (0, p17_0), (0, p17_1), (9, 0), (9, 0), (9, 0), (9, 0)] [] h17_0 Q := by
    intro n
    induction n with
    | zero => intro p17_0 p17_1 p17_2 h17_0 gh_17_0 q0_17_0 q1_17_0 q2_17_0 q3_17_0 q4_17_0 q5_17_0 q6_17_0 c151_2_17_0 c151_3_17_0 n_Tkn_17_0 nk_17_0 ks_17_0 mc_17_0 sz_17_0 hm_17_0; exfalso; omega
    | succ n ih_17_0 =>
      intro p17_0 p17_1 p17_2 h17_0 gh_17_0 q0_17_0 q1_17_0 q2_17_0 q3_17_0 q4_17_0 q5_17_0 q6_17_0 c151_2_17_0 c151_3_17_0 n_Tkn_17_0 nk_17_0 ks_17_0 mc_17_0 sz_17_0 hm_17_0
      have J159_0 : ∀ (n : Nat) (p159_0 p159_1 z159_l5 : Int) (h159_0 : my_H), my_fr [(10, 2), (10, 3), (10, 7), (10, 8), (52, -1), (53, -1), (54, -1)] h h159_0 → p17_0 ≤ 999 → 0 ≤ p159_0 → p159_0 ≤ 1000 → 48 ≤ p159_1 → p159_1 ≤ 57 → p17_1 ≤ 999 → 1 ≤ p17_2 → p159_0 ≤ p17_2 → p17_1 ≤ p159_0 → p17_1 ≤ (p17_2 - 1) → h159_0 151 2 = 0 → h159_0 151 3 = p17_2 → Tkn h159_0 p17_0 → p17_0 ≤ p17_1 → p17_1 ≤ p159_0 → (p159_0 = p17_1 → 48 ≤ h159_0 152 p17_1 ∧ h159_0 152 p17_1 ≤ 57) → p17_1 < h159_0 151 3 → p159_0 ≤ h159_0 151 3 → (0 ≤ z159_l5 ∧ z159_l5 ≤ 999 ∧ (p159_0 = p17_1 → z159_l5 = 0) ∧ (p159_0 = p17_1 + 1 → z159_l5 ≤ 9) ∧ (p159_0 = p17_1 + 2 → z159_l5 ≤ 99)) → (Mcu ((h 152, h 151 2) : (Int → Int) × Int) h159_0 p17_0 p17_1) → h159_0 154 p17_0 = p17_1 → h 152 p17_1 ≠ 10 ∧ h 152 p17_1 ≠ 32 → (∀ i : Int, p17_1 ≤ i → i < p159_0 → tk_k (h 152 i) = 2) → tk_k (h 152 p17_1) = 2 → h159_0 151 3 = h 151 2 → z159_l5 = tk_dv (h 152) p17_1 (min (p159_0 - p17_1) 3).toNat → 1001 - p159_0 ≤ (n : Int) → wp l rho (d + 2) 169 159 [(2, 151), (0, p17_0), (0, p159_0), (0, p159_1), (0, p17_1), (1, z159_l5), (9, 0)] [] h159_0 Q := by
        intro n
        induction n with
        | zero => intro p159_0 p159_1 z159_l5 h159_0 gh_159_0 q0_159_0 q1_159_0 q2_159_0 q3_159_0 q4_159_0 q5_159_0 q6_159_0 q7_159_0 q8_159_0 q9_159_0 c151_2_159_0 c151_3_159_0 n_Tkn_159_0 nk_159_0 fk_159_0 f0_159_0 ls_159_0 ks_159_0 vb_159_0 mc_159_0 pl_159_0 nb_159_0 rn_159_0 k0_159_0 sz_159_0 dv_159_0 hm_159_0; exfalso; omega
        | succ n ih_159_0 =>
          intro p159_0 p159_1 z159_l5 h159_0 gh_159_0 q0_159_0 q1_159_0 q2_159_0 q3_159_0 q4_159_0 q5_159_0 q6_159_0 q7_159_0 q8_159_0 q9_159_0 c151_2_159_0 c151_3_159_0 n_Tkn_159_0 nk_159_0 fk_159_0 f0_159_0 ls_159_0 ks_159_0 vb_159_0 mc_159_0 pl_159_0 nb_159_0 rn_159_0 k0_159_0 sz_159_0 dv_159_0 hm_159_0
          refine w_iload_n gz_169_159 rfl ?_
          refine w_aload_n gz_169_160 rfl ?_
          refine v_getI (j := 3) gz_169_161 rfl is_151 rd_10 rfl (fun v1 ev1 pv1 qv1 => ?_)
          have zv1 := ev1.trans c151_3_159_0
          refine w_icge (t := 218) gz_169_164 rfl (fun u2 => ?_) (fun u2 => ?_)
          ·
            have ne : p159_0 ≠ p17_1 := by intro q; have z := f0_159_0 q; rw [← q] at z; omega
            refine w_aload_n gz_169_218 rfl ?_
            refine w_getX (v := 153) gz_169_219 is_151 rd_10 rfl (by decide) rfl ?_
            refine w_iload_n gz_169_222 rfl ?_
            refine w_iload_n gz_169_223 rfl ?_
            refine w_iload gz_169_224 rfl ?_
            refine w_isub gz_169_226 ⟨by omega, by omega⟩ ?_
            refine w_iconst gz_169_227 (by decide) ?_
            refine w_icle (t := 235) gz_169_228 rfl (fun u4 => ?_) (fun u4 => ?_)
            ·
              refine w_iconst gz_169_235 (by decide) ?_
              have tkA := n_Tkn_159_0
              refine w_iast gz_169_236 is_153 rd_52 (by omega) (by omega) (by omega) (by omega) (fun h5 fh5 => ?_)
              have gh5 : my_fr [(10, 2), (10, 3), (10, 7), (10, 8), (52, -1), (53, -1), (54, -1)] h h5 := my_fr.up gh_159_0 is_153 fh5 rfl
              refine w_goto (t := 265) gz_169_237 rfl ?_
              refine w_aload_n gz_169_265 rfl ?_
              refine w_getX (v := 155) gz_169_266 is_151 rd_10 rfl (by decide) rfl ?_
              refine w_iload_n gz_169_269 rfl ?_
              refine w_lload gz_169_270 rfl ?_
              refine w_last gz_169_272 is_155 rd_54 (by omega) (by omega) (fun h7 fh7 => ?_)
              have gh7 : my_fr [(10, 2), (10, 3), (10, 7), (10, 8), (52, -1), (53, -1), (54, -1)] h h7 := my_fr.up gh5 is_155 fh7 rfl
              have tN : h7 153 p17_0 ≠ 0 ∧ (h7 153 p17_0 = 2 → 0 ≤ h7 155 p17_0 ∧ h7 155 p17_0 ≤ 999) := by rw [my_up_ne (x := 153) (i := p17_0) fh7 (by omega), my_up_self fh5, my_up_self fh7]; omega
              have Tkn_h7t8 : Tkn h7 (p17_0 + 1) := by
                intro i a b
                rcases (by omega : i = p17_0 ∨ i < p17_0) with q | q
                · subst q; exact tN
                · rw [my_up_ne (x := 153) (i := i) fh7 (by omega), my_up_ne (x := 153) (i := i) fh5 (by omega), my_up_ne (x := 155) (i := i) fh7 (by omega), my_up_ne (x := 155) (i := i) fh5 (by omega)]
                  exact tkA i a q
              have mA : Mcu ((h 152, h 151 2) : (Int → Int) × Int) h7 (p17_0 + 1) p159_0 := by first | exact Mcu_add (τ := ((h 152, h 151 2) : (Int → Int) × Int)) (κ := 2) mc_159_0 (by omega) rfl (tk_mk (c := 2) (by omega) nb_159_0.1 nb_159_0.2 (by omega) (by omega) k0_159_0 rn_159_0 (fun a b => by omega) (fun a => by omega) (by omega)) (by decide) (by rw [my_up_ne fh7 (by omega), my_up_self fh5]) (by rw [my_up_ne fh7 (by omega), my_up_ne fh5 (by omega)]; exact pl_159_0) (my_up_self fh7) (fun i q => by rw [my_up_ne fh7 (by omega), my_up_ne fh5 (by omega)]) (fun i q => by rw [my_up_ne fh7 (by omega), my_up_ne fh5 (by omega)]) (fun i q => by rw [my_up_ne fh7 (by omega), my_up_ne fh5 (by omega)]) (fun _ => ⟨by have q := dv_159_0; rw [show (min (p159_0 - p17_1) 3).toNat = (p159_0 - p17_1).toNat by omega] at q; exact q, by omega⟩) (fun z => absurd z (by decide)) (fun z => absurd z (by decide)) | exact Mcu_add (τ := ((h 152, h 151 2) : (Int → Int) × Int)) (κ := 4) mc_159_0 (by omega) rfl (tk_mk (c := 2) (by omega) nb_159_0.1 nb_159_0.2 (by omega) (by omega) k0_159_0 rn_159_0 (fun a b => by omega) (fun a => by omega) (by omega)) (by decide) (by rw [my_up_ne fh7 (by omega), my_up_self fh5]) (by rw [my_up_ne fh7 (by omega), my_up_ne fh5 (by omega)]; exact pl_159_0) (my_up_self fh7) (fun i q => by rw [my_up_ne fh7 (by omega), my_up_ne fh5 (by omega)]) (fun i q => by rw [my_up_ne fh7 (by omega), my_up_ne fh5 (by omega)]) (fun i q => by rw [my_up_ne fh7 (by omega), my_up_ne fh5 (by omega)]) (fun z => absurd z (by decide)) (fun z => absurd z (by decide)) (fun z => absurd z (by decide))
              refine w_iinc (ls' := [(2, 151), (0, (p17_0 + 1)), (0, p159_0), (0, p159_1), (0, p17_1), (1, z159_l5), (9, 0)]) gz_169_273 rfl gm_169 rfl rfl rfl ⟨by omega, by omega⟩ ?_
              refine w_goto (t := 17) gz_169_276 rfl ?_
              have ce9 : h7 151 3 = v1 := ((my_up_role fh7 is_151 is_155 rfl).trans ((my_up_role fh5 is_151 is_153 rfl).trans ev1.symm))
              have t3 : ∀ j : Int, h7 153 j = h5 153 j := fun j => ((my_up_role fh7 is_153 is_155 rfl).trans (rfl : h5 153 j = h5 153 j))
              have t5 : ∀ j : Int, h7 155 j = h7 155 j := fun j => rfl
              refine w_weak (ls' := [(2, 151), (0, (p17_0 + 1)), (0, p159_0), (9, 0), (9, 0), (9, 0), (9, 0)]) (wk_e (wk_e (wk_e (wk_9 (wk_9 (wk_9 (wk_9 wk_n))))))) ?_
              exact ih_17_0 ((p17_0 + 1)) (p159_0) (v1) h7 (gh7) (by omega) (by omega) (by omega) (by omega) (by omega) (by omega) (by omega) (((my_up_role fh7 is_151 is_155 rfl).trans ((my_up_role fh5 is_151 is_153 rfl).trans c151_2_159_0)).trans (by omega)) (((my_up_role fh7 is_151 is_155 rfl).trans ((my_up_role fh5 is_151 is_153 rfl).trans ev1.symm)).trans (by omega)) Tkn_h7t8 (by first | assumption | omega | (subst_vars; omega) | omega) (by first | assumption | omega | (subst_vars; omega) | omega) (by first | exact mA | exact Mcu_b mc_17_0 (by omega) (by show _ < h 151 2; omega) (by show h 152 _ = 10 ∨ h 152 _ = 32; omega) | exact Mcu_cg mc_17_0 (fun i q => t3 i) (fun i q => my_up_ne f62 (by omega)) (fun i q => t5 i) | exact mc_70_0 | exact mc_159_0 | exact Mcu_0 (by omega) (by omega) (by show 0 ≤ h 151 2; omega) | omega) (by omega) (by omega)
            ·
              refine w_iconst gz_169_231 (by decide) ?_
              refine w_goto (t := 236) gz_169_232 rfl ?_
              have tkA := n_Tkn_159_0
              refine w_iast gz_169_236 is_153 rd_52 (by omega) (by omega) (by omega) (by omega) (fun h10 fh10 => ?_)
              have gh10 : my_fr [(10, 2), (10, 3), (10, 7), (10, 8), (52, -1), (53, -1), (54, -1)] h h10 := my_fr.up gh_159_0 is_153 fh10 rfl
              refine w_goto (t := 265) gz_169_237 rfl ?_
              refine w_aload_n gz_169_265 rfl ?_
              refine w_getX (v := 155) gz_169_266 is_151 rd_10 rfl (by decide) rfl ?_
              refine w_iload_n gz_169_269 rfl ?_
              refine w_lload gz_169_270 rfl ?_
              refine w_last gz_169_272 is_155 rd_54 (by omega) (by omega) (fun h12 fh12 => ?_)
              have gh12 : my_fr [(10, 2), (10, 3), (10, 7), (10, 8), (52, -1), (53, -1), (54, -1)] h h12 := my_fr.up gh10 is_155 fh12 rfl
              have tN : h12 153 p17_0 ≠ 0 ∧ (h12 153 p17_0 = 2 → 0 ≤ h12 155 p17_0 ∧ h12 155 p17_0 ≤ 999) := by rw [my_up_ne (x := 153) (i := p17_0) fh12 (by omega), my_up_self fh10, my_up_self fh12]; omega
              have Tkn_h12t13 : Tkn h12 (p17_0 + 1) := by
                intro i a b
                rcases (by omega : i = p17_0 ∨ i < p17_0) with q | q
                · subst q; exact tN
                · rw [my_up_ne (x := 153) (i := i) fh12 (by omega), my_up_ne (x := 153) (i := i) fh10 (by omega), my_up_ne (x := 155) (i := i) fh12 (by omega), my_up_ne (x := 155) (i := i) fh10 (by omega)]
                  exact tkA i a q
              have mA : Mcu ((h 152, h 151 2) : (Int → Int) × Int) h12 (p17_0 + 1) p159_0 := by first | exact Mcu_add (τ := ((h 152, h 151 2) : (Int → Int) × Int)) (κ := 2) mc_159_0 (by omega) rfl (tk_mk (c := 2) (by omega) nb_159_0.1 nb_159_0.2 (by omega) (by omega) k0_159_0 rn_159_0 (fun a b => by omega) (fun a => by omega) (by omega)) (by decide) (by rw [my_up_ne fh12 (by omega), my_up_self fh10]) (by rw [my_up_ne fh12 (by omega), my_up_ne fh10 (by omega)]; exact pl_159_0) (my_up_self fh12) (fun i q => by rw [my_up_ne fh12 (by omega), my_up_ne fh10 (by omega)]) (fun i q => by rw [my_up_ne fh12 (by omega), my_up_ne fh10 (by omega)]) (fun i q => by rw [my_up_ne fh12 (by omega), my_up_ne fh10 (by omega)]) (fun _ => ⟨by have q := dv_159_0; rw [show (min (p159_0 - p17_1) 3).toNat = (p159_0 - p17_1).toNat by omega] at q; exact q, by omega⟩) (fun z => absurd z (by decide)) (fun z => absurd z (by decide)) | exact Mcu_add (τ := ((h 152, h 151 2) : (Int → Int) × Int)) (κ := 4) mc_159_0 (by omega) rfl (tk_mk (c := 2) (by omega) nb_159_0.1 nb_159_0.2 (by omega) (by omega) k0_159_0 rn_159_0 (fun a b => by omega) (fun a => by omega) (by omega)) (by decide) (by rw [my_up_ne fh12 (by omega), my_up_self fh10]) (by rw [my_up_ne fh12 (by omega), my_up_ne fh10 (by omega)]; exact pl_159_0) (my_up_self fh12) (fun i q => by rw [my_up_ne fh12 (by omega), my_up_ne fh10 (by omega)]) (fun i q => by rw [my_up_ne fh12 (by omega), my_up_ne fh10 (by omega)]) (fun i q => by rw [my_up_ne fh12 (by omega), my_up_ne fh10 (by omega)]) (fun z => absurd z (by decide)) (fun z => absurd z (by decide)) (fun z => absurd z (by decide))
              refine w_iinc (ls' := [(2, 151), (0, (p17_0 + 1)), (0, p159_0), (0, p159_1), (0, p17_1), (1, z159_l5), (9, 0)]) gz_169_273 rfl gm_169 rfl rfl rfl ⟨by omega, by omega⟩ ?_
              refine w_goto (t := 17) gz_169_276 rfl ?_
              have ce14 : h12 151 3 = v1 := ((my_up_role fh12 is_151 is_155 rfl).trans ((my_up_role fh10 is_151 is_153 rfl).trans ev1.symm))
              have t3 : ∀ j : Int, h12 153 j = h10 153 j := fun j => ((my_up_role fh12 is_153 is_155 rfl).trans (rfl : h10 153 j = h10 153 j))
              have t5 : ∀ j : Int, h12 155 j = h12 155 j := fun j => rfl
              refine w_weak (ls' := [(2, 151), (0, (p17_0 + 1)), (0, p159_0), (9, 0), (9, 0), (9, 0), (9, 0)]) (wk_e (wk_e (wk_e (wk_9 (wk_9 (wk_9 (wk_9 wk_n))))))) ?_
              exact ih_17_0 ((p17_0 + 1)) (p159_0) (v1) h12 (gh12) (by omega) (by omega) (by omega) (by omega) (by omega) (by omega) (by omega) (((my_up_role fh12 is_151 is_155 rfl).trans ((my_up_role fh10 is_151 is_153 rfl).trans c151_2_159_0)).trans (by omega)) (((my_up_role fh12 is_151 is_155 rfl).trans ((my_up_role fh10 is_151 is_153 rfl).trans ev1.symm)).trans (by omega)) Tkn_h12t13 (by first | assumption | omega | (subst_vars; omega) | omega) (by first | assumption | omega | (subst_vars; omega) | omega) (by first | exact mA | exact Mcu_b mc_17_0 (by omega) (by show _ < h 151 2; omega) (by show h 152 _ = 10 ∨ h 152 _ = 32; omega) | exact Mcu_cg mc_17_0 (fun i q => t3 i) (fun i q => my_up_ne f62 (by omega)) (fun i q => t5 i) | exact mc_70_0 | exact mc_159_0 | exact Mcu_0 (by omega) (by omega) (by show 0 ≤ h 151 2; omega) | omega) (by omega) (by omega)
          ·
            refine w_aload_n gz_169_167 rfl ?_
            refine w_getX (v := 152) gz_169_168 is_151 rd_10 rfl (by decide) rfl ?_
            refine w_iload_n gz_169_171 rfl ?_
            refine w_iald gz_169_172 is_152 rd_51 (by omega) (by omega) (fun v16 ev16 pv16 qv16 => ?_)
            have c173 : v16 = h 152 p159_0 := by
              have z := my_fr.at (j := p159_0) gh_159_0 is_152 rfl
              omega
            have kz2 := tk_kk (h 152 p159_0)
            refine w_inS (k := 0) (as := [(0, v16)]) (r := []) (ls0 := [(0, v16)]) gz_169_173 gm_172 rfl rfl rfl rfl rfl rfl ?_
            refine w_iload_n gz_172_0 rfl ?_
            refine w_bipush gz_172_1 (by decide) ?_
            refine w_iclt (t := 16) gz_172_3 rfl (fun u17 => ?_) (fun u17 => ?_)
            ·
              refine w_iconst gz_172_16 (by decide) ?_
              refine w_bret gz_172_17 gm_172 (by omega) (by omega) ?_
              show wp l rho (d + 2) 169 176 [(2, 151), (0, p17_0), (0, p159_0), (0, p159_1), (0, p17_1), (1, z159_l5), (9, 0)] [(0, 0)] h159_0 Q
              refine w_ifeq (t := 218) gz_169_176 rfl (fun u18 => ?_) (fun u18 => by exfalso; omega)
              have ne : p159_0 ≠ p17_1 := by intro q; have z := f0_159_0 q; rw [← q] at z; omega
              refine w_aload_n gz_169_218 rfl ?_
              refine w_getX (v := 153) gz_169_219 is_151 rd_10 rfl (by decide) rfl ?_
              refine w_iload_n gz_169_222 rfl ?_
              refine w_iload_n gz_169_223 rfl ?_
              refine w_iload gz_169_224 rfl ?_
              refine w_isub gz_169_226 ⟨by omega, by omega⟩ ?_
              refine w_iconst gz_169_227 (by decide) ?_
              refine w_icle (t := 235) gz_169_228 rfl (fun u20 => ?_) (fun u20 => ?_)
              ·
                refine w_iconst gz_169_235 (by decide) ?_
                have tkA := n_Tkn_159_0
                refine w_iast gz_169_236 is_153 rd_52 (by omega) (by omega) (by omega) (by omega) (fun h21 fh21 => ?_)
                have gh21 : my_fr [(10, 2), (10, 3), (10, 7), (10, 8), (52, -1), (53, -1), (54, -1)] h h21 := my_fr.up gh_159_0 is_153 fh21 rfl
                refine w_goto (t := 265) gz_169_237 rfl ?_
                refine w_aload_n gz_169_265 rfl ?_
                refine w_getX (v := 155) gz_169_266 is_151 rd_10 rfl (by decide) rfl ?_
                refine w_iload_n gz_169_269 rfl ?_
                refine w_lload gz_169_270 rfl ?_
                refine w_last gz_169_272 is_155 rd_54 (by omega) (by omega) (fun h23 fh23 => ?_)
                have gh23 : my_fr [(10, 2), (10, 3), (10, 7), (10, 8), (52, -1), (53, -1), (54, -1)] h h23 := my_fr.up gh21 is_155 fh23 rfl
                have tN : h23 153 p17_0 ≠ 0 ∧ (h23 153 p17_0 = 2 → 0 ≤ h23 155 p17_0 ∧ h23 155 p17_0 ≤ 999) := by rw [my_up_ne (x := 153) (i := p17_0) fh23 (by omega), my_up_self fh21, my_up_self fh23]; omega
                have Tkn_h23t24 : Tkn h23 (p17_0 + 1) := by
                  intro i a b
                  rcases (by omega : i = p17_0 ∨ i < p17_0) with q | q
                  · subst q; exact tN
                  · rw [my_up_ne (x := 153) (i := i) fh23 (by omega), my_up_ne (x := 153) (i := i) fh21 (by omega), my_up_ne (x := 155) (i := i) fh23 (by omega), my_up_ne (x := 155) (i := i) fh21 (by omega)]
                    exact tkA i a q
                have mA : Mcu ((h 152, h 151 2) : (Int → Int) × Int) h23 (p17_0 + 1) p159_0 := by first | exact Mcu_add (τ := ((h 152, h 151 2) : (Int → Int) × Int)) (κ := 2) mc_159_0 (by omega) rfl (tk_mk (c := 2) (by omega) nb_159_0.1 nb_159_0.2 (by omega) (by omega) k0_159_0 rn_159_0 (fun a b => by omega) (fun a => by omega) (by omega)) (by decide) (by rw [my_up_ne fh23 (by omega), my_up_self fh21]) (by rw [my_up_ne fh23 (by omega), my_up_ne fh21 (by omega)]; exact pl_159_0) (my_up_self fh23) (fun i q => by rw [my_up_ne fh23 (by omega), my_up_ne fh21 (by omega)]) (fun i q => by rw [my_up_ne fh23 (by omega), my_up_ne fh21 (by omega)]) (fun i q => by rw [my_up_ne fh23 (by omega), my_up_ne fh21 (by omega)]) (fun _ => ⟨by have q := dv_159_0; rw [show (min (p159_0 - p17_1) 3).toNat = (p159_0 - p17_1).toNat by omega] at q; exact q, by omega⟩) (fun z => absurd z (by decide)) (fun z => absurd z (by decide)) | exact Mcu_add (τ := ((h 152, h 151 2) : (Int → Int) × Int)) (κ := 4) mc_159_0 (by omega) rfl (tk_mk (c := 2) (by omega) nb_159_0.1 nb_159_0.2 (by omega) (by omega) k0_159_0 rn_159_0 (fun a b => by omega) (fun a => by omega) (by omega)) (by decide) (by rw [my_up_ne fh23 (by omega), my_up_self fh21]) (by rw [my_up_ne fh23 (by omega), my_up_ne fh21 (by omega)]; exact pl_159_0) (my_up_self fh23) (fun i q => by rw [my_up_ne fh23 (by omega), my_up_ne fh21 (by omega)]) (fun i q => by rw [my_up_ne fh23 (by omega), my_up_ne fh21 (by omega)]) (fun i q => by rw [my_up_ne fh23 (by omega), my_up_ne fh21 (by omega)]) (fun z => absurd z (by decide)) (fun z => absurd z (by decide)) (fun z => absurd z (by decide))
                refine w_iinc (ls' := [(2, 151), (0, (p17_0 + 1)), (0, p159_0), (0, p159_1), (0, p17_1), (1, z159_l5), (9, 0)]) gz_169_273 rfl gm_169 rfl rfl rfl ⟨by omega, by omega⟩ ?_
                refine w_goto (t := 17) gz_169_276 rfl ?_
                have ce25 : h23 151 3 = v1 := ((my_up_role fh23 is_151 is_155 rfl).trans ((my_up_role fh21 is_151 is_153 rfl).trans ev1.symm))
                have t3 : ∀ j : Int, h23 153 j = h21 153 j := fun j => ((my_up_role fh23 is_153 is_155 rfl).trans (rfl : h21 153 j = h21 153 j))
                have t5 : ∀ j : Int, h23 155 j = h23 155 j := fun j => rfl
                refine w_weak (ls' := [(2, 151), (0, (p17_0 + 1)), (0, p159_0), (9, 0), (9, 0), (9, 0), (9, 0)]) (wk_e (wk_e (wk_e (wk_9 (wk_9 (wk_9 (wk_9 wk_n))))))) ?_
                exact ih_17_0 ((p17_0 + 1)) (p159_0) (v1) h23 (gh23) (by omega) (by omega) (by omega) (by omega) (by omega) (by omega) (by omega) (((my_up_role fh23 is_151 is_155 rfl).trans ((my_up_role fh21 is_151 is_153 rfl).trans c151_2_159_0)).trans (by omega)) (((my_up_role fh23 is_151 is_155 rfl).trans ((my_up_role fh21 is_151 is_153 rfl).trans ev1.symm)).trans (by omega)) Tkn_h23t24 (by first | assumption | omega | (subst_vars; omega) | omega) (by first | assumption | omega | (subst_vars; omega) | omega) (by first | exact mA | exact Mcu_b mc_17_0 (by omega) (by show _ < h 151 2; omega) (by show h 152 _ = 10 ∨ h 152 _ = 32; omega) | exact Mcu_cg mc_17_0 (fun i q => t3 i) (fun i q => my_up_ne f62 (by omega)) (fun i q => t5 i) | exact mc_70_0 | exact mc_159_0 | exact Mcu_0 (by omega) (by omega) (by show 0 ≤ h 151 2; omega) | omega) (by omega) (by omega)
              ·
                refine w_iconst gz_169_231 (by decide) ?_
                refine w_goto (t := 236) gz_169_232 rfl ?_
                have tkA := n_Tkn_159_0
                refine w_iast gz_169_236 is_153 rd_52 (by omega) (by omega) (by omega) (by omega) (fun h26 fh26 => ?_)
                have gh26 : my_fr [(10, 2), (10, 3), (10, 7), (10, 8), (52, -1), (53, -1), (54, -1)] h h26 := my_fr.up gh_159_0 is_153 fh26 rfl
                refine w_goto (t := 265) gz_169_237 rfl ?_
                refine w_aload_n gz_169_265 rfl ?_
                refine w_getX (v := 155) gz_169_266 is_151 rd_10 rfl (by decide) rfl ?_
                refine w_iload_n gz_169_269 rfl ?_
                refine w_lload gz_169_270 rfl ?_
                refine w_last gz_169_272 is_155 rd_54 (by omega) (by omega) (fun h28 fh28 => ?_)
                have gh28 : my_fr [(10, 2), (10, 3), (10, 7), (10, 8), (52, -1), (53, -1), (54, -1)] h h28 := my_fr.up gh26 is_155 fh28 rfl
                have tN : h28 153 p17_0 ≠ 0 ∧ (h28 153 p17_0 = 2 → 0 ≤ h28 155 p17_0 ∧ h28 155 p17_0 ≤ 999) := by rw [my_up_ne (x := 153) (i := p17_0) fh28 (by omega), my_up_self fh26, my_up_self fh28]; omega
                have Tkn_h28t29 : Tkn h28 (p17_0 + 1) := by
                  intro i a b
                  rcases (by omega : i = p17_0 ∨ i < p17_0) with q | q
                  · subst q; exact tN
                  · rw [my_up_ne (x := 153) (i := i) fh28 (by omega), my_up_ne (x := 153) (i := i) fh26 (by omega), my_up_ne (x := 155) (i := i) fh28 (by omega), my_up_ne (x := 155) (i := i) fh26 (by omega)]
                    exact tkA i a q
                have mA : Mcu ((h 152, h 151 2) : (Int → Int) × Int) h28 (p17_0 + 1) p159_0 := by first | exact Mcu_add (τ := ((h 152, h 151 2) : (Int → Int) × Int)) (κ := 2) mc_159_0 (by omega) rfl (tk_mk (c := 2) (by omega) nb_159_0.1 nb_159_0.2 (by omega) (by omega) k0_159_0 rn_159_0 (fun a b => by omega) (fun a => by omega) (by omega)) (by decide) (by rw [my_up_ne fh28 (by omega), my_up_self fh26]) (by rw [my_up_ne fh28 (by omega), my_up_ne fh26 (by omega)]; exact pl_159_0) (my_up_self fh28) (fun i q => by rw [my_up_ne fh28 (by omega), my_up_ne fh26 (by omega)]) (fun i q => by rw [my_up_ne fh28 (by omega), my_up_ne fh26 (by omega)]) (fun i q => by rw [my_up_ne fh28 (by omega), my_up_ne fh26 (by omega)]) (fun _ => ⟨by have q := dv_159_0; rw [show (min (p159_0 - p17_1) 3).toNat = (p159_0 - p17_1).toNat by omega] at q; exact q, by omega⟩) (fun z => absurd z (by decide)) (fun z => absurd z (by decide)) | exact Mcu_add (τ := ((h 152, h 151 2) : (Int → Int) × Int)) (κ := 4) mc_159_0 (by omega) rfl (tk_mk (c := 2) (by omega) nb_159_0.1 nb_159_0.2 (by omega) (by omega) k0_159_0 rn_159_0 (fun a b => by omega) (fun a => by omega) (by omega)) (by decide) (by rw [my_up_ne fh28 (by omega), my_up_self fh26]) (by rw [my_up_ne fh28 (by omega), my_up_ne fh26 (by omega)]; exact pl_159_0) (my_up_self fh28) (fun i q => by rw [my_up_ne fh28 (by omega), my_up_ne fh26 (by omega)]) (fun i q => by rw [my_up_ne fh28 (by omega), my_up_ne fh26 (by omega)]) (fun i q => by rw [my_up_ne fh28 (by omega), my_up_ne fh26 (by omega)]) (fun z => absurd z (by decide)) (fun z => absurd z (by decide)) (fun z => absurd z (by decide))
                refine w_iinc (ls' := [(2, 151), (0, (p17_0 + 1)), (0, p159_0), (0, p159_1), (0, p17_1), (1, z159_l5), (9, 0)]) gz_169_273 rfl gm_169 rfl rfl rfl ⟨by omega, by omega⟩ ?_
                refine w_goto (t := 17) gz_169_276 rfl ?_
                have ce30 : h28 151 3 = v1 := ((my_up_role fh28 is_151 is_155 rfl).trans ((my_up_role fh26 is_151 is_153 rfl).trans ev1.symm))
                have t3 : ∀ j : Int, h28 153 j = h26 153 j := fun j => ((my_up_role fh28 is_153 is_155 rfl).trans (rfl : h26 153 j = h26 153 j))
                have t5 : ∀ j : Int, h28 155 j = h28 155 j := fun j => rfl
                refine w_weak (ls' := [(2, 151), (0, (p17_0 + 1)), (0, p159_0), (9, 0), (9, 0), (9, 0), (9, 0)]) (wk_e (wk_e (wk_e (wk_9 (wk_9 (wk_9 (wk_9 wk_n))))))) ?_
                exact ih_17_0 ((p17_0 + 1)) (p159_0) (v1) h28 (gh28) (by omega) (by omega) (by omega) (by omega) (by omega) (by omega) (by omega) (((my_up_role fh28 is_151 is_155 rfl).trans ((my_up_role fh26 is_151 is_153 rfl).trans c151_2_159_0)).trans (by omega)) (((my_up_role fh28 is_151 is_155 rfl).trans ((my_up_role fh26 is_151 is_153 rfl).trans ev1.symm)).trans (by omega)) Tkn_h28t29 (by first | assumption | omega | (subst_vars; omega) | omega) (by first | assumption | omega | (subst_vars; omega) | omega) (by first | exact mA | exact Mcu_b mc_17_0 (by omega) (by show _ < h 151 2; omega) (by show h 152 _ = 10 ∨ h 152 _ = 32; omega) | exact Mcu_cg mc_17_0 (fun i q => t3 i) (fun i q => my_up_ne f62 (by omega)) (fun i q => t5 i) | exact mc_70_0 | exact mc_159_0 | exact Mcu_0 (by omega) (by omega) (by show 0 ≤ h 151 2; omega) | omega) (by omega) (by omega)
            ·
              refine w_iload_n gz_172_6 rfl ?_
              refine w_bipush gz_172_7 (by decide) ?_
              refine w_icgt (t := 16) gz_172_9 rfl (fun u31 => ?_) (fun u31 => ?_)
              ·
                refine w_iconst gz_172_16 (by decide) ?_
                refine w_bret gz_172_17 gm_172 (by omega) (by omega) ?_
                show wp l rho (d + 2) 169 176 [(2, 151), (0, p17_0), (0, p159_0), (0, p159_1), (0, p17_1), (1, z159_l5), (9, 0)] [(0, 0)] h159_0 Q
                refine w_ifeq (t := 218) gz_169_176 rfl (fun u32 => ?_) (fun u32 => by exfalso; omega)
                have ne : p159_0 ≠ p17_1 := by intro q; have z := f0_159_0 q; rw [← q] at z; omega
                refine w_aload_n gz_169_218 rfl ?_
                refine w_getX (v := 153) gz_169_219 is_151 rd_10 rfl (by decide) rfl ?_
                refine w_iload_n gz_169_222 rfl ?_
                refine w_iload_n gz_169_223 rfl ?_
                refine w_iload gz_169_224 rfl ?_
                refine w_isub gz_169_226 ⟨by omega, by omega⟩ ?_
                refine w_iconst gz_169_227 (by decide) ?_
                refine w_icle (t := 235) gz_169_228 rfl (fun u34 => ?_) (fun u34 => ?_)
                ·
                  refine w_iconst gz_169_235 (by decide) ?_
                  have tkA := n_Tkn_159_0
                  refine w_iast gz_169_236 is_153 rd_52 (by omega) (by omega) (by omega) (by omega) (fun h35 fh35 => ?_)
                  have gh35 : my_fr [(10, 2), (10, 3), (10, 7), (10, 8), (52, -1), (53, -1), (54, -1)] h h35 := my_fr.up gh_159_0 is_153 fh35 rfl
                  refine w_goto (t := 265) gz_169_237 rfl ?_
                  refine w_aload_n gz_169_265 rfl ?_
                  refine w_getX (v := 155) gz_169_266 is_151 rd_10 rfl (by decide) rfl ?_
                  refine w_iload_n gz_169_269 rfl ?_
                  refine w_lload gz_169_270 rfl ?_
                  refine w_last gz_169_272 is_155 rd_54 (by omega) (by omega) (fun h37 fh37 => ?_)
                  have gh37 : my_fr [(10, 2), (10, 3), (10, 7), (10, 8), (52, -1), (53, -1), (54, -1)] h h37 := my_fr.up gh35 is_155 fh37 rfl
                  have tN : h37 153 p17_0 ≠ 0 ∧ (h37 153 p17_0 = 2 → 0 ≤ h37 155 p17_0 ∧ h37 155 p17_0 ≤ 999) := by rw [my_up_ne (x := 153) (i := p17_0) fh37 (by omega), my_up_self fh35, my_up_self fh37]; omega
                  have Tkn_h37t38 : Tkn h37 (p17_0 + 1) := by
                    intro i a b
                    rcases (by omega : i = p17_0 ∨ i < p17_0) with q | q
                    · subst q; exact tN
                    · rw [my_up_ne (x := 153) (i := i) fh37 (by omega), my_up_ne (x := 153) (i := i) fh35 (by omega), my_up_ne (x := 155) (i := i) fh37 (by omega), my_up_ne (x := 155) (i := i) fh35 (by omega)]
                      exact tkA i a q
                  have mA : Mcu ((h 152, h 151 2) : (Int → Int) × Int) h37 (p17_0 + 1) p159_0 := by first | exact Mcu_add (τ := ((h 152, h 151 2) : (Int → Int) × Int)) (κ := 2) mc_159_0 (by omega) rfl (tk_mk (c := 2) (by omega) nb_159_0.1 nb_159_0.2 (by omega) (by omega) k0_159_0 rn_159_0 (fun a b => by omega) (fun a => by omega) (by omega)) (by decide) (by rw [my_up_ne fh37 (by omega), my_up_self fh35]) (by rw [my_up_ne fh37 (by omega), my_up_ne fh35 (by omega)]; exact pl_159_0) (my_up_self fh37) (fun i q => by rw [my_up_ne fh37 (by omega), my_up_ne fh35 (by omega)]) (fun i q => by rw [my_up_ne fh37 (by omega), my_up_ne fh35 (by omega)]) (fun i q => by rw [my_up_ne fh37 (by omega), my_up_ne fh35 (by omega)]) (fun _ => ⟨by have q := dv_159_0; rw [show (min (p159_0 - p17_1) 3).toNat = (p159_0 - p17_1).toNat by omega] at q; exact q, by omega⟩) (fun z => absurd z (by decide)) (fun z => absurd z (by decide)) | exact Mcu_add (τ := ((h 152, h 151 2) : (Int → Int) × Int)) (κ := 4) mc_159_0 (by omega) rfl (tk_mk (c := 2) (by omega) nb_159_0.1 nb_159_0.2 (by omega) (by omega) k0_159_0 rn_159_0 (fun a b => by omega) (fun a => by omega) (by omega)) (by decide) (by rw [my_up_ne fh37 (by omega), my_up_self fh35]) (by rw [my_up_ne fh37 (by omega), my_up_ne fh35 (by omega)]; exact pl_159_0) (my_up_self fh37) (fun i q => by rw [my_up_ne fh37 (by omega), my_up_ne fh35 (by omega)]) (fun i q => by rw [my_up_ne fh37 (by omega), my_up_ne fh35 (by omega)]) (fun i q => by rw [my_up_ne fh37 (by omega), my_up_ne fh35 (by omega)]) (fun z => absurd z (by decide)) (fun z => absurd z (by decide)) (fun z => absurd z (by decide))
                  refine w_iinc (ls' := [(2, 151), (0, (p17_0 + 1)), (0, p159_0), (0, p159_1), (0, p17_1), (1, z159_l5), (9, 0)]) gz_169_273 rfl gm_169 rfl rfl rfl ⟨by omega, by omega⟩ ?_
                  refine w_goto (t := 17) gz_169_276 rfl ?_
                  have ce39 : h37 151 3 = v1 := ((my_up_role fh37 is_151 is_155 rfl).trans ((my_up_role fh35 is_151 is_153 rfl).trans ev1.symm))
                  have t3 : ∀ j : Int, h37 153 j = h35 153 j := fun j => ((my_up_role fh37 is_153 is_155 rfl).trans (rfl : h35 153 j = h35 153 j))
                  have t5 : ∀ j : Int, h37 155 j = h37 155 j := fun j => rfl
                  refine w_weak (ls' := [(2, 151), (0, (p17_0 + 1)), (0, p159_0), (9, 0), (9, 0), (9, 0), (9, 0)]) (wk_e (wk_e (wk_e (wk_9 (wk_9 (wk_9 (wk_9 wk_n))))))) ?_
                  exact ih_17_0 ((p17_0 + 1)) (p159_0) (v1) h37 (gh37) (by omega) (by omega) (by omega) (by omega) (by omega) (by omega) (by omega) (((my_up_role fh37 is_151 is_155 rfl).trans ((my_up_role fh35 is_151 is_153 rfl).trans c151_2_159_0)).trans (by omega)) (((my_up_role fh37 is_151 is_155 rfl).trans ((my_up_role fh35 is_151 is_153 rfl).trans ev1.symm)).trans (by omega)) Tkn_h37t38 (by first | assumption | omega | (subst_vars; omega) | omega) (by first | assumption | omega | (subst_vars; omega) | omega) (by first | exact mA | exact Mcu_b mc_17_0 (by omega) (by show _ < h 151 2; omega) (by show h 152 _ = 10 ∨ h 152 _ = 32; omega) | exact Mcu_cg mc_17_0 (fun i q => t3 i) (fun i q => my_up_ne f62 (by omega)) (fun i q => t5 i) | exact mc_70_0 | exact mc_159_0 | exact Mcu_0 (by omega) (by omega) (by show 0 ≤ h 151 2; omega) | omega) (by omega) (by omega)
                ·
                  refine w_iconst gz_169_231 (by decide) ?_
                  refine w_goto (t := 236) gz_169_232 rfl ?_
                  have tkA := n_Tkn_159_0
                  refine w_iast gz_169_236 is_153 rd_52 (by omega) (by omega) (by omega) (by omega) (fun h40 fh40 => ?_)
                  have gh40 : my_fr [(10, 2), (10, 3), (10, 7), (10, 8), (52, -1), (53, -1), (54, -1)] h h40 := my_fr.up gh_159_0 is_153 fh40 rfl
                  refine w_goto (t := 265) gz_169_237 rfl ?_
                  refine w_aload_n gz_169_265 rfl ?_
                  refine w_getX (v := 155) gz_169_266 is_151 rd_10 rfl (by decide) rfl ?_
                  refine w_iload_n gz_169_269 rfl ?_
                  refine w_lload gz_169_270 rfl ?_
                  refine w_last gz_169_272 is_155 rd_54 (by omega) (by omega) (fun h42 fh42 => ?_)
                  have gh42 : my_fr [(10, 2), (10, 3), (10, 7), (10, 8), (52, -1), (53, -1), (54, -1)] h h42 := my_fr.up gh40 is_155 fh42 rfl
                  have tN : h42 153 p17_0 ≠ 0 ∧ (h42 153 p17_0 = 2 → 0 ≤ h42 155 p17_0 ∧ h42 155 p17_0 ≤ 999) := by rw [my_up_ne (x := 153) (i := p17_0) fh42 (by omega), my_up_self fh40, my_up_self fh42]; omega
                  have Tkn_h42t43 : Tkn h42 (p17_0 + 1) := by
                    intro i a b
                    rcases (by omega : i = p17_0 ∨ i < p17_0) with q | q
                    · subst q; exact tN
                    · rw [my_up_ne (x := 153) (i := i) fh42 (by omega), my_up_ne (x := 153) (i := i) fh40 (by omega), my_up_ne (x := 155) (i := i) fh42 (by omega), my_up_ne (x := 155) (i := i) fh40 (by omega)]
                      exact tkA i a q
                  have mA : Mcu ((h 152, h 151 2) : (Int → Int) × Int) h42 (p17_0 + 1) p159_0 := by first | exact Mcu_add (τ := ((h 152, h 151 2) : (Int → Int) × Int)) (κ := 2) mc_159_0 (by omega) rfl (tk_mk (c := 2) (by omega) nb_159_0.1 nb_159_0.2 (by omega) (by omega) k0_159_0 rn_159_0 (fun a b => by omega) (fun a => by omega) (by omega)) (by decide) (by rw [my_up_ne fh42 (by omega), my_up_self fh40]) (by rw [my_up_ne fh42 (by omega), my_up_ne fh40 (by omega)]; exact pl_159_0) (my_up_self fh42) (fun i q => by rw [my_up_ne fh42 (by omega), my_up_ne fh40 (by omega)]) (fun i q => by rw [my_up_ne fh42 (by omega), my_up_ne fh40 (by omega)]) (fun i q => by rw [my_up_ne fh42 (by omega), my_up_ne fh40 (by omega)]) (fun _ => ⟨by have q := dv_159_0; rw [show (min (p159_0 - p17_1) 3).toNat = (p159_0 - p17_1).toNat by omega] at q; exact q, by omega⟩) (fun z => absurd z (by decide)) (fun z => absurd z (by decide)) | exact Mcu_add (τ := ((h 152, h 151 2) : (Int → Int) × Int)) (κ := 4) mc_159_0 (by omega) rfl (tk_mk (c := 2) (by omega) nb_159_0.1 nb_159_0.2 (by omega) (by omega) k0_159_0 rn_159_0 (fun a b => by omega) (fun a => by omega) (by omega)) (by decide) (by rw [my_up_ne fh42 (by omega), my_up_self fh40]) (by rw [my_up_ne fh42 (by omega), my_up_ne fh40 (by omega)]; exact pl_159_0) (my_up_self fh42) (fun i q => by rw [my_up_ne fh42 (by omega), my_up_ne fh40 (by omega)]) (fun i q => by rw [my_up_ne fh42 (by omega), my_up_ne fh40 (by omega)]) (fun i q => by rw [my_up_ne fh42 (by omega), my_up_ne fh40 (by omega)]) (fun z => absurd z (by decide)) (fun z => absurd z (by decide)) (fun z => absurd z (by decide))
                  refine w_iinc (ls' := [(2, 151), (0, (p17_0 + 1)), (0, p159_0), (0, p159_1), (0, p17_1), (1, z159_l5), (9, 0)]) gz_169_273 rfl gm_169 rfl rfl rfl ⟨by omega, by omega⟩ ?_
                  refine w_goto (t := 17) gz_169_276 rfl ?_
                  have ce44 : h42 151 3 = v1 := ((my_up_role fh42 is_151 is_155 rfl).trans ((my_up_role fh40 is_151 is_153 rfl).trans ev1.symm))
                  have t3 : ∀ j : Int, h42 153 j = h40 153 j := fun j => ((my_up_role fh42 is_153 is_155 rfl).trans (rfl : h40 153 j = h40 153 j))
                  have t5 : ∀ j : Int, h42 155 j = h42 155 j := fun j => rfl
                  refine w_weak (ls' := [(2, 151), (0, (p17_0 + 1)), (0, p159_0), (9, 0), (9, 0), (9, 0), (9, 0)]) (wk_e (wk_e (wk_e (wk_9 (wk_9 (wk_9 (wk_9 wk_n))))))) ?_
                  exact ih_17_0 ((p17_0 + 1)) (p159_0) (v1) h42 (gh42) (by omega) (by omega) (by omega) (by omega) (by omega) (by omega) (by omega) (((my_up_role fh42 is_151 is_155 rfl).trans ((my_up_role fh40 is_151 is_153 rfl).trans c151_2_159_0)).trans (by omega)) (((my_up_role fh42 is_151 is_155 rfl).trans ((my_up_role fh40 is_151 is_153 rfl).trans ev1.symm)).trans (by omega)) Tkn_h42t43 (by first | assumption | omega | (subst_vars; omega) | omega) (by first | assumption | omega | (subst_vars; omega) | omega) (by first | exact mA | exact Mcu_b mc_17_0 (by omega) (by show _ < h 151 2; omega) (by show h 152 _ = 10 ∨ h 152 _ = 32; omega) | exact Mcu_cg mc_17_0 (fun i q => t3 i) (fun i q => my_up_ne f62 (by omega)) (fun i q => t5 i) | exact mc_70_0 | exact mc_159_0 | exact Mcu_0 (by omega) (by omega) (by show 0 ≤ h 151 2; omega) | omega) (by omega) (by omega)
              ·
                refine w_iconst gz_172_12 (by decide) ?_
                refine w_goto (t := 17) gz_172_13 rfl ?_
                refine w_bret gz_172_17 gm_172 (by omega) (by omega) ?_
                show wp l rho (d + 2) 169 176 [(2, 151), (0, p17_0), (0, p159_0), (0, p159_1), (0, p17_1), (1, z159_l5), (9, 0)] [(0, 1)] h159_0 Q
                refine w_ifeq (t := 218) gz_169_176 rfl (fun u45 => by exfalso; omega) (fun u45 => ?_)
                refine w_iload_n gz_169_179 rfl ?_
                refine w_iload gz_169_180 rfl ?_
                refine w_isub gz_169_182 ⟨by omega, by omega⟩ ?_
                refine w_iconst gz_169_183 (by decide) ?_
                refine w_icge (t := 208) gz_169_184 rfl (fun u46 => ?_) (fun u46 => ?_)
                ·
                  refine w_lload gz_169_208 rfl ?_
                  refine w_lstore (ls' := [(2, 151), (0, p17_0), (0, p159_0), (0, p159_1), (0, p17_1), (1, z159_l5), (9, 0)]) gz_169_210 gm_169 rfl rfl rfl ?_
                  refine w_iinc (ls' := [(2, 151), (0, p17_0), (0, (p159_0 + 1)), (0, p159_1), (0, p17_1), (1, z159_l5), (9, 0)]) gz_169_212 rfl gm_169 rfl rfl rfl ⟨by omega, by omega⟩ ?_
                  refine w_goto (t := 159) gz_169_215 rfl ?_
                  have ce47 : h159_0 151 3 = v1 := ev1.symm
                  have tp : ∀ j : Int, h159_0 152 j = h159_0 152 j := fun _ => rfl
                  have t3 : ∀ j : Int, h159_0 153 j = h159_0 153 j := fun _ => rfl
                  have t5 : ∀ j : Int, h159_0 155 j = h159_0 155 j := fun _ => rfl
                  exact ih_159_0 ((p159_0 + 1)) (p159_1) (z159_l5) h159_0 (gh_159_0) (by omega) (by omega) (by omega) (by omega) (by omega) (by omega) (by omega) (by omega) (by omega) (by omega) (c151_2_159_0.trans (by omega)) (ev1.symm.trans (by omega)) n_Tkn_159_0 (by first | assumption | omega | (subst_vars; omega) | omega) (by first | assumption | omega | (subst_vars; omega) | omega) (by first | (intro q; rw [tp]; omega) | omega | (intro q; omega) | omega) (by first | assumption | omega | (subst_vars; omega) | omega) (by first | assumption | omega | (subst_vars; omega) | omega) (by omega) (by first | exact mA | exact Mcu_b mc_17_0 (by omega) (by show _ < h 151 2; omega) (by show h 152 _ = 10 ∨ h 152 _ = 32; omega) | exact Mcu_cg mc_17_0 (fun i q => t3 i) (fun i q => my_up_ne f62 (by omega)) (fun i q => t5 i) | exact mc_70_0 | exact mc_159_0 | exact Mcu_0 (by omega) (by omega) (by show 0 ≤ h 151 2; omega) | omega) (by first | exact my_up_self f62 | exact pl_70_0 | exact pl_159_0 | omega) (by first | omega | exact nb_70_0 | exact nb_159_0 | omega) (by first | (intro i a b; exfalso; omega) | (intro i a b; rcases (by omega : i = p159_0 ∨ i < p159_0) with q | q <;> first | exact rn_70_0 i a q | exact rn_159_0 i a q | (rw [q]; omega)) | omega) (by first | exact k0_70_0 | exact k0_159_0 | omega) (by omega) (by first | exact td_0 (by omega) rfl | exact td_s dv_159_0 (by omega) (by omega) (by omega) (by omega) | exact td_3 dv_159_0 (by omega) (by omega) (by omega) | omega) (by omega)
                ·
                  refine w_ldc2 gz_169_187 rfl ?_
                  refine w_lload gz_169_190 rfl ?_
                  refine w_lmulE gz_169_192 (fun v48 pv48 xv48 => ?_)
                  refine w_aload_n gz_169_193 rfl ?_
                  refine w_getX (v := 152) gz_169_194 is_151 rd_10 rfl (by decide) rfl ?_
                  refine w_iload_n gz_169_197 rfl ?_
                  refine w_iald gz_169_198 is_152 rd_51 (by omega) (by omega) (fun v50 ev50 pv50 qv50 => ?_)
                  have zv50 := ev50.trans ev16.symm
                  have c199 : v50 = h 152 p159_0 := by
                    have z := my_fr.at (j := p159_0) gh_159_0 is_152 rfl
                    omega
                  refine w_i2l gz_169_199 ?_
                  refine w_laddE gz_169_200 (fun v51 pv51 xv51 => ?_)
                  refine w_ldc2 gz_169_201 rfl ?_
                  refine w_lsubE gz_169_204 (fun v52 pv52 xv52 => ?_)
                  refine w_goto (t := 210) gz_169_205 rfl ?_
                  refine w_lstore (ls' := [(2, 151), (0, p17_0), (0, p159_0), (0, p159_1), (0, p17_1), (1, v52), (9, 0)]) gz_169_210 gm_169 rfl rfl rfl ?_
                  refine w_iinc (ls' := [(2, 151), (0, p17_0), (0, (p159_0 + 1)), (0, p159_1), (0, p17_1), (1, v52), (9, 0)]) gz_169_212 rfl gm_169 rfl rfl rfl ⟨by omega, by omega⟩ ?_
                  refine w_goto (t := 159) gz_169_215 rfl ?_
                  have ce53 : h159_0 151 3 = v1 := ev1.symm
                  have tp : ∀ j : Int, h159_0 152 j = h159_0 152 j := fun _ => rfl
                  have t3 : ∀ j : Int, h159_0 153 j = h159_0 153 j := fun _ => rfl
                  have t5 : ∀ j : Int, h159_0 155 j = h159_0 155 j := fun _ => rfl
                  exact ih_159_0 ((p159_0 + 1)) (p159_1) (v52) h159_0 (gh_159_0) (by omega) (by omega) (by omega) (by omega) (by omega) (by omega) (by omega) (by omega) (by omega) (by omega) (c151_2_159_0.trans (by omega)) (ev1.symm.trans (by omega)) n_Tkn_159_0 (by first | assumption | omega | (subst_vars; omega) | omega) (by first | assumption | omega | (subst_vars; omega) | omega) (by first | (intro q; rw [tp]; omega) | omega | (intro q; omega) | omega) (by first | assumption | omega | (subst_vars; omega) | omega) (by first | assumption | omega | (subst_vars; omega) | omega) (by omega) (by first | exact mA | exact Mcu_b mc_17_0 (by omega) (by show _ < h 151 2; omega) (by show h 152 _ = 10 ∨ h 152 _ = 32; omega) | exact Mcu_cg mc_17_0 (fun i q => t3 i) (fun i q => my_up_ne f62 (by omega)) (fun i q => t5 i) | exact mc_70_0 | exact mc_159_0 | exact Mcu_0 (by omega) (by omega) (by show 0 ≤ h 151 2; omega) | omega) (by first | exact my_up_self f62 | exact pl_70_0 | exact pl_159_0 | omega) (by first | omega | exact nb_70_0 | exact nb_159_0 | omega) (by first | (intro i a b; exfalso; omega) | (intro i a b; rcases (by omega : i = p159_0 ∨ i < p159_0) with q | q <;> first | exact rn_70_0 i a q | exact rn_159_0 i a q | (rw [q]; omega)) | omega) (by first | exact k0_70_0 | exact k0_159_0 | omega) (by omega) (by first | exact td_0 (by omega) rfl | exact td_s dv_159_0 (by omega) (by omega) (by omega) (by omega) | exact td_3 dv_159_0 (by omega) (by omega) (by omega) | omega) (by omega)
      have J70_0 : ∀ (n : Nat) (p70_0 p70_1 z70_l5 : Int) (h70_0 : my_H), my_fr [(10, 2), (10, 3), (10, 7), (10, 8), (52, -1), (53, -1), (54, -1)] h h70_0 → p17_0 ≤ 999 → 0 ≤ p70_0 → p70_0 ≤ 1000 → 97 ≤ p70_1 → p70_1 ≤ 122 → p17_1 ≤ 999 → 1 ≤ p17_2 → p70_0 ≤ p17_2 → p17_1 ≤ p70_0 → p17_1 ≤ (p17_2 - 1) → h70_0 151 2 = 0 → h70_0 151 3 = p17_2 → Tkn h70_0 p17_0 → p17_0 ≤ p17_1 → p17_1 ≤ p70_0 → (p70_0 = p17_1 → 97 ≤ h70_0 152 p17_1 ∧ h70_0 152 p17_1 ≤ 122) → p17_1 < h70_0 151 3 → p70_0 ≤ h70_0 151 3 → (Mcu ((h 152, h 151 2) : (Int → Int) × Int) h70_0 p17_0 p17_1) → h70_0 154 p17_0 = p17_1 → h 152 p17_1 ≠ 10 ∧ h 152 p17_1 ≠ 32 → (∀ i : Int, p17_1 ≤ i → i < p70_0 → tk_k (h 152 i) = 1) → tk_k (h 152 p17_1) = 1 → h70_0 151 3 = h 151 2 → z70_l5 = tk_wv (h 152) p17_1 (min (p70_0 - p17_1) 8).toNat → 1001 - p70_0 ≤ (n : Int) → wp l rho (d + 2) 169 70 [(2, 151), (0, p17_0), (0, p70_0), (0, p70_1), (0, p17_1), (1, z70_l5), (9, 0)] [] h70_0 Q := by
        intro n
        induction n with
        | zero => intro p70_0 p70_1 z70_l5 h70_0 gh_70_0 q0_70_0 q1_70_0 q2_70_0 q3_70_0 q4_70_0 q5_70_0 q6_70_0 q7_70_0 q8_70_0 q9_70_0 c151_2_70_0 c151_3_70_0 n_Tkn_70_0 nk_70_0 fk_70_0 f0_70_0 ls_70_0 ks_70_0 mc_70_0 pl_70_0 nb_70_0 rn_70_0 k0_70_0 sz_70_0 wv_70_0 hm_70_0; exfalso; omega
        | succ n ih_70_0 =>
          intro p70_0 p70_1 z70_l5 h70_0 gh_70_0 q0_70_0 q1_70_0 q2_70_0 q3_70_0 q4_70_0 q5_70_0 q6_70_0 q7_70_0 q8_70_0 q9_70_0 c151_2_70_0 c151_3_70_0 n_Tkn_70_0 nk_70_0 fk_70_0 f0_70_0 ls_70_0 ks_70_0 mc_70_0 pl_70_0 nb_70_0 rn_70_0 k0_70_0 sz_70_0 wv_70_0 hm_70_0
          refine w_iload_n gz_169_70 rfl ?_
          refine w_aload_n gz_169_71 rfl ?_
          refine v_getI (j := 3) gz_169_72 rfl is_151 rd_10 rfl (fun v54 ev54 pv54 qv54 => ?_)
          have zv54 := ev54.trans c151_3_70_0
          refine w_icge (t := 129) gz_169_75 rfl (fun u55 => ?_) (fun u55 => ?_)
          ·
            have ne : p70_0 ≠ p17_1 := by intro q; have z := f0_70_0 q; rw [← q] at z; omega
            refine w_aload_n gz_169_129 rfl ?_
            refine w_getX (v := 153) gz_169_130 is_151 rd_10 rfl (by decide) rfl ?_
            refine w_iload_n gz_169_133 rfl ?_
            refine w_iload_n gz_169_134 rfl ?_
            refine w_iload gz_169_135 rfl ?_
            refine w_isub gz_169_137 ⟨by omega, by omega⟩ ?_
            refine w_bipush gz_169_138 (by decide) ?_
            refine w_icle (t := 147) gz_169_140 rfl (fun u57 => ?_) (fun u57 => ?_)
            ·
              refine w_iconst gz_169_147 (by decide) ?_
              have tkA := n_Tkn_70_0
              refine w_iast gz_169_148 is_153 rd_52 (by omega) (by omega) (by omega) (by omega) (fun h58 fh58 => ?_)
              have gh58 : my_fr [(10, 2), (10, 3), (10, 7), (10, 8), (52, -1), (53, -1), (54, -1)] h h58 := my_fr.up gh_70_0 is_153 fh58 rfl
              refine w_goto (t := 265) gz_169_149 rfl ?_
              refine w_aload_n gz_169_265 rfl ?_
              refine w_getX (v := 155) gz_169_266 is_151 rd_10 rfl (by decide) rfl ?_
              refine w_iload_n gz_169_269 rfl ?_
              refine w_lload gz_169_270 rfl ?_
              refine w_last gz_169_272 is_155 rd_54 (by omega) (by omega) (fun h60 fh60 => ?_)
              have gh60 : my_fr [(10, 2), (10, 3), (10, 7), (10, 8), (52, -1), (53, -1), (54, -1)] h h60 := my_fr.up gh58 is_155 fh60 rfl
              have tN : h60 153 p17_0 ≠ 0 ∧ (h60 153 p17_0 = 2 → 0 ≤ h60 155 p17_0 ∧ h60 155 p17_0 ≤ 999) := by rw [my_up_ne (x := 153) (i := p17_0) fh60 (by omega), my_up_self fh58, my_up_self fh60]; omega
              have Tkn_h60t61 : Tkn h60 (p17_0 + 1) := by
                intro i a b
                rcases (by omega : i = p17_0 ∨ i < p17_0) with q | q
                · subst q; exact tN
                · rw [my_up_ne (x := 153) (i := i) fh60 (by omega), my_up_ne (x := 153) (i := i) fh58 (by omega), my_up_ne (x := 155) (i := i) fh60 (by omega), my_up_ne (x := 155) (i := i) fh58 (by omega)]
                  exact tkA i a q
              have mA : Mcu ((h 152, h 151 2) : (Int → Int) × Int) h60 (p17_0 + 1) p70_0 := by first | exact Mcu_add (τ := ((h 152, h 151 2) : (Int → Int) × Int)) (κ := 1) mc_70_0 (by omega) rfl (tk_mk (c := 1) (by omega) nb_70_0.1 nb_70_0.2 (by omega) (by omega) k0_70_0 rn_70_0 (fun a b => by omega) (fun a => by omega) (by omega)) (by decide) (by rw [my_up_ne fh60 (by omega), my_up_self fh58]) (by rw [my_up_ne fh60 (by omega), my_up_ne fh58 (by omega)]; exact pl_70_0) (my_up_self fh60) (fun i q => by rw [my_up_ne fh60 (by omega), my_up_ne fh58 (by omega)]) (fun i q => by rw [my_up_ne fh60 (by omega), my_up_ne fh58 (by omega)]) (fun i q => by rw [my_up_ne fh60 (by omega), my_up_ne fh58 (by omega)]) (fun z => absurd z (by decide)) (fun _ => by have q := wv_70_0; rw [show (min (p70_0 - p17_1) 8).toNat = (p70_0 - p17_1).toNat by omega] at q; exact q) (fun z => absurd z (by decide)) | exact Mcu_add (τ := ((h 152, h 151 2) : (Int → Int) × Int)) (κ := 4) mc_70_0 (by omega) rfl (tk_mk (c := 1) (by omega) nb_70_0.1 nb_70_0.2 (by omega) (by omega) k0_70_0 rn_70_0 (fun a b => by omega) (fun a => by omega) (by omega)) (by decide) (by rw [my_up_ne fh60 (by omega), my_up_self fh58]) (by rw [my_up_ne fh60 (by omega), my_up_ne fh58 (by omega)]; exact pl_70_0) (my_up_self fh60) (fun i q => by rw [my_up_ne fh60 (by omega), my_up_ne fh58 (by omega)]) (fun i q => by rw [my_up_ne fh60 (by omega), my_up_ne fh58 (by omega)]) (fun i q => by rw [my_up_ne fh60 (by omega), my_up_ne fh58 (by omega)]) (fun z => absurd z (by decide)) (fun z => absurd z (by decide)) (fun z => absurd z (by decide))
              refine w_iinc (ls' := [(2, 151), (0, (p17_0 + 1)), (0, p70_0), (0, p70_1), (0, p17_1), (1, z70_l5), (9, 0)]) gz_169_273 rfl gm_169 rfl rfl rfl ⟨by omega, by omega⟩ ?_
              refine w_goto (t := 17) gz_169_276 rfl ?_
              have ce62 : h60 151 3 = v54 := ((my_up_role fh60 is_151 is_155 rfl).trans ((my_up_role fh58 is_151 is_153 rfl).trans ev54.symm))
              have t3 : ∀ j : Int, h60 153 j = h58 153 j := fun j => ((my_up_role fh60 is_153 is_155 rfl).trans (rfl : h58 153 j = h58 153 j))
              have t5 : ∀ j : Int, h60 155 j = h60 155 j := fun j => rfl
              refine w_weak (ls' := [(2, 151), (0, (p17_0 + 1)), (0, p70_0), (9, 0), (9, 0), (9, 0), (9, 0)]) (wk_e (wk_e (wk_e (wk_9 (wk_9 (wk_9 (wk_9 wk_n))))))) ?_
              exact ih_17_0 ((p17_0 + 1)) (p70_0) (v54) h60 (gh60) (by omega) (by omega) (by omega) (by omega) (by omega) (by omega) (by omega) (((my_up_role fh60 is_151 is_155 rfl).trans ((my_up_role fh58 is_151 is_153 rfl).trans c151_2_70_0)).trans (by omega)) (((my_up_role fh60 is_151 is_155 rfl).trans ((my_up_role fh58 is_151 is_153 rfl).trans ev54.symm)).trans (by omega)) Tkn_h60t61 (by first | assumption | omega | (subst_vars; omega) | omega) (by first | assumption | omega | (subst_vars; omega) | omega) (by first | exact mA | exact Mcu_b mc_17_0 (by omega) (by show _ < h 151 2; omega) (by show h 152 _ = 10 ∨ h 152 _ = 32; omega) | exact Mcu_cg mc_17_0 (fun i q => t3 i) (fun i q => my_up_ne f62 (by omega)) (fun i q => t5 i) | exact mc_70_0 | exact mc_159_0 | exact Mcu_0 (by omega) (by omega) (by show 0 ≤ h 151 2; omega) | omega) (by omega) (by omega)
            ·
              refine w_iconst gz_169_143 (by decide) ?_
              refine w_goto (t := 148) gz_169_144 rfl ?_
              have tkA := n_Tkn_70_0
              refine w_iast gz_169_148 is_153 rd_52 (by omega) (by omega) (by omega) (by omega) (fun h63 fh63 => ?_)
              have gh63 : my_fr [(10, 2), (10, 3), (10, 7), (10, 8), (52, -1), (53, -1), (54, -1)] h h63 := my_fr.up gh_70_0 is_153 fh63 rfl
              refine w_goto (t := 265) gz_169_149 rfl ?_
              refine w_aload_n gz_169_265 rfl ?_
              refine w_getX (v := 155) gz_169_266 is_151 rd_10 rfl (by decide) rfl ?_
              refine w_iload_n gz_169_269 rfl ?_
              refine w_lload gz_169_270 rfl ?_
              refine w_last gz_169_272 is_155 rd_54 (by omega) (by omega) (fun h65 fh65 => ?_)
              have gh65 : my_fr [(10, 2), (10, 3), (10, 7), (10, 8), (52, -1), (53, -1), (54, -1)] h h65 := my_fr.up gh63 is_155 fh65 rfl
              have tN : h65 153 p17_0 ≠ 0 ∧ (h65 153 p17_0 = 2 → 0 ≤ h65 155 p17_0 ∧ h65 155 p17_0 ≤ 999) := by rw [my_up_ne (x := 153) (i := p17_0) fh65 (by omega), my_up_self fh63, my_up_self fh65]; omega
              have Tkn_h65t66 : Tkn h65 (p17_0 + 1) := by
                intro i a b
                rcases (by omega : i = p17_0 ∨ i < p17_0) with q | q
                · subst q; exact tN
                · rw [my_up_ne (x := 153) (i := i) fh65 (by omega), my_up_ne (x := 153) (i := i) fh63 (by omega), my_up_ne (x := 155) (i := i) fh65 (by omega), my_up_ne (x := 155) (i := i) fh63 (by omega)]
                  exact tkA i a q
              have mA : Mcu ((h 152, h 151 2) : (Int → Int) × Int) h65 (p17_0 + 1) p70_0 := by first | exact Mcu_add (τ := ((h 152, h 151 2) : (Int → Int) × Int)) (κ := 1) mc_70_0 (by omega) rfl (tk_mk (c := 1) (by omega) nb_70_0.1 nb_70_0.2 (by omega) (by omega) k0_70_0 rn_70_0 (fun a b => by omega) (fun a => by omega) (by omega)) (by decide) (by rw [my_up_ne fh65 (by omega), my_up_self fh63]) (by rw [my_up_ne fh65 (by omega), my_up_ne fh63 (by omega)]; exact pl_70_0) (my_up_self fh65) (fun i q => by rw [my_up_ne fh65 (by omega), my_up_ne fh63 (by omega)]) (fun i q => by rw [my_up_ne fh65 (by omega), my_up_ne fh63 (by omega)]) (fun i q => by rw [my_up_ne fh65 (by omega), my_up_ne fh63 (by omega)]) (fun z => absurd z (by decide)) (fun _ => by have q := wv_70_0; rw [show (min (p70_0 - p17_1) 8).toNat = (p70_0 - p17_1).toNat by omega] at q; exact q) (fun z => absurd z (by decide)) | exact Mcu_add (τ := ((h 152, h 151 2) : (Int → Int) × Int)) (κ := 4) mc_70_0 (by omega) rfl (tk_mk (c := 1) (by omega) nb_70_0.1 nb_70_0.2 (by omega) (by omega) k0_70_0 rn_70_0 (fun a b => by omega) (fun a => by omega) (by omega)) (by decide) (by rw [my_up_ne fh65 (by omega), my_up_self fh63]) (by rw [my_up_ne fh65 (by omega), my_up_ne fh63 (by omega)]; exact pl_70_0) (my_up_self fh65) (fun i q => by rw [my_up_ne fh65 (by omega), my_up_ne fh63 (by omega)]) (fun i q => by rw [my_up_ne fh65 (by omega), my_up_ne fh63 (by omega)]) (fun i q => by rw [my_up_ne fh65 (by omega), my_up_ne fh63 (by omega)]) (fun z => absurd z (by decide)) (fun z => absurd z (by decide)) (fun z => absurd z (by decide))
              refine w_iinc (ls' := [(2, 151), (0, (p17_0 + 1)), (0, p70_0), (0, p70_1), (0, p17_1), (1, z70_l5), (9, 0)]) gz_169_273 rfl gm_169 rfl rfl rfl ⟨by omega, by omega⟩ ?_
              refine w_goto (t := 17) gz_169_276 rfl ?_
              have ce67 : h65 151 3 = v54 := ((my_up_role fh65 is_151 is_155 rfl).trans ((my_up_role fh63 is_151 is_153 rfl).trans ev54.symm))
              have t3 : ∀ j : Int, h65 153 j = h63 153 j := fun j => ((my_up_role fh65 is_153 is_155 rfl).trans (rfl : h63 153 j = h63 153 j))
              have t5 : ∀ j : Int, h65 155 j = h65 155 j := fun j => rfl
              refine w_weak (ls' := [(2, 151), (0, (p17_0 + 1)), (0, p70_0), (9, 0), (9, 0), (9, 0), (9, 0)]) (wk_e (wk_e (wk_e (wk_9 (wk_9 (wk_9 (wk_9 wk_n))))))) ?_
              exact ih_17_0 ((p17_0 + 1)) (p70_0) (v54) h65 (gh65) (by omega) (by omega) (by omega) (by omega) (by omega) (by omega) (by omega) (((my_up_role fh65 is_151 is_155 rfl).trans ((my_up_role fh63 is_151 is_153 rfl).trans c151_2_70_0)).trans (by omega)) (((my_up_role fh65 is_151 is_155 rfl).trans ((my_up_role fh63 is_151 is_153 rfl).trans ev54.symm)).trans (by omega)) Tkn_h65t66 (by first | assumption | omega | (subst_vars; omega) | omega) (by first | assumption | omega | (subst_vars; omega) | omega) (by first | exact mA | exact Mcu_b mc_17_0 (by omega) (by show _ < h 151 2; omega) (by show h 152 _ = 10 ∨ h 152 _ = 32; omega) | exact Mcu_cg mc_17_0 (fun i q => t3 i) (fun i q => my_up_ne f62 (by omega)) (fun i q => t5 i) | exact mc_70_0 | exact mc_159_0 | exact Mcu_0 (by omega) (by omega) (by show 0 ≤ h 151 2; omega) | omega) (by omega) (by omega)
          ·
            refine w_aload_n gz_169_78 rfl ?_
            refine w_getX (v := 152) gz_169_79 is_151 rd_10 rfl (by decide) rfl ?_
            refine w_iload_n gz_169_82 rfl ?_
            refine w_iald gz_169_83 is_152 rd_51 (by omega) (by omega) (fun v69 ev69 pv69 qv69 => ?_)
            have c84 : v69 = h 152 p70_0 := by
              have z := my_fr.at (j := p70_0) gh_70_0 is_152 rfl
              omega
            have kz2 := tk_kk (h 152 p70_0)
            refine w_inS (k := 0) (as := [(0, v69)]) (r := []) (ls0 := [(0, v69)]) gz_169_84 gm_170 rfl rfl rfl rfl rfl rfl ?_
            refine w_iload_n gz_170_0 rfl ?_
            refine w_bipush gz_170_1 (by decide) ?_
            refine w_iclt (t := 16) gz_170_3 rfl (fun u70 => ?_) (fun u70 => ?_)
            ·
              refine w_iconst gz_170_16 (by decide) ?_
              refine w_bret gz_170_17 gm_170 (by omega) (by omega) ?_
              show wp l rho (d + 2) 169 87 [(2, 151), (0, p17_0), (0, p70_0), (0, p70_1), (0, p17_1), (1, z70_l5), (9, 0)] [(0, 0)] h70_0 Q
              refine w_ifeq (t := 129) gz_169_87 rfl (fun u71 => ?_) (fun u71 => by exfalso; omega)
              have ne : p70_0 ≠ p17_1 := by intro q; have z := f0_70_0 q; rw [← q] at z; omega
              refine w_aload_n gz_169_129 rfl ?_
              refine w_getX (v := 153) gz_169_130 is_151 rd_10 rfl (by decide) rfl ?_
              refine w_iload_n gz_169_133 rfl ?_
              refine w_iload_n gz_169_134 rfl ?_
              refine w_iload gz_169_135 rfl ?_
              refine w_isub gz_169_137 ⟨by omega, by omega⟩ ?_
              refine w_bipush gz_169_138 (by decide) ?_
              refine w_icle (t := 147) gz_169_140 rfl (fun u73 => ?_) (fun u73 => ?_)
              ·
                refine w_iconst gz_169_147 (by decide) ?_
                have tkA := n_Tkn_70_0
                refine w_iast gz_169_148 is_153 rd_52 (by omega) (by omega) (by omega) (by omega) (fun h74 fh74 => ?_)
                have gh74 : my_fr [(10, 2), (10, 3), (10, 7), (10, 8), (52, -1), (53, -1), (54, -1)] h h74 := my_fr.up gh_70_0 is_153 fh74 rfl
                refine w_goto (t := 265) gz_169_149 rfl ?_
                refine w_aload_n gz_169_265 rfl ?_
                refine w_getX (v := 155) gz_169_266 is_151 rd_10 rfl (by decide) rfl ?_
                refine w_iload_n gz_169_269 rfl ?_
                refine w_lload gz_169_270 rfl ?_
                refine w_last gz_169_272 is_155 rd_54 (by omega) (by omega) (fun h76 fh76 => ?_)
                have gh76 : my_fr [(10, 2), (10, 3), (10, 7), (10, 8), (52, -1), (53, -1), (54, -1)] h h76 := my_fr.up gh74 is_155 fh76 rfl
                have tN : h76 153 p17_0 ≠ 0 ∧ (h76 153 p17_0 = 2 → 0 ≤ h76 155 p17_0 ∧ h76 155 p17_0 ≤ 999) := by rw [my_up_ne (x := 153) (i := p17_0) fh76 (by omega), my_up_self fh74, my_up_self fh76]; omega
                have Tkn_h76t77 : Tkn h76 (p17_0 + 1) := by
                  intro i a b
                  rcases (by omega : i = p17_0 ∨ i < p17_0) with q | q
                  · subst q; exact tN
                  · rw [my_up_ne (x := 153) (i := i) fh76 (by omega), my_up_ne (x := 153) (i := i) fh74 (by omega), my_up_ne (x := 155) (i := i) fh76 (by omega), my_up_ne (x := 155) (i := i) fh74 (by omega)]
                    exact tkA i a q
                have mA : Mcu ((h 152, h 151 2) : (Int → Int) × Int) h76 (p17_0 + 1) p70_0 := by first | exact Mcu_add (τ := ((h 152, h 151 2) : (Int → Int) × Int)) (κ := 1) mc_70_0 (by omega) rfl (tk_mk (c := 1) (by omega) nb_70_0.1 nb_70_0.2 (by omega) (by omega) k0_70_0 rn_70_0 (fun a b => by omega) (fun a => by omega) (by omega)) (by decide) (by rw [my_up_ne fh76 (by omega), my_up_self fh74]) (by rw [my_up_ne fh76 (by omega), my_up_ne fh74 (by omega)]; exact pl_70_0) (my_up_self fh76) (fun i q => by rw [my_up_ne fh76 (by omega), my_up_ne fh74 (by omega)]) (fun i q => by rw [my_up_ne fh76 (by omega), my_up_ne fh74 (by omega)]) (fun i q => by rw [my_up_ne fh76 (by omega), my_up_ne fh74 (by omega)]) (fun z => absurd z (by decide)) (fun _ => by have q := wv_70_0; rw [show (min (p70_0 - p17_1) 8).toNat = (p70_0 - p17_1).toNat by omega] at q; exact q) (fun z => absurd z (by decide)) | exact Mcu_add (τ := ((h 152, h 151 2) : (Int → Int) × Int)) (κ := 4) mc_70_0 (by omega) rfl (tk_mk (c := 1) (by omega) nb_70_0.1 nb_70_0.2 (by omega) (by omega) k0_70_0 rn_70_0 (fun a b => by omega) (fun a => by omega) (by omega)) (by decide) (by rw [my_up_ne fh76 (by omega), my_up_self fh74]) (by rw [my_up_ne fh76 (by omega), my_up_ne fh74 (by omega)]; exact pl_70_0) (my_up_self fh76) (fun i q => by rw [my_up_ne fh76 (by omega), my_up_ne fh74 (by omega)]) (fun i q => by rw [my_up_ne fh76 (by omega), my_up_ne fh74 (by omega)]) (fun i q => by rw [my_up_ne fh76 (by omega), my_up_ne fh74 (by omega)]) (fun z => absurd z (by decide)) (fun z => absurd z (by decide)) (fun z => absurd z (by decide))
                refine w_iinc (ls' := [(2, 151), (0, (p17_0 + 1)), (0, p70_0), (0, p70_1), (0, p17_1), (1, z70_l5), (9, 0)]) gz_169_273 rfl gm_169 rfl rfl rfl ⟨by omega, by omega⟩ ?_
                refine w_goto (t := 17) gz_169_276 rfl ?_
                have ce78 : h76 151 3 = v54 := ((my_up_role fh76 is_151 is_155 rfl).trans ((my_up_role fh74 is_151 is_153 rfl).trans ev54.symm))
                have t3 : ∀ j : Int, h76 153 j = h74 153 j := fun j => ((my_up_role fh76 is_153 is_155 rfl).trans (rfl : h74 153 j = h74 153 j))
                have t5 : ∀ j : Int, h76 155 j = h76 155 j := fun j => rfl
                refine w_weak (ls' := [(2, 151), (0, (p17_0 + 1)), (0, p70_0), (9, 0), (9, 0), (9, 0), (9, 0)]) (wk_e (wk_e (wk_e (wk_9 (wk_9 (wk_9 (wk_9 wk_n))))))) ?_
                exact ih_17_0 ((p17_0 + 1)) (p70_0) (v54) h76 (gh76) (by omega) (by omega) (by omega) (by omega) (by omega) (by omega) (by omega) (((my_up_role fh76 is_151 is_155 rfl).trans ((my_up_role fh74 is_151 is_153 rfl).trans c151_2_70_0)).trans (by omega)) (((my_up_role fh76 is_151 is_155 rfl).trans ((my_up_role fh74 is_151 is_153 rfl).trans ev54.symm)).trans (by omega)) Tkn_h76t77 (by first | assumption | omega | (subst_vars; omega) | omega) (by first | assumption | omega | (subst_vars; omega) | omega) (by first | exact mA | exact Mcu_b mc_17_0 (by omega) (by show _ < h 151 2; omega) (by show h 152 _ = 10 ∨ h 152 _ = 32; omega) | exact Mcu_cg mc_17_0 (fun i q => t3 i) (fun i q => my_up_ne f62 (by omega)) (fun i q => t5 i) | exact mc_70_0 | exact mc_159_0 | exact Mcu_0 (by omega) (by omega) (by show 0 ≤ h 151 2; omega) | omega) (by omega) (by omega)
              ·
                refine w_iconst gz_169_143 (by decide) ?_
                refine w_goto (t := 148) gz_169_144 rfl ?_
                have tkA := n_Tkn_70_0
                refine w_iast gz_169_148 is_153 rd_52 (by omega) (by omega) (by omega) (by omega) (fun h79 fh79 => ?_)
                have gh79 : my_fr [(10, 2), (10, 3), (10, 7), (10, 8), (52, -1), (53, -1), (54, -1)] h h79 := my_fr.up gh_70_0 is_153 fh79 rfl
                refine w_goto (t := 265) gz_169_149 rfl ?_
                refine w_aload_n gz_169_265 rfl ?_
                refine w_getX (v := 155) gz_169_266 is_151 rd_10 rfl (by decide) rfl ?_
                refine w_iload_n gz_169_269 rfl ?_
                refine w_lload gz_169_270 rfl ?_
                refine w_last gz_169_272 is_155 rd_54 (by omega) (by omega) (fun h81 fh81 => ?_)
                have gh81 : my_fr [(10, 2), (10, 3), (10, 7), (10, 8), (52, -1), (53, -1), (54, -1)] h h81 := my_fr.up gh79 is_155 fh81 rfl
                have tN : h81 153 p17_0 ≠ 0 ∧ (h81 153 p17_0 = 2 → 0 ≤ h81 155 p17_0 ∧ h81 155 p17_0 ≤ 999) := by rw [my_up_ne (x := 153) (i := p17_0) fh81 (by omega), my_up_self fh79, my_up_self fh81]; omega
                have Tkn_h81t82 : Tkn h81 (p17_0 + 1) := by
                  intro i a b
                  rcases (by omega : i = p17_0 ∨ i < p17_0) with q | q
                  · subst q; exact tN
                  · rw [my_up_ne (x := 153) (i := i) fh81 (by omega), my_up_ne (x := 153) (i := i) fh79 (by omega), my_up_ne (x := 155) (i := i) fh81 (by omega), my_up_ne (x := 155) (i := i) fh79 (by omega)]
                    exact tkA i a q
                have mA : Mcu ((h 152, h 151 2) : (Int → Int) × Int) h81 (p17_0 + 1) p70_0 := by first | exact Mcu_add (τ := ((h 152, h 151 2) : (Int → Int) × Int)) (κ := 1) mc_70_0 (by omega) rfl (tk_mk (c := 1) (by omega) nb_70_0.1 nb_70_0.2 (by omega) (by omega) k0_70_0 rn_70_0 (fun a b => by omega) (fun a => by omega) (by omega)) (by decide) (by rw [my_up_ne fh81 (by omega), my_up_self fh79]) (by rw [my_up_ne fh81 (by omega), my_up_ne fh79 (by omega)]; exact pl_70_0) (my_up_self fh81) (fun i q => by rw [my_up_ne fh81 (by omega), my_up_ne fh79 (by omega)]) (fun i q => by rw [my_up_ne fh81 (by omega), my_up_ne fh79 (by omega)]) (fun i q => by rw [my_up_ne fh81 (by omega), my_up_ne fh79 (by omega)]) (fun z => absurd z (by decide)) (fun _ => by have q := wv_70_0; rw [show (min (p70_0 - p17_1) 8).toNat = (p70_0 - p17_1).toNat by omega] at q; exact q) (fun z => absurd z (by decide)) | exact Mcu_add (τ := ((h 152, h 151 2) : (Int → Int) × Int)) (κ := 4) mc_70_0 (by omega) rfl (tk_mk (c := 1) (by omega) nb_70_0.1 nb_70_0.2 (by omega) (by omega) k0_70_0 rn_70_0 (fun a b => by omega) (fun a => by omega) (by omega)) (by decide) (by rw [my_up_ne fh81 (by omega), my_up_self fh79]) (by rw [my_up_ne fh81 (by omega), my_up_ne fh79 (by omega)]; exact pl_70_0) (my_up_self fh81) (fun i q => by rw [my_up_ne fh81 (by omega), my_up_ne fh79 (by omega)]) (fun i q => by rw [my_up_ne fh81 (by omega), my_up_ne fh79 (by omega)]) (fun i q => by rw [my_up_ne fh81 (by omega), my_up_ne fh79 (by omega)]) (fun z => absurd z (by decide)) (fun z => absurd z (by decide)) (fun z => absurd z (by decide))
                refine w_iinc (ls' := [(2, 151), (0, (p17_0 + 1)), (0, p70_0), (0, p70_1), (0, p17_1), (1, z70_l5), (9, 0)]) gz_169_273 rfl gm_169 rfl rfl rfl ⟨by omega, by omega⟩ ?_
                refine w_goto (t := 17) gz_169_276 rfl ?_
                have ce83 : h81 151 3 = v54 := ((my_up_role fh81 is_151 is_155 rfl).trans ((my_up_role fh79 is_151 is_153 rfl).trans ev54.symm))
                have t3 : ∀ j : Int, h81 153 j = h79 153 j := fun j => ((my_up_role fh81 is_153 is_155 rfl).trans (rfl : h79 153 j = h79 153 j))
                have t5 : ∀ j : Int, h81 155 j = h81 155 j := fun j => rfl
                refine w_weak (ls' := [(2, 151), (0, (p17_0 + 1)), (0, p70_0), (9, 0), (9, 0), (9, 0), (9, 0)]) (wk_e (wk_e (wk_e (wk_9 (wk_9 (wk_9 (wk_9 wk_n))))))) ?_
                exact ih_17_0 ((p17_0 + 1)) (p70_0) (v54) h81 (gh81) (by omega) (by omega) (by omega) (by omega) (by omega) (by omega) (by omega) (((my_up_role fh81 is_151 is_155 rfl).trans ((my_up_role fh79 is_151 is_153 rfl).trans c151_2_70_0)).trans (by omega)) (((my_up_role fh81 is_151 is_155 rfl).trans ((my_up_role fh79 is_151 is_153 rfl).trans ev54.symm)).trans (by omega)) Tkn_h81t82 (by first | assumption | omega | (subst_vars; omega) | omega) (by first | assumption | omega | (subst_vars; omega) | omega) (by first | exact mA | exact Mcu_b mc_17_0 (by omega) (by show _ < h 151 2; omega) (by show h 152 _ = 10 ∨ h 152 _ = 32; omega) | exact Mcu_cg mc_17_0 (fun i q => t3 i) (fun i q => my_up_ne f62 (by omega)) (fun i q => t5 i) | exact mc_70_0 | exact mc_159_0 | exact Mcu_0 (by omega) (by omega) (by show 0 ≤ h 151 2; omega) | omega) (by omega) (by omega)
            ·
              refine w_iload_n gz_170_6 rfl ?_
              refine w_bipush gz_170_7 (by decide) ?_
              refine w_icgt (t := 16) gz_170_9 rfl (fun u84 => ?_) (fun u84 => ?_)
              ·
                refine w_iconst gz_170_16 (by decide) ?_
                refine w_bret gz_170_17 gm_170 (by omega) (by omega) ?_
                show wp l rho (d + 2) 169 87 [(2, 151), (0, p17_0), (0, p70_0), (0, p70_1), (0, p17_1), (1, z70_l5), (9, 0)] [(0, 0)] h70_0 Q
                refine w_ifeq (t := 129) gz_169_87 rfl (fun u85 => ?_) (fun u85 => by exfalso; omega)
                have ne : p70_0 ≠ p17_1 := by intro q; have z := f0_70_0 q; rw [← q] at z; omega
                refine w_aload_n gz_169_129 rfl ?_
                refine w_getX (v := 153) gz_169_130 is_151 rd_10 rfl (by decide) rfl ?_
                refine w_iload_n gz_169_133 rfl ?_
                refine w_iload_n gz_169_134 rfl ?_
                refine w_iload gz_169_135 rfl ?_
                refine w_isub gz_169_137 ⟨by omega, by omega⟩ ?_
                refine w_bipush gz_169_138 (by decide) ?_
                refine w_icle (t := 147) gz_169_140 rfl (fun u87 => ?_) (fun u87 => ?_)
                ·
                  refine w_iconst gz_169_147 (by decide) ?_
                  have tkA := n_Tkn_70_0
                  refine w_iast gz_169_148 is_153 rd_52 (by omega) (by omega) (by omega) (by omega) (fun h88 fh88 => ?_)
                  have gh88 : my_fr [(10, 2), (10, 3), (10, 7), (10, 8), (52, -1), (53, -1), (54, -1)] h h88 := my_fr.up gh_70_0 is_153 fh88 rfl
                  refine w_goto (t := 265) gz_169_149 rfl ?_
                  refine w_aload_n gz_169_265 rfl ?_
                  refine w_getX (v := 155) gz_169_266 is_151 rd_10 rfl (by decide) rfl ?_
                  refine w_iload_n gz_169_269 rfl ?_
                  refine w_lload gz_169_270 rfl ?_
                  refine w_last gz_169_272 is_155 rd_54 (by omega) (by omega) (fun h90 fh90 => ?_)
                  have gh90 : my_fr [(10, 2), (10, 3), (10, 7), (10, 8), (52, -1), (53, -1), (54, -1)] h h90 := my_fr.up gh88 is_155 fh90 rfl
                  have tN : h90 153 p17_0 ≠ 0 ∧ (h90 153 p17_0 = 2 → 0 ≤ h90 155 p17_0 ∧ h90 155 p17_0 ≤ 999) := by rw [my_up_ne (x := 153) (i := p17_0) fh90 (by omega), my_up_self fh88, my_up_self fh90]; omega
                  have Tkn_h90t91 : Tkn h90 (p17_0 + 1) := by
                    intro i a b
                    rcases (by omega : i = p17_0 ∨ i < p17_0) with q | q
                    · subst q; exact tN
                    · rw [my_up_ne (x := 153) (i := i) fh90 (by omega), my_up_ne (x := 153) (i := i) fh88 (by omega), my_up_ne (x := 155) (i := i) fh90 (by omega), my_up_ne (x := 155) (i := i) fh88 (by omega)]
                      exact tkA i a q
                  have mA : Mcu ((h 152, h 151 2) : (Int → Int) × Int) h90 (p17_0 + 1) p70_0 := by first | exact Mcu_add (τ := ((h 152, h 151 2) : (Int → Int) × Int)) (κ := 1) mc_70_0 (by omega) rfl (tk_mk (c := 1) (by omega) nb_70_0.1 nb_70_0.2 (by omega) (by omega) k0_70_0 rn_70_0 (fun a b => by omega) (fun a => by omega) (by omega)) (by decide) (by rw [my_up_ne fh90 (by omega), my_up_self fh88]) (by rw [my_up_ne fh90 (by omega), my_up_ne fh88 (by omega)]; exact pl_70_0) (my_up_self fh90) (fun i q => by rw [my_up_ne fh90 (by omega), my_up_ne fh88 (by omega)]) (fun i q => by rw [my_up_ne fh90 (by omega), my_up_ne fh88 (by omega)]) (fun i q => by rw [my_up_ne fh90 (by omega), my_up_ne fh88 (by omega)]) (fun z => absurd z (by decide)) (fun _ => by have q := wv_70_0; rw [show (min (p70_0 - p17_1) 8).toNat = (p70_0 - p17_1).toNat by omega] at q; exact q) (fun z => absurd z (by decide)) | exact Mcu_add (τ := ((h 152, h 151 2) : (Int → Int) × Int)) (κ := 4) mc_70_0 (by omega) rfl (tk_mk (c := 1) (by omega) nb_70_0.1 nb_70_0.2 (by omega) (by omega) k0_70_0 rn_70_0 (fun a b => by omega) (fun a => by omega) (by omega)) (by decide) (by rw [my_up_ne fh90 (by omega), my_up_self fh88]) (by rw [my_up_ne fh90 (by omega), my_up_ne fh88 (by omega)]; exact pl_70_0) (my_up_self fh90) (fun i q => by rw [my_up_ne fh90 (by omega), my_up_ne fh88 (by omega)]) (fun i q => by rw [my_up_ne fh90 (by omega), my_up_ne fh88 (by omega)]) (fun i q => by rw [my_up_ne fh90 (by omega), my_up_ne fh88 (by omega)]) (fun z => absurd z (by decide)) (fun z => absurd z (by decide)) (fun z => absurd z (by decide))
                  refine w_iinc (ls' := [(2, 151), (0, (p17_0 + 1)), (0, p70_0), (0, p70_1), (0, p17_1), (1, z70_l5), (9, 0)]) gz_169_273 rfl gm_169 rfl rfl rfl ⟨by omega, by omega⟩ ?_
                  refine w_goto (t := 17) gz_169_276 rfl ?_
                  have ce92 : h90 151 3 = v54 := ((my_up_role fh90 is_151 is_155 rfl).trans ((my_up_role fh88 is_151 is_153 rfl).trans ev54.symm))
                  have t3 : ∀ j : Int, h90 153 j = h88 153 j := fun j => ((my_up_role fh90 is_153 is_155 rfl).trans (rfl : h88 153 j = h88 153 j))
                  have t5 : ∀ j : Int, h90 155 j = h90 155 j := fun j => rfl
                  refine w_weak (ls' := [(2, 151), (0, (p17_0 + 1)), (0, p70_0), (9, 0), (9, 0), (9, 0), (9, 0)]) (wk_e (wk_e (wk_e (wk_9 (wk_9 (wk_9 (wk_9 wk_n))))))) ?_
                  exact ih_17_0 ((p17_0 + 1)) (p70_0) (v54) h90 (gh90) (by omega) (by omega) (by omega) (by omega) (by omega) (by omega) (by omega) (((my_up_role fh90 is_151 is_155 rfl).trans ((my_up_role fh88 is_151 is_153 rfl).trans c151_2_70_0)).trans (by omega)) (((my_up_role fh90 is_151 is_155 rfl).trans ((my_up_role fh88 is_151 is_153 rfl).trans ev54.symm)).trans (by omega)) Tkn_h90t91 (by first | assumption | omega | (subst_vars; omega) | omega) (by first | assumption | omega | (subst_vars; omega) | omega) (by first | exact mA | exact Mcu_b mc_17_0 (by omega) (by show _ < h 151 2; omega) (by show h 152 _ = 10 ∨ h 152 _ = 32; omega) | exact Mcu_cg mc_17_0 (fun i q => t3 i) (fun i q => my_up_ne f62 (by omega)) (fun i q => t5 i) | exact mc_70_0 | exact mc_159_0 | exact Mcu_0 (by omega) (by omega) (by show 0 ≤ h 151 2; omega) | omega) (by omega) (by omega)
                ·
                  refine w_iconst gz_169_143 (by decide) ?_
                  refine w_goto (t := 148) gz_169_144 rfl ?_
                  have tkA := n_Tkn_70_0
                  refine w_iast gz_169_148 is_153 rd_52 (by omega) (by omega) (by omega) (by omega) (fun h93 fh93 => ?_)
                  have gh93 : my_fr [(10, 2), (10, 3), (10, 7), (10, 8), (52, -1), (53, -1), (54, -1)] h h93 := my_fr.up gh_70_0 is_153 fh93 rfl
                  refine w_goto (t := 265) gz_169_149 rfl ?_
                  refine w_aload_n gz_169_265 rfl ?_
                  refine w_getX (v := 155) gz_169_266 is_151 rd_10 rfl (by decide) rfl ?_
                  refine w_iload_n gz_169_269 rfl ?_
                  refine w_lload gz_169_270 rfl ?_
                  refine w_last gz_169_272 is_155 rd_54 (by omega) (by omega) (fun h95 fh95 => ?_)
                  have gh95 : my_fr [(10, 2), (10, 3), (10, 7), (10, 8), (52, -1), (53, -1), (54, -1)] h h95 := my_fr.up gh93 is_155 fh95 rfl
                  have tN : h95 153 p17_0 ≠ 0 ∧ (h95 153 p17_0 = 2 → 0 ≤ h95 155 p17_0 ∧ h95 155 p17_0 ≤ 999) := by rw [my_up_ne (x := 153) (i := p17_0) fh95 (by omega), my_up_self fh93, my_up_self fh95]; omega
                  have Tkn_h95t96 : Tkn h95 (p17_0 + 1) := by
                    intro i a b
                    rcases (by omega : i = p17_0 ∨ i < p17_0) with q | q
                    · subst q; exact tN
                    · rw [my_up_ne (x := 153) (i := i) fh95 (by omega), my_up_ne (x := 153) (i := i) fh93 (by omega), my_up_ne (x := 155) (i := i) fh95 (by omega), my_up_ne (x := 155) (i := i) fh93 (by omega)]
                      exact tkA i a q
                  have mA : Mcu ((h 152, h 151 2) : (Int → Int) × Int) h95 (p17_0 + 1) p70_0 := by first | exact Mcu_add (τ := ((h 152, h 151 2) : (Int → Int) × Int)) (κ := 1) mc_70_0 (by omega) rfl (tk_mk (c := 1) (by omega) nb_70_0.1 nb_70_0.2 (by omega) (by omega) k0_70_0 rn_70_0 (fun a b => by omega) (fun a => by omega) (by omega)) (by decide) (by rw [my_up_ne fh95 (by omega), my_up_self fh93]) (by rw [my_up_ne fh95 (by omega), my_up_ne fh93 (by omega)]; exact pl_70_0) (my_up_self fh95) (fun i q => by rw [my_up_ne fh95 (by omega), my_up_ne fh93 (by omega)]) (fun i q => by rw [my_up_ne fh95 (by omega), my_up_ne fh93 (by omega)]) (fun i q => by rw [my_up_ne fh95 (by omega), my_up_ne fh93 (by omega)]) (fun z => absurd z (by decide)) (fun _ => by have q := wv_70_0; rw [show (min (p70_0 - p17_1) 8).toNat = (p70_0 - p17_1).toNat by omega] at q; exact q) (fun z => absurd z (by decide)) | exact Mcu_add (τ := ((h 152, h 151 2) : (Int → Int) × Int)) (κ := 4) mc_70_0 (by omega) rfl (tk_mk (c := 1) (by omega) nb_70_0.1 nb_70_0.2 (by omega) (by omega) k0_70_0 rn_70_0 (fun a b => by omega) (fun a => by omega) (by omega)) (by decide) (by rw [my_up_ne fh95 (by omega), my_up_self fh93]) (by rw [my_up_ne fh95 (by omega), my_up_ne fh93 (by omega)]; exact pl_70_0) (my_up_self fh95) (fun i q => by rw [my_up_ne fh95 (by omega), my_up_ne fh93 (by omega)]) (fun i q => by rw [my_up_ne fh95 (by omega), my_up_ne fh93 (by omega)]) (fun i q => by rw [my_up_ne fh95 (by omega), my_up_ne fh93 (by omega)]) (fun z => absurd z (by decide)) (fun z => absurd z (by decide)) (fun z => absurd z (by decide))
                  refine w_iinc (ls' := [(2, 151), (0, (p17_0 + 1)), (0, p70_0), (0, p70_1), (0, p17_1), (1, z70_l5), (9, 0)]) gz_169_273 rfl gm_169 rfl rfl rfl ⟨by omega, by omega⟩ ?_
                  refine w_goto (t := 17) gz_169_276 rfl ?_
                  have ce97 : h95 151 3 = v54 := ((my_up_role fh95 is_151 is_155 rfl).trans ((my_up_role fh93 is_151 is_153 rfl).trans ev54.symm))
                  have t3 : ∀ j : Int, h95 153 j = h93 153 j := fun j => ((my_up_role fh95 is_153 is_155 rfl).trans (rfl : h93 153 j = h93 153 j))
                  have t5 : ∀ j : Int, h95 155 j = h95 155 j := fun j => rfl
                  refine w_weak (ls' := [(2, 151), (0, (p17_0 + 1)), (0, p70_0), (9, 0), (9, 0), (9, 0), (9, 0)]) (wk_e (wk_e (wk_e (wk_9 (wk_9 (wk_9 (wk_9 wk_n))))))) ?_
                  exact ih_17_0 ((p17_0 + 1)) (p70_0) (v54) h95 (gh95) (by omega) (by omega) (by omega) (by omega) (by omega) (by omega) (by omega) (((my_up_role fh95 is_151 is_155 rfl).trans ((my_up_role fh93 is_151 is_153 rfl).trans c151_2_70_0)).trans (by omega)) (((my_up_role fh95 is_151 is_155 rfl).trans ((my_up_role fh93 is_151 is_153 rfl).trans ev54.symm)).trans (by omega)) Tkn_h95t96 (by first | assumption | omega | (subst_vars; omega) | omega) (by first | assumption | omega | (subst_vars; omega) | omega) (by first | exact mA | exact Mcu_b mc_17_0 (by omega) (by show _ < h 151 2; omega) (by show h 152 _ = 10 ∨ h 152 _ = 32; omega) | exact Mcu_cg mc_17_0 (fun i q => t3 i) (fun i q => my_up_ne f62 (by omega)) (fun i q => t5 i) | exact mc_70_0 | exact mc_159_0 | exact Mcu_0 (by omega) (by omega) (by show 0 ≤ h 151 2; omega) | omega) (by omega) (by omega)
              ·
                refine w_iconst gz_170_12 (by decide) ?_
                refine w_goto (t := 17) gz_170_13 rfl ?_
                refine w_bret gz_170_17 gm_170 (by omega) (by omega) ?_
                show wp l rho (d + 2) 169 87 [(2, 151), (0, p17_0), (0, p70_0), (0, p70_1), (0, p17_1), (1, z70_l5), (9, 0)] [(0, 1)] h70_0 Q
                refine w_ifeq (t := 129) gz_169_87 rfl (fun u98 => by exfalso; omega) (fun u98 => ?_)
                refine w_iload_n gz_169_90 rfl ?_
                refine w_iload gz_169_91 rfl ?_
                refine w_isub gz_169_93 ⟨by omega, by omega⟩ ?_
                refine w_bipush gz_169_94 (by decide) ?_
                refine w_icge (t := 119) gz_169_96 rfl (fun u99 => ?_) (fun u99 => ?_)
                ·
                  refine w_lload gz_169_119 rfl ?_
                  refine w_lstore (ls' := [(2, 151), (0, p17_0), (0, p70_0), (0, p70_1), (0, p17_1), (1, z70_l5), (9, 0)]) gz_169_121 gm_169 rfl rfl rfl ?_
                  refine w_iinc (ls' := [(2, 151), (0, p17_0), (0, (p70_0 + 1)), (0, p70_1), (0, p17_1), (1, z70_l5), (9, 0)]) gz_169_123 rfl gm_169 rfl rfl rfl ⟨by omega, by omega⟩ ?_
                  refine w_goto (t := 70) gz_169_126 rfl ?_
                  have ce100 : h70_0 151 3 = v54 := ev54.symm
                  have tp : ∀ j : Int, h70_0 152 j = h70_0 152 j := fun _ => rfl
                  have t3 : ∀ j : Int, h70_0 153 j = h70_0 153 j := fun _ => rfl
                  have t5 : ∀ j : Int, h70_0 155 j = h70_0 155 j := fun _ => rfl
                  exact ih_70_0 ((p70_0 + 1)) (p70_1) (z70_l5) h70_0 (gh_70_0) (by omega) (by omega) (by omega) (by omega) (by omega) (by omega) (by omega) (by omega) (by omega) (by omega) (c151_2_70_0.trans (by omega)) (ev54.symm.trans (by omega)) n_Tkn_70_0 (by first | assumption | omega | (subst_vars; omega) | omega) (by first | assumption | omega | (subst_vars; omega) | omega) (by first | (intro q; rw [tp]; omega) | omega | (intro q; omega) | omega) (by first | assumption | omega | (subst_vars; omega) | omega) (by first | assumption | omega | (subst_vars; omega) | omega) (by first | exact mA | exact Mcu_b mc_17_0 (by omega) (by show _ < h 151 2; omega) (by show h 152 _ = 10 ∨ h 152 _ = 32; omega) | exact Mcu_cg mc_17_0 (fun i q => t3 i) (fun i q => my_up_ne f62 (by omega)) (fun i q => t5 i) | exact mc_70_0 | exact mc_159_0 | exact Mcu_0 (by omega) (by omega) (by show 0 ≤ h 151 2; omega) | omega) (by first | exact my_up_self f62 | exact pl_70_0 | exact pl_159_0 | omega) (by first | omega | exact nb_70_0 | exact nb_159_0 | omega) (by first | (intro i a b; exfalso; omega) | (intro i a b; rcases (by omega : i = p70_0 ∨ i < p70_0) with q | q <;> first | exact rn_70_0 i a q | exact rn_159_0 i a q | (rw [q]; omega)) | omega) (by first | exact k0_70_0 | exact k0_159_0 | omega) (by omega) (by first | exact tw_0 (by omega) rfl | exact tw_s wv_70_0 (by omega) (by omega) (by omega) (by omega) | exact tw_8 wv_70_0 (by omega) (by omega) (by omega) | omega) (by omega)
                ·
                  have wb := tw_bd wv_70_0 (by omega) rn_70_0
                  refine w_ldc2 gz_169_99 rfl ?_
                  refine w_lload gz_169_102 rfl ?_
                  refine w_lmulE gz_169_104 (fun v101 pv101 xv101 => ?_)
                  refine w_aload_n gz_169_105 rfl ?_
                  refine w_getX (v := 152) gz_169_106 is_151 rd_10 rfl (by decide) rfl ?_
                  refine w_iload_n gz_169_109 rfl ?_
                  refine w_iald gz_169_110 is_152 rd_51 (by omega) (by omega) (fun v103 ev103 pv103 qv103 => ?_)
                  have zv103 := ev103.trans ev69.symm
                  have c111 : v103 = h 152 p70_0 := by
                    have z := my_fr.at (j := p70_0) gh_70_0 is_152 rfl
                    omega
                  refine w_inS (k := 0) (as := [(0, v103)]) (r := [(1, v101)]) (ls0 := [(0, v103)]) gz_169_111 gm_171 rfl rfl rfl rfl rfl rfl ?_
                  refine w_iload_n gz_171_0 rfl ?_
                  refine w_inS (k := 0) (as := [(0, v103)]) (r := []) (ls0 := [(0, v103)]) gz_171_1 gm_170 rfl rfl rfl rfl rfl rfl ?_
                  refine w_iload_n gz_170_0 rfl ?_
                  refine w_bipush gz_170_1 (by decide) ?_
                  refine w_iclt (t := 16) gz_170_3 rfl (fun u104 => by exfalso; omega) (fun u104 => ?_)
                  refine w_iload_n gz_170_6 rfl ?_
                  refine w_bipush gz_170_7 (by decide) ?_
                  refine w_icgt (t := 16) gz_170_9 rfl (fun u105 => by exfalso; omega) (fun u105 => ?_)
                  refine w_iconst gz_170_12 (by decide) ?_
                  refine w_goto (t := 17) gz_170_13 rfl ?_
                  refine w_bret gz_170_17 gm_170 (by omega) (by omega) ?_
                  show wp l rho (d + 1) 171 4 [(0, v103)] [(0, 1)] h70_0 _
                  refine w_ifeq (t := 14) gz_171_4 rfl (fun u106 => by exfalso; omega) (fun u106 => ?_)
                  refine w_iload_n gz_171_7 rfl ?_
                  refine w_bipush gz_171_8 (by decide) ?_
                  refine w_isub gz_171_10 ⟨by omega, by omega⟩ ?_
                  refine w_goto (t := 18) gz_171_11 rfl ?_
                  refine w_iret gz_171_18 gm_171 ?_
                  show wp l rho (d + 2) 169 114 [(2, 151), (0, p17_0), (0, p70_0), (0, p70_1), (0, p17_1), (1, z70_l5), (9, 0)] [(0, (v103 - 96)), (1, v101)] h70_0 Q
                  refine w_i2l gz_169_114 ?_
                  refine w_laddE gz_169_115 (fun v107 pv107 xv107 => ?_)
                  refine w_goto (t := 121) gz_169_116 rfl ?_
                  refine w_lstore (ls' := [(2, 151), (0, p17_0), (0, p70_0), (0, p70_1), (0, p17_1), (1, v107), (9, 0)]) gz_169_121 gm_169 rfl rfl rfl ?_
                  refine w_iinc (ls' := [(2, 151), (0, p17_0), (0, (p70_0 + 1)), (0, p70_1), (0, p17_1), (1, v107), (9, 0)]) gz_169_123 rfl gm_169 rfl rfl rfl ⟨by omega, by omega⟩ ?_
                  refine w_goto (t := 70) gz_169_126 rfl ?_
                  have ce108 : h70_0 151 3 = v54 := ev54.symm
                  have tp : ∀ j : Int, h70_0 152 j = h70_0 152 j := fun _ => rfl
                  have t3 : ∀ j : Int, h70_0 153 j = h70_0 153 j := fun _ => rfl
                  have t5 : ∀ j : Int, h70_0 155 j = h70_0 155 j := fun _ => rfl
                  exact ih_70_0 ((p70_0 + 1)) (p70_1) (v107) h70_0 (gh_70_0) (by omega) (by omega) (by omega) (by omega) (by omega) (by omega) (by omega) (by omega) (by omega) (by omega) (c151_2_70_0.trans (by omega)) (ev54.symm.trans (by omega)) n_Tkn_70_0 (by first | assumption | omega | (subst_vars; omega) | omega) (by first | assumption | omega | (subst_vars; omega) | omega) (by first | (intro q; rw [tp]; omega) | omega | (intro q; omega) | omega) (by first | assumption | omega | (subst_vars; omega) | omega) (by first | assumption | omega | (subst_vars; omega) | omega) (by first | exact mA | exact Mcu_b mc_17_0 (by omega) (by show _ < h 151 2; omega) (by show h 152 _ = 10 ∨ h 152 _ = 32; omega) | exact Mcu_cg mc_17_0 (fun i q => t3 i) (fun i q => my_up_ne f62 (by omega)) (fun i q => t5 i) | exact mc_70_0 | exact mc_159_0 | exact Mcu_0 (by omega) (by omega) (by show 0 ≤ h 151 2; omega) | omega) (by first | exact my_up_self f62 | exact pl_70_0 | exact pl_159_0 | omega) (by first | omega | exact nb_70_0 | exact nb_159_0 | omega) (by first | (intro i a b; exfalso; omega) | (intro i a b; rcases (by omega : i = p70_0 ∨ i < p70_0) with q | q <;> first | exact rn_70_0 i a q | exact rn_159_0 i a q | (rw [q]; omega)) | omega) (by first | exact k0_70_0 | exact k0_159_0 | omega) (by omega) (by first | exact tw_0 (by omega) rfl | exact tw_s wv_70_0 (by omega) (by omega) (by omega) (by omega) | exact tw_8 wv_70_0 (by omega) (by omega) (by omega) | omega) (by omega)
      refine w_iload_n gz_169_17 rfl ?_
      refine w_aload_n gz_169_18 rfl ?_
      refine v_getI (j := 3) gz_169_19 rfl is_151 rd_10 rfl (fun v109 ev109 pv109 qv109 => ?_)
      have zv109 := ev109.trans c151_3_17_0
      refine w_icge (t := 279) gz_169_22 rfl (fun u110 => ?_) (fun u110 => ?_)
      ·
        refine w_aload_n gz_169_279 rfl ?_
        refine w_getX (v := 153) gz_169_280 is_151 rd_10 rfl (by decide) rfl ?_
        refine w_iload_n gz_169_283 rfl ?_
        refine w_iconst gz_169_284 (by decide) ?_
        have tkE := n_Tkn_17_0
        refine w_iast gz_169_285 is_153 rd_52 (by omega) (by omega) (by omega) (by omega) (fun h112 fh112 => ?_)
        have gh112 : my_fr [(10, 2), (10, 3), (10, 7), (10, 8), (52, -1), (53, -1), (54, -1)] h h112 := my_fr.up gh_17_0 is_153 fh112 rfl
        refine w_aload_n gz_169_286 rfl ?_
        refine w_getX (v := 154) gz_169_287 is_151 rd_10 rfl (by decide) rfl ?_
        refine w_iload_n gz_169_290 rfl ?_
        refine w_aload_n gz_169_291 rfl ?_
        refine v_getI (j := 3) gz_169_292 rfl is_151 rd_10 rfl (fun v114 ev114 pv114 qv114 => ?_)
        have zv114 := ev114.trans ((my_up_role fh112 is_151 is_153 rfl).trans ev109.symm)
        refine w_iast gz_169_295 is_154 rd_53 (by omega) (by omega) (by omega) (by omega) (fun h115 fh115 => ?_)
        have gh115 : my_fr [(10, 2), (10, 3), (10, 7), (10, 8), (52, -1), (53, -1), (54, -1)] h h115 := my_fr.up gh112 is_154 fh115 rfl
        refine w_aload_n gz_169_296 rfl ?_
        refine w_iconst gz_169_297 (by decide) ?_
        refine v_putI (j := 7) gz_169_298 rfl is_151 rd_10 rfl (by omega) (by omega) rfl (fun h116 fh116 => ?_)
        have gh116 : my_fr [(10, 2), (10, 3), (10, 7), (10, 8), (52, -1), (53, -1), (54, -1)] h h116 := my_fr.up gh115 is_151 fh116 rfl
        have Tok_h116t117 : Tok h116 := ⟨p17_0, by omega, by omega, by rw [my_up_self fh116]; omega, by rw [my_up_self fh116]; omega, by rw [my_up_ne (x := 153) (i := p17_0) fh116 (by omega), my_up_ne (x := 153) (i := p17_0) fh115 (by omega), my_up_self fh112], fun i a b => by rw [my_up_ne (x := 153) (i := i) fh116 (by omega), my_up_ne (x := 153) (i := i) fh115 (by omega), my_up_ne (x := 153) (i := i) fh112 (by omega), my_up_ne (x := 155) (i := i) fh116 (by omega), my_up_ne (x := 155) (i := i) fh115 (by omega), my_up_ne (x := 155) (i := i) fh112 (by omega)]; exact tkE i a b⟩
        refine w_aload_n gz_169_301 rfl ?_
        refine w_iconst gz_169_302 (by decide) ?_
        refine v_putI (j := 8) gz_169_303 rfl is_151 rd_10 rfl (by omega) (by omega) rfl (fun h118 fh118 => ?_)
        have gh118 : my_fr [(10, 2), (10, 3), (10, 7), (10, 8), (52, -1), (53, -1), (54, -1)] h h118 := my_fr.up gh116 is_151 fh118 rfl
        have Tok_h118 : Tok h118 := Tok_ag (my_ag.up fh118 is_151 rfl) Tok_h116t117
        have c119 := ((my_up_fld fh118 (by decide)).trans ((my_up_fld fh116 (by decide)).trans ((my_up_role fh115 is_151 is_154 rfl).trans ((my_up_role fh112 is_151 is_153 rfl).trans c151_2_17_0))))
        have c120 := ((my_up_fld fh118 (by decide)).trans (my_up_self fh116))
        have c121 := (my_up_self fh118)
        exact w_vret gz_169_306 gm_169 (k0 h118 (gh118) (by omega) (by omega) (by omega) (by first | exact ⟨p17_0, by omega, Mcu_end (τ := ((h 152, h 151 2) : (Int → Int) × Int)) mc_17_0 (by omega) (by show _ = h 151 2; omega) (by rw [my_up_ne fh118 (by omega), my_up_ne fh116 (by omega), my_up_ne fh115 (by omega), my_up_self fh112]) (by rw [my_up_ne fh118 (by omega), my_up_ne fh116 (by omega), my_up_self fh115]; omega) (fun i q => by rw [my_up_ne fh118 (by omega), my_up_ne fh116 (by omega), my_up_ne fh115 (by omega), my_up_ne fh112 (by omega)]) (fun i q => by rw [my_up_ne fh118 (by omega), my_up_ne fh116 (by omega), my_up_ne fh115 (by omega), my_up_ne fh112 (by omega)]) (fun i q => by rw [my_up_ne fh118 (by omega), my_up_ne fh116 (by omega), my_up_ne fh115 (by omega), my_up_ne fh112 (by omega)])⟩ | omega) Tok_h118)
      ·
        refine w_aload_n gz_169_25 rfl ?_
        refine w_getX (v := 152) gz_169_26 is_151 rd_10 rfl (by decide) rfl ?_
        refine w_iload_n gz_169_29 rfl ?_
        refine w_iald gz_169_30 is_152 rd_51 (by omega) (by omega) (fun v123 ev123 pv123 qv123 => ?_)
        have c31 : v123 = h 152 p17_1 := by
          have z := my_fr.at (j := p17_1) gh_17_0 is_152 rfl
          omega
        have kz := tk_kk (h 152 p17_1)
        refine w_istore_n (ls' := [(2, 151), (0, p17_0), (0, p17_1), (0, v123), (9, 0), (9, 0), (9, 0)]) gz_169_31 gm_169 rfl rfl rfl ?_
        refine w_iload_n gz_169_32 rfl ?_
        refine w_bipush gz_169_33 (by decide) ?_
        refine w_iceq (t := 44) gz_169_35 rfl (fun u124 => ?_) (fun u124 => ?_)
        ·
          refine w_iinc (ls' := [(2, 151), (0, p17_0), (0, (p17_1 + 1)), (0, v123), (9, 0), (9, 0), (9, 0)]) gz_169_44 rfl gm_169 rfl rfl rfl ⟨by omega, by omega⟩ ?_
          refine w_goto (t := 17) gz_169_47 rfl ?_
          have ce125 : h17_0 151 3 = v109 := ev109.symm
          have t3 : ∀ j : Int, h17_0 153 j = h17_0 153 j := fun _ => rfl
          have t5 : ∀ j : Int, h17_0 155 j = h17_0 155 j := fun _ => rfl
          refine w_weak (ls' := [(2, 151), (0, p17_0), (0, (p17_1 + 1)), (9, 0), (9, 0), (9, 0), (9, 0)]) (wk_e (wk_e (wk_e (wk_9 (wk_9 (wk_9 (wk_9 wk_n))))))) ?_
          exact ih_17_0 (p17_0) ((p17_1 + 1)) (v109) h17_0 (gh_17_0) (by omega) (by omega) (by omega) (by omega) (by omega) (by omega) (by omega) (c151_2_17_0.trans (by omega)) (ev109.symm.trans (by omega)) n_Tkn_17_0 (by first | assumption | omega | (subst_vars; omega) | omega) (by first | assumption | omega | (subst_vars; omega) | omega) (by first | exact mA | exact Mcu_b mc_17_0 (by omega) (by show _ < h 151 2; omega) (by show h 152 _ = 10 ∨ h 152 _ = 32; omega) | exact Mcu_cg mc_17_0 (fun i q => t3 i) (fun i q => my_up_ne f62 (by omega)) (fun i q => t5 i) | exact mc_70_0 | exact mc_159_0 | exact Mcu_0 (by omega) (by omega) (by show 0 ≤ h 151 2; omega) | omega) (by omega) (by omega)
        ·
          refine w_iload_n gz_169_38 rfl ?_
          refine w_bipush gz_169_39 (by decide) ?_
          refine w_icne (t := 50) gz_169_41 rfl (fun u126 => ?_) (fun u126 => ?_)
          ·
            refine w_iload_n gz_169_50 rfl ?_
            refine w_istore (ls' := [(2, 151), (0, p17_0), (0, p17_1), (0, v123), (0, p17_1), (9, 0), (9, 0)]) gz_169_51 gm_169 rfl rfl rfl ?_
            refine w_lconst gz_169_53 ?_
            refine w_lstore (ls' := [(2, 151), (0, p17_0), (0, p17_1), (0, v123), (0, p17_1), (1, (((0 : Fin 2).val : Nat) : Int)), (9, 0)]) gz_169_54 gm_169 rfl rfl rfl ?_
            refine w_aload_n gz_169_56 rfl ?_
            refine w_getX (v := 154) gz_169_57 is_151 rd_10 rfl (by decide) rfl ?_
            refine w_iload_n gz_169_60 rfl ?_
            refine w_iload_n gz_169_61 rfl ?_
            have hi128 : 0 ≤ p17_0 := by omega
            have hi129 : p17_0 ≤ 999 := by omega
            refine w_iast gz_169_62 is_154 rd_53 (by omega) (by omega) (by omega) (by omega) (fun h130 fh130 => ?_)
            have gh130 : my_fr [(10, 2), (10, 3), (10, 7), (10, 8), (52, -1), (53, -1), (54, -1)] h h130 := my_fr.up gh_17_0 is_154 fh130 rfl
            have Tkn_h130 : Tkn h130 p17_0 := Tkn_ag (my_ag.up fh130 is_154 rfl) n_Tkn_17_0
            have f62 := fh130
            refine w_iload_n gz_169_63 rfl ?_
            refine w_inS (k := 0) (as := [(0, v123)]) (r := []) (ls0 := [(0, v123)]) gz_169_64 gm_170 rfl rfl rfl rfl rfl rfl ?_
            refine w_iload_n gz_170_0 rfl ?_
            refine w_bipush gz_170_1 (by decide) ?_
            refine w_iclt (t := 16) gz_170_3 rfl (fun u131 => ?_) (fun u131 => ?_)
            ·
              refine w_iconst gz_170_16 (by decide) ?_
              refine w_bret gz_170_17 gm_170 (by omega) (by omega) ?_
              show wp l rho (d + 2) 169 67 [(2, 151), (0, p17_0), (0, p17_1), (0, v123), (0, p17_1), (1, (((0 : Fin 2).val : Nat) : Int)), (9, 0)] [(0, 0)] h130 Q
              refine w_ifeq (t := 152) gz_169_67 rfl (fun u132 => ?_) (fun u132 => by exfalso; omega)
              refine w_iload_n gz_169_152 rfl ?_
              refine w_inS (k := 0) (as := [(0, v123)]) (r := []) (ls0 := [(0, v123)]) gz_169_153 gm_172 rfl rfl rfl rfl rfl rfl ?_
              refine w_iload_n gz_172_0 rfl ?_
              refine w_bipush gz_172_1 (by decide) ?_
              refine w_iclt (t := 16) gz_172_3 rfl (fun u133 => ?_) (fun u133 => ?_)
              ·
                refine w_iconst gz_172_16 (by decide) ?_
                refine w_bret gz_172_17 gm_172 (by omega) (by omega) ?_
                show wp l rho (d + 2) 169 156 [(2, 151), (0, p17_0), (0, p17_1), (0, v123), (0, p17_1), (1, (((0 : Fin 2).val : Nat) : Int)), (9, 0)] [(0, 0)] h130 Q
                refine w_ifeq (t := 240) gz_169_156 rfl (fun u134 => ?_) (fun u134 => by exfalso; omega)
                refine w_iload_n gz_169_240 rfl ?_
                refine w_i2l gz_169_241 ?_
                refine w_lstore (ls' := [(2, 151), (0, p17_0), (0, p17_1), (0, v123), (0, p17_1), (1, v123), (9, 0)]) gz_169_242 gm_169 rfl rfl rfl ?_
                refine w_aload_n gz_169_244 rfl ?_
                refine w_getX (v := 153) gz_169_245 is_151 rd_10 rfl (by decide) rfl ?_
                refine w_iload_n gz_169_248 rfl ?_
                refine w_iload_n gz_169_249 rfl ?_
                refine w_inS (k := 0) (as := [(0, v123)]) (r := [(0, p17_0), (2, 153)]) (ls0 := [(0, v123)]) gz_169_250 gm_173 rfl rfl rfl rfl rfl rfl ?_
                refine w_iload_n gz_173_0 rfl ?_
                refine w_bipush gz_173_1 (by decide) ?_
                refine w_icne (t := 10) gz_173_3 rfl (fun u136 => ?_) (fun u136 => by exfalso; omega)
                refine w_iconst gz_173_10 (by decide) ?_
                refine w_bret gz_173_11 gm_173 (by omega) (by omega) ?_
                show wp l rho (d + 2) 169 253 [(2, 151), (0, p17_0), (0, p17_1), (0, v123), (0, p17_1), (1, v123), (9, 0)] [(0, 0), (0, p17_0), (2, 153)] h130 Q
                refine w_ifeq (t := 260) gz_169_253 rfl (fun u137 => ?_) (fun u137 => by exfalso; omega)
                refine w_iconst gz_169_260 (by decide) ?_
                have tkA := Tkn_h130
                refine w_iast gz_169_261 is_153 rd_52 (by omega) (by omega) (by omega) (by omega) (fun h138 fh138 => ?_)
                have gh138 : my_fr [(10, 2), (10, 3), (10, 7), (10, 8), (52, -1), (53, -1), (54, -1)] h h138 := my_fr.up gh130 is_153 fh138 rfl
                refine w_iinc (ls' := [(2, 151), (0, p17_0), (0, (p17_1 + 1)), (0, v123), (0, p17_1), (1, v123), (9, 0)]) gz_169_262 rfl gm_169 rfl rfl rfl ⟨by omega, by omega⟩ ?_
                refine w_aload_n gz_169_265 rfl ?_
                refine w_getX (v := 155) gz_169_266 is_151 rd_10 rfl (by decide) rfl ?_
                refine w_iload_n gz_169_269 rfl ?_
                refine w_lload gz_169_270 rfl ?_
                refine w_last gz_169_272 is_155 rd_54 (by omega) (by omega) (fun h140 fh140 => ?_)
                have gh140 : my_fr [(10, 2), (10, 3), (10, 7), (10, 8), (52, -1), (53, -1), (54, -1)] h h140 := my_fr.up gh138 is_155 fh140 rfl
                have tN : h140 153 p17_0 ≠ 0 ∧ (h140 153 p17_0 = 2 → 0 ≤ h140 155 p17_0 ∧ h140 155 p17_0 ≤ 999) := by rw [my_up_ne (x := 153) (i := p17_0) fh140 (by omega), my_up_self fh138, my_up_self fh140]; omega
                have Tkn_h140t141 : Tkn h140 (p17_0 + 1) := by
                  intro i a b
                  rcases (by omega : i = p17_0 ∨ i < p17_0) with q | q
                  · subst q; exact tN
                  · rw [my_up_ne (x := 153) (i := i) fh140 (by omega), my_up_ne (x := 153) (i := i) fh138 (by omega), my_up_ne (x := 155) (i := i) fh140 (by omega), my_up_ne (x := 155) (i := i) fh138 (by omega)]
                    exact tkA i a q
                have mA : Mcu ((h 152, h 151 2) : (Int → Int) × Int) h140 (p17_0 + 1) (p17_1 + 1) := by first | exact Mcu_add (τ := ((h 152, h 151 2) : (Int → Int) × Int)) (κ := 3) mc_17_0 (by omega) rfl (tk_mk (c := 3) (by omega) (by omega) (by omega) (by omega) (by omega) (by omega) (fun i a b => by rw [show i = p17_1 by omega]; omega) (fun a b => by omega) (fun a => by omega) (by omega)) (by decide) (by rw [my_up_ne fh140 (by omega), my_up_self fh138]) (by rw [my_up_ne fh140 (by omega), my_up_ne fh138 (by omega), my_up_self fh130]) (my_up_self fh140) (fun i q => by rw [my_up_ne fh140 (by omega), my_up_ne fh138 (by omega), my_up_ne fh130 (by omega)]) (fun i q => by rw [my_up_ne fh140 (by omega), my_up_ne fh138 (by omega), my_up_ne fh130 (by omega)]) (fun i q => by rw [my_up_ne fh140 (by omega), my_up_ne fh138 (by omega), my_up_ne fh130 (by omega)]) (fun z => absurd z (by decide)) (fun z => absurd z (by decide)) (fun _ => by omega) | exact Mcu_add (τ := ((h 152, h 151 2) : (Int → Int) × Int)) (κ := 4) mc_17_0 (by omega) rfl (tk_mk (c := 4) (by omega) (by omega) (by omega) (by omega) (by omega) (by omega) (fun i a b => by rw [show i = p17_1 by omega]; omega) (fun a b => by omega) (fun a => by omega) (by omega)) (by decide) (by rw [my_up_ne fh140 (by omega), my_up_self fh138]) (by rw [my_up_ne fh140 (by omega), my_up_ne fh138 (by omega), my_up_self fh130]) (my_up_self fh140) (fun i q => by rw [my_up_ne fh140 (by omega), my_up_ne fh138 (by omega), my_up_ne fh130 (by omega)]) (fun i q => by rw [my_up_ne fh140 (by omega), my_up_ne fh138 (by omega), my_up_ne fh130 (by omega)]) (fun i q => by rw [my_up_ne fh140 (by omega), my_up_ne fh138 (by omega), my_up_ne fh130 (by omega)]) (fun z => absurd z (by decide)) (fun z => absurd z (by decide)) (fun _ => by omega)
                refine w_iinc (ls' := [(2, 151), (0, (p17_0 + 1)), (0, (p17_1 + 1)), (0, v123), (0, p17_1), (1, v123), (9, 0)]) gz_169_273 rfl gm_169 rfl rfl rfl ⟨by omega, by omega⟩ ?_
                refine w_goto (t := 17) gz_169_276 rfl ?_
                have ce142 : h140 151 3 = v109 := ((my_up_role fh140 is_151 is_155 rfl).trans ((my_up_role fh138 is_151 is_153 rfl).trans ((my_up_role fh130 is_151 is_154 rfl).trans ev109.symm)))
                have t3 : ∀ j : Int, h140 153 j = h138 153 j := fun j => ((my_up_role fh140 is_153 is_155 rfl).trans (rfl : h138 153 j = h138 153 j))
                have t5 : ∀ j : Int, h140 155 j = h140 155 j := fun j => rfl
                refine w_weak (ls' := [(2, 151), (0, (p17_0 + 1)), (0, (p17_1 + 1)), (9, 0), (9, 0), (9, 0), (9, 0)]) (wk_e (wk_e (wk_e (wk_9 (wk_9 (wk_9 (wk_9 wk_n))))))) ?_
                exact ih_17_0 ((p17_0 + 1)) ((p17_1 + 1)) (v109) h140 (gh140) (by omega) (by omega) (by omega) (by omega) (by omega) (by omega) (by omega) (((my_up_role fh140 is_151 is_155 rfl).trans ((my_up_role fh138 is_151 is_153 rfl).trans ((my_up_role fh130 is_151 is_154 rfl).trans c151_2_17_0))).trans (by omega)) (((my_up_role fh140 is_151 is_155 rfl).trans ((my_up_role fh138 is_151 is_153 rfl).trans ((my_up_role fh130 is_151 is_154 rfl).trans ev109.symm))).trans (by omega)) Tkn_h140t141 (by first | assumption | omega | (subst_vars; omega) | omega) (by first | assumption | omega | (subst_vars; omega) | omega) (by first | exact mA | exact Mcu_b mc_17_0 (by omega) (by show _ < h 151 2; omega) (by show h 152 _ = 10 ∨ h 152 _ = 32; omega) | exact Mcu_cg mc_17_0 (fun i q => t3 i) (fun i q => my_up_ne f62 (by omega)) (fun i q => t5 i) | exact mc_70_0 | exact mc_159_0 | exact Mcu_0 (by omega) (by omega) (by show 0 ≤ h 151 2; omega) | omega) (by omega) (by omega)
              ·
                refine w_iload_n gz_172_6 rfl ?_
                refine w_bipush gz_172_7 (by decide) ?_
                refine w_icgt (t := 16) gz_172_9 rfl (fun u143 => ?_) (fun u143 => ?_)
                ·
                  refine w_iconst gz_172_16 (by decide) ?_
                  refine w_bret gz_172_17 gm_172 (by omega) (by omega) ?_
                  show wp l rho (d + 2) 169 156 [(2, 151), (0, p17_0), (0, p17_1), (0, v123), (0, p17_1), (1, (((0 : Fin 2).val : Nat) : Int)), (9, 0)] [(0, 0)] h130 Q
                  refine w_ifeq (t := 240) gz_169_156 rfl (fun u144 => ?_) (fun u144 => by exfalso; omega)
                  refine w_iload_n gz_169_240 rfl ?_
                  refine w_i2l gz_169_241 ?_
                  refine w_lstore (ls' := [(2, 151), (0, p17_0), (0, p17_1), (0, v123), (0, p17_1), (1, v123), (9, 0)]) gz_169_242 gm_169 rfl rfl rfl ?_
                  refine w_aload_n gz_169_244 rfl ?_
                  refine w_getX (v := 153) gz_169_245 is_151 rd_10 rfl (by decide) rfl ?_
                  refine w_iload_n gz_169_248 rfl ?_
                  refine w_iload_n gz_169_249 rfl ?_
                  refine w_inS (k := 0) (as := [(0, v123)]) (r := [(0, p17_0), (2, 153)]) (ls0 := [(0, v123)]) gz_169_250 gm_173 rfl rfl rfl rfl rfl rfl ?_
                  refine w_iload_n gz_173_0 rfl ?_
                  refine w_bipush gz_173_1 (by decide) ?_
                  refine w_icne (t := 10) gz_173_3 rfl (fun u146 => ?_) (fun u146 => ?_)
                  ·
                    refine w_iconst gz_173_10 (by decide) ?_
                    refine w_bret gz_173_11 gm_173 (by omega) (by omega) ?_
                    show wp l rho (d + 2) 169 253 [(2, 151), (0, p17_0), (0, p17_1), (0, v123), (0, p17_1), (1, v123), (9, 0)] [(0, 0), (0, p17_0), (2, 153)] h130 Q
                    refine w_ifeq (t := 260) gz_169_253 rfl (fun u147 => ?_) (fun u147 => by exfalso; omega)
                    refine w_iconst gz_169_260 (by decide) ?_
                    have tkA := Tkn_h130
                    refine w_iast gz_169_261 is_153 rd_52 (by omega) (by omega) (by omega) (by omega) (fun h148 fh148 => ?_)
                    have gh148 : my_fr [(10, 2), (10, 3), (10, 7), (10, 8), (52, -1), (53, -1), (54, -1)] h h148 := my_fr.up gh130 is_153 fh148 rfl
                    refine w_iinc (ls' := [(2, 151), (0, p17_0), (0, (p17_1 + 1)), (0, v123), (0, p17_1), (1, v123), (9, 0)]) gz_169_262 rfl gm_169 rfl rfl rfl ⟨by omega, by omega⟩ ?_
                    refine w_aload_n gz_169_265 rfl ?_
                    refine w_getX (v := 155) gz_169_266 is_151 rd_10 rfl (by decide) rfl ?_
                    refine w_iload_n gz_169_269 rfl ?_
                    refine w_lload gz_169_270 rfl ?_
                    refine w_last gz_169_272 is_155 rd_54 (by omega) (by omega) (fun h150 fh150 => ?_)
                    have gh150 : my_fr [(10, 2), (10, 3), (10, 7), (10, 8), (52, -1), (53, -1), (54, -1)] h h150 := my_fr.up gh148 is_155 fh150 rfl
                    have tN : h150 153 p17_0 ≠ 0 ∧ (h150 153 p17_0 = 2 → 0 ≤ h150 155 p17_0 ∧ h150 155 p17_0 ≤ 999) := by rw [my_up_ne (x := 153) (i := p17_0) fh150 (by omega), my_up_self fh148, my_up_self fh150]; omega
                    have Tkn_h150t151 : Tkn h150 (p17_0 + 1) := by
                      intro i a b
                      rcases (by omega : i = p17_0 ∨ i < p17_0) with q | q
                      · subst q; exact tN
                      · rw [my_up_ne (x := 153) (i := i) fh150 (by omega), my_up_ne (x := 153) (i := i) fh148 (by omega), my_up_ne (x := 155) (i := i) fh150 (by omega), my_up_ne (x := 155) (i := i) fh148 (by omega)]
                        exact tkA i a q
                    have mA : Mcu ((h 152, h 151 2) : (Int → Int) × Int) h150 (p17_0 + 1) (p17_1 + 1) := by first | exact Mcu_add (τ := ((h 152, h 151 2) : (Int → Int) × Int)) (κ := 3) mc_17_0 (by omega) rfl (tk_mk (c := 3) (by omega) (by omega) (by omega) (by omega) (by omega) (by omega) (fun i a b => by rw [show i = p17_1 by omega]; omega) (fun a b => by omega) (fun a => by omega) (by omega)) (by decide) (by rw [my_up_ne fh150 (by omega), my_up_self fh148]) (by rw [my_up_ne fh150 (by omega), my_up_ne fh148 (by omega), my_up_self fh130]) (my_up_self fh150) (fun i q => by rw [my_up_ne fh150 (by omega), my_up_ne fh148 (by omega), my_up_ne fh130 (by omega)]) (fun i q => by rw [my_up_ne fh150 (by omega), my_up_ne fh148 (by omega), my_up_ne fh130 (by omega)]) (fun i q => by rw [my_up_ne fh150 (by omega), my_up_ne fh148 (by omega), my_up_ne fh130 (by omega)]) (fun z => absurd z (by decide)) (fun z => absurd z (by decide)) (fun _ => by omega) | exact Mcu_add (τ := ((h 152, h 151 2) : (Int → Int) × Int)) (κ := 4) mc_17_0 (by omega) rfl (tk_mk (c := 4) (by omega) (by omega) (by omega) (by omega) (by omega) (by omega) (fun i a b => by rw [show i = p17_1 by omega]; omega) (fun a b => by omega) (fun a => by omega) (by omega)) (by decide) (by rw [my_up_ne fh150 (by omega), my_up_self fh148]) (by rw [my_up_ne fh150 (by omega), my_up_ne fh148 (by omega), my_up_self fh130]) (my_up_self fh150) (fun i q => by rw [my_up_ne fh150 (by omega), my_up_ne fh148 (by omega), my_up_ne fh130 (by omega)]) (fun i q => by rw [my_up_ne fh150 (by omega), my_up_ne fh148 (by omega), my_up_ne fh130 (by omega)]) (fun i q => by rw [my_up_ne fh150 (by omega), my_up_ne fh148 (by omega), my_up_ne fh130 (by omega)]) (fun z => absurd z (by decide)) (fun z => absurd z (by decide)) (fun _ => by omega)
                    refine w_iinc (ls' := [(2, 151), (0, (p17_0 + 1)), (0, (p17_1 + 1)), (0, v123), (0, p17_1), (1, v123), (9, 0)]) gz_169_273 rfl gm_169 rfl rfl rfl ⟨by omega, by omega⟩ ?_
                    refine w_goto (t := 17) gz_169_276 rfl ?_
                    have ce152 : h150 151 3 = v109 := ((my_up_role fh150 is_151 is_155 rfl).trans ((my_up_role fh148 is_151 is_153 rfl).trans ((my_up_role fh130 is_151 is_154 rfl).trans ev109.symm)))
                    have t3 : ∀ j : Int, h150 153 j = h148 153 j := fun j => ((my_up_role fh150 is_153 is_155 rfl).trans (rfl : h148 153 j = h148 153 j))
                    have t5 : ∀ j : Int, h150 155 j = h150 155 j := fun j => rfl
                    refine w_weak (ls' := [(2, 151), (0, (p17_0 + 1)), (0, (p17_1 + 1)), (9, 0), (9, 0), (9, 0), (9, 0)]) (wk_e (wk_e (wk_e (wk_9 (wk_9 (wk_9 (wk_9 wk_n))))))) ?_
                    exact ih_17_0 ((p17_0 + 1)) ((p17_1 + 1)) (v109) h150 (gh150) (by omega) (by omega) (by omega) (by omega) (by omega) (by omega) (by omega) (((my_up_role fh150 is_151 is_155 rfl).trans ((my_up_role fh148 is_151 is_153 rfl).trans ((my_up_role fh130 is_151 is_154 rfl).trans c151_2_17_0))).trans (by omega)) (((my_up_role fh150 is_151 is_155 rfl).trans ((my_up_role fh148 is_151 is_153 rfl).trans ((my_up_role fh130 is_151 is_154 rfl).trans ev109.symm))).trans (by omega)) Tkn_h150t151 (by first | assumption | omega | (subst_vars; omega) | omega) (by first | assumption | omega | (subst_vars; omega) | omega) (by first | exact mA | exact Mcu_b mc_17_0 (by omega) (by show _ < h 151 2; omega) (by show h 152 _ = 10 ∨ h 152 _ = 32; omega) | exact Mcu_cg mc_17_0 (fun i q => t3 i) (fun i q => my_up_ne f62 (by omega)) (fun i q => t5 i) | exact mc_70_0 | exact mc_159_0 | exact Mcu_0 (by omega) (by omega) (by show 0 ≤ h 151 2; omega) | omega) (by omega) (by omega)
                  ·
                    refine w_iconst gz_173_6 (by decide) ?_
                    refine w_goto (t := 11) gz_173_7 rfl ?_
                    refine w_bret gz_173_11 gm_173 (by omega) (by omega) ?_
                    show wp l rho (d + 2) 169 253 [(2, 151), (0, p17_0), (0, p17_1), (0, v123), (0, p17_1), (1, v123), (9, 0)] [(0, 1), (0, p17_0), (2, 153)] h130 Q
                    refine w_ifeq (t := 260) gz_169_253 rfl (fun u153 => by exfalso; omega) (fun u153 => ?_)
                    refine w_iconst gz_169_256 (by decide) ?_
                    refine w_goto (t := 261) gz_169_257 rfl ?_
                    have tkA := Tkn_h130
                    refine w_iast gz_169_261 is_153 rd_52 (by omega) (by omega) (by omega) (by omega) (fun h154 fh154 => ?_)
                    have gh154 : my_fr [(10, 2), (10, 3), (10, 7), (10, 8), (52, -1), (53, -1), (54, -1)] h h154 := my_fr.up gh130 is_153 fh154 rfl
                    refine w_iinc (ls' := [(2, 151), (0, p17_0), (0, (p17_1 + 1)), (0, v123), (0, p17_1), (1, v123), (9, 0)]) gz_169_262 rfl gm_169 rfl rfl rfl ⟨by omega, by omega⟩ ?_
                    refine w_aload_n gz_169_265 rfl ?_
                    refine w_getX (v := 155) gz_169_266 is_151 rd_10 rfl (by decide) rfl ?_
                    refine w_iload_n gz_169_269 rfl ?_
                    refine w_lload gz_169_270 rfl ?_
                    refine w_last gz_169_272 is_155 rd_54 (by omega) (by omega) (fun h156 fh156 => ?_)
                    have gh156 : my_fr [(10, 2), (10, 3), (10, 7), (10, 8), (52, -1), (53, -1), (54, -1)] h h156 := my_fr.up gh154 is_155 fh156 rfl
                    have tN : h156 153 p17_0 ≠ 0 ∧ (h156 153 p17_0 = 2 → 0 ≤ h156 155 p17_0 ∧ h156 155 p17_0 ≤ 999) := by rw [my_up_ne (x := 153) (i := p17_0) fh156 (by omega), my_up_self fh154, my_up_self fh156]; omega
                    have Tkn_h156t157 : Tkn h156 (p17_0 + 1) := by
                      intro i a b
                      rcases (by omega : i = p17_0 ∨ i < p17_0) with q | q
                      · subst q; exact tN
                      · rw [my_up_ne (x := 153) (i := i) fh156 (by omega), my_up_ne (x := 153) (i := i) fh154 (by omega), my_up_ne (x := 155) (i := i) fh156 (by omega), my_up_ne (x := 155) (i := i) fh154 (by omega)]
                        exact tkA i a q
                    have mA : Mcu ((h 152, h 151 2) : (Int → Int) × Int) h156 (p17_0 + 1) (p17_1 + 1) := by first | exact Mcu_add (τ := ((h 152, h 151 2) : (Int → Int) × Int)) (κ := 3) mc_17_0 (by omega) rfl (tk_mk (c := 3) (by omega) (by omega) (by omega) (by omega) (by omega) (by omega) (fun i a b => by rw [show i = p17_1 by omega]; omega) (fun a b => by omega) (fun a => by omega) (by omega)) (by decide) (by rw [my_up_ne fh156 (by omega), my_up_self fh154]) (by rw [my_up_ne fh156 (by omega), my_up_ne fh154 (by omega), my_up_self fh130]) (my_up_self fh156) (fun i q => by rw [my_up_ne fh156 (by omega), my_up_ne fh154 (by omega), my_up_ne fh130 (by omega)]) (fun i q => by rw [my_up_ne fh156 (by omega), my_up_ne fh154 (by omega), my_up_ne fh130 (by omega)]) (fun i q => by rw [my_up_ne fh156 (by omega), my_up_ne fh154 (by omega), my_up_ne fh130 (by omega)]) (fun z => absurd z (by decide)) (fun z => absurd z (by decide)) (fun _ => by omega) | exact Mcu_add (τ := ((h 152, h 151 2) : (Int → Int) × Int)) (κ := 4) mc_17_0 (by omega) rfl (tk_mk (c := 4) (by omega) (by omega) (by omega) (by omega) (by omega) (by omega) (fun i a b => by rw [show i = p17_1 by omega]; omega) (fun a b => by omega) (fun a => by omega) (by omega)) (by decide) (by rw [my_up_ne fh156 (by omega), my_up_self fh154]) (by rw [my_up_ne fh156 (by omega), my_up_ne fh154 (by omega), my_up_self fh130]) (my_up_self fh156) (fun i q => by rw [my_up_ne fh156 (by omega), my_up_ne fh154 (by omega), my_up_ne fh130 (by omega)]) (fun i q => by rw [my_up_ne fh156 (by omega), my_up_ne fh154 (by omega), my_up_ne fh130 (by omega)]) (fun i q => by rw [my_up_ne fh156 (by omega), my_up_ne fh154 (by omega), my_up_ne fh130 (by omega)]) (fun z => absurd z (by decide)) (fun z => absurd z (by decide)) (fun _ => by omega)
                    refine w_iinc (ls' := [(2, 151), (0, (p17_0 + 1)), (0, (p17_1 + 1)), (0, v123), (0, p17_1), (1, v123), (9, 0)]) gz_169_273 rfl gm_169 rfl rfl rfl ⟨by omega, by omega⟩ ?_
                    refine w_goto (t := 17) gz_169_276 rfl ?_
                    have ce158 : h156 151 3 = v109 := ((my_up_role fh156 is_151 is_155 rfl).trans ((my_up_role fh154 is_151 is_153 rfl).trans ((my_up_role fh130 is_151 is_154 rfl).trans ev109.symm)))
                    have t3 : ∀ j : Int, h156 153 j = h154 153 j := fun j => ((my_up_role fh156 is_153 is_155 rfl).trans (rfl : h154 153 j = h154 153 j))
                    have t5 : ∀ j : Int, h156 155 j = h156 155 j := fun j => rfl
                    refine w_weak (ls' := [(2, 151), (0, (p17_0 + 1)), (0, (p17_1 + 1)), (9, 0), (9, 0), (9, 0), (9, 0)]) (wk_e (wk_e (wk_e (wk_9 (wk_9 (wk_9 (wk_9 wk_n))))))) ?_
                    exact ih_17_0 ((p17_0 + 1)) ((p17_1 + 1)) (v109) h156 (gh156) (by omega) (by omega) (by omega) (by omega) (by omega) (by omega) (by omega) (((my_up_role fh156 is_151 is_155 rfl).trans ((my_up_role fh154 is_151 is_153 rfl).trans ((my_up_role fh130 is_151 is_154 rfl).trans c151_2_17_0))).trans (by omega)) (((my_up_role fh156 is_151 is_155 rfl).trans ((my_up_role fh154 is_151 is_153 rfl).trans ((my_up_role fh130 is_151 is_154 rfl).trans ev109.symm))).trans (by omega)) Tkn_h156t157 (by first | assumption | omega | (subst_vars; omega) | omega) (by first | assumption | omega | (subst_vars; omega) | omega) (by first | exact mA | exact Mcu_b mc_17_0 (by omega) (by show _ < h 151 2; omega) (by show h 152 _ = 10 ∨ h 152 _ = 32; omega) | exact Mcu_cg mc_17_0 (fun i q => t3 i) (fun i q => my_up_ne f62 (by omega)) (fun i q => t5 i) | exact mc_70_0 | exact mc_159_0 | exact Mcu_0 (by omega) (by omega) (by show 0 ≤ h 151 2; omega) | omega) (by omega) (by omega)
                ·
                  refine w_iconst gz_172_12 (by decide) ?_
                  refine w_goto (t := 17) gz_172_13 rfl ?_
                  refine w_bret gz_172_17 gm_172 (by omega) (by omega) ?_
                  show wp l rho (d + 2) 169 156 [(2, 151), (0, p17_0), (0, p17_1), (0, v123), (0, p17_1), (1, (((0 : Fin 2).val : Nat) : Int)), (9, 0)] [(0, 1)] h130 Q
                  refine w_ifeq (t := 240) gz_169_156 rfl (fun u159 => by exfalso; omega) (fun u159 => ?_)
                  have ce160 : h130 151 3 = v109 := ((my_up_role fh130 is_151 is_154 rfl).trans ev109.symm)
                  have tp : ∀ j : Int, h130 152 j = h17_0 152 j := fun j => ((my_up_role fh130 is_152 is_154 rfl).trans (rfl : h17_0 152 j = h17_0 152 j))
                  have t3 : ∀ j : Int, h130 153 j = h17_0 153 j := fun j => ((my_up_role fh130 is_153 is_154 rfl).trans (rfl : h17_0 153 j = h17_0 153 j))
                  have t5 : ∀ j : Int, h130 155 j = h17_0 155 j := fun j => ((my_up_role fh130 is_155 is_154 rfl).trans (rfl : h17_0 155 j = h17_0 155 j))
                  exact J159_0 (1001) (p17_1) (v123) ((((0 : Fin 2).val : Nat) : Int)) h130 (gh130) (by omega) (by omega) (by omega) (by omega) (by omega) (by omega) (by omega) (by omega) (by omega) (by omega) (((my_up_role fh130 is_151 is_154 rfl).trans c151_2_17_0).trans (by omega)) (((my_up_role fh130 is_151 is_154 rfl).trans ev109.symm).trans (by omega)) Tkn_h130 (by first | assumption | omega | (subst_vars; omega) | omega) (by first | assumption | omega | (subst_vars; omega) | omega) (by first | (intro q; rw [tp]; omega) | omega | (intro q; omega) | omega) (by first | assumption | omega | (subst_vars; omega) | omega) (by first | assumption | omega | (subst_vars; omega) | omega) (by omega) (by first | exact mA | exact Mcu_b mc_17_0 (by omega) (by show _ < h 151 2; omega) (by show h 152 _ = 10 ∨ h 152 _ = 32; omega) | exact Mcu_cg mc_17_0 (fun i q => t3 i) (fun i q => my_up_ne f62 (by omega)) (fun i q => t5 i) | exact mc_70_0 | exact mc_159_0 | exact Mcu_0 (by omega) (by omega) (by show 0 ≤ h 151 2; omega) | omega) (by first | exact my_up_self f62 | exact pl_70_0 | exact pl_159_0 | omega) (by first | omega | exact nb_70_0 | exact nb_159_0 | omega) (by first | (intro i a b; exfalso; omega) | (intro i a b; rcases (by omega : i = p159_0 ∨ i < p159_0) with q | q <;> first | exact rn_70_0 i a q | exact rn_159_0 i a q | (rw [q]; omega)) | omega) (by first | exact k0_70_0 | exact k0_159_0 | omega) (by omega) (by first | exact td_0 (by omega) rfl | exact td_s dv_159_0 (by omega) (by omega) (by omega) (by omega) | exact td_3 dv_159_0 (by omega) (by omega) (by omega) | omega) (by omega)
            ·
              refine w_iload_n gz_170_6 rfl ?_
              refine w_bipush gz_170_7 (by decide) ?_
              refine w_icgt (t := 16) gz_170_9 rfl (fun u161 => ?_) (fun u161 => ?_)
              ·
                refine w_iconst gz_170_16 (by decide) ?_
                refine w_bret gz_170_17 gm_170 (by omega) (by omega) ?_
                show wp l rho (d + 2) 169 67 [(2, 151), (0, p17_0), (0, p17_1), (0, v123), (0, p17_1), (1, (((0 : Fin 2).val : Nat) : Int)), (9, 0)] [(0, 0)] h130 Q
                refine w_ifeq (t := 152) gz_169_67 rfl (fun u162 => ?_) (fun u162 => by exfalso; omega)
                refine w_iload_n gz_169_152 rfl ?_
                refine w_inS (k := 0) (as := [(0, v123)]) (r := []) (ls0 := [(0, v123)]) gz_169_153 gm_172 rfl rfl rfl rfl rfl rfl ?_
                refine w_iload_n gz_172_0 rfl ?_
                refine w_bipush gz_172_1 (by decide) ?_
                refine w_iclt (t := 16) gz_172_3 rfl (fun u163 => by exfalso; omega) (fun u163 => ?_)
                refine w_iload_n gz_172_6 rfl ?_
                refine w_bipush gz_172_7 (by decide) ?_
                refine w_icgt (t := 16) gz_172_9 rfl (fun u164 => ?_) (fun u164 => by exfalso; omega)
                refine w_iconst gz_172_16 (by decide) ?_
                refine w_bret gz_172_17 gm_172 (by omega) (by omega) ?_
                show wp l rho (d + 2) 169 156 [(2, 151), (0, p17_0), (0, p17_1), (0, v123), (0, p17_1), (1, (((0 : Fin 2).val : Nat) : Int)), (9, 0)] [(0, 0)] h130 Q
                refine w_ifeq (t := 240) gz_169_156 rfl (fun u165 => ?_) (fun u165 => by exfalso; omega)
                refine w_iload_n gz_169_240 rfl ?_
                refine w_i2l gz_169_241 ?_
                refine w_lstore (ls' := [(2, 151), (0, p17_0), (0, p17_1), (0, v123), (0, p17_1), (1, v123), (9, 0)]) gz_169_242 gm_169 rfl rfl rfl ?_
                refine w_aload_n gz_169_244 rfl ?_
                refine w_getX (v := 153) gz_169_245 is_151 rd_10 rfl (by decide) rfl ?_
                refine w_iload_n gz_169_248 rfl ?_
                refine w_iload_n gz_169_249 rfl ?_
                refine w_inS (k := 0) (as := [(0, v123)]) (r := [(0, p17_0), (2, 153)]) (ls0 := [(0, v123)]) gz_169_250 gm_173 rfl rfl rfl rfl rfl rfl ?_
                refine w_iload_n gz_173_0 rfl ?_
                refine w_bipush gz_173_1 (by decide) ?_
                refine w_icne (t := 10) gz_173_3 rfl (fun u167 => ?_) (fun u167 => by exfalso; omega)
                refine w_iconst gz_173_10 (by decide) ?_
                refine w_bret gz_173_11 gm_173 (by omega) (by omega) ?_
                show wp l rho (d + 2) 169 253 [(2, 151), (0, p17_0), (0, p17_1), (0, v123), (0, p17_1), (1, v123), (9, 0)] [(0, 0), (0, p17_0), (2, 153)] h130 Q
                refine w_ifeq (t := 260) gz_169_253 rfl (fun u168 => ?_) (fun u168 => by exfalso; omega)
                refine w_iconst gz_169_260 (by decide) ?_
                have tkA := Tkn_h130
                refine w_iast gz_169_261 is_153 rd_52 (by omega) (by omega) (by omega) (by omega) (fun h169 fh169 => ?_)
                have gh169 : my_fr [(10, 2), (10, 3), (10, 7), (10, 8), (52, -1), (53, -1), (54, -1)] h h169 := my_fr.up gh130 is_153 fh169 rfl
                refine w_iinc (ls' := [(2, 151), (0, p17_0), (0, (p17_1 + 1)), (0, v123), (0, p17_1), (1, v123), (9, 0)]) gz_169_262 rfl gm_169 rfl rfl rfl ⟨by omega, by omega⟩ ?_
                refine w_aload_n gz_169_265 rfl ?_
                refine w_getX (v := 155) gz_169_266 is_151 rd_10 rfl (by decide) rfl ?_
                refine w_iload_n gz_169_269 rfl ?_
                refine w_lload gz_169_270 rfl ?_
                refine w_last gz_169_272 is_155 rd_54 (by omega) (by omega) (fun h171 fh171 => ?_)
                have gh171 : my_fr [(10, 2), (10, 3), (10, 7), (10, 8), (52, -1), (53, -1), (54, -1)] h h171 := my_fr.up gh169 is_155 fh171 rfl
                have tN : h171 153 p17_0 ≠ 0 ∧ (h171 153 p17_0 = 2 → 0 ≤ h171 155 p17_0 ∧ h171 155 p17_0 ≤ 999) := by rw [my_up_ne (x := 153) (i := p17_0) fh171 (by omega), my_up_self fh169, my_up_self fh171]; omega
                have Tkn_h171t172 : Tkn h171 (p17_0 + 1) := by
                  intro i a b
                  rcases (by omega : i = p17_0 ∨ i < p17_0) with q | q
                  · subst q; exact tN
                  · rw [my_up_ne (x := 153) (i := i) fh171 (by omega), my_up_ne (x := 153) (i := i) fh169 (by omega), my_up_ne (x := 155) (i := i) fh171 (by omega), my_up_ne (x := 155) (i := i) fh169 (by omega)]
                    exact tkA i a q
                have mA : Mcu ((h 152, h 151 2) : (Int → Int) × Int) h171 (p17_0 + 1) (p17_1 + 1) := by first | exact Mcu_add (τ := ((h 152, h 151 2) : (Int → Int) × Int)) (κ := 3) mc_17_0 (by omega) rfl (tk_mk (c := 3) (by omega) (by omega) (by omega) (by omega) (by omega) (by omega) (fun i a b => by rw [show i = p17_1 by omega]; omega) (fun a b => by omega) (fun a => by omega) (by omega)) (by decide) (by rw [my_up_ne fh171 (by omega), my_up_self fh169]) (by rw [my_up_ne fh171 (by omega), my_up_ne fh169 (by omega), my_up_self fh130]) (my_up_self fh171) (fun i q => by rw [my_up_ne fh171 (by omega), my_up_ne fh169 (by omega), my_up_ne fh130 (by omega)]) (fun i q => by rw [my_up_ne fh171 (by omega), my_up_ne fh169 (by omega), my_up_ne fh130 (by omega)]) (fun i q => by rw [my_up_ne fh171 (by omega), my_up_ne fh169 (by omega), my_up_ne fh130 (by omega)]) (fun z => absurd z (by decide)) (fun z => absurd z (by decide)) (fun _ => by omega) | exact Mcu_add (τ := ((h 152, h 151 2) : (Int → Int) × Int)) (κ := 4) mc_17_0 (by omega) rfl (tk_mk (c := 4) (by omega) (by omega) (by omega) (by omega) (by omega) (by omega) (fun i a b => by rw [show i = p17_1 by omega]; omega) (fun a b => by omega) (fun a => by omega) (by omega)) (by decide) (by rw [my_up_ne fh171 (by omega), my_up_self fh169]) (by rw [my_up_ne fh171 (by omega), my_up_ne fh169 (by omega), my_up_self fh130]) (my_up_self fh171) (fun i q => by rw [my_up_ne fh171 (by omega), my_up_ne fh169 (by omega), my_up_ne fh130 (by omega)]) (fun i q => by rw [my_up_ne fh171 (by omega), my_up_ne fh169 (by omega), my_up_ne fh130 (by omega)]) (fun i q => by rw [my_up_ne fh171 (by omega), my_up_ne fh169 (by omega), my_up_ne fh130 (by omega)]) (fun z => absurd z (by decide)) (fun z => absurd z (by decide)) (fun _ => by omega)
                refine w_iinc (ls' := [(2, 151), (0, (p17_0 + 1)), (0, (p17_1 + 1)), (0, v123), (0, p17_1), (1, v123), (9, 0)]) gz_169_273 rfl gm_169 rfl rfl rfl ⟨by omega, by omega⟩ ?_
                refine w_goto (t := 17) gz_169_276 rfl ?_
                have ce173 : h171 151 3 = v109 := ((my_up_role fh171 is_151 is_155 rfl).trans ((my_up_role fh169 is_151 is_153 rfl).trans ((my_up_role fh130 is_151 is_154 rfl).trans ev109.symm)))
                have t3 : ∀ j : Int, h171 153 j = h169 153 j := fun j => ((my_up_role fh171 is_153 is_155 rfl).trans (rfl : h169 153 j = h169 153 j))
                have t5 : ∀ j : Int, h171 155 j = h171 155 j := fun j => rfl
                refine w_weak (ls' := [(2, 151), (0, (p17_0 + 1)), (0, (p17_1 + 1)), (9, 0), (9, 0), (9, 0), (9, 0)]) (wk_e (wk_e (wk_e (wk_9 (wk_9 (wk_9 (wk_9 wk_n))))))) ?_
                exact ih_17_0 ((p17_0 + 1)) ((p17_1 + 1)) (v109) h171 (gh171) (by omega) (by omega) (by omega) (by omega) (by omega) (by omega) (by omega) (((my_up_role fh171 is_151 is_155 rfl).trans ((my_up_role fh169 is_151 is_153 rfl).trans ((my_up_role fh130 is_151 is_154 rfl).trans c151_2_17_0))).trans (by omega)) (((my_up_role fh171 is_151 is_155 rfl).trans ((my_up_role fh169 is_151 is_153 rfl).trans ((my_up_role fh130 is_151 is_154 rfl).trans ev109.symm))).trans (by omega)) Tkn_h171t172 (by first | assumption | omega | (subst_vars; omega) | omega) (by first | assumption | omega | (subst_vars; omega) | omega) (by first | exact mA | exact Mcu_b mc_17_0 (by omega) (by show _ < h 151 2; omega) (by show h 152 _ = 10 ∨ h 152 _ = 32; omega) | exact Mcu_cg mc_17_0 (fun i q => t3 i) (fun i q => my_up_ne f62 (by omega)) (fun i q => t5 i) | exact mc_70_0 | exact mc_159_0 | exact Mcu_0 (by omega) (by omega) (by show 0 ≤ h 151 2; omega) | omega) (by omega) (by omega)
              ·
                refine w_iconst gz_170_12 (by decide) ?_
                refine w_goto (t := 17) gz_170_13 rfl ?_
                refine w_bret gz_170_17 gm_170 (by omega) (by omega) ?_
                show wp l rho (d + 2) 169 67 [(2, 151), (0, p17_0), (0, p17_1), (0, v123), (0, p17_1), (1, (((0 : Fin 2).val : Nat) : Int)), (9, 0)] [(0, 1)] h130 Q
                refine w_ifeq (t := 152) gz_169_67 rfl (fun u174 => by exfalso; omega) (fun u174 => ?_)
                have ce175 : h130 151 3 = v109 := ((my_up_role fh130 is_151 is_154 rfl).trans ev109.symm)
                have tp : ∀ j : Int, h130 152 j = h17_0 152 j := fun j => ((my_up_role fh130 is_152 is_154 rfl).trans (rfl : h17_0 152 j = h17_0 152 j))
                have t3 : ∀ j : Int, h130 153 j = h17_0 153 j := fun j => ((my_up_role fh130 is_153 is_154 rfl).trans (rfl : h17_0 153 j = h17_0 153 j))
                have t5 : ∀ j : Int, h130 155 j = h17_0 155 j := fun j => ((my_up_role fh130 is_155 is_154 rfl).trans (rfl : h17_0 155 j = h17_0 155 j))
                exact J70_0 (1001) (p17_1) (v123) ((((0 : Fin 2).val : Nat) : Int)) h130 (gh130) (by omega) (by omega) (by omega) (by omega) (by omega) (by omega) (by omega) (by omega) (by omega) (by omega) (((my_up_role fh130 is_151 is_154 rfl).trans c151_2_17_0).trans (by omega)) (((my_up_role fh130 is_151 is_154 rfl).trans ev109.symm).trans (by omega)) Tkn_h130 (by first | assumption | omega | (subst_vars; omega) | omega) (by first | assumption | omega | (subst_vars; omega) | omega) (by first | (intro q; rw [tp]; omega) | omega | (intro q; omega) | omega) (by first | assumption | omega | (subst_vars; omega) | omega) (by first | assumption | omega | (subst_vars; omega) | omega) (by first | exact mA | exact Mcu_b mc_17_0 (by omega) (by show _ < h 151 2; omega) (by show h 152 _ = 10 ∨ h 152 _ = 32; omega) | exact Mcu_cg mc_17_0 (fun i q => t3 i) (fun i q => my_up_ne f62 (by omega)) (fun i q => t5 i) | exact mc_70_0 | exact mc_159_0 | exact Mcu_0 (by omega) (by omega) (by show 0 ≤ h 151 2; omega) | omega) (by first | exact my_up_self f62 | exact pl_70_0 | exact pl_159_0 | omega) (by first | omega | exact nb_70_0 | exact nb_159_0 | omega) (by first | (intro i a b; exfalso; omega) | (intro i a b; rcases (by omega : i = p70_0 ∨ i < p70_0) with q | q <;> first | exact rn_70_0 i a q | exact rn_159_0 i a q | (rw [q]; omega)) | omega) (by first | exact k0_70_0 | exact k0_159_0 | omega) (by omega) (by first | exact tw_0 (by omega) rfl | exact tw_s wv_70_0 (by omega) (by omega) (by omega) (by omega) | exact tw_8 wv_70_0 (by omega) (by omega) (by omega) | omega) (by omega)
          ·
            refine w_iinc (ls' := [(2, 151), (0, p17_0), (0, (p17_1 + 1)), (0, v123), (9, 0), (9, 0), (9, 0)]) gz_169_44 rfl gm_169 rfl rfl rfl ⟨by omega, by omega⟩ ?_
            refine w_goto (t := 17) gz_169_47 rfl ?_
            have ce176 : h17_0 151 3 = v109 := ev109.symm
            have t3 : ∀ j : Int, h17_0 153 j = h17_0 153 j := fun _ => rfl
            have t5 : ∀ j : Int, h17_0 155 j = h17_0 155 j := fun _ => rfl
            refine w_weak (ls' := [(2, 151), (0, p17_0), (0, (p17_1 + 1)), (9, 0), (9, 0), (9, 0), (9, 0)]) (wk_e (wk_e (wk_e (wk_9 (wk_9 (wk_9 (wk_9 wk_n))))))) ?_
            exact ih_17_0 (p17_0) ((p17_1 + 1)) (v109) h17_0 (gh_17_0) (by omega) (by omega) (by omega) (by omega) (by omega) (by omega) (by omega) (c151_2_17_0.trans (by omega)) (ev109.symm.trans (by omega)) n_Tkn_17_0 (by first | assumption | omega | (subst_vars; omega) | omega) (by first | assumption | omega | (subst_vars; omega) | omega) (by first | exact mA | exact Mcu_b mc_17_0 (by omega) (by show _ < h 151 2; omega) (by show h 152 _ = 10 ∨ h 152 _ = 32; omega) | exact Mcu_cg mc_17_0 (fun i q => t3 i) (fun i q => my_up_ne f62 (by omega)) (fun i q => t5 i) | exact mc_70_0 | exact mc_159_0 | exact Mcu_0 (by omega) (by omega) (by show 0 ≤ h 151 2; omega) | omega) (by omega) (by omega)
  refine w_aload_n gz_169_0 rfl ?_
  refine w_aload_n gz_169_1 rfl ?_
  refine v_getI (j := 2) gz_169_2 rfl is_151 rd_10 rfl (fun v177 ev177 pv177 qv177 => ?_)
  refine v_putI (j := 3) gz_169_5 rfl is_151 rd_10 rfl (by omega) (by omega) rfl (fun h178 fh178 => ?_)
  have gh178 : my_fr [(10, 2), (10, 3), (10, 7), (10, 8), (52, -1), (53, -1), (54, -1)] h h178 := my_fr.up my_fr.rf is_151 fh178 rfl
  have Tkn_h178 : Tkn h178 0 := Tkn_ag (my_ag.up fh178 is_151 rfl) (fun i a b => absurd b (by omega))
  refine w_aload_n gz_169_8 rfl ?_
  refine w_iconst gz_169_9 (by decide) ?_
  refine v_putI (j := 2) gz_169_10 rfl is_151 rd_10 rfl (by omega) (by omega) rfl (fun h179 fh179 => ?_)
  have gh179 : my_fr [(10, 2), (10, 3), (10, 7), (10, 8), (52, -1), (53, -1), (54, -1)] h h179 := my_fr.up gh178 is_151 fh179 rfl
  have Tkn_h179 : Tkn h179 0 := Tkn_ag (my_ag.up fh179 is_151 rfl) Tkn_h178
  refine w_iconst gz_169_13 (by decide) ?_
  refine w_istore_n (ls' := [(2, 151), (0, 0), (9, 0), (9, 0), (9, 0), (9, 0), (9, 0)]) gz_169_14 gm_169 rfl rfl rfl ?_
  refine w_iconst gz_169_15 (by decide) ?_
  refine w_istore_n (ls' := [(2, 151), (0, 0), (0, 0), (9, 0), (9, 0), (9, 0), (9, 0)]) gz_169_16 gm_169 rfl rfl rfl ?_
  have ce180 : h179 151 3 = v177 := ((my_up_fld fh179 (by decide)).trans (my_up_self fh178))
  have t3 : ∀ j : Int, h179 153 j = h 153 j := fun j => ((my_up_role fh179 is_153 is_151 rfl).trans ((my_up_role fh178 is_153 is_151 rfl).trans (rfl : h 153 j = h 153 j)))
  have t5 : ∀ j : Int, h179 155 j = h 155 j := fun j => ((my_up_role fh179 is_155 is_151 rfl).trans ((my_up_role fh178 is_155 is_151 rfl).trans (rfl : h 155 j = h 155 j)))
  exact J17_0 (1001) (0) (0) (v177) h179 (gh179) (by omega) (by omega) (by omega) (by omega) (by omega) (by omega) (by omega) ((my_up_self fh179).trans (by omega)) (((my_up_fld fh179 (by decide)).trans (my_up_self fh178)).trans (by omega)) Tkn_h179 (by first | assumption | omega | (subst_vars; omega) | omega) (by first | assumption | omega | (subst_vars; omega) | omega) (by first | exact mA | exact Mcu_b mc_17_0 (by omega) (by show _ < h 151 2; omega) (by show h 152 _ = 10 ∨ h 152 _ = 32; omega) | exact Mcu_cg mc_17_0 (fun i q => t3 i) (fun i q => my_up_ne f62 (by omega)) (fun i q => t5 i) | exact mc_70_0 | exact mc_159_0 | exact Mcu_0 (by omega) (by omega) (by show 0 ≤ h 151 2; omega) | omega) (by omega) (by omega)
theorem c_Model_isWord9_f1 {l : Launch} {rho : Nat → Int32} {d : Nat} {h : my_H} {Q : my_H → my_V → Prop} {x1 : Int} (a1 : 0 ≤ x1) (b1 : x1 ≤ 11) (xf : Int) (cf : h 151 8 = xf) (cf1 : 1 ≤ xf) (cf2 : xf ≤ 16005) (n_Wd9 : Wd9 h) (k0 : 1 ≤ h 151 8 → h 151 8 ≤ 16005 → (h 151 8 = 0 → sW (sm h) (h 151 7) ≠ wm x1) → Q h (0, 0)) : wp l rho d 177 0 [(2, 151), (0, x1)] [] h Q := by
  have w9 := n_Wd9 x1 a1 b1
  refine w_aload_n gz_177_0 rfl ?_
  refine v_getI (j := 8) gz_177_1 rfl is_151 rd_10 rfl (fun v1 ev1 pv1 qv1 => ?_)
  have zv1 := ev1.trans cf
  refine w_ifne (t := 43) gz_177_4 rfl (fun u2 => ?_) (fun u2 => by exfalso; omega)
  refine w_iconst gz_177_43 (by decide) ?_
  have psR : h 151 7 = h 151 7 := (rfl : h 151 7 = h 151 7)
  have npsR : sm h = sm h := rfl
  have c3 := ev1.symm
  exact w_bret gz_177_44 gm_177 (by omega) (by omega) (k0 (by omega) (by omega) (by first | omega | (subst_vars; omega) | exact sW_1 (by omega) (by omega) | (intro z; have q := sW_0 (wm_pos a1 b1) z; omega) | (intro f z; have q := sW_0 (wm_pos a1 b1) z; omega) | omega))
theorem c_Model_isWord9_f0 {l : Launch} {rho : Nat → Int32} {d : Nat} {h : my_H} {Q : my_H → my_V → Prop} {x1 : Int} (a1 : 0 ≤ x1) (b1 : x1 ≤ 11) (cf : h 151 8 = 0) (n_Wd9 : Wd9 h) (k0 : h 151 8 = 0 → sW (sm h) (h 151 7) ≠ wm x1 → Q h (0, 0)) (k1 : h 151 8 = 0 → h 153 (h 151 7) = 1 → h 155 (h 151 7) = h 156 x1 → h 151 8 = 0 → sW (sm h) (h 151 7) = wm x1 → Q h (0, 1)) : wp l rho d 177 0 [(2, 151), (0, x1)] [] h Q := by
  have w9 := n_Wd9 x1 a1 b1
  refine w_aload_n gz_177_0 rfl ?_
  refine v_getI (j := 8) gz_177_1 rfl is_151 rd_10 rfl (fun v1 ev1 pv1 qv1 => ?_)
  have zv1 := ev1.trans cf
  refine w_ifne (t := 43) gz_177_4 rfl (fun u2 => by exfalso; omega) (fun u2 => ?_)
  refine w_aload_n gz_177_7 rfl ?_
  refine w_getX (v := 153) gz_177_8 is_151 rd_10 rfl (by decide) rfl ?_
  refine w_aload_n gz_177_11 rfl ?_
  refine v_getI (j := 7) gz_177_12 rfl is_151 rd_10 rfl (fun v4 ev4 pv4 qv4 => ?_)
  refine w_iald gz_177_15 is_153 rd_52 (by omega) (by omega) (fun v5 ev5 pv5 qv5 => ?_)
  have nz6 : (v5 ≠ 3 → sK (sm h) (h 151 7) = v5) ∧ (v5 = 3 → sV (sm h) (h 151 7) = 59 → sK (sm h) (h 151 7) = 3) ∧ (v5 = 3 → sV (sm h) (h 151 7) ≠ 59 → sK (sm h) (h 151 7) = 4) := by
    have q := ev5
    rw [show (v4 : Int) = h 151 7 from by omega] at q
    exact sK_ld q
  refine w_iconst gz_177_16 (by decide) ?_
  refine w_icne (t := 43) gz_177_17 rfl (fun u7 => ?_) (fun u7 => ?_)
  ·
    refine w_iconst gz_177_43 (by decide) ?_
    have psR : h 151 7 = h 151 7 := (rfl : h 151 7 = h 151 7)
    have npsR : sm h = sm h := rfl
    have c8 := ev1.symm
    exact w_bret gz_177_44 gm_177 (by omega) (by omega) (k0 (by omega) (by first | omega | (subst_vars; omega) | exact sW_1 (by omega) (by omega) | (intro z; have q := sW_0 (wm_pos a1 b1) z; omega) | (intro f z; have q := sW_0 (wm_pos a1 b1) z; omega) | omega))
  ·
    refine w_aload_n gz_177_20 rfl ?_
    refine w_getX (v := 155) gz_177_21 is_151 rd_10 rfl (by decide) rfl ?_
    refine w_aload_n gz_177_24 rfl ?_
    refine v_getI (j := 7) gz_177_25 rfl is_151 rd_10 rfl (fun v10 ev10 pv10 qv10 => ?_)
    have zv10 := ev10.trans ev4.symm
    refine w_lald gz_177_28 is_155 rd_54 (by omega) (by omega) (fun v11 ev11 pv11 => ?_)
    have nz12 : v11 = sV (sm h) (h 151 7) := by
      have q := ev11
      rw [show (v10 : Int) = h 151 7 from by omega] at q
      exact q
    refine w_aload_n gz_177_29 rfl ?_
    refine w_getX (v := 156) gz_177_30 is_151 rd_10 rfl (by decide) rfl ?_
    refine w_iload_n gz_177_33 rfl ?_
    refine w_lald gz_177_34 is_156 rd_55 (by omega) (by omega) (fun v14 ev14 pv14 => ?_)
    refine w_lcmpE gz_177_35 (fun v15 pv15 qv15 xv15 => ?_)
    refine w_ifne (t := 43) gz_177_36 rfl (fun u16 => ?_) (fun u16 => ?_)
    ·
      refine w_iconst gz_177_43 (by decide) ?_
      have psR : h 151 7 = h 151 7 := (rfl : h 151 7 = h 151 7)
      have npsR : sm h = sm h := rfl
      have c17 := ev1.symm
      exact w_bret gz_177_44 gm_177 (by omega) (by omega) (k0 (by omega) (by first | omega | (subst_vars; omega) | exact sW_1 (by omega) (by omega) | (intro z; have q := sW_0 (wm_pos a1 b1) z; omega) | (intro f z; have q := sW_0 (wm_pos a1 b1) z; omega) | omega))
    ·
      refine w_iconst gz_177_39 (by decide) ?_
      refine w_goto (t := 44) gz_177_40 rfl ?_
      have psR : h 151 7 = h 151 7 := (rfl : h 151 7 = h 151 7)
      have npsR : sm h = sm h := rfl
      have c18 := ev1.symm
      exact w_bret gz_177_44 gm_177 (by omega) (by omega) (k1 (by omega) (by first | omega | (subst_vars; omega) | exact sW_1 (by omega) (by omega) | (intro z; have q := sW_0 (wm_pos a1 b1) z; omega) | (intro f z; have q := sW_0 (wm_pos a1 b1) z; omega) | omega) (by first | omega | (subst_vars; omega) | exact sW_1 (by omega) (by omega) | (intro z; have q := sW_0 (wm_pos a1 b1) z; omega) | (intro f z; have q := sW_0 (wm_pos a1 b1) z; omega) | omega) (by first | omega | (subst_vars; omega) | exact sW_1 (by omega) (by omega) | (intro z; have q := sW_0 (wm_pos a1 b1) z; omega) | (intro f z; have q := sW_0 (wm_pos a1 b1) z; omega) | omega) (by first | omega | (subst_vars; omega) | exact sW_1 (by omega) (by omega) | (intro z; have q := sW_0 (wm_pos a1 b1) z; omega) | (intro f z; have q := sW_0 (wm_pos a1 b1) z; omega) | omega))
theorem c_Model_isWord9_fq {l : Launch} {rho : Nat → Int32} {d : Nat} {h : my_H} {Q : my_H → my_V → Prop} {x1 : Int} (a1 : 0 ≤ x1) (b1 : x1 ≤ 11) (n_Wd9 : Wd9 h) (k0 : 1 ≤ h 151 8 → h 151 8 ≤ 16005 → (h 151 8 = 0 → sW (sm h) (h 151 7) ≠ wm x1) → Q h (0, 0)) (k1 : h 151 8 = 0 → (h 151 8 = 0 → sW (sm h) (h 151 7) ≠ wm x1) → Q h (0, 0)) (k2 : h 151 8 = 0 → h 153 (h 151 7) = 1 → h 155 (h 151 7) = h 156 x1 → h 151 8 = 0 → sW (sm h) (h 151 7) = wm x1 → Q h (0, 1)) : wp l rho d 177 0 [(2, 151), (0, x1)] [] h Q := by
  have w9 := n_Wd9 x1 a1 b1
  refine w_aload_n gz_177_0 rfl ?_
  refine v_getI (j := 8) gz_177_1 rfl is_151 rd_10 rfl (fun v1 ev1 pv1 qv1 => ?_)
  refine w_ifne (t := 43) gz_177_4 rfl (fun u2 => ?_) (fun u2 => ?_)
  ·
    refine w_iconst gz_177_43 (by decide) ?_
    have psR : h 151 7 = h 151 7 := (rfl : h 151 7 = h 151 7)
    have npsR : sm h = sm h := rfl
    have c3 := ev1.symm
    exact w_bret gz_177_44 gm_177 (by omega) (by omega) (k0 (by omega) (by omega) (by first | omega | (subst_vars; omega) | exact sW_1 (by omega) (by omega) | (intro z; have q := sW_0 (wm_pos a1 b1) z; omega) | (intro f z; have q := sW_0 (wm_pos a1 b1) z; omega) | omega))
  ·
    refine w_aload_n gz_177_7 rfl ?_
    refine w_getX (v := 153) gz_177_8 is_151 rd_10 rfl (by decide) rfl ?_
    refine w_aload_n gz_177_11 rfl ?_
    refine v_getI (j := 7) gz_177_12 rfl is_151 rd_10 rfl (fun v5 ev5 pv5 qv5 => ?_)
    refine w_iald gz_177_15 is_153 rd_52 (by omega) (by omega) (fun v6 ev6 pv6 qv6 => ?_)
    have nz7 : (v6 ≠ 3 → sK (sm h) (h 151 7) = v6) ∧ (v6 = 3 → sV (sm h) (h 151 7) = 59 → sK (sm h) (h 151 7) = 3) ∧ (v6 = 3 → sV (sm h) (h 151 7) ≠ 59 → sK (sm h) (h 151 7) = 4) := by
      have q := ev6
      rw [show (v5 : Int) = h 151 7 from by omega] at q
      exact sK_ld q
    refine w_iconst gz_177_16 (by decide) ?_
    refine w_icne (t := 43) gz_177_17 rfl (fun u8 => ?_) (fun u8 => ?_)
    ·
      refine w_iconst gz_177_43 (by decide) ?_
      have psR : h 151 7 = h 151 7 := (rfl : h 151 7 = h 151 7)
      have npsR : sm h = sm h := rfl
      have c9 := ev1.symm
      exact w_bret gz_177_44 gm_177 (by omega) (by omega) (k1 (by omega) (by first | omega | (subst_vars; omega) | exact sW_1 (by omega) (by omega) | (intro z; have q := sW_0 (wm_pos a1 b1) z; omega) | (intro f z; have q := sW_0 (wm_pos a1 b1) z; omega) | omega))
    ·
      refine w_aload_n gz_177_20 rfl ?_
      refine w_getX (v := 155) gz_177_21 is_151 rd_10 rfl (by decide) rfl ?_
      refine w_aload_n gz_177_24 rfl ?_
      refine v_getI (j := 7) gz_177_25 rfl is_151 rd_10 rfl (fun v11 ev11 pv11 qv11 => ?_)
      have zv11 := ev11.trans ev5.symm
      refine w_lald gz_177_28 is_155 rd_54 (by omega) (by omega) (fun v12 ev12 pv12 => ?_)
      have nz13 : v12 = sV (sm h) (h 151 7) := by
        have q := ev12
        rw [show (v11 : Int) = h 151 7 from by omega] at q
        exact q
      refine w_aload_n gz_177_29 rfl ?_
      refine w_getX (v := 156) gz_177_30 is_151 rd_10 rfl (by decide) rfl ?_
      refine w_iload_n gz_177_33 rfl ?_
      refine w_lald gz_177_34 is_156 rd_55 (by omega) (by omega) (fun v15 ev15 pv15 => ?_)
      refine w_lcmpE gz_177_35 (fun v16 pv16 qv16 xv16 => ?_)
      refine w_ifne (t := 43) gz_177_36 rfl (fun u17 => ?_) (fun u17 => ?_)
      ·
        refine w_iconst gz_177_43 (by decide) ?_
        have psR : h 151 7 = h 151 7 := (rfl : h 151 7 = h 151 7)
        have npsR : sm h = sm h := rfl
        have c18 := ev1.symm
        exact w_bret gz_177_44 gm_177 (by omega) (by omega) (k1 (by omega) (by first | omega | (subst_vars; omega) | exact sW_1 (by omega) (by omega) | (intro z; have q := sW_0 (wm_pos a1 b1) z; omega) | (intro f z; have q := sW_0 (wm_pos a1 b1) z; omega) | omega))
      ·
        refine w_iconst gz_177_39 (by decide) ?_
        refine w_goto (t := 44) gz_177_40 rfl ?_
        have psR : h 151 7 = h 151 7 := (rfl : h 151 7 = h 151 7)
        have npsR : sm h = sm h := rfl
        have c19 := ev1.symm
        exact w_bret gz_177_44 gm_177 (by omega) (by omega) (k2 (by omega) (by first | omega | (subst_vars; omega) | exact sW_1 (by omega) (by omega) | (intro z; have q := sW_0 (wm_pos a1 b1) z; omega) | (intro f z; have q := sW_0 (wm_pos a1 b1) z; omega) | omega) (by first | omega | (subst_vars; omega) | exact sW_1 (by omega) (by omega) | (intro z; have q := sW_0 (wm_pos a1 b1) z; omega) | (intro f z; have q := sW_0 (wm_pos a1 b1) z; omega) | omega) (by first | omega | (subst_vars; omega) | exact sW_1 (by omega) (by omega) | (intro z; have q := sW_0 (wm_pos a1 b1) z; omega) | (intro f z; have q := sW_0 (wm_pos a1 b1) z; omega) | omega) (by first | omega | (subst_vars; omega) | exact sW_1 (by omega) (by omega) | (intro z; have q := sW_0 (wm_pos a1 b1) z; omega) | (intro f z; have q := sW_0 (wm_pos a1 b1) z; omega) | omega))
theorem c_Model_takeSign9_f1 {l : Launch} {rho : Nat → Int32} {d : Nat} {h : my_H} {Q : my_H → my_V → Prop} (xf : Int) (cf : h 151 8 = xf) (cf1 : 1 ≤ xf) (cf2 : xf ≤ 16005) (n_Tok : Tok h) (k0 : 1 ≤ h 151 8 → h 151 8 ≤ 16005 → h 151 7 ≤ h 151 7 → h 151 7 = h 151 7 → Tok h → Q h (9, 0)) : wp l rho (d + 1) 183 0 [(2, 151), (0, 59)] [] h Q := by
  refine v_know (x := 151) (j := 7) (b := 7) rfl is_151 rd_10 rfl (fun k151_7 ek151_7 pk151_7 qk151_7 => ?_)
  refine w_aload_n gz_183_0 rfl ?_
  refine w_iload_n gz_183_1 rfl ?_
  refine w_inv (k := 0) (as := [(0, 59)]) (r := []) (x := 151) (ls0 := [(2, 151), (0, 59)]) gz_183_2 gm_184 rfl is_151 rd_10 rfl rfl rfl rfl rfl ?_
  refine w_aload_n gz_184_0 rfl ?_
  refine v_getI (j := 8) gz_184_1 rfl is_151 rd_10 rfl (fun v1 ev1 pv1 qv1 => ?_)
  have zv1 := ev1.trans cf
  refine w_ifne (t := 39) gz_184_4 rfl (fun u2 => ?_) (fun u2 => by exfalso; omega)
  refine w_iconst gz_184_39 (by decide) ?_
  refine w_bret gz_184_40 gm_184 (by omega) (by omega) ?_
  show wp l rho (d + 1) 183 5 [(2, 151), (0, 59)] [(0, 0)] h Q
  refine w_ifeq (t := 21) gz_183_5 rfl (fun u3 => ?_) (fun u3 => by exfalso; omega)
  refine w_aload_n gz_183_21 rfl ?_
  refine w_iconst gz_183_22 (by decide) ?_
  refine w_inv (k := 0) (as := [(0, 1)]) (r := []) (x := 151) (ls0 := [(2, 151), (0, 1)]) gz_183_23 gm_178 rfl is_151 rd_10 rfl rfl rfl rfl rfl ?_
  refine w_aload_n gz_178_0 rfl ?_
  refine v_getI (j := 8) gz_178_1 rfl is_151 rd_10 rfl (fun v4 ev4 pv4 qv4 => ?_)
  have zv4 := ev4.trans ev1.symm
  refine w_ifne (t := 25) gz_178_4 rfl (fun u5 => ?_) (fun u5 => by exfalso; omega)
  refine w_vret gz_178_25 gm_178 ?_
  show wp l rho (d + 1) 183 26 [(2, 151), (0, 59)] [] h Q
  have psR : h 151 7 = h 151 7 := (rfl : h 151 7 = h 151 7)
  have npsR : sm h = sm h := rfl
  have ce6 : h 151 7 = k151_7 := ek151_7.symm
  have c7 := ev4.symm
  exact w_vret gz_183_26 gm_183 (k0 (by omega) (by omega) (by first | assumption | omega | (subst_vars; omega) | omega) (by first | assumption | omega | (subst_vars; omega) | omega) n_Tok)
theorem c_Model_takeSign9_f0 {l : Launch} {rho : Nat → Int32} {d : Nat} {h : my_H} {Q : my_H → my_V → Prop} (cf : h 151 8 = 0) (n_Tok : Tok h) (k0 : ∀ (h' : my_H), my_fr [(10, 7), (10, 8)] h h' → 1 ≤ h' 151 8 → h' 151 8 ≤ 16001 → h 151 7 ≤ h' 151 7 → sK (sm h) (h 151 7) ≠ 3 → h' 151 8 = 1 + 16 * sP (sm h) (h 151 7) → Tok h' → Q h' (9, 0)) (k1 : ∀ (h' : my_H), my_fr [(10, 7), (10, 8)] h h' → 1 ≤ h' 151 7 → h' 151 7 ≤ 1001 → h' 151 8 = 0 → h 151 7 ≤ h' 151 7 → h' 151 7 = sN (sm h) (h 151 7) → sK (sm h) (h 151 7) = 3 → Tok h' → Q h' (9, 0)) : wp l rho (d + 1) 183 0 [(2, 151), (0, 59)] [] h Q := by
  refine v_know (x := 151) (j := 7) (b := 7) rfl is_151 rd_10 rfl (fun k151_7 ek151_7 pk151_7 qk151_7 => ?_)
  refine w_aload_n gz_183_0 rfl ?_
  refine w_iload_n gz_183_1 rfl ?_
  refine w_inv (k := 0) (as := [(0, 59)]) (r := []) (x := 151) (ls0 := [(2, 151), (0, 59)]) gz_183_2 gm_184 rfl is_151 rd_10 rfl rfl rfl rfl rfl ?_
  refine w_aload_n gz_184_0 rfl ?_
  refine v_getI (j := 8) gz_184_1 rfl is_151 rd_10 rfl (fun v1 ev1 pv1 qv1 => ?_)
  have zv1 := ev1.trans cf
  refine w_ifne (t := 39) gz_184_4 rfl (fun u2 => by exfalso; omega) (fun u2 => ?_)
  refine w_aload_n gz_184_7 rfl ?_
  refine w_getX (v := 153) gz_184_8 is_151 rd_10 rfl (by decide) rfl ?_
  refine w_aload_n gz_184_11 rfl ?_
  refine v_getI (j := 7) gz_184_12 rfl is_151 rd_10 rfl (fun v4 ev4 pv4 qv4 => ?_)
  have zv4 := ev4.trans ek151_7.symm
  refine w_iald gz_184_15 is_153 rd_52 (by omega) (by omega) (fun v5 ev5 pv5 qv5 => ?_)
  have nz6 : (v5 ≠ 3 → sK (sm h) (h 151 7) = v5) ∧ (v5 = 3 → sV (sm h) (h 151 7) = 59 → sK (sm h) (h 151 7) = 3) ∧ (v5 = 3 → sV (sm h) (h 151 7) ≠ 59 → sK (sm h) (h 151 7) = 4) := by
    have q := ev5
    rw [show (v4 : Int) = h 151 7 from by omega] at q
    exact sK_ld q
  refine w_iconst gz_184_16 (by decide) ?_
  refine w_icne (t := 39) gz_184_17 rfl (fun u7 => ?_) (fun u7 => ?_)
  ·
    refine w_iconst gz_184_39 (by decide) ?_
    refine w_bret gz_184_40 gm_184 (by omega) (by omega) ?_
    show wp l rho (d + 1) 183 5 [(2, 151), (0, 59)] [(0, 0)] h Q
    refine w_ifeq (t := 21) gz_183_5 rfl (fun u8 => ?_) (fun u8 => by exfalso; omega)
    refine w_aload_n gz_183_21 rfl ?_
    refine w_iconst gz_183_22 (by decide) ?_
    refine w_inv (k := 0) (as := [(0, 1)]) (r := []) (x := 151) (ls0 := [(2, 151), (0, 1)]) gz_183_23 gm_178 rfl is_151 rd_10 rfl rfl rfl rfl rfl ?_
    refine w_aload_n gz_178_0 rfl ?_
    refine v_getI (j := 8) gz_178_1 rfl is_151 rd_10 rfl (fun v9 ev9 pv9 qv9 => ?_)
    have zv9 := ev9.trans ev1.symm
    refine w_ifne (t := 25) gz_178_4 rfl (fun u10 => by exfalso; omega) (fun u10 => ?_)
    refine w_aload_n gz_178_7 rfl ?_
    refine w_iload_n gz_178_8 rfl ?_
    refine w_bipush gz_178_9 (by decide) ?_
    refine w_aload_n gz_178_11 rfl ?_
    refine w_getX (v := 154) gz_178_12 is_151 rd_10 rfl (by decide) rfl ?_
    refine w_aload_n gz_178_15 rfl ?_
    refine v_getI (j := 7) gz_178_16 rfl is_151 rd_10 rfl (fun v12 ev12 pv12 qv12 => ?_)
    have zv12 := ev12.trans ev4.symm
    refine w_iald gz_178_19 is_154 rd_53 (by omega) (by omega) (fun v13 ev13 pv13 qv13 => ?_)
    have nz14 : v13 = sP (sm h) (h 151 7) := by
      have q := ev13
      rw [show (v12 : Int) = h 151 7 from by omega] at q
      exact q
    refine w_imul gz_178_20 ⟨by omega, by omega⟩ ?_
    refine w_iadd gz_178_21 ⟨by omega, by omega⟩ ?_
    refine v_putI (j := 8) gz_178_22 rfl is_151 rd_10 rfl (by omega) (by omega) rfl (fun h15 fh15 => ?_)
    have gh15 : my_fr [(10, 7), (10, 8)] h h15 := my_fr.up my_fr.rf is_151 fh15 rfl
    have Tok_h15 : Tok h15 := Tok_ag (my_ag.up fh15 is_151 rfl) n_Tok
    refine w_vret gz_178_25 gm_178 ?_
    show wp l rho (d + 1) 183 26 [(2, 151), (0, 59)] [] h15 Q
    have psR : h15 151 7 = h 151 7 := ((my_up_fld fh15 (by decide)).trans (rfl : h 151 7 = h 151 7))
    have npsR : sm h15 = sm h := sm_eq (fun j => my_fr.at gh15 is_153 rfl) (fun j => my_fr.at gh15 is_154 rfl) (fun j => my_fr.at gh15 is_155 rfl)
    have ce16 : h15 151 7 = v12 := ((my_up_fld fh15 (by decide)).trans ev12.symm)
    have c17 := (my_up_self fh15)
    exact w_vret gz_183_26 gm_183 (k0 h15 (gh15) (by omega) (by omega) (by first | assumption | omega | (subst_vars; omega) | omega) (by first | assumption | omega | (subst_vars; omega) | omega) (by first | assumption | omega | (subst_vars; omega) | omega) Tok_h15)
  ·
    refine w_aload_n gz_184_20 rfl ?_
    refine w_getX (v := 155) gz_184_21 is_151 rd_10 rfl (by decide) rfl ?_
    refine w_aload_n gz_184_24 rfl ?_
    refine v_getI (j := 7) gz_184_25 rfl is_151 rd_10 rfl (fun v19 ev19 pv19 qv19 => ?_)
    have zv19 := ev19.trans ev4.symm
    refine w_lald gz_184_28 is_155 rd_54 (by omega) (by omega) (fun v20 ev20 pv20 => ?_)
    have nz21 : v20 = sV (sm h) (h 151 7) := by
      have q := ev20
      rw [show (v19 : Int) = h 151 7 from by omega] at q
      exact q
    refine w_iload_n gz_184_29 rfl ?_
    refine w_i2l gz_184_30 ?_
    refine w_lcmp gz_184_31 (fun v22 pv22 qv22 => ?_)
    refine w_ifne (t := 39) gz_184_32 rfl (fun u23 => ?_) (fun u23 => ?_)
    ·
      refine w_iconst gz_184_39 (by decide) ?_
      refine w_bret gz_184_40 gm_184 (by omega) (by omega) ?_
      show wp l rho (d + 1) 183 5 [(2, 151), (0, 59)] [(0, 0)] h Q
      refine w_ifeq (t := 21) gz_183_5 rfl (fun u24 => ?_) (fun u24 => by exfalso; omega)
      refine w_aload_n gz_183_21 rfl ?_
      refine w_iconst gz_183_22 (by decide) ?_
      refine w_inv (k := 0) (as := [(0, 1)]) (r := []) (x := 151) (ls0 := [(2, 151), (0, 1)]) gz_183_23 gm_178 rfl is_151 rd_10 rfl rfl rfl rfl rfl ?_
      refine w_aload_n gz_178_0 rfl ?_
      refine v_getI (j := 8) gz_178_1 rfl is_151 rd_10 rfl (fun v25 ev25 pv25 qv25 => ?_)
      have zv25 := ev25.trans ev1.symm
      refine w_ifne (t := 25) gz_178_4 rfl (fun u26 => by exfalso; omega) (fun u26 => ?_)
      refine w_aload_n gz_178_7 rfl ?_
      refine w_iload_n gz_178_8 rfl ?_
      refine w_bipush gz_178_9 (by decide) ?_
      refine w_aload_n gz_178_11 rfl ?_
      refine w_getX (v := 154) gz_178_12 is_151 rd_10 rfl (by decide) rfl ?_
      refine w_aload_n gz_178_15 rfl ?_
      refine v_getI (j := 7) gz_178_16 rfl is_151 rd_10 rfl (fun v28 ev28 pv28 qv28 => ?_)
      have zv28 := ev28.trans ev19.symm
      refine w_iald gz_178_19 is_154 rd_53 (by omega) (by omega) (fun v29 ev29 pv29 qv29 => ?_)
      have nz30 : v29 = sP (sm h) (h 151 7) := by
        have q := ev29
        rw [show (v28 : Int) = h 151 7 from by omega] at q
        exact q
      refine w_imul gz_178_20 ⟨by omega, by omega⟩ ?_
      refine w_iadd gz_178_21 ⟨by omega, by omega⟩ ?_
      refine v_putI (j := 8) gz_178_22 rfl is_151 rd_10 rfl (by omega) (by omega) rfl (fun h31 fh31 => ?_)
      have gh31 : my_fr [(10, 7), (10, 8)] h h31 := my_fr.up my_fr.rf is_151 fh31 rfl
      have Tok_h31 : Tok h31 := Tok_ag (my_ag.up fh31 is_151 rfl) n_Tok
      refine w_vret gz_178_25 gm_178 ?_
      show wp l rho (d + 1) 183 26 [(2, 151), (0, 59)] [] h31 Q
      have psR : h31 151 7 = h 151 7 := ((my_up_fld fh31 (by decide)).trans (rfl : h 151 7 = h 151 7))
      have npsR : sm h31 = sm h := sm_eq (fun j => my_fr.at gh31 is_153 rfl) (fun j => my_fr.at gh31 is_154 rfl) (fun j => my_fr.at gh31 is_155 rfl)
      have ce32 : h31 151 7 = v28 := ((my_up_fld fh31 (by decide)).trans ev28.symm)
      have c33 := (my_up_self fh31)
      exact w_vret gz_183_26 gm_183 (k0 h31 (gh31) (by omega) (by omega) (by first | assumption | omega | (subst_vars; omega) | omega) (by first | assumption | omega | (subst_vars; omega) | omega) (by first | assumption | omega | (subst_vars; omega) | omega) Tok_h31)
    ·
      refine w_iconst gz_184_35 (by decide) ?_
      refine w_goto (t := 40) gz_184_36 rfl ?_
      refine w_bret gz_184_40 gm_184 (by omega) (by omega) ?_
      show wp l rho (d + 1) 183 5 [(2, 151), (0, 59)] [(0, 1)] h Q
      refine w_ifeq (t := 21) gz_183_5 rfl (fun u34 => by exfalso; omega) (fun u34 => ?_)
      refine w_aload_n gz_183_8 rfl ?_
      refine w_dup gz_183_9 rfl ?_
      refine v_getI (j := 7) gz_183_10 rfl is_151 rd_10 rfl (fun v35 ev35 pv35 qv35 => ?_)
      have zv35 := ev35.trans ev19.symm
      refine w_iconst gz_183_13 (by decide) ?_
      refine w_iadd gz_183_14 ⟨by omega, by omega⟩ ?_
      have hi36 : 0 ≤ (v35 + 1) := by have q := Tok_at n_Tok; omega
      have hi37 : (v35 + 1) ≤ 1001 := by have q := Tok_at n_Tok; omega
      refine v_putI (j := 7) gz_183_15 rfl is_151 rd_10 rfl (by omega) (by omega) rfl (fun h38 fh38 => ?_)
      have gh38 : my_fr [(10, 7), (10, 8)] h h38 := my_fr.up my_fr.rf is_151 fh38 rfl
      have ps39 : h38 151 7 = (sN (sm h) (h 151 7)) := by
        rw [my_up_self fh38]
        show (v35 + 1) = h 151 7 + 1
        omega
      have Tok_h38t40 : Tok h38 := by first | exact Tok_inc n_Tok (by subst_vars; omega) (by omega) fh38 | exact Tok_set n_Tok (by omega) fh38 | omega
      refine w_goto (t := 26) gz_183_18 rfl ?_
      have psR : h38 151 7 = (sN (sm h) (h 151 7)) := ps39
      have npsR : sm h38 = sm h := sm_eq (fun j => my_fr.at gh38 is_153 rfl) (fun j => my_fr.at gh38 is_154 rfl) (fun j => my_fr.at gh38 is_155 rfl)
      have ce41 : h38 151 7 = (v35 + 1) := (my_up_self fh38)
      have c42 := (my_up_self fh38)
      have c43 := ((my_up_fld fh38 (by decide)).trans ev1.symm)
      exact w_vret gz_183_26 gm_183 (k1 h38 (gh38) (by omega) (by omega) (by omega) (by first | assumption | omega | (subst_vars; omega) | omega) (by first | assumption | omega | (subst_vars; omega) | omega) (by first | assumption | omega | (subst_vars; omega) | omega) Tok_h38t40)
theorem c_Model_takeNumber9_f1 {l : Launch} {rho : Nat → Int32} {d : Nat} {h : my_H} {Q : my_H → my_V → Prop} {x1 : Int} (a1 : (-1) ≤ x1) (b1 : x1 ≤ 19) (xf : Int) (cf : h 151 8 = xf) (cf1 : 1 ≤ xf) (cf2 : xf ≤ 16005) (n_Tok : Tok h) (k0 : 1 ≤ h 151 8 → h 151 8 ≤ 16005 → h 151 7 = h 151 7 → Tok h → Q h (0, 0)) : wp l rho (d + 1) 187 0 [(2, 151), (0, x1)] [] h Q := by
  refine v_know (x := 151) (j := 7) (b := 7) rfl is_151 rd_10 rfl (fun k151_7 ek151_7 pk151_7 qk151_7 => ?_)
  refine w_aload_n gz_187_0 rfl ?_
  refine v_getI (j := 8) gz_187_1 rfl is_151 rd_10 rfl (fun v1 ev1 pv1 qv1 => ?_)
  have zv1 := ev1.trans cf
  refine w_ifne (t := 28) gz_187_4 rfl (fun u2 => ?_) (fun u2 => by exfalso; omega)
  refine w_aload_n gz_187_28 rfl ?_
  refine v_getI (j := 8) gz_187_29 rfl is_151 rd_10 rfl (fun v3 ev3 pv3 qv3 => ?_)
  have zv3 := ev3.trans ev1.symm
  refine w_ifne (t := 55) gz_187_32 rfl (fun u4 => ?_) (fun u4 => by exfalso; omega)
  refine w_aload_n gz_187_55 rfl ?_
  refine v_getI (j := 8) gz_187_56 rfl is_151 rd_10 rfl (fun v5 ev5 pv5 qv5 => ?_)
  have zv5 := ev5.trans ev3.symm
  refine w_ifle (t := 64) gz_187_59 rfl (fun u6 => by exfalso; omega) (fun u6 => ?_)
  refine w_iconst gz_187_62 (by decide) ?_
  have psR : h 151 7 = h 151 7 := (rfl : h 151 7 = h 151 7)
  have npsR : sm h = sm h := rfl
  have ce7 : h 151 7 = k151_7 := ek151_7.symm
  have c8 := ev5.symm
  exact w_iret gz_187_63 gm_187 (k0 (by omega) (by omega) (by first | assumption | omega | (subst_vars; omega) | omega) n_Tok)
theorem c_Model_takeNumber9_f0 {l : Launch} {rho : Nat → Int32} {d : Nat} {h : my_H} {Q : my_H → my_V → Prop} {x1 : Int} (a1 : (-1) ≤ x1) (b1 : x1 ≤ 19) (cf : h 151 8 = 0) (n_Tok : Tok h) (k0 : ∀ (h' : my_H), my_fr [(10, 7), (10, 8)] h h' → 1 ≤ h' 151 8 → h' 151 8 ≤ 16004 → h' 151 7 = h 151 7 → (sK (sm h) (h 151 7) ≠ 2 ∧ h' 151 8 = 1 + 16 * sP (sm h) (h 151 7)) ∨ (sK (sm h) (h 151 7) = 2 ∧ x1 < sV (sm h) (h 151 7) ∧ h' 151 8 = 4 + 16 * sP (sm h) (h 151 7)) → Tok h' → Q h' (0, 0)) (k1 : ∀ (h' : my_H) (y : Int), my_fr [(10, 7), (10, 8)] h h' → 0 ≤ y → y ≤ 999 → 1 ≤ h' 151 7 → h' 151 7 ≤ 1001 → h' 151 8 = 0 → 0 ≤ y → y ≤ x1 → h' 151 7 = h 151 7 + 1 → h 153 (h 151 7) = 2 → y = h 155 (h 151 7) → h' 151 7 = sN (sm h) (h 151 7) → sK (sm h) (h 151 7) = 2 → y = sV (sm h) (h 151 7) → Tok h' → Q h' (0, y)) : wp l rho (d + 1) 187 0 [(2, 151), (0, x1)] [] h Q := by
  refine v_know (x := 151) (j := 7) (b := 7) rfl is_151 rd_10 rfl (fun k151_7 ek151_7 pk151_7 qk151_7 => ?_)
  refine w_aload_n gz_187_0 rfl ?_
  refine v_getI (j := 8) gz_187_1 rfl is_151 rd_10 rfl (fun v1 ev1 pv1 qv1 => ?_)
  have zv1 := ev1.trans cf
  refine w_ifne (t := 28) gz_187_4 rfl (fun u2 => by exfalso; omega) (fun u2 => ?_)
  refine w_aload_n gz_187_7 rfl ?_
  refine w_getX (v := 153) gz_187_8 is_151 rd_10 rfl (by decide) rfl ?_
  refine w_aload_n gz_187_11 rfl ?_
  refine v_getI (j := 7) gz_187_12 rfl is_151 rd_10 rfl (fun v4 ev4 pv4 qv4 => ?_)
  have zv4 := ev4.trans ek151_7.symm
  refine w_iald gz_187_15 is_153 rd_52 (by omega) (by omega) (fun v5 ev5 pv5 qv5 => ?_)
  have nz6 : (v5 ≠ 3 → sK (sm h) (h 151 7) = v5) ∧ (v5 = 3 → sV (sm h) (h 151 7) = 59 → sK (sm h) (h 151 7) = 3) ∧ (v5 = 3 → sV (sm h) (h 151 7) ≠ 59 → sK (sm h) (h 151 7) = 4) := by
    have q := ev5
    rw [show (v4 : Int) = h 151 7 from by omega] at q
    exact sK_ld q
  refine w_iconst gz_187_16 (by decide) ?_
  refine w_iceq (t := 28) gz_187_17 rfl (fun u7 => ?_) (fun u7 => ?_)
  ·
    refine w_aload_n gz_187_28 rfl ?_
    refine v_getI (j := 8) gz_187_29 rfl is_151 rd_10 rfl (fun v8 ev8 pv8 qv8 => ?_)
    have zv8 := ev8.trans ev1.symm
    refine w_ifne (t := 55) gz_187_32 rfl (fun u9 => by exfalso; omega) (fun u9 => ?_)
    refine w_aload_n gz_187_35 rfl ?_
    refine w_getX (v := 155) gz_187_36 is_151 rd_10 rfl (by decide) rfl ?_
    refine w_aload_n gz_187_39 rfl ?_
    refine v_getI (j := 7) gz_187_40 rfl is_151 rd_10 rfl (fun v11 ev11 pv11 qv11 => ?_)
    have zv11 := ev11.trans ev4.symm
    refine w_lald gz_187_43 is_155 rd_54 (by omega) (by omega) (fun v12 ev12 pv12 => ?_)
    have nz13 : v12 = sV (sm h) (h 151 7) := by
      have q := ev12
      rw [show (v11 : Int) = h 151 7 from by omega] at q
      exact q
    refine w_iload_n gz_187_44 rfl ?_
    refine w_i2l gz_187_45 ?_
    refine w_lcmpE gz_187_46 (fun v14 pv14 qv14 xv14 => ?_)
    refine w_ifle (t := 55) gz_187_47 rfl (fun u15 => ?_) (fun u15 => ?_)
    ·
      refine w_aload_n gz_187_55 rfl ?_
      refine v_getI (j := 8) gz_187_56 rfl is_151 rd_10 rfl (fun v16 ev16 pv16 qv16 => ?_)
      have zv16 := ev16.trans ev8.symm
      refine w_ifle (t := 64) gz_187_59 rfl (fun u17 => ?_) (fun u17 => by exfalso; omega)
      refine w_aload_n gz_187_64 rfl ?_
      refine w_dup gz_187_65 rfl ?_
      refine v_getI (j := 7) gz_187_66 rfl is_151 rd_10 rfl (fun v18 ev18 pv18 qv18 => ?_)
      have zv18 := ev18.trans ev11.symm
      refine w_iconst gz_187_69 (by decide) ?_
      refine w_iadd gz_187_70 ⟨by omega, by omega⟩ ?_
      have tq := Tok_at n_Tok
      have hi19 : 0 ≤ (v18 + 1) := by have q := Tok_at n_Tok; omega
      have hi20 : (v18 + 1) ≤ 1001 := by have q := Tok_at n_Tok; omega
      refine v_putI (j := 7) gz_187_71 rfl is_151 rd_10 rfl (by omega) (by omega) rfl (fun h21 fh21 => ?_)
      have gh21 : my_fr [(10, 7), (10, 8)] h h21 := my_fr.up my_fr.rf is_151 fh21 rfl
      have ps22 : h21 151 7 = (sN (sm h) (h 151 7)) := by
        rw [my_up_self fh21]
        show (v18 + 1) = h 151 7 + 1
        omega
      have Tok_h21t23 : Tok h21 := by first | exact Tok_inc n_Tok (by subst_vars; omega) (by omega) fh21 | exact Tok_set n_Tok (by omega) fh21 | omega
      refine w_aload_n gz_187_74 rfl ?_
      refine w_getX (v := 155) gz_187_75 is_151 rd_10 rfl (by decide) rfl ?_
      refine w_aload_n gz_187_78 rfl ?_
      refine v_getI (j := 7) gz_187_79 rfl is_151 rd_10 rfl (fun v25 ev25 pv25 qv25 => ?_)
      have zv25 := ev25.trans (my_up_self fh21)
      refine w_iconst gz_187_82 (by decide) ?_
      refine w_isub gz_187_83 ⟨by omega, by omega⟩ ?_
      have hi26 : 0 ≤ (v25 - 1) := by omega
      have hi27 : (v25 - 1) ≤ 1000 := by omega
      refine w_lald gz_187_84 is_155 rd_54 (by omega) (by omega) (fun v28 ev28 pv28 => ?_)
      have nz29a : h21 151 7 = (sN (sm h) (h 151 7)) := ps22
      have nz29 : v28 = sV (sm h) (sN (sm h) (h 151 7)) := by
        have q := ev28.trans (my_fr.at (j := (v25 - 1)) gh21 is_155 rfl)
        rw [show ((v25 - 1) : Int) = (sN (sm h) (h 151 7)) from by omega] at q
        exact q
      have tb : 0 ≤ v28 ∧ v28 ≤ 999 ∧ v28 ≤ x1 := by
        subst_vars
        rw [my_up_ne rfl (by omega), Int.add_sub_cancel]
        have q := tq.2.2.2 (by omega)
        omega
      have tc : v28 = h 155 (h 151 7) := by
        subst_vars
        rw [my_up_ne rfl (by omega), Int.add_sub_cancel]
      refine w_l2iE gz_187_85 (fun v30 pv30 qv30 xv30 => ?_)
      have hi31 : 0 ≤ v30 := by omega
      have hi32 : v30 ≤ 999 := by omega
      have psR : h21 151 7 = (sN (sm h) (h 151 7)) := ps22
      have npsR : sm h21 = sm h := sm_eq (fun j => my_fr.at gh21 is_153 rfl) (fun j => my_fr.at gh21 is_154 rfl) (fun j => my_fr.at gh21 is_155 rfl)
      have ce33 : h21 151 7 = v25 := ev25.symm
      have c34 := ev25.symm
      have c35 := ((my_up_fld fh21 (by decide)).trans ev16.symm)
      exact w_iret gz_187_86 gm_187 (k1 h21 (v30) (gh21) (by omega) (by omega) (by omega) (by omega) (by omega) (by first | assumption | omega | (subst_vars; omega) | omega) (by first | assumption | omega | (subst_vars; omega) | omega) (by first | assumption | omega | (subst_vars; omega) | omega) (by first | assumption | omega | (subst_vars; omega) | omega) (by first | assumption | omega | (subst_vars; omega) | omega) (by first | assumption | omega | (subst_vars; omega) | omega) (by first | assumption | omega | (subst_vars; omega) | omega) (by first | assumption | omega | (subst_vars; omega) | omega) Tok_h21t23)
    ·
      refine w_aload_n gz_187_50 rfl ?_
      refine w_iconst gz_187_51 (by decide) ?_
      refine w_inv (k := 0) (as := [(0, 4)]) (r := []) (x := 151) (ls0 := [(2, 151), (0, 4)]) gz_187_52 gm_178 rfl is_151 rd_10 rfl rfl rfl rfl rfl ?_
      refine w_aload_n gz_178_0 rfl ?_
      refine v_getI (j := 8) gz_178_1 rfl is_151 rd_10 rfl (fun v36 ev36 pv36 qv36 => ?_)
      have zv36 := ev36.trans ev8.symm
      refine w_ifne (t := 25) gz_178_4 rfl (fun u37 => by exfalso; omega) (fun u37 => ?_)
      refine w_aload_n gz_178_7 rfl ?_
      refine w_iload_n gz_178_8 rfl ?_
      refine w_bipush gz_178_9 (by decide) ?_
      refine w_aload_n gz_178_11 rfl ?_
      refine w_getX (v := 154) gz_178_12 is_151 rd_10 rfl (by decide) rfl ?_
      refine w_aload_n gz_178_15 rfl ?_
      refine v_getI (j := 7) gz_178_16 rfl is_151 rd_10 rfl (fun v39 ev39 pv39 qv39 => ?_)
      have zv39 := ev39.trans ev11.symm
      refine w_iald gz_178_19 is_154 rd_53 (by omega) (by omega) (fun v40 ev40 pv40 qv40 => ?_)
      have nz41 : v40 = sP (sm h) (h 151 7) := by
        have q := ev40
        rw [show (v39 : Int) = h 151 7 from by omega] at q
        exact q
      refine w_imul gz_178_20 ⟨by omega, by omega⟩ ?_
      refine w_iadd gz_178_21 ⟨by omega, by omega⟩ ?_
      refine v_putI (j := 8) gz_178_22 rfl is_151 rd_10 rfl (by omega) (by omega) rfl (fun h42 fh42 => ?_)
      have gh42 : my_fr [(10, 7), (10, 8)] h h42 := my_fr.up my_fr.rf is_151 fh42 rfl
      have Tok_h42 : Tok h42 := Tok_ag (my_ag.up fh42 is_151 rfl) n_Tok
      refine w_vret gz_178_25 gm_178 ?_
      show wp l rho (d + 1) 187 55 [(2, 151), (0, x1)] [] h42 Q
      refine w_aload_n gz_187_55 rfl ?_
      refine v_getI (j := 8) gz_187_56 rfl is_151 rd_10 rfl (fun v43 ev43 pv43 qv43 => ?_)
      have zv43 := ev43.trans (my_up_self fh42)
      refine w_ifle (t := 64) gz_187_59 rfl (fun u44 => by exfalso; omega) (fun u44 => ?_)
      refine w_iconst gz_187_62 (by decide) ?_
      have psR : h42 151 7 = h 151 7 := ((my_up_fld fh42 (by decide)).trans (rfl : h 151 7 = h 151 7))
      have npsR : sm h42 = sm h := sm_eq (fun j => my_fr.at gh42 is_153 rfl) (fun j => my_fr.at gh42 is_154 rfl) (fun j => my_fr.at gh42 is_155 rfl)
      have ce45 : h42 151 7 = v39 := ((my_up_fld fh42 (by decide)).trans ev39.symm)
      have c46 := ev43.symm
      exact w_iret gz_187_63 gm_187 (k0 h42 (gh42) (by omega) (by omega) (by first | assumption | omega | (subst_vars; omega) | omega) (by first | assumption | omega | (subst_vars; omega) | omega) Tok_h42)
  ·
    refine w_aload_n gz_187_20 rfl ?_
    refine w_iconst gz_187_21 (by decide) ?_
    refine w_inv (k := 0) (as := [(0, 1)]) (r := []) (x := 151) (ls0 := [(2, 151), (0, 1)]) gz_187_22 gm_178 rfl is_151 rd_10 rfl rfl rfl rfl rfl ?_
    refine w_aload_n gz_178_0 rfl ?_
    refine v_getI (j := 8) gz_178_1 rfl is_151 rd_10 rfl (fun v47 ev47 pv47 qv47 => ?_)
    have zv47 := ev47.trans ev1.symm
    refine w_ifne (t := 25) gz_178_4 rfl (fun u48 => by exfalso; omega) (fun u48 => ?_)
    refine w_aload_n gz_178_7 rfl ?_
    refine w_iload_n gz_178_8 rfl ?_
    refine w_bipush gz_178_9 (by decide) ?_
    refine w_aload_n gz_178_11 rfl ?_
    refine w_getX (v := 154) gz_178_12 is_151 rd_10 rfl (by decide) rfl ?_
    refine w_aload_n gz_178_15 rfl ?_
    refine v_getI (j := 7) gz_178_16 rfl is_151 rd_10 rfl (fun v50 ev50 pv50 qv50 => ?_)
    have zv50 := ev50.trans ev4.symm
    refine w_iald gz_178_19 is_154 rd_53 (by omega) (by omega) (fun v51 ev51 pv51 qv51 => ?_)
    have nz52 : v51 = sP (sm h) (h 151 7) := by
      have q := ev51
      rw [show (v50 : Int) = h 151 7 from by omega] at q
      exact q
    refine w_imul gz_178_20 ⟨by omega, by omega⟩ ?_
    refine w_iadd gz_178_21 ⟨by omega, by omega⟩ ?_
    refine v_putI (j := 8) gz_178_22 rfl is_151 rd_10 rfl (by omega) (by omega) rfl (fun h53 fh53 => ?_)
    have gh53 : my_fr [(10, 7), (10, 8)] h h53 := my_fr.up my_fr.rf is_151 fh53 rfl
    have Tok_h53 : Tok h53 := Tok_ag (my_ag.up fh53 is_151 rfl) n_Tok
    refine w_vret gz_178_25 gm_178 ?_
    show wp l rho (d + 1) 187 25 [(2, 151), (0, x1)] [] h53 Q
    refine w_goto (t := 55) gz_187_25 rfl ?_
    refine w_aload_n gz_187_55 rfl ?_
    refine v_getI (j := 8) gz_187_56 rfl is_151 rd_10 rfl (fun v54 ev54 pv54 qv54 => ?_)
    have zv54 := ev54.trans (my_up_self fh53)
    refine w_ifle (t := 64) gz_187_59 rfl (fun u55 => by exfalso; omega) (fun u55 => ?_)
    refine w_iconst gz_187_62 (by decide) ?_
    have psR : h53 151 7 = h 151 7 := ((my_up_fld fh53 (by decide)).trans (rfl : h 151 7 = h 151 7))
    have npsR : sm h53 = sm h := sm_eq (fun j => my_fr.at gh53 is_153 rfl) (fun j => my_fr.at gh53 is_154 rfl) (fun j => my_fr.at gh53 is_155 rfl)
    have ce56 : h53 151 7 = v50 := ((my_up_fld fh53 (by decide)).trans ev50.symm)
    have c57 := ev54.symm
    exact w_iret gz_187_63 gm_187 (k0 h53 (gh53) (by omega) (by omega) (by first | assumption | omega | (subst_vars; omega) | omega) (by first | assumption | omega | (subst_vars; omega) | omega) Tok_h53)
theorem c_Model_takeNumber9_fq {l : Launch} {rho : Nat → Int32} {d : Nat} {h : my_H} {Q : my_H → my_V → Prop} (n_Tok : Tok h) (k0 : ∀ (h' : my_H), my_fr [(10, 7), (10, 8)] h h' → 1 ≤ h' 151 8 → h' 151 8 ≤ 16005 → h' 151 7 = h 151 7 → (h 151 8 ≠ 0 ∧ h' 151 8 = h 151 8) ∨ (h 151 8 = 0 ∧ ((sK (sm h) (h 151 7) ≠ 2 ∧ h' 151 8 = 1 + 16 * sP (sm h) (h 151 7)) ∨ (sK (sm h) (h 151 7) = 2 ∧ 199 < sV (sm h) (h 151 7) ∧ h' 151 8 = 4 + 16 * sP (sm h) (h 151 7)))) → Tok h' → Q h' (0, 0)) (k1 : ∀ (h' : my_H) (y : Int), my_fr [(10, 7), (10, 8)] h h' → 0 ≤ y → y ≤ 999 → 1 ≤ h' 151 7 → h' 151 7 ≤ 1001 → h' 151 8 = 0 → 0 ≤ y → y ≤ 199 → h' 151 7 = h 151 7 + 1 → h 153 (h 151 7) = 2 → y = h 155 (h 151 7) → h' 151 7 = sN (sm h) (h 151 7) → sK (sm h) (h 151 7) = 2 → y = sV (sm h) (h 151 7) → Tok h' → Q h' (0, y)) : wp l rho (d + 1) 187 0 [(2, 151), (0, 199)] [] h Q := by
  refine v_know (x := 151) (j := 7) (b := 7) rfl is_151 rd_10 rfl (fun k151_7 ek151_7 pk151_7 qk151_7 => ?_)
  refine w_aload_n gz_187_0 rfl ?_
  refine v_getI (j := 8) gz_187_1 rfl is_151 rd_10 rfl (fun v1 ev1 pv1 qv1 => ?_)
  refine w_ifne (t := 28) gz_187_4 rfl (fun u2 => ?_) (fun u2 => ?_)
  ·
    refine w_aload_n gz_187_28 rfl ?_
    refine v_getI (j := 8) gz_187_29 rfl is_151 rd_10 rfl (fun v3 ev3 pv3 qv3 => ?_)
    have zv3 := ev3.trans ev1.symm
    refine w_ifne (t := 55) gz_187_32 rfl (fun u4 => ?_) (fun u4 => by exfalso; omega)
    refine w_aload_n gz_187_55 rfl ?_
    refine v_getI (j := 8) gz_187_56 rfl is_151 rd_10 rfl (fun v5 ev5 pv5 qv5 => ?_)
    have zv5 := ev5.trans ev3.symm
    refine w_ifle (t := 64) gz_187_59 rfl (fun u6 => by exfalso; omega) (fun u6 => ?_)
    refine w_iconst gz_187_62 (by decide) ?_
    have psR : h 151 7 = h 151 7 := (rfl : h 151 7 = h 151 7)
    have npsR : sm h = sm h := rfl
    have ce7 : h 151 7 = k151_7 := ek151_7.symm
    have c8 := ev5.symm
    exact w_iret gz_187_63 gm_187 (k0 h (my_fr.rf) (by omega) (by omega) (by first | assumption | omega | (subst_vars; omega) | omega) (by first | assumption | omega | (subst_vars; omega) | omega) n_Tok)
  ·
    refine w_aload_n gz_187_7 rfl ?_
    refine w_getX (v := 153) gz_187_8 is_151 rd_10 rfl (by decide) rfl ?_
    refine w_aload_n gz_187_11 rfl ?_
    refine v_getI (j := 7) gz_187_12 rfl is_151 rd_10 rfl (fun v10 ev10 pv10 qv10 => ?_)
    have zv10 := ev10.trans ek151_7.symm
    refine w_iald gz_187_15 is_153 rd_52 (by omega) (by omega) (fun v11 ev11 pv11 qv11 => ?_)
    have nz12 : (v11 ≠ 3 → sK (sm h) (h 151 7) = v11) ∧ (v11 = 3 → sV (sm h) (h 151 7) = 59 → sK (sm h) (h 151 7) = 3) ∧ (v11 = 3 → sV (sm h) (h 151 7) ≠ 59 → sK (sm h) (h 151 7) = 4) := by
      have q := ev11
      rw [show (v10 : Int) = h 151 7 from by omega] at q
      exact sK_ld q
    refine w_iconst gz_187_16 (by decide) ?_
    refine w_iceq (t := 28) gz_187_17 rfl (fun u13 => ?_) (fun u13 => ?_)
    ·
      refine w_aload_n gz_187_28 rfl ?_
      refine v_getI (j := 8) gz_187_29 rfl is_151 rd_10 rfl (fun v14 ev14 pv14 qv14 => ?_)
      have zv14 := ev14.trans ev1.symm
      refine w_ifne (t := 55) gz_187_32 rfl (fun u15 => by exfalso; omega) (fun u15 => ?_)
      refine w_aload_n gz_187_35 rfl ?_
      refine w_getX (v := 155) gz_187_36 is_151 rd_10 rfl (by decide) rfl ?_
      refine w_aload_n gz_187_39 rfl ?_
      refine v_getI (j := 7) gz_187_40 rfl is_151 rd_10 rfl (fun v17 ev17 pv17 qv17 => ?_)
      have zv17 := ev17.trans ev10.symm
      refine w_lald gz_187_43 is_155 rd_54 (by omega) (by omega) (fun v18 ev18 pv18 => ?_)
      have nz19 : v18 = sV (sm h) (h 151 7) := by
        have q := ev18
        rw [show (v17 : Int) = h 151 7 from by omega] at q
        exact q
      refine w_iload_n gz_187_44 rfl ?_
      refine w_i2l gz_187_45 ?_
      refine w_lcmpE gz_187_46 (fun v20 pv20 qv20 xv20 => ?_)
      refine w_ifle (t := 55) gz_187_47 rfl (fun u21 => ?_) (fun u21 => ?_)
      ·
        refine w_aload_n gz_187_55 rfl ?_
        refine v_getI (j := 8) gz_187_56 rfl is_151 rd_10 rfl (fun v22 ev22 pv22 qv22 => ?_)
        have zv22 := ev22.trans ev14.symm
        refine w_ifle (t := 64) gz_187_59 rfl (fun u23 => ?_) (fun u23 => by exfalso; omega)
        refine w_aload_n gz_187_64 rfl ?_
        refine w_dup gz_187_65 rfl ?_
        refine v_getI (j := 7) gz_187_66 rfl is_151 rd_10 rfl (fun v24 ev24 pv24 qv24 => ?_)
        have zv24 := ev24.trans ev17.symm
        refine w_iconst gz_187_69 (by decide) ?_
        refine w_iadd gz_187_70 ⟨by omega, by omega⟩ ?_
        have tq := Tok_at n_Tok
        have hi25 : 0 ≤ (v24 + 1) := by have q := Tok_at n_Tok; omega
        have hi26 : (v24 + 1) ≤ 1001 := by have q := Tok_at n_Tok; omega
        refine v_putI (j := 7) gz_187_71 rfl is_151 rd_10 rfl (by omega) (by omega) rfl (fun h27 fh27 => ?_)
        have gh27 : my_fr [(10, 7), (10, 8)] h h27 := my_fr.up my_fr.rf is_151 fh27 rfl
        have ps28 : h27 151 7 = (sN (sm h) (h 151 7)) := by
          rw [my_up_self fh27]
          show (v24 + 1) = h 151 7 + 1
          omega
        have Tok_h27t29 : Tok h27 := by first | exact Tok_inc n_Tok (by subst_vars; omega) (by omega) fh27 | exact Tok_set n_Tok (by omega) fh27 | omega
        refine w_aload_n gz_187_74 rfl ?_
        refine w_getX (v := 155) gz_187_75 is_151 rd_10 rfl (by decide) rfl ?_
        refine w_aload_n gz_187_78 rfl ?_
        refine v_getI (j := 7) gz_187_79 rfl is_151 rd_10 rfl (fun v31 ev31 pv31 qv31 => ?_)
        have zv31 := ev31.trans (my_up_self fh27)
        refine w_iconst gz_187_82 (by decide) ?_
        refine w_isub gz_187_83 ⟨by omega, by omega⟩ ?_
        have hi32 : 0 ≤ (v31 - 1) := by omega
        have hi33 : (v31 - 1) ≤ 1000 := by omega
        refine w_lald gz_187_84 is_155 rd_54 (by omega) (by omega) (fun v34 ev34 pv34 => ?_)
        have nz35a : h27 151 7 = (sN (sm h) (h 151 7)) := ps28
        have nz35 : v34 = sV (sm h) (sN (sm h) (h 151 7)) := by
          have q := ev34.trans (my_fr.at (j := (v31 - 1)) gh27 is_155 rfl)
          rw [show ((v31 - 1) : Int) = (sN (sm h) (h 151 7)) from by omega] at q
          exact q
        have tb : 0 ≤ v34 ∧ v34 ≤ 999 ∧ v34 ≤ 199 := by
          subst_vars
          rw [my_up_ne rfl (by omega), Int.add_sub_cancel]
          have q := tq.2.2.2 (by omega)
          omega
        have tc : v34 = h 155 (h 151 7) := by
          subst_vars
          rw [my_up_ne rfl (by omega), Int.add_sub_cancel]
        refine w_l2iE gz_187_85 (fun v36 pv36 qv36 xv36 => ?_)
        have hi37 : 0 ≤ v36 := by omega
        have hi38 : v36 ≤ 999 := by omega
        have psR : h27 151 7 = (sN (sm h) (h 151 7)) := ps28
        have npsR : sm h27 = sm h := sm_eq (fun j => my_fr.at gh27 is_153 rfl) (fun j => my_fr.at gh27 is_154 rfl) (fun j => my_fr.at gh27 is_155 rfl)
        have ce39 : h27 151 7 = v31 := ev31.symm
        have c40 := ev31.symm
        have c41 := ((my_up_fld fh27 (by decide)).trans ev22.symm)
        exact w_iret gz_187_86 gm_187 (k1 h27 (v36) (gh27) (by omega) (by omega) (by omega) (by omega) (by omega) (by first | assumption | omega | (subst_vars; omega) | omega) (by first | assumption | omega | (subst_vars; omega) | omega) (by first | assumption | omega | (subst_vars; omega) | omega) (by first | assumption | omega | (subst_vars; omega) | omega) (by first | assumption | omega | (subst_vars; omega) | omega) (by first | assumption | omega | (subst_vars; omega) | omega) (by first | assumption | omega | (subst_vars; omega) | omega) (by first | assumption | omega | (subst_vars; omega) | omega) Tok_h27t29)
      ·
        refine w_aload_n gz_187_50 rfl ?_
        refine w_iconst gz_187_51 (by decide) ?_
        refine w_inv (k := 0) (as := [(0, 4)]) (r := []) (x := 151) (ls0 := [(2, 151), (0, 4)]) gz_187_52 gm_178 rfl is_151 rd_10 rfl rfl rfl rfl rfl ?_
        refine w_aload_n gz_178_0 rfl ?_
        refine v_getI (j := 8) gz_178_1 rfl is_151 rd_10 rfl (fun v42 ev42 pv42 qv42 => ?_)
        have zv42 := ev42.trans ev14.symm
        refine w_ifne (t := 25) gz_178_4 rfl (fun u43 => by exfalso; omega) (fun u43 => ?_)
        refine w_aload_n gz_178_7 rfl ?_
        refine w_iload_n gz_178_8 rfl ?_
        refine w_bipush gz_178_9 (by decide) ?_
        refine w_aload_n gz_178_11 rfl ?_
        refine w_getX (v := 154) gz_178_12 is_151 rd_10 rfl (by decide) rfl ?_
        refine w_aload_n gz_178_15 rfl ?_
        refine v_getI (j := 7) gz_178_16 rfl is_151 rd_10 rfl (fun v45 ev45 pv45 qv45 => ?_)
        have zv45 := ev45.trans ev17.symm
        refine w_iald gz_178_19 is_154 rd_53 (by omega) (by omega) (fun v46 ev46 pv46 qv46 => ?_)
        have nz47 : v46 = sP (sm h) (h 151 7) := by
          have q := ev46
          rw [show (v45 : Int) = h 151 7 from by omega] at q
          exact q
        refine w_imul gz_178_20 ⟨by omega, by omega⟩ ?_
        refine w_iadd gz_178_21 ⟨by omega, by omega⟩ ?_
        refine v_putI (j := 8) gz_178_22 rfl is_151 rd_10 rfl (by omega) (by omega) rfl (fun h48 fh48 => ?_)
        have gh48 : my_fr [(10, 7), (10, 8)] h h48 := my_fr.up my_fr.rf is_151 fh48 rfl
        have Tok_h48 : Tok h48 := Tok_ag (my_ag.up fh48 is_151 rfl) n_Tok
        refine w_vret gz_178_25 gm_178 ?_
        show wp l rho (d + 1) 187 55 [(2, 151), (0, 199)] [] h48 Q
        refine w_aload_n gz_187_55 rfl ?_
        refine v_getI (j := 8) gz_187_56 rfl is_151 rd_10 rfl (fun v49 ev49 pv49 qv49 => ?_)
        have zv49 := ev49.trans (my_up_self fh48)
        refine w_ifle (t := 64) gz_187_59 rfl (fun u50 => by exfalso; omega) (fun u50 => ?_)
        refine w_iconst gz_187_62 (by decide) ?_
        have psR : h48 151 7 = h 151 7 := ((my_up_fld fh48 (by decide)).trans (rfl : h 151 7 = h 151 7))
        have npsR : sm h48 = sm h := sm_eq (fun j => my_fr.at gh48 is_153 rfl) (fun j => my_fr.at gh48 is_154 rfl) (fun j => my_fr.at gh48 is_155 rfl)
        have ce51 : h48 151 7 = v45 := ((my_up_fld fh48 (by decide)).trans ev45.symm)
        have c52 := ev49.symm
        exact w_iret gz_187_63 gm_187 (k0 h48 (gh48) (by omega) (by omega) (by first | assumption | omega | (subst_vars; omega) | omega) (by first | assumption | omega | (subst_vars; omega) | omega) Tok_h48)
    ·
      refine w_aload_n gz_187_20 rfl ?_
      refine w_iconst gz_187_21 (by decide) ?_
      refine w_inv (k := 0) (as := [(0, 1)]) (r := []) (x := 151) (ls0 := [(2, 151), (0, 1)]) gz_187_22 gm_178 rfl is_151 rd_10 rfl rfl rfl rfl rfl ?_
      refine w_aload_n gz_178_0 rfl ?_
      refine v_getI (j := 8) gz_178_1 rfl is_151 rd_10 rfl (fun v53 ev53 pv53 qv53 => ?_)
      have zv53 := ev53.trans ev1.symm
      refine w_ifne (t := 25) gz_178_4 rfl (fun u54 => by exfalso; omega) (fun u54 => ?_)
      refine w_aload_n gz_178_7 rfl ?_
      refine w_iload_n gz_178_8 rfl ?_
      refine w_bipush gz_178_9 (by decide) ?_
      refine w_aload_n gz_178_11 rfl ?_
      refine w_getX (v := 154) gz_178_12 is_151 rd_10 rfl (by decide) rfl ?_
      refine w_aload_n gz_178_15 rfl ?_
      refine v_getI (j := 7) gz_178_16 rfl is_151 rd_10 rfl (fun v56 ev56 pv56 qv56 => ?_)
      have zv56 := ev56.trans ev10.symm
      refine w_iald gz_178_19 is_154 rd_53 (by omega) (by omega) (fun v57 ev57 pv57 qv57 => ?_)
      have nz58 : v57 = sP (sm h) (h 151 7) := by
        have q := ev57
        rw [show (v56 : Int) = h 151 7 from by omega] at q
        exact q
      refine w_imul gz_178_20 ⟨by omega, by omega⟩ ?_
      refine w_iadd gz_178_21 ⟨by omega, by omega⟩ ?_
      refine v_putI (j := 8) gz_178_22 rfl is_151 rd_10 rfl (by omega) (by omega) rfl (fun h59 fh59 => ?_)
      have gh59 : my_fr [(10, 7), (10, 8)] h h59 := my_fr.up my_fr.rf is_151 fh59 rfl
      have Tok_h59 : Tok h59 := Tok_ag (my_ag.up fh59 is_151 rfl) n_Tok
      refine w_vret gz_178_25 gm_178 ?_
      show wp l rho (d + 1) 187 25 [(2, 151), (0, 199)] [] h59 Q
      refine w_goto (t := 55) gz_187_25 rfl ?_
      refine w_aload_n gz_187_55 rfl ?_
      refine v_getI (j := 8) gz_187_56 rfl is_151 rd_10 rfl (fun v60 ev60 pv60 qv60 => ?_)
      have zv60 := ev60.trans (my_up_self fh59)
      refine w_ifle (t := 64) gz_187_59 rfl (fun u61 => by exfalso; omega) (fun u61 => ?_)
      refine w_iconst gz_187_62 (by decide) ?_
      have psR : h59 151 7 = h 151 7 := ((my_up_fld fh59 (by decide)).trans (rfl : h 151 7 = h 151 7))
      have npsR : sm h59 = sm h := sm_eq (fun j => my_fr.at gh59 is_153 rfl) (fun j => my_fr.at gh59 is_154 rfl) (fun j => my_fr.at gh59 is_155 rfl)
      have ce62 : h59 151 7 = v56 := ((my_up_fld fh59 (by decide)).trans ev56.symm)
      have c63 := ev60.symm
      exact w_iret gz_187_63 gm_187 (k0 h59 (gh59) (by omega) (by omega) (by first | assumption | omega | (subst_vars; omega) | omega) (by first | assumption | omega | (subst_vars; omega) | omega) Tok_h59)
theorem c_Model_readFew9_f0 {l : Launch} {rho : Nat → Int32} {d : Nat} {h : my_H} {Q : my_H → my_V → Prop} {x1 : Int} {wv : Int} (a1 : 36 ≤ x1) (b1 : x1 ≤ 41) (cf : h 151 8 = 0) (hwv : wv ≤ 5) (hwv0 : 0 ≤ wv) (n_Tok : Tok h) (n_Mq : Mq h wv) (n_Wd9 : Wd9 h) (hp : x1 = 36 + h 167 6) (k0 : ∀ (h' : my_H), my_fr [(10, 7), (10, 8), (67, -1), (70, -1), (71, -1)] h h' → PaneOk h' x1 → Pk3 h' x1 (h' 151 27) → h 151 7 ≤ h' 151 7 → fmE (sm h) (h 151 27) (h 151 7) (h' 151 8) (h' 151 7) (h' 171 x1) → h' 168 x1 = 3 → Ko h h' → Tok h' → Mq h' wv → Wd9 h' → Q h' (9, 0)) : wp l rho (d + 2) 188 0 [(2, 151), (0, x1), (9, 0), (9, 0), (9, 0)] [] h Q := by
  refine v_know (x := 151) (j := 7) (b := 7) rfl is_151 rd_10 rfl (fun k151_7 ek151_7 pk151_7 qk151_7 => ?_)
  refine v_know (x := 151) (j := 27) (b := 27) rfl is_151 rd_10 rfl (fun k151_27 ek151_27 pk151_27 qk151_27 => ?_)
  have J18_0 : ∀ (n : Nat) (p18_0 p18_1 p18_2 : Int) (h18_0 : my_H), my_fr [(10, 7), (10, 8), (67, -1), (70, -1), (71, -1)] h h18_0 → 0 ≤ p18_1 → p18_1 ≤ 1 → 0 ≤ p18_2 → p18_2 ≤ 16005 → h18_0 151 27 = k151_27 → h18_0 151 8 = p18_2 → Tok h18_0 → Mq h18_0 wv → Wd9 h18_0 → h18_0 167 6 = h 167 6 → Ko h h18_0 → h18_0 168 x1 = 3 → 0 ≤ p18_0 ∧ p18_0 ≤ 255 → pop8 p18_0 = h18_0 171 x1 → h 151 7 ≤ h18_0 151 7 → h18_0 151 7 ≤ 1001 → (∀ i : Int, 0 ≤ i → i ≤ 7 → i < h18_0 171 x1 → h18_0 172 (8 * x1 + i) < k151_27) → (p18_1 = 1 → h18_0 151 8 = 0) → (p18_1 = 1 → fmI h h18_0 (h18_0 171 x1) p18_0) → (p18_1 = 0 → fmE (sm h) (h 151 27) (h 151 7) (h18_0 151 8) (h18_0 151 7) (h18_0 171 x1)) → 1002 - h18_0 151 7 + p18_1 ≤ (n : Int) → wp l rho (d + 2) 188 18 [(2, 151), (0, x1), (0, p18_0), (0, p18_1), (9, 0)] [] h18_0 Q := by
    intro n
    induction n with
    | zero => intro p18_0 p18_1 p18_2 h18_0 gh_18_0 q0_18_0 q1_18_0 q2_18_0 q3_18_0 c151_27_18_0 c151_8_18_0 n_Tok_18_0 n_Mq_18_0 n_Wd9_18_0 n_P6_18_0 n_Ko_18_0 k8_18_0 pm_18_0 pq_18_0 am_18_0 a1_18_0 fw_18_0 f0_18_0 fi_18_0 fe_18_0 hm_18_0; exfalso; omega
    | succ n ih_18_0 =>
      intro p18_0 p18_1 p18_2 h18_0 gh_18_0 q0_18_0 q1_18_0 q2_18_0 q3_18_0 c151_27_18_0 c151_8_18_0 n_Tok_18_0 n_Mq_18_0 n_Wd9_18_0 n_P6_18_0 n_Ko_18_0 k8_18_0 pm_18_0 pq_18_0 am_18_0 a1_18_0 fw_18_0 f0_18_0 fi_18_0 fe_18_0 hm_18_0
      refine w_iload_n gz_188_18 rfl ?_
      refine w_ifeq (t := 169) gz_188_19 rfl (fun u1 => ?_) (fun u1 => ?_)
      ·
        have psR : h18_0 151 7 = h18_0 151 7 := (rfl : h18_0 151 7 = h18_0 151 7)
        have npsR : sm h18_0 = sm h := sm_eq (fun j => my_fr.at gh_18_0 is_153 rfl) (fun j => my_fr.at gh_18_0 is_154 rfl) (fun j => my_fr.at gh_18_0 is_155 rfl)
        have ce2 : h18_0 151 8 = p18_2 := c151_8_18_0
        have ce3 : h18_0 151 27 = k151_27 := c151_27_18_0
        have a168 : ∀ j : Int, h18_0 168 j = h18_0 168 j := fun _ => rfl
        have a171 : ∀ j : Int, h18_0 171 j = h18_0 171 j := fun _ => rfl
        have a172 : ∀ j : Int, h18_0 172 j = h18_0 172 j := fun _ => rfl
        exact w_vret gz_188_169 gm_188 (k0 h18_0 (gh_18_0) (by first | exact n_Ko_18_0 | omega | (rw [a168]; exact k8_18_0) | (rw [a171]; exact fe_18_0 (by omega)) | (have q := fe_18_0 (by omega); rw [a171, show h18_0 151 8 = h18_0 151 8 by omega, show h18_0 151 7 = h18_0 151 7 by omega]; exact q) |  (refine ⟨fun q => ?_, fun q => ?_⟩ <;> (rw [a168, k8_18_0] at q; omega)) | (refine ⟨fun q => ?_, fun q => ?_, fun q i i0 i7 il => ?_⟩ <;> first | (exfalso; rw [a168, k8_18_0] at q; omega) | (rw [a171] at il; rw [a172]; have z := fw_18_0 i i0 i7 il; omega)) | omega) (by first | exact n_Ko_18_0 | omega | (rw [a168]; exact k8_18_0) | (rw [a171]; exact fe_18_0 (by omega)) | (have q := fe_18_0 (by omega); rw [a171, show h18_0 151 8 = h18_0 151 8 by omega, show h18_0 151 7 = h18_0 151 7 by omega]; exact q) |  (refine ⟨fun q => ?_, fun q => ?_⟩ <;> (rw [a168, k8_18_0] at q; omega)) | (refine ⟨fun q => ?_, fun q => ?_, fun q i i0 i7 il => ?_⟩ <;> first | (exfalso; rw [a168, k8_18_0] at q; omega) | (rw [a171] at il; rw [a172]; have z := fw_18_0 i i0 i7 il; omega)) | omega) (by first | exact n_Ko_18_0 | omega | (rw [a168]; exact k8_18_0) | (rw [a171]; exact fe_18_0 (by omega)) | (have q := fe_18_0 (by omega); rw [a171, show h18_0 151 8 = h18_0 151 8 by omega, show h18_0 151 7 = h18_0 151 7 by omega]; exact q) |  (refine ⟨fun q => ?_, fun q => ?_⟩ <;> (rw [a168, k8_18_0] at q; omega)) | (refine ⟨fun q => ?_, fun q => ?_, fun q i i0 i7 il => ?_⟩ <;> first | (exfalso; rw [a168, k8_18_0] at q; omega) | (rw [a171] at il; rw [a172]; have z := fw_18_0 i i0 i7 il; omega)) | omega) (by first | exact n_Ko_18_0 | omega | (rw [a168]; exact k8_18_0) | (rw [a171]; exact fe_18_0 (by omega)) | (have q := fe_18_0 (by omega); rw [a171, show h18_0 151 8 = h18_0 151 8 by omega, show h18_0 151 7 = h18_0 151 7 by omega]; exact q) |  (refine ⟨fun q => ?_, fun q => ?_⟩ <;> (rw [a168, k8_18_0] at q; omega)) | (refine ⟨fun q => ?_, fun q => ?_, fun q i i0 i7 il => ?_⟩ <;> first | (exfalso; rw [a168, k8_18_0] at q; omega) | (rw [a171] at il; rw [a172]; have z := fw_18_0 i i0 i7 il; omega)) | omega) (by first | exact n_Ko_18_0 | omega | (rw [a168]; exact k8_18_0) | (rw [a171]; exact fe_18_0 (by omega)) | (have q := fe_18_0 (by omega); rw [a171, show h18_0 151 8 = h18_0 151 8 by omega, show h18_0 151 7 = h18_0 151 7 by omega]; exact q) |  (refine ⟨fun q => ?_, fun q => ?_⟩ <;> (rw [a168, k8_18_0] at q; omega)) | (refine ⟨fun q => ?_, fun q => ?_, fun q i i0 i7 il => ?_⟩ <;> first | (exfalso; rw [a168, k8_18_0] at q; omega) | (rw [a171] at il; rw [a172]; have z := fw_18_0 i i0 i7 il; omega)) | omega) (by first | exact n_Ko_18_0 | omega | (rw [a168]; exact k8_18_0) | (rw [a171]; exact fe_18_0 (by omega)) | (have q := fe_18_0 (by omega); rw [a171, show h18_0 151 8 = h18_0 151 8 by omega, show h18_0 151 7 = h18_0 151 7 by omega]; exact q) |  (refine ⟨fun q => ?_, fun q => ?_⟩ <;> (rw [a168, k8_18_0] at q; omega)) | (refine ⟨fun q => ?_, fun q => ?_, fun q i i0 i7 il => ?_⟩ <;> first | (exfalso; rw [a168, k8_18_0] at q; omega) | (rw [a171] at il; rw [a172]; have z := fw_18_0 i i0 i7 il; omega)) | omega) n_Tok_18_0 n_Mq_18_0 n_Wd9_18_0)
      ·
        refine w_aload_n gz_188_22 rfl ?_
        refine v_getI (j := 8) gz_188_23 rfl is_151 rd_10 rfl (fun v4 ev4 pv4 qv4 => ?_)
        have zv4 := ev4.trans c151_8_18_0
        refine w_ifne (t := 83) gz_188_26 rfl (fun u5 => ?_) (fun u5 => ?_)
        ·
          refine w_aload_n gz_188_83 rfl ?_
          refine w_aload_n gz_188_84 rfl ?_
          refine v_getI (j := 27) gz_188_85 rfl is_151 rd_10 rfl (fun v6 ev6 pv6 qv6 => ?_)
          have zv6 := ev6.trans c151_27_18_0
          refine w_iconst gz_188_88 (by decide) ?_
          refine w_isub gz_188_89 ⟨by omega, by omega⟩ ?_
          have ce7 : h18_0 151 27 = v6 := ev6.symm
          refine w_inv (k := 0) (as := [(0, (v6 - 1))]) (r := []) (x := 151) (ls0 := [(2, 151), (0, (v6 - 1))]) gz_188_90 gm_187 rfl is_151 rd_10 rfl rfl rfl rfl rfl (c_Model_takeNumber9_f1 (d := d) (x1 := (v6 - 1)) (by omega) (by omega) (v4) (ev4.symm) (by omega) (by omega) n_Tok_18_0 (fun w8 w9 xp10 Tok_h18_0t11 => ?_))
          show wp l rho (d + 2) 188 93 [(2, 151), (0, x1), (0, p18_0), (0, p18_1), (9, 0)] [(0, 0)] h18_0 Q
          refine w_istore (ls' := [(2, 151), (0, x1), (0, p18_0), (0, p18_1), (0, 0)]) gz_188_93 gm_188 rfl rfl rfl ?_
          refine w_aload_n gz_188_95 rfl ?_
          refine v_getI (j := 8) gz_188_96 rfl is_151 rd_10 rfl (fun v12 ev12 pv12 qv12 => ?_)
          have zv12 := ev12.trans ev4.symm
          refine w_ifne (t := 106) gz_188_99 rfl (fun u13 => ?_) (fun u13 => by exfalso; omega)
          refine w_iconst gz_188_106 (by decide) ?_
          refine w_istore_n (ls' := [(2, 151), (0, x1), (0, p18_0), (0, 0), (0, 0)]) gz_188_107 gm_188 rfl rfl rfl ?_
          refine w_iload_n gz_188_108 rfl ?_
          refine w_ifeq (t := 166) gz_188_109 rfl (fun u14 => ?_) (fun u14 => by exfalso; omega)
          refine w_goto (t := 18) gz_188_166 rfl ?_
          have psJ : h18_0 151 7 = h18_0 151 7 := (rfl : h18_0 151 7 = h18_0 151 7)
          have npsJ : sm h18_0 = sm h := sm_eq (fun j => my_fr.at gh_18_0 is_153 rfl) (fun j => my_fr.at gh_18_0 is_154 rfl) (fun j => my_fr.at gh_18_0 is_155 rfl)
          have ce15 : h18_0 151 8 = v12 := ev12.symm
          have a168 : ∀ j : Int, h18_0 168 j = h18_0 168 j := fun _ => rfl
          have a171 : ∀ j : Int, h18_0 171 j = h18_0 171 j := fun _ => rfl
          have a172 : ∀ j : Int, h18_0 172 j = h18_0 172 j := fun _ => rfl
          refine w_weak (ls' := [(2, 151), (0, x1), (0, p18_0), (0, 0), (9, 0)]) (wk_e (wk_e (wk_e (wk_e (wk_9 wk_n))))) ?_
          exact ih_18_0 (p18_0) (0) (v12) h18_0 (gh_18_0) (by omega) (by omega) (by omega) (by omega) (ev6.symm.trans (by omega)) (ev12.symm.trans (by omega)) Tok_h18_0t11 n_Mq_18_0 n_Wd9_18_0 n_P6_18_0 n_Ko_18_0 (by rw [a168]; first | exact k168 | exact k8_18_0) (by omega) (by first | (rw [a171]; exact pq_18_0) | (rw [a171, k13]; exact pop8_0) | (rw [a171, k46]; omega) | omega) (by omega) (by omega) (by first | (intro i i0 i7 il; exfalso; rw [a171, k13] at il; omega) | (intro i i0 i7 il; rw [a172]; exact fw_18_0 i i0 i7 (by have z := a171 x1; omega)) | exact (fun i i0 i7 il => fw2 i i0 i7 (by omega)) | omega) (by omega) (by first | (intro q; exfalso; omega) | exact (fun _ => fmI_0 (by omega) (by have z := a171 x1; omega) (by omega)) | exact (fun _ => fmI_s (fi_18_0 (by omega)) rfl (by omega) (by omega) (by omega) nb (by omega) (by omega) (by have z := a171 x1; omega) e17 pm_18_0.1 pm_18_0.2 (by omega) (by omega)) | omega) (by first | (intro q; exfalso; omega) | exact (fun _ => fmI_3 (fi_18_0 (by omega)) rfl (by omega) (by omega) (by omega) ib (by omega)) | exact (fun _ => fmI_e (fi_18_0 (by omega)) rfl (by omega) (by omega) (by omega) nb (by omega) (by omega) (by omega) (by have z := a171 x1; omega)) | exact (fun _ => fmI_1 (fi_18_0 (by omega)) rfl (by first | exact Or.inl ⟨by omega, by omega⟩ | exact Or.inr (Or.inl ⟨by omega, by omega, by omega⟩))) | (intro q; have z := fe_18_0 (by omega); exact z) | omega) (by omega)
        ·
          refine w_aload_n gz_188_29 rfl ?_
          refine w_getX (v := 153) gz_188_30 is_151 rd_10 rfl (by decide) rfl ?_
          refine w_aload_n gz_188_33 rfl ?_
          refine v_getI (j := 7) gz_188_34 rfl is_151 rd_10 rfl (fun v17 ev17 pv17 qv17 => ?_)
          refine w_iald gz_188_37 is_153 rd_52 (by omega) (by omega) (fun v18 ev18 pv18 qv18 => ?_)
          have nz19 : (v18 ≠ 3 → sK (sm h) (h18_0 151 7) = v18) ∧ (v18 = 3 → sV (sm h) (h18_0 151 7) = 59 → sK (sm h) (h18_0 151 7) = 3) ∧ (v18 = 3 → sV (sm h) (h18_0 151 7) ≠ 59 → sK (sm h) (h18_0 151 7) = 4) := by
            have q := ev18.trans (my_fr.at (j := v17) gh_18_0 is_153 rfl)
            rw [show (v17 : Int) = h18_0 151 7 from by omega] at q
            exact sK_ld q
          refine w_iconst gz_188_38 (by decide) ?_
          refine w_icne (t := 83) gz_188_39 rfl (fun u20 => ?_) (fun u20 => ?_)
          ·
            refine w_aload_n gz_188_83 rfl ?_
            refine w_aload_n gz_188_84 rfl ?_
            refine v_getI (j := 27) gz_188_85 rfl is_151 rd_10 rfl (fun v21 ev21 pv21 qv21 => ?_)
            have zv21 := ev21.trans c151_27_18_0
            refine w_iconst gz_188_88 (by decide) ?_
            refine w_isub gz_188_89 ⟨by omega, by omega⟩ ?_
            have ce22 : h18_0 151 7 = v17 := ev17.symm
            have ce23 : h18_0 151 27 = v21 := ev21.symm
            refine w_inv (k := 0) (as := [(0, (v21 - 1))]) (r := []) (x := 151) (ls0 := [(2, 151), (0, (v21 - 1))]) gz_188_90 gm_187 rfl is_151 rd_10 rfl rfl rfl rfl rfl (c_Model_takeNumber9_f0 (d := d) (x1 := (v21 - 1)) (by omega) (by omega) (ev4.symm.trans (by omega)) n_Tok_18_0 (fun h24 frh24 w25 w26 xp27 xp28 Tok_h24t29 => ?_) (fun h30 v31 frh30 w32 w33 w34 w35 w36 xp37 xp38 xp39 xp40 xp41 xp42 xp43 xp44 Tok_h30t45 => ?_))
            ·
              have gh24 : my_fr [(10, 7), (10, 8), (67, -1), (70, -1), (71, -1)] h h24 := my_fr.tr gh_18_0 (frh24.mo rfl)
              have Mq_h24 : Mq h24 wv := Mq_ag (my_ag.fr frh24 rfl) n_Mq_18_0
              have Wd9_h24 : Wd9 h24 := Wd9_ag (my_ag.fr frh24 rfl) n_Wd9_18_0
              have P6_h24 : h24 167 6 = h 167 6 := P6_ag (my_ag.fr frh24 rfl) n_P6_18_0
              have Ko_h24 : Ko h h24 := Ko_ag (my_ag.fr frh24 rfl) n_Ko_18_0
              show wp l rho (d + 2) 188 93 [(2, 151), (0, x1), (0, p18_0), (0, p18_1), (9, 0)] [(0, 0)] h24 Q
              have tE46 : sm h18_0 = sm h := sm_eq (fun j => my_fr.at gh_18_0 is_153 rfl) (fun j => my_fr.at gh_18_0 is_154 rfl) (fun j => my_fr.at gh_18_0 is_155 rfl)
              rw [tE46] at xp28
              refine w_istore (ls' := [(2, 151), (0, x1), (0, p18_0), (0, p18_1), (0, 0)]) gz_188_93 gm_188 rfl rfl rfl ?_
              refine w_aload_n gz_188_95 rfl ?_
              refine v_getI (j := 8) gz_188_96 rfl is_151 rd_10 rfl (fun v47 ev47 pv47 qv47 => ?_)
              have zv47 := ev47.trans (rfl : h24 151 8 = h24 151 8)
              refine w_ifne (t := 106) gz_188_99 rfl (fun u48 => ?_) (fun u48 => by exfalso; omega)
              refine w_iconst gz_188_106 (by decide) ?_
              refine w_istore_n (ls' := [(2, 151), (0, x1), (0, p18_0), (0, 0), (0, 0)]) gz_188_107 gm_188 rfl rfl rfl ?_
              refine w_iload_n gz_188_108 rfl ?_
              refine w_ifeq (t := 166) gz_188_109 rfl (fun u49 => ?_) (fun u49 => by exfalso; omega)
              refine w_goto (t := 18) gz_188_166 rfl ?_
              have psJ : h24 151 7 = (h18_0 151 7) := xp27
              have npsJ : sm h24 = sm h := sm_eq (fun j => my_fr.at gh24 is_153 rfl) (fun j => my_fr.at gh24 is_154 rfl) (fun j => my_fr.at gh24 is_155 rfl)
              have ce50 : h24 151 8 = v47 := ev47.symm
              have a168 : ∀ j : Int, h24 168 j = h18_0 168 j := fun j => ((my_fr.at frh24 is_168 rfl).trans (rfl : h18_0 168 j = h18_0 168 j))
              have a171 : ∀ j : Int, h24 171 j = h18_0 171 j := fun j => ((my_fr.at frh24 is_171 rfl).trans (rfl : h18_0 171 j = h18_0 171 j))
              have a172 : ∀ j : Int, h24 172 j = h18_0 172 j := fun j => ((my_fr.at frh24 is_172 rfl).trans (rfl : h18_0 172 j = h18_0 172 j))
              refine w_weak (ls' := [(2, 151), (0, x1), (0, p18_0), (0, 0), (9, 0)]) (wk_e (wk_e (wk_e (wk_e (wk_9 wk_n))))) ?_
              exact ih_18_0 (p18_0) (0) (v47) h24 (gh24) (by omega) (by omega) (by omega) (by omega) (((my_fr.at frh24 is_151 rfl).trans ev21.symm).trans (by omega)) (ev47.symm.trans (by omega)) Tok_h24t29 Mq_h24 Wd9_h24 P6_h24 Ko_h24 (by rw [a168]; first | exact k168 | exact k8_18_0) (by omega) (by first | (rw [a171]; exact pq_18_0) | (rw [a171, k13]; exact pop8_0) | (rw [a171, k46]; omega) | omega) (by omega) (by omega) (by first | (intro i i0 i7 il; exfalso; rw [a171, k13] at il; omega) | (intro i i0 i7 il; rw [a172]; exact fw_18_0 i i0 i7 (by have z := a171 x1; omega)) | exact (fun i i0 i7 il => fw2 i i0 i7 (by omega)) | omega) (by omega) (by first | (intro q; exfalso; omega) | exact (fun _ => fmI_0 (by omega) (by have z := a171 x1; omega) (by omega)) | exact (fun _ => fmI_s (fi_18_0 (by omega)) rfl (by omega) (by omega) (by omega) nb (by omega) (by omega) (by have z := a171 x1; omega) e17 pm_18_0.1 pm_18_0.2 (by omega) (by omega)) | omega) (by first | (intro q; exfalso; omega) | exact (fun _ => fmI_3 (fi_18_0 (by omega)) rfl (by omega) (by omega) (by omega) ib (by omega)) | exact (fun _ => fmI_e (fi_18_0 (by omega)) rfl (by omega) (by omega) (by omega) nb (by omega) (by omega) (by omega) (by have z := a171 x1; omega)) | exact (fun _ => fmI_1 (fi_18_0 (by omega)) rfl (by first | exact Or.inl ⟨by omega, by omega⟩ | exact Or.inr (Or.inl ⟨by omega, by omega, by omega⟩))) | (intro q; have z := fe_18_0 (by omega); exact z) | omega) (by omega)
            ·
              have gh30 : my_fr [(10, 7), (10, 8), (67, -1), (70, -1), (71, -1)] h h30 := my_fr.tr gh_18_0 (frh30.mo rfl)
              have Mq_h30 : Mq h30 wv := Mq_ag (my_ag.fr frh30 rfl) n_Mq_18_0
              have Wd9_h30 : Wd9 h30 := Wd9_ag (my_ag.fr frh30 rfl) n_Wd9_18_0
              have P6_h30 : h30 167 6 = h 167 6 := P6_ag (my_ag.fr frh30 rfl) n_P6_18_0
              have Ko_h30 : Ko h h30 := Ko_ag (my_ag.fr frh30 rfl) n_Ko_18_0
              show wp l rho (d + 2) 188 93 [(2, 151), (0, x1), (0, p18_0), (0, p18_1), (9, 0)] [(0, v31)] h30 Q
              have tE51 : sm h18_0 = sm h := sm_eq (fun j => my_fr.at gh_18_0 is_153 rfl) (fun j => my_fr.at gh_18_0 is_154 rfl) (fun j => my_fr.at gh_18_0 is_155 rfl)
              rw [tE51] at xp42
              rw [tE51] at xp43
              rw [tE51] at xp44
              refine w_istore (ls' := [(2, 151), (0, x1), (0, p18_0), (0, p18_1), (0, v31)]) gz_188_93 gm_188 rfl rfl rfl ?_
              refine w_aload_n gz_188_95 rfl ?_
              refine v_getI (j := 8) gz_188_96 rfl is_151 rd_10 rfl (fun v52 ev52 pv52 qv52 => ?_)
              have zv52 := ev52.trans w36
              refine w_ifne (t := 106) gz_188_99 rfl (fun u53 => by exfalso; omega) (fun u53 => ?_)
              refine w_iconst gz_188_102 (by decide) ?_
              refine w_goto (t := 107) gz_188_103 rfl ?_
              refine w_istore_n (ls' := [(2, 151), (0, x1), (0, p18_0), (0, 1), (0, v31)]) gz_188_107 gm_188 rfl rfl rfl ?_
              refine w_iload_n gz_188_108 rfl ?_
              refine w_ifeq (t := 166) gz_188_109 rfl (fun u54 => by exfalso; omega) (fun u54 => ?_)
              refine w_iload_n gz_188_112 rfl ?_
              refine w_iconst gz_188_113 (by decide) ?_
              refine w_iload gz_188_114 rfl ?_
              refine w_ishlX gz_188_116 (fun v55 ev55 pv55 qv55 => ?_)
              refine w_iorX gz_188_117 (fun v56 ev56 pv56 qv56 => ?_)
              have e17 : v56 = bor p18_0 (bsl 1 v31) := by subst_vars; rfl
              have pp : pop8 v56 = pop8 p18_0 + 1 ∧ pop8 p18_0 ≤ 7 ∧ 0 ≤ v56 ∧ v56 ≤ 255 := by first | (have yz : v31 = vz := (by omega); rw [yz] at e17; have z := pop8_add pm_18_0.1 pm_18_0.2 (v := vz) (by omega) (by omega) (by omega); rw [← e17] at z; exact z) | (exfalso; (try clear k0); (try clear k1); grind) | omega
              have nb : ¬ BtS p18_0 v31 := by first | (have yz : v31 = vz := (by omega); intro z; have z3 := z.2.2; rw [yz] at z3; omega) | (exfalso; omega)
              refine w_istore_n (ls' := [(2, 151), (0, x1), (0, v56), (0, 1), (0, v31)]) gz_188_118 gm_188 rfl rfl rfl ?_
              refine w_aload_n gz_188_119 rfl ?_
              refine w_getX (v := 172) gz_188_120 is_151 rd_10 rfl (by decide) rfl ?_
              refine w_bipush gz_188_123 (by decide) ?_
              refine w_iload_n gz_188_125 rfl ?_
              refine w_imul gz_188_126 ⟨by omega, by omega⟩ ?_
              refine w_aload_n gz_188_127 rfl ?_
              refine w_getX (v := 171) gz_188_128 is_151 rd_10 rfl (by decide) rfl ?_
              refine w_iload_n gz_188_131 rfl ?_
              refine w_iald gz_188_132 is_171 rd_70 (by omega) (by omega) (fun v59 ev59 pv59 qv59 => ?_)
              have b171 : ∀ j : Int, h30 171 j = h18_0 171 j := fun j => ((my_fr.at frh30 is_171 rfl).trans (rfl : h18_0 171 j = h18_0 171 j))
              have f7 : v59 ≤ 7 := by have q := b171 x1; omega
              obtain ⟨vm, em⟩ : ∃ vm : Int, vm = v59 := ⟨_, rfl⟩
              have c172 : ∀ j : Int, h30 172 j = h18_0 172 j := fun j => ((my_fr.at frh30 is_172 rfl).trans (rfl : h18_0 172 j = h18_0 172 j))
              refine w_iadd gz_188_133 ⟨by omega, by omega⟩ ?_
              refine w_iload gz_188_134 rfl ?_
              have hi60 : 0 ≤ v31 := by omega
              have hi61 : v31 ≤ 7 := by omega
              have hi62 : 0 ≤ ((8 * x1) + v59) := by omega
              have hi63 : ((8 * x1) + v59) ≤ 335 := by omega
              refine w_iast gz_188_136 is_172 rd_71 (by omega) (by omega) (by omega) (by omega) (fun h64 fh64 => ?_)
              have gh64 : my_fr [(10, 7), (10, 8), (67, -1), (70, -1), (71, -1)] h h64 := my_fr.up gh30 is_172 fh64 rfl
              have Mq_h64 : Mq h64 wv := Mq_v (a := 172) hwv (by decide) (by omega) fh64 Mq_h30
              have Wd9_h64 : Wd9 h64 := Wd9_ag (my_ag.up fh64 is_172 rfl) Wd9_h30
              have P6_h64 : h64 167 6 = h 167 6 := P6_ag (my_ag.up fh64 is_172 rfl) P6_h30
              have Ko_h64 : Ko h h64 := Ko_v (a := 172) hwv (by decide) (by omega) fh64 Ko_h30
              have Tok_h64 : Tok h64 := Tok_ag (my_ag.up fh64 is_172 rfl) Tok_h30t45
              have f36 := fh64
              have k36 : h64 172 (8 * x1 + vm) = v31 := by rw [show 8 * x1 + vm = _ from by rw [em]]; exact my_up_self fh64
              refine w_aload_n gz_188_137 rfl ?_
              refine w_getX (v := 171) gz_188_138 is_151 rd_10 rfl (by decide) rfl ?_
              refine w_iload_n gz_188_141 rfl ?_
              refine w_dup2 gz_188_142 rfl rfl ?_
              refine w_iald gz_188_143 is_171 rd_70 (by omega) (by omega) (fun v66 ev66 pv66 qv66 => ?_)
              have zv66 := ev66.trans ((my_up_role fh64 is_171 is_172 rfl).trans ev59.symm)
              have c171 : ∀ j : Int, h64 171 j = h18_0 171 j := fun j => ((my_up_role fh64 is_171 is_172 rfl).trans ((my_fr.at frh30 is_171 rfl).trans (rfl : h18_0 171 j = h18_0 171 j)))
              have f8 : v66 ≤ 7 := by have q := c171 x1; omega
              refine w_iconst gz_188_144 (by decide) ?_
              refine w_iadd gz_188_145 ⟨by omega, by omega⟩ ?_
              have hi67 : 0 ≤ (v66 + 1) := by omega
              have hi68 : (v66 + 1) ≤ 8 := by omega
              refine w_iast gz_188_146 is_171 rd_70 (by omega) (by omega) (by omega) (by omega) (fun h69 fh69 => ?_)
              have gh69 : my_fr [(10, 7), (10, 8), (67, -1), (70, -1), (71, -1)] h h69 := my_fr.up gh64 is_171 fh69 rfl
              have Mq_h69 : Mq h69 wv := Mq_u (a := 171) hwv (by decide) (by omega) fh69 Mq_h64
              have Wd9_h69 : Wd9 h69 := Wd9_ag (my_ag.up fh69 is_171 rfl) Wd9_h64
              have P6_h69 : h69 167 6 = h 167 6 := P6_ag (my_ag.up fh69 is_171 rfl) P6_h64
              have Ko_h69 : Ko h h69 := Ko_u (a := 171) hwv (by decide) (by omega) fh69 Ko_h64
              have Tok_h69 : Tok h69 := Tok_ag (my_ag.up fh69 is_171 rfl) Tok_h64
              have k46 := my_up_self fh69
              have z46 := b171 x1
              have z47 := c171 x1
              have e46 : h69 171 x1 = vm + 1 := by have z3 := c171 x1; have z2 := b171 x1; omega
              have d172 : ∀ j : Int, h69 172 j = h64 172 j := fun j => ((my_up_role fh69 is_172 is_171 rfl).trans (rfl : h64 172 j = h64 172 j))
              have fw2 : ∀ i : Int, 0 ≤ i → i ≤ 7 → i < vm + 1 → h69 172 (8 * x1 + i) < k151_27 := fun i i0 i7 il => by
                rw [d172]
                by_cases q : i = vm
                · rw [q, k36]; omega
                · rw [my_up_ne f36 (by omega), c172]; exact fw_18_0 i i0 i7 (by have z2 := b171 x1; omega)
              refine w_aload_n gz_188_147 rfl ?_
              refine w_getX (v := 153) gz_188_148 is_151 rd_10 rfl (by decide) rfl ?_
              refine w_aload_n gz_188_151 rfl ?_
              refine v_getI (j := 7) gz_188_152 rfl is_151 rd_10 rfl (fun v71 ev71 pv71 qv71 => ?_)
              have zv71 := ev71.trans ((my_up_role fh69 is_151 is_171 rfl).trans ((my_up_role fh64 is_151 is_172 rfl).trans (rfl : h30 151 7 = h30 151 7)))
              refine w_iald gz_188_155 is_153 rd_52 (by omega) (by omega) (fun v72 ev72 pv72 qv72 => ?_)
              have nz73a : h69 151 7 = (sN (sm h) (h18_0 151 7)) := ((my_up_role fh69 is_151 is_171 rfl).trans ((my_up_role fh64 is_151 is_172 rfl).trans xp42))
              have nz73 : (v72 ≠ 3 → sK (sm h) (sN (sm h) (h18_0 151 7)) = v72) ∧ (v72 = 3 → sV (sm h) (sN (sm h) (h18_0 151 7)) = 59 → sK (sm h) (sN (sm h) (h18_0 151 7)) = 3) ∧ (v72 = 3 → sV (sm h) (sN (sm h) (h18_0 151 7)) ≠ 59 → sK (sm h) (sN (sm h) (h18_0 151 7)) = 4) := by
                have q := ev72.trans (my_fr.at (j := v71) gh69 is_153 rfl)
                rw [show (v71 : Int) = (sN (sm h) (h18_0 151 7)) from by omega] at q
                exact sK_ld q
              refine w_iconst gz_188_156 (by decide) ?_
              refine w_icne (t := 164) gz_188_157 rfl (fun u74 => ?_) (fun u74 => ?_)
              ·
                refine w_iconst gz_188_164 (by decide) ?_
                refine w_istore_n (ls' := [(2, 151), (0, x1), (0, v56), (0, 0), (0, v31)]) gz_188_165 gm_188 rfl rfl rfl ?_
                refine w_goto (t := 18) gz_188_166 rfl ?_
                have psJ : h69 151 7 = (sN (sm h) (h18_0 151 7)) := ((my_up_role fh69 is_151 is_171 rfl).trans ((my_up_role fh64 is_151 is_172 rfl).trans xp42))
                have npsJ : sm h69 = sm h := sm_eq (fun j => my_fr.at gh69 is_153 rfl) (fun j => my_fr.at gh69 is_154 rfl) (fun j => my_fr.at gh69 is_155 rfl)
                have ce75 : h69 151 7 = v71 := ev71.symm
                have ce76 : h69 151 8 = v52 := ((my_up_role fh69 is_151 is_171 rfl).trans ((my_up_role fh64 is_151 is_172 rfl).trans ev52.symm))
                have a168 : ∀ j : Int, h69 168 j = h18_0 168 j := fun j => ((my_up_role fh69 is_168 is_171 rfl).trans ((my_up_role fh64 is_168 is_172 rfl).trans ((my_fr.at frh30 is_168 rfl).trans (rfl : h18_0 168 j = h18_0 168 j))))
                have a171 : ∀ j : Int, h69 171 j = h69 171 j := fun j => rfl
                have a172 : ∀ j : Int, h69 172 j = h64 172 j := fun j => ((my_up_role fh69 is_172 is_171 rfl).trans (rfl : h64 172 j = h64 172 j))
                refine w_weak (ls' := [(2, 151), (0, x1), (0, v56), (0, 0), (9, 0)]) (wk_e (wk_e (wk_e (wk_e (wk_9 wk_n))))) ?_
                exact ih_18_0 (v56) (0) (v52) h69 (gh69) (by omega) (by omega) (by omega) (by omega) (((my_up_role fh69 is_151 is_171 rfl).trans ((my_up_role fh64 is_151 is_172 rfl).trans ((my_fr.at frh30 is_151 rfl).trans ev21.symm))).trans (by omega)) (((my_up_role fh69 is_151 is_171 rfl).trans ((my_up_role fh64 is_151 is_172 rfl).trans ev52.symm)).trans (by omega)) Tok_h69 Mq_h69 Wd9_h69 P6_h69 Ko_h69 (by rw [a168]; first | exact k168 | exact k8_18_0) (by omega) (by first | (rw [a171]; exact pq_18_0) | (rw [a171, k13]; exact pop8_0) | (rw [a171, k46]; omega) | omega) (by omega) (by omega) (by first | (intro i i0 i7 il; exfalso; rw [a171, k13] at il; omega) | (intro i i0 i7 il; rw [a172]; exact fw_18_0 i i0 i7 (by have z := a171 x1; omega)) | exact (fun i i0 i7 il => fw2 i i0 i7 (by omega)) | omega) (by omega) (by first | (intro q; exfalso; omega) | exact (fun _ => fmI_0 (by omega) (by have z := a171 x1; omega) (by omega)) | exact (fun _ => fmI_s (fi_18_0 (by omega)) rfl (by omega) (by omega) (by omega) nb (by omega) (by omega) (by have z := a171 x1; omega) e17 pm_18_0.1 pm_18_0.2 (by omega) (by omega)) | omega) (by first | (intro q; exfalso; omega) | exact (fun _ => fmI_3 (fi_18_0 (by omega)) rfl (by omega) (by omega) (by omega) ib (by omega)) | exact (fun _ => fmI_e (fi_18_0 (by omega)) rfl (by omega) (by omega) (by omega) nb (by omega) (by omega) (by omega) (by have z := a171 x1; omega)) | exact (fun _ => fmI_1 (fi_18_0 (by omega)) rfl (by first | exact Or.inl ⟨by omega, by omega⟩ | exact Or.inr (Or.inl ⟨by omega, by omega, by omega⟩))) | (intro q; have z := fe_18_0 (by omega); exact z) | omega) (by omega)
              ·
                refine w_iconst gz_188_160 (by decide) ?_
                refine w_goto (t := 165) gz_188_161 rfl ?_
                refine w_istore_n (ls' := [(2, 151), (0, x1), (0, v56), (0, 1), (0, v31)]) gz_188_165 gm_188 rfl rfl rfl ?_
                refine w_goto (t := 18) gz_188_166 rfl ?_
                have psJ : h69 151 7 = (sN (sm h) (h18_0 151 7)) := ((my_up_role fh69 is_151 is_171 rfl).trans ((my_up_role fh64 is_151 is_172 rfl).trans xp42))
                have npsJ : sm h69 = sm h := sm_eq (fun j => my_fr.at gh69 is_153 rfl) (fun j => my_fr.at gh69 is_154 rfl) (fun j => my_fr.at gh69 is_155 rfl)
                have ce77 : h69 151 7 = v71 := ev71.symm
                have ce78 : h69 151 8 = v52 := ((my_up_role fh69 is_151 is_171 rfl).trans ((my_up_role fh64 is_151 is_172 rfl).trans ev52.symm))
                have a168 : ∀ j : Int, h69 168 j = h18_0 168 j := fun j => ((my_up_role fh69 is_168 is_171 rfl).trans ((my_up_role fh64 is_168 is_172 rfl).trans ((my_fr.at frh30 is_168 rfl).trans (rfl : h18_0 168 j = h18_0 168 j))))
                have a171 : ∀ j : Int, h69 171 j = h69 171 j := fun j => rfl
                have a172 : ∀ j : Int, h69 172 j = h64 172 j := fun j => ((my_up_role fh69 is_172 is_171 rfl).trans (rfl : h64 172 j = h64 172 j))
                refine w_weak (ls' := [(2, 151), (0, x1), (0, v56), (0, 1), (9, 0)]) (wk_e (wk_e (wk_e (wk_e (wk_9 wk_n))))) ?_
                exact ih_18_0 (v56) (1) (v52) h69 (gh69) (by omega) (by omega) (by omega) (by omega) (((my_up_role fh69 is_151 is_171 rfl).trans ((my_up_role fh64 is_151 is_172 rfl).trans ((my_fr.at frh30 is_151 rfl).trans ev21.symm))).trans (by omega)) (((my_up_role fh69 is_151 is_171 rfl).trans ((my_up_role fh64 is_151 is_172 rfl).trans ev52.symm)).trans (by omega)) Tok_h69 Mq_h69 Wd9_h69 P6_h69 Ko_h69 (by rw [a168]; first | exact k168 | exact k8_18_0) (by omega) (by first | (rw [a171]; exact pq_18_0) | (rw [a171, k13]; exact pop8_0) | (rw [a171, k46]; omega) | omega) (by omega) (by omega) (by first | (intro i i0 i7 il; exfalso; rw [a171, k13] at il; omega) | (intro i i0 i7 il; rw [a172]; exact fw_18_0 i i0 i7 (by have z := a171 x1; omega)) | exact (fun i i0 i7 il => fw2 i i0 i7 (by omega)) | omega) (by omega) (by first | (intro q; exfalso; omega) | exact (fun _ => fmI_0 (by omega) (by have z := a171 x1; omega) (by omega)) | exact (fun _ => fmI_s (fi_18_0 (by omega)) rfl (by omega) (by omega) (by omega) nb (by omega) (by omega) (by have z := a171 x1; omega) e17 pm_18_0.1 pm_18_0.2 (by omega) (by omega)) | omega) (by first | (intro q; exfalso; omega) | exact (fun _ => fmI_3 (fi_18_0 (by omega)) rfl (by omega) (by omega) (by omega) ib (by omega)) | exact (fun _ => fmI_e (fi_18_0 (by omega)) rfl (by omega) (by omega) (by omega) nb (by omega) (by omega) (by omega) (by have z := a171 x1; omega)) | exact (fun _ => fmI_1 (fi_18_0 (by omega)) rfl (by first | exact Or.inl ⟨by omega, by omega⟩ | exact Or.inr (Or.inl ⟨by omega, by omega, by omega⟩))) | (intro q; have z := fe_18_0 (by omega); exact z) | omega) (by omega)
          ·
            refine w_aload_n gz_188_42 rfl ?_
            refine w_getX (v := 155) gz_188_43 is_151 rd_10 rfl (by decide) rfl ?_
            refine w_aload_n gz_188_46 rfl ?_
            refine v_getI (j := 7) gz_188_47 rfl is_151 rd_10 rfl (fun v80 ev80 pv80 qv80 => ?_)
            have zv80 := ev80.trans ev17.symm
            refine w_lald gz_188_50 is_155 rd_54 (by omega) (by omega) (fun v81 ev81 pv81 => ?_)
            have nz82 : v81 = sV (sm h) (h18_0 151 7) := by
              have q := ev81.trans (my_fr.at (j := v80) gh_18_0 is_155 rfl)
              rw [show (v80 : Int) = h18_0 151 7 from by omega] at q
              exact q
            refine w_aload_n gz_188_51 rfl ?_
            refine v_getI (j := 27) gz_188_52 rfl is_151 rd_10 rfl (fun v83 ev83 pv83 qv83 => ?_)
            have zv83 := ev83.trans c151_27_18_0
            refine w_i2l gz_188_55 ?_
            refine w_lcmpE gz_188_56 (fun v84 pv84 qv84 xv84 => ?_)
            refine w_ifge (t := 83) gz_188_57 rfl (fun u85 => ?_) (fun u85 => ?_)
            ·
              refine w_aload_n gz_188_83 rfl ?_
              refine w_aload_n gz_188_84 rfl ?_
              refine v_getI (j := 27) gz_188_85 rfl is_151 rd_10 rfl (fun v86 ev86 pv86 qv86 => ?_)
              have zv86 := ev86.trans ev83.symm
              refine w_iconst gz_188_88 (by decide) ?_
              refine w_isub gz_188_89 ⟨by omega, by omega⟩ ?_
              have ce87 : h18_0 151 7 = v80 := ev80.symm
              have ce88 : h18_0 151 27 = v86 := ev86.symm
              refine w_inv (k := 0) (as := [(0, (v86 - 1))]) (r := []) (x := 151) (ls0 := [(2, 151), (0, (v86 - 1))]) gz_188_90 gm_187 rfl is_151 rd_10 rfl rfl rfl rfl rfl (c_Model_takeNumber9_f0 (d := d) (x1 := (v86 - 1)) (by omega) (by omega) (ev4.symm.trans (by omega)) n_Tok_18_0 (fun h89 frh89 w90 w91 xp92 xp93 Tok_h89t94 => ?_) (fun h95 v96 frh95 w97 w98 w99 w100 w101 xp102 xp103 xp104 xp105 xp106 xp107 xp108 xp109 Tok_h95t110 => ?_))
              ·
                have gh89 : my_fr [(10, 7), (10, 8), (67, -1), (70, -1), (71, -1)] h h89 := my_fr.tr gh_18_0 (frh89.mo rfl)
                have Mq_h89 : Mq h89 wv := Mq_ag (my_ag.fr frh89 rfl) n_Mq_18_0
                have Wd9_h89 : Wd9 h89 := Wd9_ag (my_ag.fr frh89 rfl) n_Wd9_18_0
                have P6_h89 : h89 167 6 = h 167 6 := P6_ag (my_ag.fr frh89 rfl) n_P6_18_0
                have Ko_h89 : Ko h h89 := Ko_ag (my_ag.fr frh89 rfl) n_Ko_18_0
                show wp l rho (d + 2) 188 93 [(2, 151), (0, x1), (0, p18_0), (0, p18_1), (9, 0)] [(0, 0)] h89 Q
                have tE111 : sm h18_0 = sm h := sm_eq (fun j => my_fr.at gh_18_0 is_153 rfl) (fun j => my_fr.at gh_18_0 is_154 rfl) (fun j => my_fr.at gh_18_0 is_155 rfl)
                rw [tE111] at xp93
                refine w_istore (ls' := [(2, 151), (0, x1), (0, p18_0), (0, p18_1), (0, 0)]) gz_188_93 gm_188 rfl rfl rfl ?_
                refine w_aload_n gz_188_95 rfl ?_
                refine v_getI (j := 8) gz_188_96 rfl is_151 rd_10 rfl (fun v112 ev112 pv112 qv112 => ?_)
                have zv112 := ev112.trans (rfl : h89 151 8 = h89 151 8)
                refine w_ifne (t := 106) gz_188_99 rfl (fun u113 => ?_) (fun u113 => by exfalso; omega)
                refine w_iconst gz_188_106 (by decide) ?_
                refine w_istore_n (ls' := [(2, 151), (0, x1), (0, p18_0), (0, 0), (0, 0)]) gz_188_107 gm_188 rfl rfl rfl ?_
                refine w_iload_n gz_188_108 rfl ?_
                refine w_ifeq (t := 166) gz_188_109 rfl (fun u114 => ?_) (fun u114 => by exfalso; omega)
                refine w_goto (t := 18) gz_188_166 rfl ?_
                have psJ : h89 151 7 = (h18_0 151 7) := xp92
                have npsJ : sm h89 = sm h := sm_eq (fun j => my_fr.at gh89 is_153 rfl) (fun j => my_fr.at gh89 is_154 rfl) (fun j => my_fr.at gh89 is_155 rfl)
                have ce115 : h89 151 8 = v112 := ev112.symm
                have a168 : ∀ j : Int, h89 168 j = h18_0 168 j := fun j => ((my_fr.at frh89 is_168 rfl).trans (rfl : h18_0 168 j = h18_0 168 j))
                have a171 : ∀ j : Int, h89 171 j = h18_0 171 j := fun j => ((my_fr.at frh89 is_171 rfl).trans (rfl : h18_0 171 j = h18_0 171 j))
                have a172 : ∀ j : Int, h89 172 j = h18_0 172 j := fun j => ((my_fr.at frh89 is_172 rfl).trans (rfl : h18_0 172 j = h18_0 172 j))
                refine w_weak (ls' := [(2, 151), (0, x1), (0, p18_0), (0, 0), (9, 0)]) (wk_e (wk_e (wk_e (wk_e (wk_9 wk_n))))) ?_
                exact ih_18_0 (p18_0) (0) (v112) h89 (gh89) (by omega) (by omega) (by omega) (by omega) (((my_fr.at frh89 is_151 rfl).trans ev86.symm).trans (by omega)) (ev112.symm.trans (by omega)) Tok_h89t94 Mq_h89 Wd9_h89 P6_h89 Ko_h89 (by rw [a168]; first | exact k168 | exact k8_18_0) (by omega) (by first | (rw [a171]; exact pq_18_0) | (rw [a171, k13]; exact pop8_0) | (rw [a171, k46]; omega) | omega) (by omega) (by omega) (by first | (intro i i0 i7 il; exfalso; rw [a171, k13] at il; omega) | (intro i i0 i7 il; rw [a172]; exact fw_18_0 i i0 i7 (by have z := a171 x1; omega)) | exact (fun i i0 i7 il => fw2 i i0 i7 (by omega)) | omega) (by omega) (by first | (intro q; exfalso; omega) | exact (fun _ => fmI_0 (by omega) (by have z := a171 x1; omega) (by omega)) | exact (fun _ => fmI_s (fi_18_0 (by omega)) rfl (by omega) (by omega) (by omega) nb (by omega) (by omega) (by have z := a171 x1; omega) e17 pm_18_0.1 pm_18_0.2 (by omega) (by omega)) | omega) (by first | (intro q; exfalso; omega) | exact (fun _ => fmI_3 (fi_18_0 (by omega)) rfl (by omega) (by omega) (by omega) ib (by omega)) | exact (fun _ => fmI_e (fi_18_0 (by omega)) rfl (by omega) (by omega) (by omega) nb (by omega) (by omega) (by omega) (by have z := a171 x1; omega)) | exact (fun _ => fmI_1 (fi_18_0 (by omega)) rfl (by first | exact Or.inl ⟨by omega, by omega⟩ | exact Or.inr (Or.inl ⟨by omega, by omega, by omega⟩))) | (intro q; have z := fe_18_0 (by omega); exact z) | omega) (by omega)
              ·
                have gh95 : my_fr [(10, 7), (10, 8), (67, -1), (70, -1), (71, -1)] h h95 := my_fr.tr gh_18_0 (frh95.mo rfl)
                have Mq_h95 : Mq h95 wv := Mq_ag (my_ag.fr frh95 rfl) n_Mq_18_0
                have Wd9_h95 : Wd9 h95 := Wd9_ag (my_ag.fr frh95 rfl) n_Wd9_18_0
                have P6_h95 : h95 167 6 = h 167 6 := P6_ag (my_ag.fr frh95 rfl) n_P6_18_0
                have Ko_h95 : Ko h h95 := Ko_ag (my_ag.fr frh95 rfl) n_Ko_18_0
                show wp l rho (d + 2) 188 93 [(2, 151), (0, x1), (0, p18_0), (0, p18_1), (9, 0)] [(0, v96)] h95 Q
                have tE116 : sm h18_0 = sm h := sm_eq (fun j => my_fr.at gh_18_0 is_153 rfl) (fun j => my_fr.at gh_18_0 is_154 rfl) (fun j => my_fr.at gh_18_0 is_155 rfl)
                rw [tE116] at xp107
                rw [tE116] at xp108
                rw [tE116] at xp109
                refine w_istore (ls' := [(2, 151), (0, x1), (0, p18_0), (0, p18_1), (0, v96)]) gz_188_93 gm_188 rfl rfl rfl ?_
                refine w_aload_n gz_188_95 rfl ?_
                refine v_getI (j := 8) gz_188_96 rfl is_151 rd_10 rfl (fun v117 ev117 pv117 qv117 => ?_)
                have zv117 := ev117.trans w101
                refine w_ifne (t := 106) gz_188_99 rfl (fun u118 => by exfalso; omega) (fun u118 => ?_)
                refine w_iconst gz_188_102 (by decide) ?_
                refine w_goto (t := 107) gz_188_103 rfl ?_
                refine w_istore_n (ls' := [(2, 151), (0, x1), (0, p18_0), (0, 1), (0, v96)]) gz_188_107 gm_188 rfl rfl rfl ?_
                refine w_iload_n gz_188_108 rfl ?_
                refine w_ifeq (t := 166) gz_188_109 rfl (fun u119 => by exfalso; omega) (fun u119 => ?_)
                refine w_iload_n gz_188_112 rfl ?_
                refine w_iconst gz_188_113 (by decide) ?_
                refine w_iload gz_188_114 rfl ?_
                refine w_ishlX gz_188_116 (fun v120 ev120 pv120 qv120 => ?_)
                refine w_iorX gz_188_117 (fun v121 ev121 pv121 qv121 => ?_)
                have e17 : v121 = bor p18_0 (bsl 1 v96) := by subst_vars; rfl
                have pp : pop8 v121 = pop8 p18_0 + 1 ∧ pop8 p18_0 ≤ 7 ∧ 0 ≤ v121 ∧ v121 ≤ 255 := by first | (have yz : v96 = vz := (by omega); rw [yz] at e17; have z := pop8_add pm_18_0.1 pm_18_0.2 (v := vz) (by omega) (by omega) (by omega); rw [← e17] at z; exact z) | (exfalso; (try clear k0); (try clear k1); grind) | omega
                have nb : ¬ BtS p18_0 v96 := by first | (have yz : v96 = vz := (by omega); intro z; have z3 := z.2.2; rw [yz] at z3; omega) | (exfalso; omega)
                refine w_istore_n (ls' := [(2, 151), (0, x1), (0, v121), (0, 1), (0, v96)]) gz_188_118 gm_188 rfl rfl rfl ?_
                refine w_aload_n gz_188_119 rfl ?_
                refine w_getX (v := 172) gz_188_120 is_151 rd_10 rfl (by decide) rfl ?_
                refine w_bipush gz_188_123 (by decide) ?_
                refine w_iload_n gz_188_125 rfl ?_
                refine w_imul gz_188_126 ⟨by omega, by omega⟩ ?_
                refine w_aload_n gz_188_127 rfl ?_
                refine w_getX (v := 171) gz_188_128 is_151 rd_10 rfl (by decide) rfl ?_
                refine w_iload_n gz_188_131 rfl ?_
                refine w_iald gz_188_132 is_171 rd_70 (by omega) (by omega) (fun v124 ev124 pv124 qv124 => ?_)
                have b171 : ∀ j : Int, h95 171 j = h18_0 171 j := fun j => ((my_fr.at frh95 is_171 rfl).trans (rfl : h18_0 171 j = h18_0 171 j))
                have f7 : v124 ≤ 7 := by have q := b171 x1; omega
                obtain ⟨vm, em⟩ : ∃ vm : Int, vm = v124 := ⟨_, rfl⟩
                have c172 : ∀ j : Int, h95 172 j = h18_0 172 j := fun j => ((my_fr.at frh95 is_172 rfl).trans (rfl : h18_0 172 j = h18_0 172 j))
                refine w_iadd gz_188_133 ⟨by omega, by omega⟩ ?_
                refine w_iload gz_188_134 rfl ?_
                have hi125 : 0 ≤ v96 := by omega
                have hi126 : v96 ≤ 7 := by omega
                have hi127 : 0 ≤ ((8 * x1) + v124) := by omega
                have hi128 : ((8 * x1) + v124) ≤ 335 := by omega
                refine w_iast gz_188_136 is_172 rd_71 (by omega) (by omega) (by omega) (by omega) (fun h129 fh129 => ?_)
                have gh129 : my_fr [(10, 7), (10, 8), (67, -1), (70, -1), (71, -1)] h h129 := my_fr.up gh95 is_172 fh129 rfl
                have Mq_h129 : Mq h129 wv := Mq_v (a := 172) hwv (by decide) (by omega) fh129 Mq_h95
                have Wd9_h129 : Wd9 h129 := Wd9_ag (my_ag.up fh129 is_172 rfl) Wd9_h95
                have P6_h129 : h129 167 6 = h 167 6 := P6_ag (my_ag.up fh129 is_172 rfl) P6_h95
                have Ko_h129 : Ko h h129 := Ko_v (a := 172) hwv (by decide) (by omega) fh129 Ko_h95
                have Tok_h129 : Tok h129 := Tok_ag (my_ag.up fh129 is_172 rfl) Tok_h95t110
                have f36 := fh129
                have k36 : h129 172 (8 * x1 + vm) = v96 := by rw [show 8 * x1 + vm = _ from by rw [em]]; exact my_up_self fh129
                refine w_aload_n gz_188_137 rfl ?_
                refine w_getX (v := 171) gz_188_138 is_151 rd_10 rfl (by decide) rfl ?_
                refine w_iload_n gz_188_141 rfl ?_
                refine w_dup2 gz_188_142 rfl rfl ?_
                refine w_iald gz_188_143 is_171 rd_70 (by omega) (by omega) (fun v131 ev131 pv131 qv131 => ?_)
                have zv131 := ev131.trans ((my_up_role fh129 is_171 is_172 rfl).trans ev124.symm)
                have c171 : ∀ j : Int, h129 171 j = h18_0 171 j := fun j => ((my_up_role fh129 is_171 is_172 rfl).trans ((my_fr.at frh95 is_171 rfl).trans (rfl : h18_0 171 j = h18_0 171 j)))
                have f8 : v131 ≤ 7 := by have q := c171 x1; omega
                refine w_iconst gz_188_144 (by decide) ?_
                refine w_iadd gz_188_145 ⟨by omega, by omega⟩ ?_
                have hi132 : 0 ≤ (v131 + 1) := by omega
                have hi133 : (v131 + 1) ≤ 8 := by omega
                refine w_iast gz_188_146 is_171 rd_70 (by omega) (by omega) (by omega) (by omega) (fun h134 fh134 => ?_)
                have gh134 : my_fr [(10, 7), (10, 8), (67, -1), (70, -1), (71, -1)] h h134 := my_fr.up gh129 is_171 fh134 rfl
                have Mq_h134 : Mq h134 wv := Mq_u (a := 171) hwv (by decide) (by omega) fh134 Mq_h129
                have Wd9_h134 : Wd9 h134 := Wd9_ag (my_ag.up fh134 is_171 rfl) Wd9_h129
                have P6_h134 : h134 167 6 = h 167 6 := P6_ag (my_ag.up fh134 is_171 rfl) P6_h129
                have Ko_h134 : Ko h h134 := Ko_u (a := 171) hwv (by decide) (by omega) fh134 Ko_h129
                have Tok_h134 : Tok h134 := Tok_ag (my_ag.up fh134 is_171 rfl) Tok_h129
                have k46 := my_up_self fh134
                have z46 := b171 x1
                have z47 := c171 x1
                have e46 : h134 171 x1 = vm + 1 := by have z3 := c171 x1; have z2 := b171 x1; omega
                have d172 : ∀ j : Int, h134 172 j = h129 172 j := fun j => ((my_up_role fh134 is_172 is_171 rfl).trans (rfl : h129 172 j = h129 172 j))
                have fw2 : ∀ i : Int, 0 ≤ i → i ≤ 7 → i < vm + 1 → h134 172 (8 * x1 + i) < k151_27 := fun i i0 i7 il => by
                  rw [d172]
                  by_cases q : i = vm
                  · rw [q, k36]; omega
                  · rw [my_up_ne f36 (by omega), c172]; exact fw_18_0 i i0 i7 (by have z2 := b171 x1; omega)
                refine w_aload_n gz_188_147 rfl ?_
                refine w_getX (v := 153) gz_188_148 is_151 rd_10 rfl (by decide) rfl ?_
                refine w_aload_n gz_188_151 rfl ?_
                refine v_getI (j := 7) gz_188_152 rfl is_151 rd_10 rfl (fun v136 ev136 pv136 qv136 => ?_)
                have zv136 := ev136.trans ((my_up_role fh134 is_151 is_171 rfl).trans ((my_up_role fh129 is_151 is_172 rfl).trans (rfl : h95 151 7 = h95 151 7)))
                refine w_iald gz_188_155 is_153 rd_52 (by omega) (by omega) (fun v137 ev137 pv137 qv137 => ?_)
                have nz138a : h134 151 7 = (sN (sm h) (h18_0 151 7)) := ((my_up_role fh134 is_151 is_171 rfl).trans ((my_up_role fh129 is_151 is_172 rfl).trans xp107))
                have nz138 : (v137 ≠ 3 → sK (sm h) (sN (sm h) (h18_0 151 7)) = v137) ∧ (v137 = 3 → sV (sm h) (sN (sm h) (h18_0 151 7)) = 59 → sK (sm h) (sN (sm h) (h18_0 151 7)) = 3) ∧ (v137 = 3 → sV (sm h) (sN (sm h) (h18_0 151 7)) ≠ 59 → sK (sm h) (sN (sm h) (h18_0 151 7)) = 4) := by
                  have q := ev137.trans (my_fr.at (j := v136) gh134 is_153 rfl)
                  rw [show (v136 : Int) = (sN (sm h) (h18_0 151 7)) from by omega] at q
                  exact sK_ld q
                refine w_iconst gz_188_156 (by decide) ?_
                refine w_icne (t := 164) gz_188_157 rfl (fun u139 => ?_) (fun u139 => ?_)
                ·
                  refine w_iconst gz_188_164 (by decide) ?_
                  refine w_istore_n (ls' := [(2, 151), (0, x1), (0, v121), (0, 0), (0, v96)]) gz_188_165 gm_188 rfl rfl rfl ?_
                  refine w_goto (t := 18) gz_188_166 rfl ?_
                  have psJ : h134 151 7 = (sN (sm h) (h18_0 151 7)) := ((my_up_role fh134 is_151 is_171 rfl).trans ((my_up_role fh129 is_151 is_172 rfl).trans xp107))
                  have npsJ : sm h134 = sm h := sm_eq (fun j => my_fr.at gh134 is_153 rfl) (fun j => my_fr.at gh134 is_154 rfl) (fun j => my_fr.at gh134 is_155 rfl)
                  have ce140 : h134 151 7 = v136 := ev136.symm
                  have ce141 : h134 151 8 = v117 := ((my_up_role fh134 is_151 is_171 rfl).trans ((my_up_role fh129 is_151 is_172 rfl).trans ev117.symm))
                  have a168 : ∀ j : Int, h134 168 j = h18_0 168 j := fun j => ((my_up_role fh134 is_168 is_171 rfl).trans ((my_up_role fh129 is_168 is_172 rfl).trans ((my_fr.at frh95 is_168 rfl).trans (rfl : h18_0 168 j = h18_0 168 j))))
                  have a171 : ∀ j : Int, h134 171 j = h134 171 j := fun j => rfl
                  have a172 : ∀ j : Int, h134 172 j = h129 172 j := fun j => ((my_up_role fh134 is_172 is_171 rfl).trans (rfl : h129 172 j = h129 172 j))
                  refine w_weak (ls' := [(2, 151), (0, x1), (0, v121), (0, 0), (9, 0)]) (wk_e (wk_e (wk_e (wk_e (wk_9 wk_n))))) ?_
                  exact ih_18_0 (v121) (0) (v117) h134 (gh134) (by omega) (by omega) (by omega) (by omega) (((my_up_role fh134 is_151 is_171 rfl).trans ((my_up_role fh129 is_151 is_172 rfl).trans ((my_fr.at frh95 is_151 rfl).trans ev86.symm))).trans (by omega)) (((my_up_role fh134 is_151 is_171 rfl).trans ((my_up_role fh129 is_151 is_172 rfl).trans ev117.symm)).trans (by omega)) Tok_h134 Mq_h134 Wd9_h134 P6_h134 Ko_h134 (by rw [a168]; first | exact k168 | exact k8_18_0) (by omega) (by first | (rw [a171]; exact pq_18_0) | (rw [a171, k13]; exact pop8_0) | (rw [a171, k46]; omega) | omega) (by omega) (by omega) (by first | (intro i i0 i7 il; exfalso; rw [a171, k13] at il; omega) | (intro i i0 i7 il; rw [a172]; exact fw_18_0 i i0 i7 (by have z := a171 x1; omega)) | exact (fun i i0 i7 il => fw2 i i0 i7 (by omega)) | omega) (by omega) (by first | (intro q; exfalso; omega) | exact (fun _ => fmI_0 (by omega) (by have z := a171 x1; omega) (by omega)) | exact (fun _ => fmI_s (fi_18_0 (by omega)) rfl (by omega) (by omega) (by omega) nb (by omega) (by omega) (by have z := a171 x1; omega) e17 pm_18_0.1 pm_18_0.2 (by omega) (by omega)) | omega) (by first | (intro q; exfalso; omega) | exact (fun _ => fmI_3 (fi_18_0 (by omega)) rfl (by omega) (by omega) (by omega) ib (by omega)) | exact (fun _ => fmI_e (fi_18_0 (by omega)) rfl (by omega) (by omega) (by omega) nb (by omega) (by omega) (by omega) (by have z := a171 x1; omega)) | exact (fun _ => fmI_1 (fi_18_0 (by omega)) rfl (by first | exact Or.inl ⟨by omega, by omega⟩ | exact Or.inr (Or.inl ⟨by omega, by omega, by omega⟩))) | (intro q; have z := fe_18_0 (by omega); exact z) | omega) (by omega)
                ·
                  refine w_iconst gz_188_160 (by decide) ?_
                  refine w_goto (t := 165) gz_188_161 rfl ?_
                  refine w_istore_n (ls' := [(2, 151), (0, x1), (0, v121), (0, 1), (0, v96)]) gz_188_165 gm_188 rfl rfl rfl ?_
                  refine w_goto (t := 18) gz_188_166 rfl ?_
                  have psJ : h134 151 7 = (sN (sm h) (h18_0 151 7)) := ((my_up_role fh134 is_151 is_171 rfl).trans ((my_up_role fh129 is_151 is_172 rfl).trans xp107))
                  have npsJ : sm h134 = sm h := sm_eq (fun j => my_fr.at gh134 is_153 rfl) (fun j => my_fr.at gh134 is_154 rfl) (fun j => my_fr.at gh134 is_155 rfl)
                  have ce142 : h134 151 7 = v136 := ev136.symm
                  have ce143 : h134 151 8 = v117 := ((my_up_role fh134 is_151 is_171 rfl).trans ((my_up_role fh129 is_151 is_172 rfl).trans ev117.symm))
                  have a168 : ∀ j : Int, h134 168 j = h18_0 168 j := fun j => ((my_up_role fh134 is_168 is_171 rfl).trans ((my_up_role fh129 is_168 is_172 rfl).trans ((my_fr.at frh95 is_168 rfl).trans (rfl : h18_0 168 j = h18_0 168 j))))
                  have a171 : ∀ j : Int, h134 171 j = h134 171 j := fun j => rfl
                  have a172 : ∀ j : Int, h134 172 j = h129 172 j := fun j => ((my_up_role fh134 is_172 is_171 rfl).trans (rfl : h129 172 j = h129 172 j))
                  refine w_weak (ls' := [(2, 151), (0, x1), (0, v121), (0, 1), (9, 0)]) (wk_e (wk_e (wk_e (wk_e (wk_9 wk_n))))) ?_
                  exact ih_18_0 (v121) (1) (v117) h134 (gh134) (by omega) (by omega) (by omega) (by omega) (((my_up_role fh134 is_151 is_171 rfl).trans ((my_up_role fh129 is_151 is_172 rfl).trans ((my_fr.at frh95 is_151 rfl).trans ev86.symm))).trans (by omega)) (((my_up_role fh134 is_151 is_171 rfl).trans ((my_up_role fh129 is_151 is_172 rfl).trans ev117.symm)).trans (by omega)) Tok_h134 Mq_h134 Wd9_h134 P6_h134 Ko_h134 (by rw [a168]; first | exact k168 | exact k8_18_0) (by omega) (by first | (rw [a171]; exact pq_18_0) | (rw [a171, k13]; exact pop8_0) | (rw [a171, k46]; omega) | omega) (by omega) (by omega) (by first | (intro i i0 i7 il; exfalso; rw [a171, k13] at il; omega) | (intro i i0 i7 il; rw [a172]; exact fw_18_0 i i0 i7 (by have z := a171 x1; omega)) | exact (fun i i0 i7 il => fw2 i i0 i7 (by omega)) | omega) (by omega) (by first | (intro q; exfalso; omega) | exact (fun _ => fmI_0 (by omega) (by have z := a171 x1; omega) (by omega)) | exact (fun _ => fmI_s (fi_18_0 (by omega)) rfl (by omega) (by omega) (by omega) nb (by omega) (by omega) (by have z := a171 x1; omega) e17 pm_18_0.1 pm_18_0.2 (by omega) (by omega)) | omega) (by first | (intro q; exfalso; omega) | exact (fun _ => fmI_3 (fi_18_0 (by omega)) rfl (by omega) (by omega) (by omega) ib (by omega)) | exact (fun _ => fmI_e (fi_18_0 (by omega)) rfl (by omega) (by omega) (by omega) nb (by omega) (by omega) (by omega) (by have z := a171 x1; omega)) | exact (fun _ => fmI_1 (fi_18_0 (by omega)) rfl (by first | exact Or.inl ⟨by omega, by omega⟩ | exact Or.inr (Or.inl ⟨by omega, by omega, by omega⟩))) | (intro q; have z := fe_18_0 (by omega); exact z) | omega) (by omega)
            ·
              refine w_iload_n gz_188_60 rfl ?_
              refine w_aload_n gz_188_61 rfl ?_
              refine w_getX (v := 155) gz_188_62 is_151 rd_10 rfl (by decide) rfl ?_
              refine w_aload_n gz_188_65 rfl ?_
              refine v_getI (j := 7) gz_188_66 rfl is_151 rd_10 rfl (fun v145 ev145 pv145 qv145 => ?_)
              have zv145 := ev145.trans ev80.symm
              refine w_lald gz_188_69 is_155 rd_54 (by omega) (by omega) (fun v146 ev146 pv146 => ?_)
              have nz147 : v146 = sV (sm h) (h18_0 151 7) := by
                have q := ev146.trans (my_fr.at (j := v145) gh_18_0 is_155 rfl)
                rw [show (v145 : Int) = h18_0 151 7 from by omega] at q
                exact q
              have tb : 0 ≤ v146 ∧ v146 ≤ 999 := by
                have q := Tok_at n_Tok_18_0
                subst_vars
                omega
              refine w_l2iE gz_188_70 (fun v148 pv148 qv148 xv148 => ?_)
              have z155 : v148 = h18_0 155 (h18_0 151 7) := by subst_vars; omega
              refine w_ishrX gz_188_71 (fun v149 ev149 pv149 qv149 => ?_)
              refine w_iconst gz_188_72 (by decide) ?_
              refine w_iandXM gz_188_73 (by decide) (fun v150 ev150 pv150 qv150 => ?_)
              obtain ⟨vz, ez⟩ : ∃ vz : Int, vz = h18_0 155 (h18_0 151 7) := ⟨_, rfl⟩
              have bt : v150 = bnd (bsr p18_0 vz) 1 := by rw [ez, ← z155]; subst_vars; rfl
              refine w_iconst gz_188_74 (by decide) ?_
              refine w_icne (t := 83) gz_188_75 rfl (fun u151 => ?_) (fun u151 => ?_)
              ·
                refine w_aload_n gz_188_83 rfl ?_
                refine w_aload_n gz_188_84 rfl ?_
                refine v_getI (j := 27) gz_188_85 rfl is_151 rd_10 rfl (fun v152 ev152 pv152 qv152 => ?_)
                have zv152 := ev152.trans ev83.symm
                refine w_iconst gz_188_88 (by decide) ?_
                refine w_isub gz_188_89 ⟨by omega, by omega⟩ ?_
                have ce153 : h18_0 151 7 = v145 := ev145.symm
                have ce154 : h18_0 151 27 = v152 := ev152.symm
                refine w_inv (k := 0) (as := [(0, (v152 - 1))]) (r := []) (x := 151) (ls0 := [(2, 151), (0, (v152 - 1))]) gz_188_90 gm_187 rfl is_151 rd_10 rfl rfl rfl rfl rfl (c_Model_takeNumber9_f0 (d := d) (x1 := (v152 - 1)) (by omega) (by omega) (ev4.symm.trans (by omega)) n_Tok_18_0 (fun h155 frh155 w156 w157 xp158 xp159 Tok_h155t160 => ?_) (fun h161 v162 frh161 w163 w164 w165 w166 w167 xp168 xp169 xp170 xp171 xp172 xp173 xp174 xp175 Tok_h161t176 => ?_))
                ·
                  have gh155 : my_fr [(10, 7), (10, 8), (67, -1), (70, -1), (71, -1)] h h155 := my_fr.tr gh_18_0 (frh155.mo rfl)
                  have Mq_h155 : Mq h155 wv := Mq_ag (my_ag.fr frh155 rfl) n_Mq_18_0
                  have Wd9_h155 : Wd9 h155 := Wd9_ag (my_ag.fr frh155 rfl) n_Wd9_18_0
                  have P6_h155 : h155 167 6 = h 167 6 := P6_ag (my_ag.fr frh155 rfl) n_P6_18_0
                  have Ko_h155 : Ko h h155 := Ko_ag (my_ag.fr frh155 rfl) n_Ko_18_0
                  show wp l rho (d + 2) 188 93 [(2, 151), (0, x1), (0, p18_0), (0, p18_1), (9, 0)] [(0, 0)] h155 Q
                  have tE177 : sm h18_0 = sm h := sm_eq (fun j => my_fr.at gh_18_0 is_153 rfl) (fun j => my_fr.at gh_18_0 is_154 rfl) (fun j => my_fr.at gh_18_0 is_155 rfl)
                  rw [tE177] at xp159
                  refine w_istore (ls' := [(2, 151), (0, x1), (0, p18_0), (0, p18_1), (0, 0)]) gz_188_93 gm_188 rfl rfl rfl ?_
                  refine w_aload_n gz_188_95 rfl ?_
                  refine v_getI (j := 8) gz_188_96 rfl is_151 rd_10 rfl (fun v178 ev178 pv178 qv178 => ?_)
                  have zv178 := ev178.trans (rfl : h155 151 8 = h155 151 8)
                  refine w_ifne (t := 106) gz_188_99 rfl (fun u179 => ?_) (fun u179 => by exfalso; omega)
                  refine w_iconst gz_188_106 (by decide) ?_
                  refine w_istore_n (ls' := [(2, 151), (0, x1), (0, p18_0), (0, 0), (0, 0)]) gz_188_107 gm_188 rfl rfl rfl ?_
                  refine w_iload_n gz_188_108 rfl ?_
                  refine w_ifeq (t := 166) gz_188_109 rfl (fun u180 => ?_) (fun u180 => by exfalso; omega)
                  refine w_goto (t := 18) gz_188_166 rfl ?_
                  have psJ : h155 151 7 = (h18_0 151 7) := xp158
                  have npsJ : sm h155 = sm h := sm_eq (fun j => my_fr.at gh155 is_153 rfl) (fun j => my_fr.at gh155 is_154 rfl) (fun j => my_fr.at gh155 is_155 rfl)
                  have ce181 : h155 151 8 = v178 := ev178.symm
                  have a168 : ∀ j : Int, h155 168 j = h18_0 168 j := fun j => ((my_fr.at frh155 is_168 rfl).trans (rfl : h18_0 168 j = h18_0 168 j))
                  have a171 : ∀ j : Int, h155 171 j = h18_0 171 j := fun j => ((my_fr.at frh155 is_171 rfl).trans (rfl : h18_0 171 j = h18_0 171 j))
                  have a172 : ∀ j : Int, h155 172 j = h18_0 172 j := fun j => ((my_fr.at frh155 is_172 rfl).trans (rfl : h18_0 172 j = h18_0 172 j))
                  refine w_weak (ls' := [(2, 151), (0, x1), (0, p18_0), (0, 0), (9, 0)]) (wk_e (wk_e (wk_e (wk_e (wk_9 wk_n))))) ?_
                  exact ih_18_0 (p18_0) (0) (v178) h155 (gh155) (by omega) (by omega) (by omega) (by omega) (((my_fr.at frh155 is_151 rfl).trans ev152.symm).trans (by omega)) (ev178.symm.trans (by omega)) Tok_h155t160 Mq_h155 Wd9_h155 P6_h155 Ko_h155 (by rw [a168]; first | exact k168 | exact k8_18_0) (by omega) (by first | (rw [a171]; exact pq_18_0) | (rw [a171, k13]; exact pop8_0) | (rw [a171, k46]; omega) | omega) (by omega) (by omega) (by first | (intro i i0 i7 il; exfalso; rw [a171, k13] at il; omega) | (intro i i0 i7 il; rw [a172]; exact fw_18_0 i i0 i7 (by have z := a171 x1; omega)) | exact (fun i i0 i7 il => fw2 i i0 i7 (by omega)) | omega) (by omega) (by first | (intro q; exfalso; omega) | exact (fun _ => fmI_0 (by omega) (by have z := a171 x1; omega) (by omega)) | exact (fun _ => fmI_s (fi_18_0 (by omega)) rfl (by omega) (by omega) (by omega) nb (by omega) (by omega) (by have z := a171 x1; omega) e17 pm_18_0.1 pm_18_0.2 (by omega) (by omega)) | omega) (by first | (intro q; exfalso; omega) | exact (fun _ => fmI_3 (fi_18_0 (by omega)) rfl (by omega) (by omega) (by omega) ib (by omega)) | exact (fun _ => fmI_e (fi_18_0 (by omega)) rfl (by omega) (by omega) (by omega) nb (by omega) (by omega) (by omega) (by have z := a171 x1; omega)) | exact (fun _ => fmI_1 (fi_18_0 (by omega)) rfl (by first | exact Or.inl ⟨by omega, by omega⟩ | exact Or.inr (Or.inl ⟨by omega, by omega, by omega⟩))) | (intro q; have z := fe_18_0 (by omega); exact z) | omega) (by omega)
                ·
                  have gh161 : my_fr [(10, 7), (10, 8), (67, -1), (70, -1), (71, -1)] h h161 := my_fr.tr gh_18_0 (frh161.mo rfl)
                  have Mq_h161 : Mq h161 wv := Mq_ag (my_ag.fr frh161 rfl) n_Mq_18_0
                  have Wd9_h161 : Wd9 h161 := Wd9_ag (my_ag.fr frh161 rfl) n_Wd9_18_0
                  have P6_h161 : h161 167 6 = h 167 6 := P6_ag (my_ag.fr frh161 rfl) n_P6_18_0
                  have Ko_h161 : Ko h h161 := Ko_ag (my_ag.fr frh161 rfl) n_Ko_18_0
                  show wp l rho (d + 2) 188 93 [(2, 151), (0, x1), (0, p18_0), (0, p18_1), (9, 0)] [(0, v162)] h161 Q
                  have tE182 : sm h18_0 = sm h := sm_eq (fun j => my_fr.at gh_18_0 is_153 rfl) (fun j => my_fr.at gh_18_0 is_154 rfl) (fun j => my_fr.at gh_18_0 is_155 rfl)
                  rw [tE182] at xp173
                  rw [tE182] at xp174
                  rw [tE182] at xp175
                  refine w_istore (ls' := [(2, 151), (0, x1), (0, p18_0), (0, p18_1), (0, v162)]) gz_188_93 gm_188 rfl rfl rfl ?_
                  refine w_aload_n gz_188_95 rfl ?_
                  refine v_getI (j := 8) gz_188_96 rfl is_151 rd_10 rfl (fun v183 ev183 pv183 qv183 => ?_)
                  have zv183 := ev183.trans w167
                  refine w_ifne (t := 106) gz_188_99 rfl (fun u184 => by exfalso; omega) (fun u184 => ?_)
                  refine w_iconst gz_188_102 (by decide) ?_
                  refine w_goto (t := 107) gz_188_103 rfl ?_
                  refine w_istore_n (ls' := [(2, 151), (0, x1), (0, p18_0), (0, 1), (0, v162)]) gz_188_107 gm_188 rfl rfl rfl ?_
                  refine w_iload_n gz_188_108 rfl ?_
                  refine w_ifeq (t := 166) gz_188_109 rfl (fun u185 => by exfalso; omega) (fun u185 => ?_)
                  refine w_iload_n gz_188_112 rfl ?_
                  refine w_iconst gz_188_113 (by decide) ?_
                  refine w_iload gz_188_114 rfl ?_
                  refine w_ishlX gz_188_116 (fun v186 ev186 pv186 qv186 => ?_)
                  refine w_iorX gz_188_117 (fun v187 ev187 pv187 qv187 => ?_)
                  have e17 : v187 = bor p18_0 (bsl 1 v162) := by subst_vars; rfl
                  have pp : pop8 v187 = pop8 p18_0 + 1 ∧ pop8 p18_0 ≤ 7 ∧ 0 ≤ v187 ∧ v187 ≤ 255 := by first | (have yz : v162 = vz := (by omega); rw [yz] at e17; have z := pop8_add pm_18_0.1 pm_18_0.2 (v := vz) (by omega) (by omega) (by omega); rw [← e17] at z; exact z) | (exfalso; (try clear k0); (try clear k1); grind) | omega
                  have nb : ¬ BtS p18_0 v162 := by first | (have yz : v162 = vz := (by omega); intro z; have z3 := z.2.2; rw [yz] at z3; omega) | (exfalso; omega)
                  refine w_istore_n (ls' := [(2, 151), (0, x1), (0, v187), (0, 1), (0, v162)]) gz_188_118 gm_188 rfl rfl rfl ?_
                  refine w_aload_n gz_188_119 rfl ?_
                  refine w_getX (v := 172) gz_188_120 is_151 rd_10 rfl (by decide) rfl ?_
                  refine w_bipush gz_188_123 (by decide) ?_
                  refine w_iload_n gz_188_125 rfl ?_
                  refine w_imul gz_188_126 ⟨by omega, by omega⟩ ?_
                  refine w_aload_n gz_188_127 rfl ?_
                  refine w_getX (v := 171) gz_188_128 is_151 rd_10 rfl (by decide) rfl ?_
                  refine w_iload_n gz_188_131 rfl ?_
                  refine w_iald gz_188_132 is_171 rd_70 (by omega) (by omega) (fun v190 ev190 pv190 qv190 => ?_)
                  have b171 : ∀ j : Int, h161 171 j = h18_0 171 j := fun j => ((my_fr.at frh161 is_171 rfl).trans (rfl : h18_0 171 j = h18_0 171 j))
                  have f7 : v190 ≤ 7 := by have q := b171 x1; omega
                  obtain ⟨vm, em⟩ : ∃ vm : Int, vm = v190 := ⟨_, rfl⟩
                  have c172 : ∀ j : Int, h161 172 j = h18_0 172 j := fun j => ((my_fr.at frh161 is_172 rfl).trans (rfl : h18_0 172 j = h18_0 172 j))
                  refine w_iadd gz_188_133 ⟨by omega, by omega⟩ ?_
                  refine w_iload gz_188_134 rfl ?_
                  have hi191 : 0 ≤ v162 := by omega
                  have hi192 : v162 ≤ 7 := by omega
                  have hi193 : 0 ≤ ((8 * x1) + v190) := by omega
                  have hi194 : ((8 * x1) + v190) ≤ 335 := by omega
                  refine w_iast gz_188_136 is_172 rd_71 (by omega) (by omega) (by omega) (by omega) (fun h195 fh195 => ?_)
                  have gh195 : my_fr [(10, 7), (10, 8), (67, -1), (70, -1), (71, -1)] h h195 := my_fr.up gh161 is_172 fh195 rfl
                  have Mq_h195 : Mq h195 wv := Mq_v (a := 172) hwv (by decide) (by omega) fh195 Mq_h161
                  have Wd9_h195 : Wd9 h195 := Wd9_ag (my_ag.up fh195 is_172 rfl) Wd9_h161
                  have P6_h195 : h195 167 6 = h 167 6 := P6_ag (my_ag.up fh195 is_172 rfl) P6_h161
                  have Ko_h195 : Ko h h195 := Ko_v (a := 172) hwv (by decide) (by omega) fh195 Ko_h161
                  have Tok_h195 : Tok h195 := Tok_ag (my_ag.up fh195 is_172 rfl) Tok_h161t176
                  have f36 := fh195
                  have k36 : h195 172 (8 * x1 + vm) = v162 := by rw [show 8 * x1 + vm = _ from by rw [em]]; exact my_up_self fh195
                  refine w_aload_n gz_188_137 rfl ?_
                  refine w_getX (v := 171) gz_188_138 is_151 rd_10 rfl (by decide) rfl ?_
                  refine w_iload_n gz_188_141 rfl ?_
                  refine w_dup2 gz_188_142 rfl rfl ?_
                  refine w_iald gz_188_143 is_171 rd_70 (by omega) (by omega) (fun v197 ev197 pv197 qv197 => ?_)
                  have zv197 := ev197.trans ((my_up_role fh195 is_171 is_172 rfl).trans ev190.symm)
                  have c171 : ∀ j : Int, h195 171 j = h18_0 171 j := fun j => ((my_up_role fh195 is_171 is_172 rfl).trans ((my_fr.at frh161 is_171 rfl).trans (rfl : h18_0 171 j = h18_0 171 j)))
                  have f8 : v197 ≤ 7 := by have q := c171 x1; omega
                  refine w_iconst gz_188_144 (by decide) ?_
                  refine w_iadd gz_188_145 ⟨by omega, by omega⟩ ?_
                  have hi198 : 0 ≤ (v197 + 1) := by omega
                  have hi199 : (v197 + 1) ≤ 8 := by omega
                  refine w_iast gz_188_146 is_171 rd_70 (by omega) (by omega) (by omega) (by omega) (fun h200 fh200 => ?_)
                  have gh200 : my_fr [(10, 7), (10, 8), (67, -1), (70, -1), (71, -1)] h h200 := my_fr.up gh195 is_171 fh200 rfl
                  have Mq_h200 : Mq h200 wv := Mq_u (a := 171) hwv (by decide) (by omega) fh200 Mq_h195
                  have Wd9_h200 : Wd9 h200 := Wd9_ag (my_ag.up fh200 is_171 rfl) Wd9_h195
                  have P6_h200 : h200 167 6 = h 167 6 := P6_ag (my_ag.up fh200 is_171 rfl) P6_h195
                  have Ko_h200 : Ko h h200 := Ko_u (a := 171) hwv (by decide) (by omega) fh200 Ko_h195
                  have Tok_h200 : Tok h200 := Tok_ag (my_ag.up fh200 is_171 rfl) Tok_h195
                  have k46 := my_up_self fh200
                  have z46 := b171 x1
                  have z47 := c171 x1
                  have e46 : h200 171 x1 = vm + 1 := by have z3 := c171 x1; have z2 := b171 x1; omega
                  have d172 : ∀ j : Int, h200 172 j = h195 172 j := fun j => ((my_up_role fh200 is_172 is_171 rfl).trans (rfl : h195 172 j = h195 172 j))
                  have fw2 : ∀ i : Int, 0 ≤ i → i ≤ 7 → i < vm + 1 → h200 172 (8 * x1 + i) < k151_27 := fun i i0 i7 il => by
                    rw [d172]
                    by_cases q : i = vm
                    · rw [q, k36]; omega
                    · rw [my_up_ne f36 (by omega), c172]; exact fw_18_0 i i0 i7 (by have z2 := b171 x1; omega)
                  refine w_aload_n gz_188_147 rfl ?_
                  refine w_getX (v := 153) gz_188_148 is_151 rd_10 rfl (by decide) rfl ?_
                  refine w_aload_n gz_188_151 rfl ?_
                  refine v_getI (j := 7) gz_188_152 rfl is_151 rd_10 rfl (fun v202 ev202 pv202 qv202 => ?_)
                  have zv202 := ev202.trans ((my_up_role fh200 is_151 is_171 rfl).trans ((my_up_role fh195 is_151 is_172 rfl).trans (rfl : h161 151 7 = h161 151 7)))
                  refine w_iald gz_188_155 is_153 rd_52 (by omega) (by omega) (fun v203 ev203 pv203 qv203 => ?_)
                  have nz204a : h200 151 7 = (sN (sm h) (h18_0 151 7)) := ((my_up_role fh200 is_151 is_171 rfl).trans ((my_up_role fh195 is_151 is_172 rfl).trans xp173))
                  have nz204 : (v203 ≠ 3 → sK (sm h) (sN (sm h) (h18_0 151 7)) = v203) ∧ (v203 = 3 → sV (sm h) (sN (sm h) (h18_0 151 7)) = 59 → sK (sm h) (sN (sm h) (h18_0 151 7)) = 3) ∧ (v203 = 3 → sV (sm h) (sN (sm h) (h18_0 151 7)) ≠ 59 → sK (sm h) (sN (sm h) (h18_0 151 7)) = 4) := by
                    have q := ev203.trans (my_fr.at (j := v202) gh200 is_153 rfl)
                    rw [show (v202 : Int) = (sN (sm h) (h18_0 151 7)) from by omega] at q
                    exact sK_ld q
                  refine w_iconst gz_188_156 (by decide) ?_
                  refine w_icne (t := 164) gz_188_157 rfl (fun u205 => ?_) (fun u205 => ?_)
                  ·
                    refine w_iconst gz_188_164 (by decide) ?_
                    refine w_istore_n (ls' := [(2, 151), (0, x1), (0, v187), (0, 0), (0, v162)]) gz_188_165 gm_188 rfl rfl rfl ?_
                    refine w_goto (t := 18) gz_188_166 rfl ?_
                    have psJ : h200 151 7 = (sN (sm h) (h18_0 151 7)) := ((my_up_role fh200 is_151 is_171 rfl).trans ((my_up_role fh195 is_151 is_172 rfl).trans xp173))
                    have npsJ : sm h200 = sm h := sm_eq (fun j => my_fr.at gh200 is_153 rfl) (fun j => my_fr.at gh200 is_154 rfl) (fun j => my_fr.at gh200 is_155 rfl)
                    have ce206 : h200 151 7 = v202 := ev202.symm
                    have ce207 : h200 151 8 = v183 := ((my_up_role fh200 is_151 is_171 rfl).trans ((my_up_role fh195 is_151 is_172 rfl).trans ev183.symm))
                    have a168 : ∀ j : Int, h200 168 j = h18_0 168 j := fun j => ((my_up_role fh200 is_168 is_171 rfl).trans ((my_up_role fh195 is_168 is_172 rfl).trans ((my_fr.at frh161 is_168 rfl).trans (rfl : h18_0 168 j = h18_0 168 j))))
                    have a171 : ∀ j : Int, h200 171 j = h200 171 j := fun j => rfl
                    have a172 : ∀ j : Int, h200 172 j = h195 172 j := fun j => ((my_up_role fh200 is_172 is_171 rfl).trans (rfl : h195 172 j = h195 172 j))
                    refine w_weak (ls' := [(2, 151), (0, x1), (0, v187), (0, 0), (9, 0)]) (wk_e (wk_e (wk_e (wk_e (wk_9 wk_n))))) ?_
                    exact ih_18_0 (v187) (0) (v183) h200 (gh200) (by omega) (by omega) (by omega) (by omega) (((my_up_role fh200 is_151 is_171 rfl).trans ((my_up_role fh195 is_151 is_172 rfl).trans ((my_fr.at frh161 is_151 rfl).trans ev152.symm))).trans (by omega)) (((my_up_role fh200 is_151 is_171 rfl).trans ((my_up_role fh195 is_151 is_172 rfl).trans ev183.symm)).trans (by omega)) Tok_h200 Mq_h200 Wd9_h200 P6_h200 Ko_h200 (by rw [a168]; first | exact k168 | exact k8_18_0) (by omega) (by first | (rw [a171]; exact pq_18_0) | (rw [a171, k13]; exact pop8_0) | (rw [a171, k46]; omega) | omega) (by omega) (by omega) (by first | (intro i i0 i7 il; exfalso; rw [a171, k13] at il; omega) | (intro i i0 i7 il; rw [a172]; exact fw_18_0 i i0 i7 (by have z := a171 x1; omega)) | exact (fun i i0 i7 il => fw2 i i0 i7 (by omega)) | omega) (by omega) (by first | (intro q; exfalso; omega) | exact (fun _ => fmI_0 (by omega) (by have z := a171 x1; omega) (by omega)) | exact (fun _ => fmI_s (fi_18_0 (by omega)) rfl (by omega) (by omega) (by omega) nb (by omega) (by omega) (by have z := a171 x1; omega) e17 pm_18_0.1 pm_18_0.2 (by omega) (by omega)) | omega) (by first | (intro q; exfalso; omega) | exact (fun _ => fmI_3 (fi_18_0 (by omega)) rfl (by omega) (by omega) (by omega) ib (by omega)) | exact (fun _ => fmI_e (fi_18_0 (by omega)) rfl (by omega) (by omega) (by omega) nb (by omega) (by omega) (by omega) (by have z := a171 x1; omega)) | exact (fun _ => fmI_1 (fi_18_0 (by omega)) rfl (by first | exact Or.inl ⟨by omega, by omega⟩ | exact Or.inr (Or.inl ⟨by omega, by omega, by omega⟩))) | (intro q; have z := fe_18_0 (by omega); exact z) | omega) (by omega)
                  ·
                    refine w_iconst gz_188_160 (by decide) ?_
                    refine w_goto (t := 165) gz_188_161 rfl ?_
                    refine w_istore_n (ls' := [(2, 151), (0, x1), (0, v187), (0, 1), (0, v162)]) gz_188_165 gm_188 rfl rfl rfl ?_
                    refine w_goto (t := 18) gz_188_166 rfl ?_
                    have psJ : h200 151 7 = (sN (sm h) (h18_0 151 7)) := ((my_up_role fh200 is_151 is_171 rfl).trans ((my_up_role fh195 is_151 is_172 rfl).trans xp173))
                    have npsJ : sm h200 = sm h := sm_eq (fun j => my_fr.at gh200 is_153 rfl) (fun j => my_fr.at gh200 is_154 rfl) (fun j => my_fr.at gh200 is_155 rfl)
                    have ce208 : h200 151 7 = v202 := ev202.symm
                    have ce209 : h200 151 8 = v183 := ((my_up_role fh200 is_151 is_171 rfl).trans ((my_up_role fh195 is_151 is_172 rfl).trans ev183.symm))
                    have a168 : ∀ j : Int, h200 168 j = h18_0 168 j := fun j => ((my_up_role fh200 is_168 is_171 rfl).trans ((my_up_role fh195 is_168 is_172 rfl).trans ((my_fr.at frh161 is_168 rfl).trans (rfl : h18_0 168 j = h18_0 168 j))))
                    have a171 : ∀ j : Int, h200 171 j = h200 171 j := fun j => rfl
                    have a172 : ∀ j : Int, h200 172 j = h195 172 j := fun j => ((my_up_role fh200 is_172 is_171 rfl).trans (rfl : h195 172 j = h195 172 j))
                    refine w_weak (ls' := [(2, 151), (0, x1), (0, v187), (0, 1), (9, 0)]) (wk_e (wk_e (wk_e (wk_e (wk_9 wk_n))))) ?_
                    exact ih_18_0 (v187) (1) (v183) h200 (gh200) (by omega) (by omega) (by omega) (by omega) (((my_up_role fh200 is_151 is_171 rfl).trans ((my_up_role fh195 is_151 is_172 rfl).trans ((my_fr.at frh161 is_151 rfl).trans ev152.symm))).trans (by omega)) (((my_up_role fh200 is_151 is_171 rfl).trans ((my_up_role fh195 is_151 is_172 rfl).trans ev183.symm)).trans (by omega)) Tok_h200 Mq_h200 Wd9_h200 P6_h200 Ko_h200 (by rw [a168]; first | exact k168 | exact k8_18_0) (by omega) (by first | (rw [a171]; exact pq_18_0) | (rw [a171, k13]; exact pop8_0) | (rw [a171, k46]; omega) | omega) (by omega) (by omega) (by first | (intro i i0 i7 il; exfalso; rw [a171, k13] at il; omega) | (intro i i0 i7 il; rw [a172]; exact fw_18_0 i i0 i7 (by have z := a171 x1; omega)) | exact (fun i i0 i7 il => fw2 i i0 i7 (by omega)) | omega) (by omega) (by first | (intro q; exfalso; omega) | exact (fun _ => fmI_0 (by omega) (by have z := a171 x1; omega) (by omega)) | exact (fun _ => fmI_s (fi_18_0 (by omega)) rfl (by omega) (by omega) (by omega) nb (by omega) (by omega) (by have z := a171 x1; omega) e17 pm_18_0.1 pm_18_0.2 (by omega) (by omega)) | omega) (by first | (intro q; exfalso; omega) | exact (fun _ => fmI_3 (fi_18_0 (by omega)) rfl (by omega) (by omega) (by omega) ib (by omega)) | exact (fun _ => fmI_e (fi_18_0 (by omega)) rfl (by omega) (by omega) (by omega) nb (by omega) (by omega) (by omega) (by have z := a171 x1; omega)) | exact (fun _ => fmI_1 (fi_18_0 (by omega)) rfl (by first | exact Or.inl ⟨by omega, by omega⟩ | exact Or.inr (Or.inl ⟨by omega, by omega, by omega⟩))) | (intro q; have z := fe_18_0 (by omega); exact z) | omega) (by omega)
              ·
                have ib : BtS p18_0 vz := ⟨by have q := Tok_at n_Tok_18_0; subst_vars; omega, by subst_vars; omega, by omega⟩
                have iv : vz = sV (sm h) (h18_0 151 7) := by subst_vars; omega
                refine w_aload_n gz_188_78 rfl ?_
                refine w_iconst gz_188_79 (by decide) ?_
                have ce210 : h18_0 151 7 = v145 := ev145.symm
                have ce211 : h18_0 151 27 = v83 := ev83.symm
                refine w_inv (k := 0) (as := [(0, 3)]) (r := []) (x := 151) (ls0 := [(2, 151), (0, 3)]) gz_188_80 gm_178 rfl is_151 rd_10 rfl rfl rfl rfl rfl ?_
                refine w_aload_n gz_178_0 rfl ?_
                refine v_getI (j := 8) gz_178_1 rfl is_151 rd_10 rfl (fun v212 ev212 pv212 qv212 => ?_)
                have zv212 := ev212.trans ev4.symm
                refine w_ifne (t := 25) gz_178_4 rfl (fun u213 => by exfalso; omega) (fun u213 => ?_)
                refine w_aload_n gz_178_7 rfl ?_
                refine w_iload_n gz_178_8 rfl ?_
                refine w_bipush gz_178_9 (by decide) ?_
                refine w_aload_n gz_178_11 rfl ?_
                refine w_getX (v := 154) gz_178_12 is_151 rd_10 rfl (by decide) rfl ?_
                refine w_aload_n gz_178_15 rfl ?_
                refine v_getI (j := 7) gz_178_16 rfl is_151 rd_10 rfl (fun v215 ev215 pv215 qv215 => ?_)
                have zv215 := ev215.trans ev145.symm
                refine w_iald gz_178_19 is_154 rd_53 (by omega) (by omega) (fun v216 ev216 pv216 qv216 => ?_)
                have nz217 : v216 = sP (sm h) (h18_0 151 7) := by
                  have q := ev216.trans (my_fr.at (j := v215) gh_18_0 is_154 rfl)
                  rw [show (v215 : Int) = h18_0 151 7 from by omega] at q
                  exact q
                refine w_imul gz_178_20 ⟨by omega, by omega⟩ ?_
                refine w_iadd gz_178_21 ⟨by omega, by omega⟩ ?_
                refine v_putI (j := 8) gz_178_22 rfl is_151 rd_10 rfl (by omega) (by omega) rfl (fun h218 fh218 => ?_)
                have gh218 : my_fr [(10, 7), (10, 8), (67, -1), (70, -1), (71, -1)] h h218 := my_fr.up gh_18_0 is_151 fh218 rfl
                have Tok_h218 : Tok h218 := Tok_ag (my_ag.up fh218 is_151 rfl) n_Tok_18_0
                have Mq_h218 : Mq h218 wv := Mq_ag (my_ag.up fh218 is_151 rfl) n_Mq_18_0
                have Wd9_h218 : Wd9 h218 := Wd9_ag (my_ag.up fh218 is_151 rfl) n_Wd9_18_0
                have P6_h218 : h218 167 6 = h 167 6 := P6_ag (my_ag.up fh218 is_151 rfl) n_P6_18_0
                have Ko_h218 : Ko h h218 := Ko_ag (my_ag.up fh218 is_151 rfl) n_Ko_18_0
                refine w_vret gz_178_25 gm_178 ?_
                show wp l rho (d + 2) 188 83 [(2, 151), (0, x1), (0, p18_0), (0, p18_1), (9, 0)] [] h218 Q
                refine w_aload_n gz_188_83 rfl ?_
                refine w_aload_n gz_188_84 rfl ?_
                refine v_getI (j := 27) gz_188_85 rfl is_151 rd_10 rfl (fun v219 ev219 pv219 qv219 => ?_)
                have zv219 := ev219.trans ((my_up_fld fh218 (by decide)).trans ev83.symm)
                refine w_iconst gz_188_88 (by decide) ?_
                refine w_isub gz_188_89 ⟨by omega, by omega⟩ ?_
                have ce220 : h218 151 7 = v215 := ((my_up_fld fh218 (by decide)).trans ev215.symm)
                have ce221 : h218 151 27 = v219 := ev219.symm
                refine w_inv (k := 0) (as := [(0, (v219 - 1))]) (r := []) (x := 151) (ls0 := [(2, 151), (0, (v219 - 1))]) gz_188_90 gm_187 rfl is_151 rd_10 rfl rfl rfl rfl rfl (c_Model_takeNumber9_f1 (d := d) (x1 := (v219 - 1)) (by omega) (by omega) ((3 + (16 * v216))) ((my_up_self fh218)) (by omega) (by omega) Tok_h218 (fun w222 w223 xp224 Tok_h218t225 => ?_))
                show wp l rho (d + 2) 188 93 [(2, 151), (0, x1), (0, p18_0), (0, p18_1), (9, 0)] [(0, 0)] h218 Q
                have ps226 : h218 151 7 = h18_0 151 7 := ((my_up_fld fh218 (by decide)).trans (rfl : h18_0 151 7 = h18_0 151 7))
                rw [ps226] at xp224
                refine w_istore (ls' := [(2, 151), (0, x1), (0, p18_0), (0, p18_1), (0, 0)]) gz_188_93 gm_188 rfl rfl rfl ?_
                refine w_aload_n gz_188_95 rfl ?_
                refine v_getI (j := 8) gz_188_96 rfl is_151 rd_10 rfl (fun v227 ev227 pv227 qv227 => ?_)
                have zv227 := ev227.trans (my_up_self fh218)
                refine w_ifne (t := 106) gz_188_99 rfl (fun u228 => ?_) (fun u228 => by exfalso; omega)
                refine w_iconst gz_188_106 (by decide) ?_
                refine w_istore_n (ls' := [(2, 151), (0, x1), (0, p18_0), (0, 0), (0, 0)]) gz_188_107 gm_188 rfl rfl rfl ?_
                refine w_iload_n gz_188_108 rfl ?_
                refine w_ifeq (t := 166) gz_188_109 rfl (fun u229 => ?_) (fun u229 => by exfalso; omega)
                refine w_goto (t := 18) gz_188_166 rfl ?_
                have psJ : h218 151 7 = h18_0 151 7 := ((my_up_fld fh218 (by decide)).trans (rfl : h18_0 151 7 = h18_0 151 7))
                have npsJ : sm h218 = sm h := sm_eq (fun j => my_fr.at gh218 is_153 rfl) (fun j => my_fr.at gh218 is_154 rfl) (fun j => my_fr.at gh218 is_155 rfl)
                have ce230 : h218 151 7 = v215 := ((my_up_fld fh218 (by decide)).trans ev215.symm)
                have ce231 : h218 151 8 = v227 := ev227.symm
                have a168 : ∀ j : Int, h218 168 j = h18_0 168 j := fun j => ((my_up_role fh218 is_168 is_151 rfl).trans (rfl : h18_0 168 j = h18_0 168 j))
                have a171 : ∀ j : Int, h218 171 j = h18_0 171 j := fun j => ((my_up_role fh218 is_171 is_151 rfl).trans (rfl : h18_0 171 j = h18_0 171 j))
                have a172 : ∀ j : Int, h218 172 j = h18_0 172 j := fun j => ((my_up_role fh218 is_172 is_151 rfl).trans (rfl : h18_0 172 j = h18_0 172 j))
                refine w_weak (ls' := [(2, 151), (0, x1), (0, p18_0), (0, 0), (9, 0)]) (wk_e (wk_e (wk_e (wk_e (wk_9 wk_n))))) ?_
                exact ih_18_0 (p18_0) (0) (v227) h218 (gh218) (by omega) (by omega) (by omega) (by omega) (ev219.symm.trans (by omega)) (ev227.symm.trans (by omega)) Tok_h218t225 Mq_h218 Wd9_h218 P6_h218 Ko_h218 (by rw [a168]; first | exact k168 | exact k8_18_0) (by omega) (by first | (rw [a171]; exact pq_18_0) | (rw [a171, k13]; exact pop8_0) | (rw [a171, k46]; omega) | omega) (by omega) (by omega) (by first | (intro i i0 i7 il; exfalso; rw [a171, k13] at il; omega) | (intro i i0 i7 il; rw [a172]; exact fw_18_0 i i0 i7 (by have z := a171 x1; omega)) | exact (fun i i0 i7 il => fw2 i i0 i7 (by omega)) | omega) (by omega) (by first | (intro q; exfalso; omega) | exact (fun _ => fmI_0 (by omega) (by have z := a171 x1; omega) (by omega)) | exact (fun _ => fmI_s (fi_18_0 (by omega)) rfl (by omega) (by omega) (by omega) nb (by omega) (by omega) (by have z := a171 x1; omega) e17 pm_18_0.1 pm_18_0.2 (by omega) (by omega)) | omega) (by first | (intro q; exfalso; omega) | exact (fun _ => fmI_3 (fi_18_0 (by omega)) rfl (by omega) (by omega) (by omega) ib (by omega)) | exact (fun _ => fmI_e (fi_18_0 (by omega)) rfl (by omega) (by omega) (by omega) nb (by omega) (by omega) (by omega) (by have z := a171 x1; omega)) | exact (fun _ => fmI_1 (fi_18_0 (by omega)) rfl (by first | exact Or.inl ⟨by omega, by omega⟩ | exact Or.inr (Or.inl ⟨by omega, by omega, by omega⟩))) | (intro q; have z := fe_18_0 (by omega); exact z) | omega) (by omega)
  refine w_aload_n gz_188_0 rfl ?_
  refine w_getX (v := 168) gz_188_1 is_151 rd_10 rfl (by decide) rfl ?_
  refine w_iload_n gz_188_4 rfl ?_
  refine w_iconst gz_188_5 (by decide) ?_
  refine w_iast gz_188_6 is_168 rd_67 (by omega) (by omega) (by omega) (by omega) (fun h233 fh233 => ?_)
  have gh233 : my_fr [(10, 7), (10, 8), (67, -1), (70, -1), (71, -1)] h h233 := my_fr.up my_fr.rf is_168 fh233 rfl
  have Tok_h233 : Tok h233 := Tok_ag (my_ag.up fh233 is_168 rfl) n_Tok
  have Mq_h233 : Mq h233 wv := Mq_u (a := 168) hwv (by decide) (by omega) fh233 n_Mq
  have Wd9_h233 : Wd9 h233 := Wd9_ag (my_ag.up fh233 is_168 rfl) n_Wd9
  have P6_h233 : h233 167 6 = h 167 6 := P6_ag (my_ag.up fh233 is_168 rfl) (rfl)
  have Ko_h233 : Ko h h233 := Ko_u (a := 168) hwv (by decide) (by omega) fh233 (Ko_rf)
  have k168 : h233 168 x1 = 3 := my_up_self fh233
  refine w_aload_n gz_188_7 rfl ?_
  refine w_getX (v := 171) gz_188_8 is_151 rd_10 rfl (by decide) rfl ?_
  refine w_iload_n gz_188_11 rfl ?_
  refine w_iconst gz_188_12 (by decide) ?_
  refine w_iast gz_188_13 is_171 rd_70 (by omega) (by omega) (by omega) (by omega) (fun h235 fh235 => ?_)
  have gh235 : my_fr [(10, 7), (10, 8), (67, -1), (70, -1), (71, -1)] h h235 := my_fr.up gh233 is_171 fh235 rfl
  have Tok_h235 : Tok h235 := Tok_ag (my_ag.up fh235 is_171 rfl) Tok_h233
  have Mq_h235 : Mq h235 wv := Mq_u (a := 171) hwv (by decide) (by omega) fh235 Mq_h233
  have Wd9_h235 : Wd9 h235 := Wd9_ag (my_ag.up fh235 is_171 rfl) Wd9_h233
  have P6_h235 : h235 167 6 = h 167 6 := P6_ag (my_ag.up fh235 is_171 rfl) P6_h233
  have Ko_h235 : Ko h h235 := Ko_u (a := 171) hwv (by decide) (by omega) fh235 Ko_h233
  have k13 : h235 171 x1 = 0 := my_up_self fh235
  refine w_iconst gz_188_14 (by decide) ?_
  refine w_istore_n (ls' := [(2, 151), (0, x1), (0, 0), (9, 0), (9, 0)]) gz_188_15 gm_188 rfl rfl rfl ?_
  refine w_iconst gz_188_16 (by decide) ?_
  refine w_istore_n (ls' := [(2, 151), (0, x1), (0, 0), (0, 1), (9, 0)]) gz_188_17 gm_188 rfl rfl rfl ?_
  have psJ : h235 151 7 = h 151 7 := ((my_up_role fh235 is_151 is_171 rfl).trans ((my_up_role fh233 is_151 is_168 rfl).trans (rfl : h 151 7 = h 151 7)))
  have npsJ : sm h235 = sm h := sm_eq (fun j => my_fr.at gh235 is_153 rfl) (fun j => my_fr.at gh235 is_154 rfl) (fun j => my_fr.at gh235 is_155 rfl)
  have ce236 : h235 151 7 = k151_7 := ((my_up_role fh235 is_151 is_171 rfl).trans ((my_up_role fh233 is_151 is_168 rfl).trans ek151_7.symm))
  have ce237 : h235 151 8 = 0 := ((my_up_role fh235 is_151 is_171 rfl).trans ((my_up_role fh233 is_151 is_168 rfl).trans cf))
  have a168 : ∀ j : Int, h235 168 j = h233 168 j := fun j => ((my_up_role fh235 is_168 is_171 rfl).trans (rfl : h233 168 j = h233 168 j))
  have a171 : ∀ j : Int, h235 171 j = h235 171 j := fun j => rfl
  have a172 : ∀ j : Int, h235 172 j = h 172 j := fun j => ((my_up_role fh235 is_172 is_171 rfl).trans ((my_up_role fh233 is_172 is_168 rfl).trans (rfl : h 172 j = h 172 j)))
  exact J18_0 (1003) (0) (1) (0) h235 (gh235) (by omega) (by omega) (by omega) (by omega) (((my_up_role fh235 is_151 is_171 rfl).trans ((my_up_role fh233 is_151 is_168 rfl).trans ek151_27.symm)).trans (by omega)) (((my_up_role fh235 is_151 is_171 rfl).trans ((my_up_role fh233 is_151 is_168 rfl).trans cf)).trans (by omega)) Tok_h235 Mq_h235 Wd9_h235 P6_h235 Ko_h235 (by rw [a168]; first | exact k168 | exact k8_18_0) (by omega) (by first | (rw [a171]; exact pq_18_0) | (rw [a171, k13]; exact pop8_0) | (rw [a171, k46]; omega) | omega) (by omega) (by omega) (by first | (intro i i0 i7 il; exfalso; rw [a171, k13] at il; omega) | (intro i i0 i7 il; rw [a172]; exact fw_18_0 i i0 i7 (by have z := a171 x1; omega)) | exact (fun i i0 i7 il => fw2 i i0 i7 (by omega)) | omega) (by omega) (by first | (intro q; exfalso; omega) | exact (fun _ => fmI_0 (by omega) (by have z := a171 x1; omega) (by omega)) | exact (fun _ => fmI_s (fi_18_0 (by omega)) rfl (by omega) (by omega) (by omega) nb (by omega) (by omega) (by have z := a171 x1; omega) e17 pm_18_0.1 pm_18_0.2 (by omega) (by omega)) | omega) (by first | (intro q; exfalso; omega) | exact (fun _ => fmI_3 (fi_18_0 (by omega)) rfl (by omega) (by omega) (by omega) ib (by omega)) | exact (fun _ => fmI_e (fi_18_0 (by omega)) rfl (by omega) (by omega) (by omega) nb (by omega) (by omega) (by omega) (by have z := a171 x1; omega)) | exact (fun _ => fmI_1 (fi_18_0 (by omega)) rfl (by first | exact Or.inl ⟨by omega, by omega⟩ | exact Or.inr (Or.inl ⟨by omega, by omega, by omega⟩))) | (intro q; have z := fe_18_0 (by omega); exact z) | omega) (by omega)
theorem c_ThroughWindow_isUnderAnother9 {l : Launch} {rho : Nat → Int32} {d : Nat} {h : my_H} {Q : my_H → my_V → Prop} {x1 : Int} (a1 : 0 ≤ x1) (b1 : x1 ≤ 5) (k0 : (∀ v : Int, 0 ≤ v → v ≤ 5 → h (h 27 v) 0 = 1 → h (h 27 v) 1 ≠ x1) → Q h (0, 0)) (k1 : (∃ v : Int, 0 ≤ v ∧ v ≤ 5 ∧ h (h 27 v) 0 = 1 ∧ h (h 27 v) 1 = x1) → Q h (0, 1)) : wp l rho d 35 0 [(2, 0), (0, x1), (9, 0)] [] h Q := by
  have J2_0 : ∀ (n : Nat) (p2_0 : Int), 0 ≤ p2_0 → p2_0 ≤ 6 → (∀ v : Int, 0 ≤ v → v < p2_0 → h (h 27 v) 0 = 1 → h (h 27 v) 1 ≠ x1) → 7 - p2_0 ≤ (n : Int) → wp l rho d 35 2 [(2, 0), (0, x1), (0, p2_0)] [] h Q := by
    intro n
    induction n with
    | zero => intro p2_0 q0_2_0 q1_2_0 ua_2_0 hm_2_0; exfalso; omega
    | succ n ih_2_0 =>
      intro p2_0 q0_2_0 q1_2_0 ua_2_0 hm_2_0
      refine w_iload_n gz_35_2 rfl ?_
      refine w_bipush gz_35_3 (by decide) ?_
      refine w_icge (t := 41) gz_35_5 rfl (fun u1 => ?_) (fun u1 => ?_)
      ·
        refine w_iconst gz_35_41 (by decide) ?_
        exact w_bret gz_35_42 gm_35 (by omega) (by omega) (k0 (by first | exact ⟨p2_0, by omega, by omega, by subst_vars; omega, by subst_vars; omega⟩ | (intro v a b; exact ua_2_0 v a (by omega)) | grind | omega))
      ·
        refine w_aload_n gz_35_8 rfl ?_
        refine w_getX (v := 27) gz_35_9 is_0 rd_9 rfl (by decide) rfl ?_
        refine w_iload_n gz_35_12 rfl ?_
        refine w_aald gz_35_13 is_27 rd_22 rfl (by omega) (by omega) (fun v3 ev3 tv3 => ?_)
        refine v_getI (j := 0) gz_35_14 rfl tv3 rd_4 rfl (fun v4 ev4 pv4 qv4 => ?_)
        refine w_ifeq (t := 35) gz_35_17 rfl (fun u5 => ?_) (fun u5 => ?_)
        ·
          refine w_iinc (ls' := [(2, 0), (0, x1), (0, (p2_0 + 1))]) gz_35_35 rfl gm_35 rfl rfl rfl ⟨by omega, by omega⟩ ?_
          refine w_goto (t := 2) gz_35_38 rfl ?_
          exact ih_2_0 ((p2_0 + 1)) (by omega) (by omega) (by first | (intro v a b; omega) | (intro v a b c; rcases (by omega : v = p2_0 ∨ v < p2_0) with q | q <;> first | exact ua_2_0 v a q c | (subst_vars; omega)) | omega) (by omega)
        ·
          refine w_aload_n gz_35_20 rfl ?_
          refine w_getX (v := 27) gz_35_21 is_0 rd_9 rfl (by decide) rfl ?_
          refine w_iload_n gz_35_24 rfl ?_
          refine w_aald gz_35_25 is_27 rd_22 rfl (by omega) (by omega) (fun v7 ev7 tv7 => ?_)
          have zv7 : v3 = v7 := (ev7.trans ev3.symm).symm
          subst zv7
          refine v_getI (j := 1) gz_35_26 rfl tv3 rd_4 rfl (fun v8 ev8 pv8 qv8 => ?_)
          refine w_iload_n gz_35_29 rfl ?_
          refine w_icne (t := 35) gz_35_30 rfl (fun u9 => ?_) (fun u9 => ?_)
          ·
            refine w_iinc (ls' := [(2, 0), (0, x1), (0, (p2_0 + 1))]) gz_35_35 rfl gm_35 rfl rfl rfl ⟨by omega, by omega⟩ ?_
            refine w_goto (t := 2) gz_35_38 rfl ?_
            exact ih_2_0 ((p2_0 + 1)) (by omega) (by omega) (by first | (intro v a b; omega) | (intro v a b c; rcases (by omega : v = p2_0 ∨ v < p2_0) with q | q <;> first | exact ua_2_0 v a q c | (subst_vars; omega)) | omega) (by omega)
          ·
            refine w_iconst gz_35_33 (by decide) ?_
            exact w_bret gz_35_34 gm_35 (by omega) (by omega) (k1 (by first | exact ⟨p2_0, by omega, by omega, by subst_vars; omega, by subst_vars; omega⟩ | (intro v a b; exact ua_2_0 v a (by omega)) | grind | omega))
  refine w_iconst gz_35_0 (by decide) ?_
  refine w_istore_n (ls' := [(2, 0), (0, x1), (0, 0)]) gz_35_1 gm_35 rfl rfl rfl ?_
  exact J2_0 7 (0) (by omega) (by omega) (by first | (intro v a b; omega) | (intro v a b c; rcases (by omega : v = p2_0 ∨ v < p2_0) with q | q <;> first | exact ua_2_0 v a q c | (subst_vars; omega)) | omega) (by omega)
theorem c_Reader_isWord9_f1 {l : Launch} {rho : Nat → Int32} {d : Nat} {h : my_H} {Q : my_H → my_V → Prop} {x1 : Int} (s1 : 1 ≤ x1 ∧ x1 ≤ 12) (xf : Int) (cf : h 82 9 = xf) (cf1 : 1 ≤ xf) (cf2 : xf ≤ 16005) (n_Cu : Cu h) (k0 : 1 ≤ h 82 9 → h 82 9 ≤ 16005 → sW (cs h) (h 82 7) ≠ wc x1 → Q h (0, 0)) (k1 : h 82 6 = 1 → 1 ≤ h 82 9 → h 82 9 ≤ 16005 → sW (cs h) (h 82 7) = wc x1 → Q h (0, 1)) : wp l rho (d + 4) 41 0 [(2, 82), (3, x1), (9, 0)] [] h Q := by
  refine v_know (x := 82) (j := 5) (b := 5) rfl is_82 rd_5 rfl (fun k82_5 ek82_5 pk82_5 qk82_5 => ?_)
  refine v_know (x := 82) (j := 7) (b := 7) rfl is_82 rd_5 rfl (fun k82_7 ek82_7 pk82_7 qk82_7 => ?_)
  have J28_0 : ∀ (n : Nat) (p28_0 p28_1 : Int), 0 ≤ p28_0 → p28_0 ≤ 6 → 1 ≤ p28_1 → p28_1 ≤ 16005 → h 82 5 = k82_5 → h 82 6 = 1 → h 82 7 = k82_7 → h 82 9 = p28_1 → Cu h → h 82 5 - h 82 7 = my_sl x1 → (∀ i : Int, 0 ≤ i → i < p28_0 → h 92 (h 82 7 + i) = my_sc x1 i) → 7 - p28_0 ≤ (n : Int) → wp l rho (d + 4) 41 28 [(2, 82), (3, x1), (0, p28_0)] [] h Q := by
    intro n
    induction n with
    | zero => intro p28_0 p28_1 q0_28_0 q1_28_0 q2_28_0 q3_28_0 c82_5_28_0 c82_6_28_0 c82_7_28_0 c82_9_28_0 n_Cu_28_0 ln_28_0 lt_28_0 hm_28_0; exfalso; omega
    | succ n ih_28_0 =>
      intro p28_0 p28_1 q0_28_0 q1_28_0 q2_28_0 q3_28_0 c82_5_28_0 c82_6_28_0 c82_7_28_0 c82_9_28_0 n_Cu_28_0 ln_28_0 lt_28_0 hm_28_0
      refine w_iload_n gz_41_28 rfl ?_
      refine w_aload3_n gz_41_29 rfl ?_
      refine w_slen (q := 177) sdec_30 s1 ?_
      have bd1 := my_sl_bd s1
      refine w_icge (t := 63) gz_41_33 rfl (fun u2 => ?_) (fun u2 => ?_)
      ·
        refine w_iconst gz_41_63 (by decide) ?_
        have c3 := c82_6_28_0
        have c4 := c82_9_28_0
        exact w_bret gz_41_64 gm_41 (by omega) (by omega) (k1 (by omega) (by omega) (by omega) (by first | exact W_1s n_Cu (by omega) s1 ln_28_0 (fun i a b => lt_28_0 i a (by omega)) | (intro z; have q := W_0s n_Cu s1 z; exfalso; have q3 := q.2.2 p28_0 (by omega) (by omega); omega) | (intro z; have q := W_0s n_Cu s1 z; omega) | omega))
      ·
        refine w_aload_n gz_41_36 rfl ?_
        refine w_getX (v := 92) gz_41_37 is_82 rd_5 rfl (by decide) rfl ?_
        refine w_aload_n gz_41_40 rfl ?_
        refine v_getI (j := 7) gz_41_41 rfl is_82 rd_5 rfl (fun v6 ev6 pv6 qv6 => ?_)
        have zv6 := ev6.trans c82_7_28_0
        refine w_iload_n gz_41_44 rfl ?_
        refine w_iadd gz_41_45 ⟨by omega, by omega⟩ ?_
        have hi7 : 0 ≤ (v6 + p28_0) := by omega
        have hi8 : (v6 + p28_0) ≤ 999 := by omega
        refine w_yald gz_41_46 is_92 rd_40 (by omega) (by omega) (fun v9 ev9 pv9 qv9 => ?_)
        refine w_aload3_n gz_41_47 rfl ?_
        refine w_iload_n gz_41_48 rfl ?_
        have l49 : v9 = h 92 (h 82 7 + p28_0) := by
          rw [show h 82 7 + p28_0 = (v6 + p28_0) by omega]
          omega
        refine w_schrE (q := 181) sdec_49 s1 (by omega) (by omega) (fun v10 pv10 qv10 xv10 => ?_)
        refine w_iceq (t := 57) gz_41_52 rfl (fun u11 => ?_) (fun u11 => ?_)
        ·
          refine w_iinc (ls' := [(2, 82), (3, x1), (0, (p28_0 + 1))]) gz_41_57 rfl gm_41 rfl rfl rfl ⟨by omega, by omega⟩ ?_
          refine w_goto (t := 28) gz_41_60 rfl ?_
          exact ih_28_0 ((p28_0 + 1)) (p28_1) (by omega) (by omega) (by omega) (by omega) (c82_5_28_0.trans (by omega)) (c82_6_28_0.trans (by omega)) (ev6.symm.trans (by omega)) (c82_9_28_0.trans (by omega)) n_Cu_28_0 (by first | assumption | omega | (subst_vars; omega) | omega) (by first | (intro i a b; omega) | (intro i a b; rcases (by omega : i = p28_0 ∨ i < p28_0) with q | q <;> first | exact lt_28_0 i a q | (rw [q, ← l49]; omega)) | omega) (by omega)
        ·
          refine w_iconst gz_41_55 (by decide) ?_
          have c12 := c82_9_28_0
          exact w_bret gz_41_56 gm_41 (by omega) (by omega) (k0 (by omega) (by omega) (by first | exact W_1s n_Cu (by omega) s1 ln_28_0 (fun i a b => lt_28_0 i a (by omega)) | (intro z; have q := W_0s n_Cu s1 z; exfalso; have q3 := q.2.2 p28_0 (by omega) (by omega); omega) | (intro z; have q := W_0s n_Cu s1 z; omega) | omega))
  refine w_aload_n gz_41_0 rfl ?_
  refine v_getI (j := 6) gz_41_1 rfl is_82 rd_5 rfl (fun v13 ev13 pv13 qv13 => ?_)
  refine w_iconst gz_41_4 (by decide) ?_
  refine w_icne (t := 24) gz_41_5 rfl (fun u14 => ?_) (fun u14 => ?_)
  ·
    refine w_iconst gz_41_24 (by decide) ?_
    have c15 := cf
    exact w_bret gz_41_25 gm_41 (by omega) (by omega) (k0 (by omega) (by omega) (by first | exact W_1s n_Cu (by omega) s1 ln_28_0 (fun i a b => lt_28_0 i a (by omega)) | (intro z; have q := W_0s n_Cu s1 z; exfalso; have q3 := q.2.2 0 (by omega) (by omega); omega) | (intro z; have q := W_0s n_Cu s1 z; omega) | omega))
  ·
    refine w_aload_n gz_41_8 rfl ?_
    refine v_getI (j := 5) gz_41_9 rfl is_82 rd_5 rfl (fun v16 ev16 pv16 qv16 => ?_)
    have zv16 := ev16.trans ek82_5.symm
    refine w_aload_n gz_41_12 rfl ?_
    refine v_getI (j := 7) gz_41_13 rfl is_82 rd_5 rfl (fun v17 ev17 pv17 qv17 => ?_)
    have zv17 := ev17.trans ek82_7.symm
    refine w_isub gz_41_16 ⟨by omega, by omega⟩ ?_
    refine w_aload3_n gz_41_17 rfl ?_
    refine w_slen (q := 177) sdec_18 s1 ?_
    have bd18 := my_sl_bd s1
    refine w_iceq (t := 26) gz_41_21 rfl (fun u19 => ?_) (fun u19 => ?_)
    ·
      refine w_iconst gz_41_26 (by decide) ?_
      refine w_istore_n (ls' := [(2, 82), (3, x1), (0, 0)]) gz_41_27 gm_41 rfl rfl rfl ?_
      exact J28_0 7 (0) (xf) (by omega) (by omega) (by omega) (by omega) (ev16.symm.trans (by omega)) (ev13.symm.trans (by omega)) (ev17.symm.trans (by omega)) (cf.trans (by omega)) n_Cu (by first | assumption | omega | (subst_vars; omega) | omega) (by first | (intro i a b; omega) | (intro i a b; rcases (by omega : i = p28_0 ∨ i < p28_0) with q | q <;> first | exact lt_28_0 i a q | (rw [q, ← l49]; omega)) | omega) (by omega)
    ·
      refine w_iconst gz_41_24 (by decide) ?_
      have c20 := cf
      exact w_bret gz_41_25 gm_41 (by omega) (by omega) (k0 (by omega) (by omega) (by first | exact W_1s n_Cu (by omega) s1 ln_28_0 (fun i a b => lt_28_0 i a (by omega)) | (intro z; have q := W_0s n_Cu s1 z; exfalso; have q3 := q.2.2 0 (by omega) (by omega); omega) | (intro z; have q := W_0s n_Cu s1 z; omega) | omega))
end MYNModel_cutAll9
