/-! contracts, printed by wip/gen/gy.py -/
section MYNModel_cutAll9
theorem c_Model_cutAll9 {l : Launch} {rho : Nat → Int32} {d : Nat} {h : my_H} {Q : my_H → my_V → Prop} (k0 : ∀ (h' : my_H), my_fr [(10, 2), (10, 3), (10, 7), (10, 8), (52, -1), (53, -1), (54, -1)] h h' → h' 151 2 = 0 → h' 151 7 = 0 → h' 151 8 = 0 → (∃ n : Int, n ≤ 1000 ∧ Mt ((h 152, h 151 2) : (Int → Int) × Int) h' n) → Tok h' → Q h' (9, 0)) : wp l rho (d + 2) 169 0 [(2, 151), (9, 0), (9, 0), (9, 0), (9, 0), (9, 0), (9, 0)] [] h Q := by
  have J17_0 : ∀ (n : Nat) (p17_0 p17_1 p17_2 : Int) (h17_0 : my_H), my_fr [(10, 2), (10, 3), (10, 7), (10, 8), (52, -1), (53, -1), (54, -1)] h h17_0 → 0 ≤ p17_0 → p17_0 ≤ 1000 → 0 ≤ p17_1 → p17_1 ≤ 1000 → 0 ≤ p17_2 → p17_2 ≤ 1000 → p17_1 ≤ p17_2 → h17_0 151 2 = 0 → h17_0 151 3 = p17_2 → Tkn h17_0 p17_0 → p17_0 ≤ p17_1 → p17_1 ≤ h17_0 151 3 → (Mcu ((h 152, h 151 2) : (Int → Int) × Int) h17_0 p17_0 p17_1) → h17_0 151 3 = h 151 2 → 1001 - p17_1 ≤ (n : Int) → wp l rho (d + 2) 169 17 [(2, 151), (0, p17_0), (0, p17_1), (9, 0), (9, 0), (9, 0), (9, 0)] [] h17_0 Q := by
    intro n
    induction n with
    | zero => intro p17_0 p17_1 p17_2 h17_0 gh_17_0 q0_17_0 q1_17_0 q2_17_0 q3_17_0 q4_17_0 q5_17_0 q6_17_0 c151_2_17_0 c151_3_17_0 n_Tkn_17_0 nk_17_0 ks_17_0 mc_17_0 sz_17_0 hm_17_0; exfalso; omega
    | succ n ih_17_0 =>
      intro p17_0 p17_1 p17_2 h17_0 gh_17_0 q0_17_0 q1_17_0 q2_17_0 q3_17_0 q4_17_0 q5_17_0 q6_17_0 c151_2_17_0 c151_3_17_0 n_Tkn_17_0 nk_17_0 ks_17_0 mc_17_0 sz_17_0 hm_17_0
      have J159_0 : ∀ (n : Nat) (p159_0 p159_1 z159_l5 : Int) (h159_0 : my_H), my_fr [(10, 2), (10, 3), (10, 7), (10, 8), (52, -1), (53, -1), (54, -1)] h h159_0 → p17_0 ≤ 999 → 0 ≤ p159_0 → p159_0 ≤ 1000 → 48 ≤ p159_1 → p159_1 ≤ 57 → p17_1 ≤ 999 → 1 ≤ p17_2 → p159_0 ≤ p17_2 → p17_1 ≤ p159_0 → p17_1 ≤ (p17_2 - 1) → h159_0 151 2 = 0 → h159_0 151 3 = p17_2 → Tkn h159_0 p17_0 → p17_0 ≤ p17_1 → p17_1 ≤ p159_0 → (p159_0 = p17_1 → 48 ≤ h159_0 152 p17_1 ∧ h159_0 152 p17_1 ≤ 57) → p17_1 < h159_0 151 3 → p159_0 ≤ h159_0 151 3 → (0 ≤ z159_l5 ∧ z159_l5 ≤ 999 ∧ (p159_0 = p17_1 → z159_l5 = 0) ∧ (p159_0 = p17_1 + 1 → z159_l5 ≤ 9) ∧ (p159_0 = p17_1 + 2 → z159_l5 ≤ 99)) → (Mcu ((h 152, h 151 2) : (Int → Int) × Int) h159_0 p17_0 p17_1) → h159_0 154 p17_0 = p17_1 → h 152 p17_1 ≠ 10 ∧ h 152 p17_1 ≠ 32 → (∀ i : Int, p17_1 ≤ i → i < p159_0 → tk_k (h 152 i) = 2) → tk_k (h 152 p17_1) = 2 → h159_0 151 3 = h 151 2 → z159_l5 = tk_dv (h 152) p17_1 (min (p159_0 - p17_1) 3).toNat → 1001 - p159_0 ≤ (n : Int) → wp l rho (d + 2) 169 159 [(2, 151), (0, p17_0), (0, p159_0), (0, p159_1), (0, p17_1), (1, z159_l5), (9, 0)] [] h159_0 Q := by
        intro n
        induction n with
        | zero => intro p159_0 p159_1 z159_l5 h159_0 gh_159_0 q0_159_0 q1_159_0 q2_159_0 q3_159_0 q4_159_0 q5_159_0 q6_159_0 q7_159_0 q8_159_0 q9_159_0 c151_2_159_0 c151_3_159_0 n_Tkn_159_0 nk_159_0 fk_159_0 f0_159_0 ls_159_0 ks_159_0 vb_159_0 mc_159_0 pl_159_0 nb_159_0 rn_159_0 k0_159_0 sz_159_0 dv_159_0 hm_159_0; exfalso; omega
        | succ n ih_159_0 =>
          intro p159_0 p159_1 z159_l5 h159_0 gh_159_0 q0_159_0 q1_159_0 q2_159_0 q3_159_0 q4_159_0 q5_159_0 q6_159_0 q7_159_0 q8_159_0 q9_159_0 c151_2_159_0 c151_3_159_0 n_Tkn_159_0 nk_159_0 fk_159_0 f0_159_0 ls_159_0 ks_159_0 vb_159_0 mc_159_0 pl_159_0 nb_159_0 rn_159_0 k0_159_0 sz_159_0 dv_159_0 hm_159_0
          refine w_iload_n gz_169_159 rfl ?_
          refine w_aload_n gz_169_160 rfl ?_
          refine v_getI (j := 3) gz_169_161 rfl is_151 rd_10 rfl (fun v1 ev1 pv1 qv1 => ?_)
          have zv1 := ev1.trans c151_3_159_0
          refine w_icge (t := 218) gz_169_164 rfl (fun u2 => ?_) (fun u2 => ?_)
          ·
            have ne : p159_0 ≠ p17_1 := by intro q; have z := f0_159_0 q; rw [← q] at z; omega
            refine w_aload_n gz_169_218 rfl ?_
            refine w_getX (v := 153) gz_169_219 is_151 rd_10 rfl (by decide) rfl ?_
            refine w_iload_n gz_169_222 rfl ?_
            refine w_iload_n gz_169_223 rfl ?_
            refine w_iload gz_169_224 rfl ?_
            refine w_isub gz_169_226 ⟨by omega, by omega⟩ ?_
            refine w_iconst gz_169_227 (by decide) ?_
            refine w_icle (t := 235) gz_169_228 rfl (fun u4 => ?_) (fun u4 => ?_)
            ·
              refine w_iconst gz_169_235 (by decide) ?_
              have tkA := n_Tkn_159_0
              refine w_iast gz_169_236 is_153 rd_52 (by omega) (by omega) (by omega) (by omega) (fun h5 fh5 => ?_)
              have gh5 : my_fr [(10, 2), (10, 3), (10, 7), (10, 8), (52, -1), (53, -1), (54, -1)] h h5 := my_fr.up gh_159_0 is_153 fh5 rfl
              refine w_goto (t := 265) gz_169_237 rfl ?_
              refine w_aload_n gz_169_265 rfl ?_
              refine w_getX (v := 155) gz_169_266 is_151 rd_10 rfl (by decide) rfl ?_
              refine w_iload_n gz_169_269 rfl ?_
              refine w_lload gz_169_270 rfl ?_
              refine w_last gz_169_272 is_155 rd_54 (by omega) (by omega) (fun h7 fh7 => ?_)
              have gh7 : my_fr [(10, 2), (10, 3), (10, 7), (10, 8), (52, -1), (53, -1), (54, -1)] h h7 := my_fr.up gh5 is_155 fh7 rfl
              have tN : h7 153 p17_0 ≠ 0 ∧ (h7 153 p17_0 = 2 → 0 ≤ h7 155 p17_0 ∧ h7 155 p17_0 ≤ 999) := by rw [my_up_ne (x := 153) (i := p17_0) fh7 (by omega), my_up_self fh5, my_up_self fh7]; omega
              have Tkn_h7t8 : Tkn h7 (p17_0 + 1) := by
                intro i a b
                rcases (by omega : i = p17_0 ∨ i < p17_0) with q | q
                · subst q; exact tN
                · rw [my_up_ne (x := 153) (i := i) fh7 (by omega), my_up_ne (x := 153) (i := i) fh5 (by omega), my_up_ne (x := 155) (i := i) fh7 (by omega), my_up_ne (x := 155) (i := i) fh5 (by omega)]
                  exact tkA i a q
              have mA : Mcu ((h 152, h 151 2) : (Int → Int) × Int) h7 (p17_0 + 1) p159_0 := by first | exact Mcu_add (τ := ((h 152, h 151 2) : (Int → Int) × Int)) (κ := 2) mc_159_0 (by omega) rfl (tk_mk (t := h 152) (n := h 151 2) (c := 2) (by omega) nb_159_0.1 nb_159_0.2 (by omega) (by omega) k0_159_0 rn_159_0 (fun a b => by omega) (fun a => by omega) (by omega)) (by decide) (by rw [my_up_ne fh7 (by omega), my_up_self fh5]) (by rw [my_up_ne fh7 (by omega), my_up_ne fh5 (by omega)]; exact pl_159_0) (my_up_self fh7) (fun i q => by rw [my_up_ne fh7 (by omega), my_up_ne fh5 (by omega)]) (fun i q => by rw [my_up_ne fh7 (by omega), my_up_ne fh5 (by omega)]) (fun i q => by rw [my_up_ne fh7 (by omega), my_up_ne fh5 (by omega)]) (fun _ => ⟨by have q := dv_159_0; rw [show (min (p159_0 - p17_1) 3).toNat = (p159_0 - p17_1).toNat by omega] at q; exact q, by omega⟩) (fun z => absurd z (by decide)) (fun z => absurd z (by decide)) | exact Mcu_add (τ := ((h 152, h 151 2) : (Int → Int) × Int)) (κ := 4) mc_159_0 (by omega) rfl (tk_mk (t := h 152) (n := h 151 2) (c := 2) (by omega) nb_159_0.1 nb_159_0.2 (by omega) (by omega) k0_159_0 rn_159_0 (fun a b => by omega) (fun a => by omega) (by omega)) (by decide) (by rw [my_up_ne fh7 (by omega), my_up_self fh5]) (by rw [my_up_ne fh7 (by omega), my_up_ne fh5 (by omega)]; exact pl_159_0) (my_up_self fh7) (fun i q => by rw [my_up_ne fh7 (by omega), my_up_ne fh5 (by omega)]) (fun i q => by rw [my_up_ne fh7 (by omega), my_up_ne fh5 (by omega)]) (fun i q => by rw [my_up_ne fh7 (by omega), my_up_ne fh5 (by omega)]) (fun z => absurd z (by decide)) (fun z => absurd z (by decide)) (fun z => absurd z (by decide))
              refine w_iinc (ls' := [(2, 151), (0, (p17_0 + 1)), (0, p159_0), (0, p159_1), (0, p17_1), (1, z159_l5), (9, 0)]) gz_169_273 rfl gm_169 rfl rfl rfl ⟨by omega, by omega⟩ ?_
              refine w_goto (t := 17) gz_169_276 rfl ?_
              have ce9 : h7 151 3 = v1 := ((my_up_role fh7 is_151 is_155 rfl).trans ((my_up_role fh5 is_151 is_153 rfl).trans ev1.symm))
              have t3 : ∀ j : Int, h7 153 j = h5 153 j := fun j => ((my_up_role fh7 is_153 is_155 rfl).trans (rfl : h5 153 j = h5 153 j))
              have t5 : ∀ j : Int, h7 155 j = h7 155 j := fun j => rfl
              refine w_weak (ls' := [(2, 151), (0, (p17_0 + 1)), (0, p159_0), (9, 0), (9, 0), (9, 0), (9, 0)]) (wk_e (wk_e (wk_e (wk_9 (wk_9 (wk_9 (wk_9 wk_n))))))) ?_
              exact ih_17_0 ((p17_0 + 1)) (p159_0) (v1) h7 (gh7) (by omega) (by omega) (by omega) (by omega) (by omega) (by omega) (by omega) (((my_up_role fh7 is_151 is_155 rfl).trans ((my_up_role fh5 is_151 is_153 rfl).trans c151_2_159_0)).trans (by omega)) (((my_up_role fh7 is_151 is_155 rfl).trans ((my_up_role fh5 is_151 is_153 rfl).trans ev1.symm)).trans (by omega)) Tkn_h7t8 (by first | assumption | omega | (subst_vars; omega) | omega) (by first | assumption | omega | (subst_vars; omega) | omega) (by first | exact mA | exact Mcu_b mc_17_0 (by omega) (by show _ < h 151 2; omega) (by show h 152 _ = 10 ∨ h 152 _ = 32; omega) | exact Mcu_cg mc_17_0 (fun i q => t3 i) (fun i q => my_up_ne f62 (by omega)) (fun i q => t5 i) | exact mc_70_0 | exact mc_159_0 | exact Mcu_0 (by omega) (by omega) (by show 0 ≤ h 151 2; omega) | omega) (by omega) (by omega)
            ·
              refine w_iconst gz_169_231 (by decide) ?_
              refine w_goto (t := 236) gz_169_232 rfl ?_
              have tkA := n_Tkn_159_0
              refine w_iast gz_169_236 is_153 rd_52 (by omega) (by omega) (by omega) (by omega) (fun h10 fh10 => ?_)
              have gh10 : my_fr [(10, 2), (10, 3), (10, 7), (10, 8), (52, -1), (53, -1), (54, -1)] h h10 := my_fr.up gh_159_0 is_153 fh10 rfl
              refine w_goto (t := 265) gz_169_237 rfl ?_
              refine w_aload_n gz_169_265 rfl ?_
              refine w_getX (v := 155) gz_169_266 is_151 rd_10 rfl (by decide) rfl ?_
              refine w_iload_n gz_169_269 rfl ?_
              refine w_lload gz_169_270 rfl ?_
              refine w_last gz_169_272 is_155 rd_54 (by omega) (by omega) (fun h12 fh12 => ?_)
              have gh12 : my_fr [(10, 2), (10, 3), (10, 7), (10, 8), (52, -1), (53, -1), (54, -1)] h h12 := my_fr.up gh10 is_155 fh12 rfl
              have tN : h12 153 p17_0 ≠ 0 ∧ (h12 153 p17_0 = 2 → 0 ≤ h12 155 p17_0 ∧ h12 155 p17_0 ≤ 999) := by rw [my_up_ne (x := 153) (i := p17_0) fh12 (by omega), my_up_self fh10, my_up_self fh12]; omega
              have Tkn_h12t13 : Tkn h12 (p17_0 + 1) := by
                intro i a b
                rcases (by omega : i = p17_0 ∨ i < p17_0) with q | q
                · subst q; exact tN
                · rw [my_up_ne (x := 153) (i := i) fh12 (by omega), my_up_ne (x := 153) (i := i) fh10 (by omega), my_up_ne (x := 155) (i := i) fh12 (by omega), my_up_ne (x := 155) (i := i) fh10 (by omega)]
                  exact tkA i a q
              have mA : Mcu ((h 152, h 151 2) : (Int → Int) × Int) h12 (p17_0 + 1) p159_0 := by first | exact Mcu_add (τ := ((h 152, h 151 2) : (Int → Int) × Int)) (κ := 2) mc_159_0 (by omega) rfl (tk_mk (t := h 152) (n := h 151 2) (c := 2) (by omega) nb_159_0.1 nb_159_0.2 (by omega) (by omega) k0_159_0 rn_159_0 (fun a b => by omega) (fun a => by omega) (by omega)) (by decide) (by rw [my_up_ne fh12 (by omega), my_up_self fh10]) (by rw [my_up_ne fh12 (by omega), my_up_ne fh10 (by omega)]; exact pl_159_0) (my_up_self fh12) (fun i q => by rw [my_up_ne fh12 (by omega), my_up_ne fh10 (by omega)]) (fun i q => by rw [my_up_ne fh12 (by omega), my_up_ne fh10 (by omega)]) (fun i q => by rw [my_up_ne fh12 (by omega), my_up_ne fh10 (by omega)]) (fun _ => ⟨by have q := dv_159_0; rw [show (min (p159_0 - p17_1) 3).toNat = (p159_0 - p17_1).toNat by omega] at q; exact q, by omega⟩) (fun z => absurd z (by decide)) (fun z => absurd z (by decide)) | exact Mcu_add (τ := ((h 152, h 151 2) : (Int → Int) × Int)) (κ := 4) mc_159_0 (by omega) rfl (tk_mk (t := h 152) (n := h 151 2) (c := 2) (by omega) nb_159_0.1 nb_159_0.2 (by omega) (by omega) k0_159_0 rn_159_0 (fun a b => by omega) (fun a => by omega) (by omega)) (by decide) (by rw [my_up_ne fh12 (by omega), my_up_self fh10]) (by rw [my_up_ne fh12 (by omega), my_up_ne fh10 (by omega)]; exact pl_159_0) (my_up_self fh12) (fun i q => by rw [my_up_ne fh12 (by omega), my_up_ne fh10 (by omega)]) (fun i q => by rw [my_up_ne fh12 (by omega), my_up_ne fh10 (by omega)]) (fun i q => by rw [my_up_ne fh12 (by omega), my_up_ne fh10 (by omega)]) (fun z => absurd z (by decide)) (fun z => absurd z (by decide)) (fun z => absurd z (by decide))
              refine w_iinc (ls' := [(2, 151), (0, (p17_0 + 1)), (0, p159_0), (0, p159_1), (0, p17_1), (1, z159_l5), (9, 0)]) gz_169_273 rfl gm_169 rfl rfl rfl ⟨by omega, by omega⟩ ?_
              refine w_goto (t := 17) gz_169_276 rfl ?_
              have ce14 : h12 151 3 = v1 := ((my_up_role fh12 is_151 is_155 rfl).trans ((my_up_role fh10 is_151 is_153 rfl).trans ev1.symm))
              have t3 : ∀ j : Int, h12 153 j = h10 153 j := fun j => ((my_up_role fh12 is_153 is_155 rfl).trans (rfl : h10 153 j = h10 153 j))
              have t5 : ∀ j : Int, h12 155 j = h12 155 j := fun j => rfl
              refine w_weak (ls' := [(2, 151), (0, (p17_0 + 1)), (0, p159_0), (9, 0), (9, 0), (9, 0), (9, 0)]) (wk_e (wk_e (wk_e (wk_9 (wk_9 (wk_9 (wk_9 wk_n))))))) ?_
              exact ih_17_0 ((p17_0 + 1)) (p159_0) (v1) h12 (gh12) (by omega) (by omega) (by omega) (by omega) (by omega) (by omega) (by omega) (((my_up_role fh12 is_151 is_155 rfl).trans ((my_up_role fh10 is_151 is_153 rfl).trans c151_2_159_0)).trans (by omega)) (((my_up_role fh12 is_151 is_155 rfl).trans ((my_up_role fh10 is_151 is_153 rfl).trans ev1.symm)).trans (by omega)) Tkn_h12t13 (by first | assumption | omega | (subst_vars; omega) | omega) (by first | assumption | omega | (subst_vars; omega) | omega) (by first | exact mA | exact Mcu_b mc_17_0 (by omega) (by show _ < h 151 2; omega) (by show h 152 _ = 10 ∨ h 152 _ = 32; omega) | exact Mcu_cg mc_17_0 (fun i q => t3 i) (fun i q => my_up_ne f62 (by omega)) (fun i q => t5 i) | exact mc_70_0 | exact mc_159_0 | exact Mcu_0 (by omega) (by omega) (by show 0 ≤ h 151 2; omega) | omega) (by omega) (by omega)
          ·
            refine w_aload_n gz_169_167 rfl ?_
            refine w_getX (v := 152) gz_169_168 is_151 rd_10 rfl (by decide) rfl ?_
            refine w_iload_n gz_169_171 rfl ?_
            refine w_iald gz_169_172 is_152 rd_51 (by omega) (by omega) (fun v16 ev16 pv16 qv16 => ?_)
            have c173 : v16 = h 152 p159_0 := by
              have z := my_fr.at (j := p159_0) gh_159_0 is_152 rfl
              omega
            have kz2 := tk_kk (h 152 p159_0)
            refine w_inS (k := 0) (as := [(0, v16)]) (r := []) (ls0 := [(0, v16)]) gz_169_173 gm_172 rfl rfl rfl rfl rfl rfl ?_
            refine w_iload_n gz_172_0 rfl ?_
            refine w_bipush gz_172_1 (by decide) ?_
            refine w_iclt (t := 16) gz_172_3 rfl (fun u17 => ?_) (fun u17 => ?_)
            ·
              refine w_iconst gz_172_16 (by decide) ?_
              refine w_bret gz_172_17 gm_172 (by omega) (by omega) ?_
              show wp l rho (d + 2) 169 176 [(2, 151), (0, p17_0), (0, p159_0), (0, p159_1), (0, p17_1), (1, z159_l5), (9, 0)] [(0, 0)] h159_0 Q
              refine w_ifeq (t := 218) gz_169_176 rfl (fun u18 => ?_) (fun u18 => by exfalso; omega)
              have ne : p159_0 ≠ p17_1 := by intro q; have z := f0_159_0 q; rw [← q] at z; omega
              refine w_aload_n gz_169_218 rfl ?_
              refine w_getX (v := 153) gz_169_219 is_151 rd_10 rfl (by decide) rfl ?_
              refine w_iload_n gz_169_222 rfl ?_
              refine w_iload_n gz_169_223 rfl ?_
              refine w_iload gz_169_224 rfl ?_
              refine w_isub gz_169_226 ⟨by omega, by omega⟩ ?_
              refine w_iconst gz_169_227 (by decide) ?_
              refine w_icle (t := 235) gz_169_228 rfl (fun u20 => ?_) (fun u20 => ?_)
              ·
                refine w_iconst gz_169_235 (by decide) ?_
                have tkA := n_Tkn_159_0
                refine w_iast gz_169_236 is_153 rd_52 (by omega) (by omega) (by omega) (by omega) (fun h21 fh21 => ?_)
                have gh21 : my_fr [(10, 2), (10, 3), (10, 7), (10, 8), (52, -1), (53, -1), (54, -1)] h h21 := my_fr.up gh_159_0 is_153 fh21 rfl
                refine w_goto (t := 265) gz_169_237 rfl ?_
                refine w_aload_n gz_169_265 rfl ?_
                refine w_getX (v := 155) gz_169_266 is_151 rd_10 rfl (by decide) rfl ?_
                refine w_iload_n gz_169_269 rfl ?_
                refine w_lload gz_169_270 rfl ?_
                refine w_last gz_169_272 is_155 rd_54 (by omega) (by omega) (fun h23 fh23 => ?_)
                have gh23 : my_fr [(10, 2), (10, 3), (10, 7), (10, 8), (52, -1), (53, -1), (54, -1)] h h23 := my_fr.up gh21 is_155 fh23 rfl
                have tN : h23 153 p17_0 ≠ 0 ∧ (h23 153 p17_0 = 2 → 0 ≤ h23 155 p17_0 ∧ h23 155 p17_0 ≤ 999) := by rw [my_up_ne (x := 153) (i := p17_0) fh23 (by omega), my_up_self fh21, my_up_self fh23]; omega
                have Tkn_h23t24 : Tkn h23 (p17_0 + 1) := by
                  intro i a b
                  rcases (by omega : i = p17_0 ∨ i < p17_0) with q | q
                  · subst q; exact tN
                  · rw [my_up_ne (x := 153) (i := i) fh23 (by omega), my_up_ne (x := 153) (i := i) fh21 (by omega), my_up_ne (x := 155) (i := i) fh23 (by omega), my_up_ne (x := 155) (i := i) fh21 (by omega)]
                    exact tkA i a q
                have mA : Mcu ((h 152, h 151 2) : (Int → Int) × Int) h23 (p17_0 + 1) p159_0 := by first | exact Mcu_add (τ := ((h 152, h 151 2) : (Int → Int) × Int)) (κ := 2) mc_159_0 (by omega) rfl (tk_mk (t := h 152) (n := h 151 2) (c := 2) (by omega) nb_159_0.1 nb_159_0.2 (by omega) (by omega) k0_159_0 rn_159_0 (fun a b => by omega) (fun a => by omega) (by omega)) (by decide) (by rw [my_up_ne fh23 (by omega), my_up_self fh21]) (by rw [my_up_ne fh23 (by omega), my_up_ne fh21 (by omega)]; exact pl_159_0) (my_up_self fh23) (fun i q => by rw [my_up_ne fh23 (by omega), my_up_ne fh21 (by omega)]) (fun i q => by rw [my_up_ne fh23 (by omega), my_up_ne fh21 (by omega)]) (fun i q => by rw [my_up_ne fh23 (by omega), my_up_ne fh21 (by omega)]) (fun _ => ⟨by have q := dv_159_0; rw [show (min (p159_0 - p17_1) 3).toNat = (p159_0 - p17_1).toNat by omega] at q; exact q, by omega⟩) (fun z => absurd z (by decide)) (fun z => absurd z (by decide)) | exact Mcu_add (τ := ((h 152, h 151 2) : (Int → Int) × Int)) (κ := 4) mc_159_0 (by omega) rfl (tk_mk (t := h 152) (n := h 151 2) (c := 2) (by omega) nb_159_0.1 nb_159_0.2 (by omega) (by omega) k0_159_0 rn_159_0 (fun a b => by omega) (fun a => by omega) (by omega)) (by decide) (by rw [my_up_ne fh23 (by omega), my_up_self fh21]) (by rw [my_up_ne fh23 (by omega), my_up_ne fh21 (by omega)]; exact pl_159_0) (my_up_self fh23) (fun i q => by rw [my_up_ne fh23 (by omega), my_up_ne fh21 (by omega)]) (fun i q => by rw [my_up_ne fh23 (by omega), my_up_ne fh21 (by omega)]) (fun i q => by rw [my_up_ne fh23 (by omega), my_up_ne fh21 (by omega)]) (fun z => absurd z (by decide)) (fun z => absurd z (by decide)) (fun z => absurd z (by decide))
                refine w_iinc (ls' := [(2, 151), (0, (p17_0 + 1)), (0, p159_0), (0, p159_1), (0, p17_1), (1, z159_l5), (9, 0)]) gz_169_273 rfl gm_169 rfl rfl rfl ⟨by omega, by omega⟩ ?_
                refine w_goto (t := 17) gz_169_276 rfl ?_
                have ce25 : h23 151 3 = v1 := ((my_up_role fh23 is_151 is_155 rfl).trans ((my_up_role fh21 is_151 is_153 rfl).trans ev1.symm))
                have t3 : ∀ j : Int, h23 153 j = h21 153 j := fun j => ((my_up_role fh23 is_153 is_155 rfl).trans (rfl : h21 153 j = h21 153 j))
                have t5 : ∀ j : Int, h23 155 j = h23 155 j := fun j => rfl
                refine w_weak (ls' := [(2, 151), (0, (p17_0 + 1)), (0, p159_0), (9, 0), (9, 0), (9, 0), (9, 0)]) (wk_e (wk_e (wk_e (wk_9 (wk_9 (wk_9 (wk_9 wk_n))))))) ?_
                exact ih_17_0 ((p17_0 + 1)) (p159_0) (v1) h23 (gh23) (by omega) (by omega) (by omega) (by omega) (by omega) (by omega) (by omega) (((my_up_role fh23 is_151 is_155 rfl).trans ((my_up_role fh21 is_151 is_153 rfl).trans c151_2_159_0)).trans (by omega)) (((my_up_role fh23 is_151 is_155 rfl).trans ((my_up_role fh21 is_151 is_153 rfl).trans ev1.symm)).trans (by omega)) Tkn_h23t24 (by first | assumption | omega | (subst_vars; omega) | omega) (by first | assumption | omega | (subst_vars; omega) | omega) (by first | exact mA | exact Mcu_b mc_17_0 (by omega) (by show _ < h 151 2; omega) (by show h 152 _ = 10 ∨ h 152 _ = 32; omega) | exact Mcu_cg mc_17_0 (fun i q => t3 i) (fun i q => my_up_ne f62 (by omega)) (fun i q => t5 i) | exact mc_70_0 | exact mc_159_0 | exact Mcu_0 (by omega) (by omega) (by show 0 ≤ h 151 2; omega) | omega) (by omega) (by omega)
              ·
                refine w_iconst gz_169_231 (by decide) ?_
                refine w_goto (t := 236) gz_169_232 rfl ?_
                have tkA := n_Tkn_159_0
                refine w_iast gz_169_236 is_153 rd_52 (by omega) (by omega) (by omega) (by omega) (fun h26 fh26 => ?_)
                have gh26 : my_fr [(10, 2), (10, 3), (10, 7), (10, 8), (52, -1), (53, -1), (54, -1)] h h26 := my_fr.up gh_159_0 is_153 fh26 rfl
                refine w_goto (t := 265) gz_169_237 rfl ?_
                refine w_aload_n gz_169_265 rfl ?_
                refine w_getX (v := 155) gz_169_266 is_151 rd_10 rfl (by decide) rfl ?_
                refine w_iload_n gz_169_269 rfl ?_
                refine w_lload gz_169_270 rfl ?_
                refine w_last gz_169_272 is_155 rd_54 (by omega) (by omega) (fun h28 fh28 => ?_)
                have gh28 : my_fr [(10, 2), (10, 3), (10, 7), (10, 8), (52, -1), (53, -1), (54, -1)] h h28 := my_fr.up gh26 is_155 fh28 rfl
                have tN : h28 153 p17_0 ≠ 0 ∧ (h28 153 p17_0 = 2 → 0 ≤ h28 155 p17_0 ∧ h28 155 p17_0 ≤ 999) := by rw [my_up_ne (x := 153) (i := p17_0) fh28 (by omega), my_up_self fh26, my_up_self fh28]; omega
                have Tkn_h28t29 : Tkn h28 (p17_0 + 1) := by
                  intro i a b
                  rcases (by omega : i = p17_0 ∨ i < p17_0) with q | q
                  · subst q; exact tN
                  · rw [my_up_ne (x := 153) (i := i) fh28 (by omega), my_up_ne (x := 153) (i := i) fh26 (by omega), my_up_ne (x := 155) (i := i) fh28 (by omega), my_up_ne (x := 155) (i := i) fh26 (by omega)]
                    exact tkA i a q
                have mA : Mcu ((h 152, h 151 2) : (Int → Int) × Int) h28 (p17_0 + 1) p159_0 := by first | exact Mcu_add (τ := ((h 152, h 151 2) : (Int → Int) × Int)) (κ := 2) mc_159_0 (by omega) rfl (tk_mk (t := h 152) (n := h 151 2) (c := 2) (by omega) nb_159_0.1 nb_159_0.2 (by omega) (by omega) k0_159_0 rn_159_0 (fun a b => by omega) (fun a => by omega) (by omega)) (by decide) (by rw [my_up_ne fh28 (by omega), my_up_self fh26]) (by rw [my_up_ne fh28 (by omega), my_up_ne fh26 (by omega)]; exact pl_159_0) (my_up_self fh28) (fun i q => by rw [my_up_ne fh28 (by omega), my_up_ne fh26 (by omega)]) (fun i q => by rw [my_up_ne fh28 (by omega), my_up_ne fh26 (by omega)]) (fun i q => by rw [my_up_ne fh28 (by omega), my_up_ne fh26 (by omega)]) (fun _ => ⟨by have q := dv_159_0; rw [show (min (p159_0 - p17_1) 3).toNat = (p159_0 - p17_1).toNat by omega] at q; exact q, by omega⟩) (fun z => absurd z (by decide)) (fun z => absurd z (by decide)) | exact Mcu_add (τ := ((h 152, h 151 2) : (Int → Int) × Int)) (κ := 4) mc_159_0 (by omega) rfl (tk_mk (t := h 152) (n := h 151 2) (c := 2) (by omega) nb_159_0.1 nb_159_0.2 (by omega) (by omega) k0_159_0 rn_159_0 (fun a b => by omega) (fun a => by omega) (by omega)) (by decide) (by rw [my_up_ne fh28 (by omega), my_up_self fh26]) (by rw [my_up_ne fh28 (by omega), my_up_ne fh26 (by omega)]; exact pl_159_0) (my_up_self fh28) (fun i q => by rw [my_up_ne fh28 (by omega), my_up_ne fh26 (by omega)]) (fun i q => by rw [my_up_ne fh28 (by omega), my_up_ne fh26 (by omega)]) (fun i q => by rw [my_up_ne fh28 (by omega), my_up_ne fh26 (by omega)]) (fun z => absurd z (by decide)) (fun z => absurd z (by decide)) (fun z => absurd z (by decide))
                refine w_iinc (ls' := [(2, 151), (0, (p17_0 + 1)), (0, p159_0), (0, p159_1), (0, p17_1), (1, z159_l5), (9, 0)]) gz_169_273 rfl gm_169 rfl rfl rfl ⟨by omega, by omega⟩ ?_
                refine w_goto (t := 17) gz_169_276 rfl ?_
                have ce30 : h28 151 3 = v1 := ((my_up_role fh28 is_151 is_155 rfl).trans ((my_up_role fh26 is_151 is_153 rfl).trans ev1.symm))
                have t3 : ∀ j : Int, h28 153 j = h26 153 j := fun j => ((my_up_role fh28 is_153 is_155 rfl).trans (rfl : h26 153 j = h26 153 j))
                have t5 : ∀ j : Int, h28 155 j = h28 155 j := fun j => rfl
                refine w_weak (ls' := [(2, 151), (0, (p17_0 + 1)), (0, p159_0), (9, 0), (9, 0), (9, 0), (9, 0)]) (wk_e (wk_e (wk_e (wk_9 (wk_9 (wk_9 (wk_9 wk_n))))))) ?_
                exact ih_17_0 ((p17_0 + 1)) (p159_0) (v1) h28 (gh28) (by omega) (by omega) (by omega) (by omega) (by omega) (by omega) (by omega) (((my_up_role fh28 is_151 is_155 rfl).trans ((my_up_role fh26 is_151 is_153 rfl).trans c151_2_159_0)).trans (by omega)) (((my_up_role fh28 is_151 is_155 rfl).trans ((my_up_role fh26 is_151 is_153 rfl).trans ev1.symm)).trans (by omega)) Tkn_h28t29 (by first | assumption | omega | (subst_vars; omega) | omega) (by first | assumption | omega | (subst_vars; omega) | omega) (by first | exact mA | exact Mcu_b mc_17_0 (by omega) (by show _ < h 151 2; omega) (by show h 152 _ = 10 ∨ h 152 _ = 32; omega) | exact Mcu_cg mc_17_0 (fun i q => t3 i) (fun i q => my_up_ne f62 (by omega)) (fun i q => t5 i) | exact mc_70_0 | exact mc_159_0 | exact Mcu_0 (by omega) (by omega) (by show 0 ≤ h 151 2; omega) | omega) (by omega) (by omega)
            ·
              refine w_iload_n gz_172_6 rfl ?_
              refine w_bipush gz_172_7 (by decide) ?_
              refine w_icgt (t := 16) gz_172_9 rfl (fun u31 => ?_) (fun u31 => ?_)
              ·
                refine w_iconst gz_172_16 (by decide) ?_
                refine w_bret gz_172_17 gm_172 (by omega) (by omega) ?_
                show wp l rho (d + 2) 169 176 [(2, 151), (0, p17_0), (0, p159_0), (0, p159_1), (0, p17_1), (1, z159_l5), (9, 0)] [(0, 0)] h159_0 Q
                refine w_ifeq (t := 218) gz_169_176 rfl (fun u32 => ?_) (fun u32 => by exfalso; omega)
                have ne : p159_0 ≠ p17_1 := by intro q; have z := f0_159_0 q; rw [← q] at z; omega
                refine w_aload_n gz_169_218 rfl ?_
                refine w_getX (v := 153) gz_169_219 is_151 rd_10 rfl (by decide) rfl ?_
                refine w_iload_n gz_169_222 rfl ?_
                refine w_iload_n gz_169_223 rfl ?_
                refine w_iload gz_169_224 rfl ?_
                refine w_isub gz_169_226 ⟨by omega, by omega⟩ ?_
                refine w_iconst gz_169_227 (by decide) ?_
                refine w_icle (t := 235) gz_169_228 rfl (fun u34 => ?_) (fun u34 => ?_)
                ·
                  refine w_iconst gz_169_235 (by decide) ?_
                  have tkA := n_Tkn_159_0
                  refine w_iast gz_169_236 is_153 rd_52 (by omega) (by omega) (by omega) (by omega) (fun h35 fh35 => ?_)
                  have gh35 : my_fr [(10, 2), (10, 3), (10, 7), (10, 8), (52, -1), (53, -1), (54, -1)] h h35 := my_fr.up gh_159_0 is_153 fh35 rfl
                  refine w_goto (t := 265) gz_169_237 rfl ?_
                  refine w_aload_n gz_169_265 rfl ?_
                  refine w_getX (v := 155) gz_169_266 is_151 rd_10 rfl (by decide) rfl ?_
                  refine w_iload_n gz_169_269 rfl ?_
                  refine w_lload gz_169_270 rfl ?_
                  refine w_last gz_169_272 is_155 rd_54 (by omega) (by omega) (fun h37 fh37 => ?_)
                  have gh37 : my_fr [(10, 2), (10, 3), (10, 7), (10, 8), (52, -1), (53, -1), (54, -1)] h h37 := my_fr.up gh35 is_155 fh37 rfl
                  have tN : h37 153 p17_0 ≠ 0 ∧ (h37 153 p17_0 = 2 → 0 ≤ h37 155 p17_0 ∧ h37 155 p17_0 ≤ 999) := by rw [my_up_ne (x := 153) (i := p17_0) fh37 (by omega), my_up_self fh35, my_up_self fh37]; omega
                  have Tkn_h37t38 : Tkn h37 (p17_0 + 1) := by
                    intro i a b
                    rcases (by omega : i = p17_0 ∨ i < p17_0) with q | q
                    · subst q; exact tN
                    · rw [my_up_ne (x := 153) (i := i) fh37 (by omega), my_up_ne (x := 153) (i := i) fh35 (by omega), my_up_ne (x := 155) (i := i) fh37 (by omega), my_up_ne (x := 155) (i := i) fh35 (by omega)]
                      exact tkA i a q
                  have mA : Mcu ((h 152, h 151 2) : (Int → Int) × Int) h37 (p17_0 + 1) p159_0 := by first | exact Mcu_add (τ := ((h 152, h 151 2) : (Int → Int) × Int)) (κ := 2) mc_159_0 (by omega) rfl (tk_mk (t := h 152) (n := h 151 2) (c := 2) (by omega) nb_159_0.1 nb_159_0.2 (by omega) (by omega) k0_159_0 rn_159_0 (fun a b => by omega) (fun a => by omega) (by omega)) (by decide) (by rw [my_up_ne fh37 (by omega), my_up_self fh35]) (by rw [my_up_ne fh37 (by omega), my_up_ne fh35 (by omega)]; exact pl_159_0) (my_up_self fh37) (fun i q => by rw [my_up_ne fh37 (by omega), my_up_ne fh35 (by omega)]) (fun i q => by rw [my_up_ne fh37 (by omega), my_up_ne fh35 (by omega)]) (fun i q => by rw [my_up_ne fh37 (by omega), my_up_ne fh35 (by omega)]) (fun _ => ⟨by have q := dv_159_0; rw [show (min (p159_0 - p17_1) 3).toNat = (p159_0 - p17_1).toNat by omega] at q; exact q, by omega⟩) (fun z => absurd z (by decide)) (fun z => absurd z (by decide)) | exact Mcu_add (τ := ((h 152, h 151 2) : (Int → Int) × Int)) (κ := 4) mc_159_0 (by omega) rfl (tk_mk (t := h 152) (n := h 151 2) (c := 2) (by omega) nb_159_0.1 nb_159_0.2 (by omega) (by omega) k0_159_0 rn_159_0 (fun a b => by omega) (fun a => by omega) (by omega)) (by decide) (by rw [my_up_ne fh37 (by omega), my_up_self fh35]) (by rw [my_up_ne fh37 (by omega), my_up_ne fh35 (by omega)]; exact pl_159_0) (my_up_self fh37) (fun i q => by rw [my_up_ne fh37 (by omega), my_up_ne fh35 (by omega)]) (fun i q => by rw [my_up_ne fh37 (by omega), my_up_ne fh35 (by omega)]) (fun i q => by rw [my_up_ne fh37 (by omega), my_up_ne fh35 (by omega)]) (fun z => absurd z (by decide)) (fun z => absurd z (by decide)) (fun z => absurd z (by decide))
                  refine w_iinc (ls' := [(2, 151), (0, (p17_0 + 1)), (0, p159_0), (0, p159_1), (0, p17_1), (1, z159_l5), (9, 0)]) gz_169_273 rfl gm_169 rfl rfl rfl ⟨by omega, by omega⟩ ?_
                  refine w_goto (t := 17) gz_169_276 rfl ?_
                  have ce39 : h37 151 3 = v1 := ((my_up_role fh37 is_151 is_155 rfl).trans ((my_up_role fh35 is_151 is_153 rfl).trans ev1.symm))
                  have t3 : ∀ j : Int, h37 153 j = h35 153 j := fun j => ((my_up_role fh37 is_153 is_155 rfl).trans (rfl : h35 153 j = h35 153 j))
                  have t5 : ∀ j : Int, h37 155 j = h37 155 j := fun j => rfl
                  refine w_weak (ls' := [(2, 151), (0, (p17_0 + 1)), (0, p159_0), (9, 0), (9, 0), (9, 0), (9, 0)]) (wk_e (wk_e (wk_e (wk_9 (wk_9 (wk_9 (wk_9 wk_n))))))) ?_
                  exact ih_17_0 ((p17_0 + 1)) (p159_0) (v1) h37 (gh37) (by omega) (by omega) (by omega) (by omega) (by omega) (by omega) (by omega) (((my_up_role fh37 is_151 is_155 rfl).trans ((my_up_role fh35 is_151 is_153 rfl).trans c151_2_159_0)).trans (by omega)) (((my_up_role fh37 is_151 is_155 rfl).trans ((my_up_role fh35 is_151 is_153 rfl).trans ev1.symm)).trans (by omega)) Tkn_h37t38 (by first | assumption | omega | (subst_vars; omega) | omega) (by first | assumption | omega | (subst_vars; omega) | omega) (by first | exact mA | exact Mcu_b mc_17_0 (by omega) (by show _ < h 151 2; omega) (by show h 152 _ = 10 ∨ h 152 _ = 32; omega) | exact Mcu_cg mc_17_0 (fun i q => t3 i) (fun i q => my_up_ne f62 (by omega)) (fun i q => t5 i) | exact mc_70_0 | exact mc_159_0 | exact Mcu_0 (by omega) (by omega) (by show 0 ≤ h 151 2; omega) | omega) (by omega) (by omega)
                ·
                  refine w_iconst gz_169_231 (by decide) ?_
                  refine w_goto (t := 236) gz_169_232 rfl ?_
                  have tkA := n_Tkn_159_0
                  refine w_iast gz_169_236 is_153 rd_52 (by omega) (by omega) (by omega) (by omega) (fun h40 fh40 => ?_)
                  have gh40 : my_fr [(10, 2), (10, 3), (10, 7), (10, 8), (52, -1), (53, -1), (54, -1)] h h40 := my_fr.up gh_159_0 is_153 fh40 rfl
                  refine w_goto (t := 265) gz_169_237 rfl ?_
                  refine w_aload_n gz_169_265 rfl ?_
                  refine w_getX (v := 155) gz_169_266 is_151 rd_10 rfl (by decide) rfl ?_
                  refine w_iload_n gz_169_269 rfl ?_
                  refine w_lload gz_169_270 rfl ?_
                  refine w_last gz_169_272 is_155 rd_54 (by omega) (by omega) (fun h42 fh42 => ?_)
                  have gh42 : my_fr [(10, 2), (10, 3), (10, 7), (10, 8), (52, -1), (53, -1), (54, -1)] h h42 := my_fr.up gh40 is_155 fh42 rfl
                  have tN : h42 153 p17_0 ≠ 0 ∧ (h42 153 p17_0 = 2 → 0 ≤ h42 155 p17_0 ∧ h42 155 p17_0 ≤ 999) := by rw [my_up_ne (x := 153) (i := p17_0) fh42 (by omega), my_up_self fh40, my_up_self fh42]; omega
                  have Tkn_h42t43 : Tkn h42 (p17_0 + 1) := by
                    intro i a b
                    rcases (by omega : i = p17_0 ∨ i < p17_0) with q | q
                    · subst q; exact tN
                    · rw [my_up_ne (x := 153) (i := i) fh42 (by omega), my_up_ne (x := 153) (i := i) fh40 (by omega), my_up_ne (x := 155) (i := i) fh42 (by omega), my_up_ne (x := 155) (i := i) fh40 (by omega)]
                      exact tkA i a q
                  have mA : Mcu ((h 152, h 151 2) : (Int → Int) × Int) h42 (p17_0 + 1) p159_0 := by first | exact Mcu_add (τ := ((h 152, h 151 2) : (Int → Int) × Int)) (κ := 2) mc_159_0 (by omega) rfl (tk_mk (t := h 152) (n := h 151 2) (c := 2) (by omega) nb_159_0.1 nb_159_0.2 (by omega) (by omega) k0_159_0 rn_159_0 (fun a b => by omega) (fun a => by omega) (by omega)) (by decide) (by rw [my_up_ne fh42 (by omega), my_up_self fh40]) (by rw [my_up_ne fh42 (by omega), my_up_ne fh40 (by omega)]; exact pl_159_0) (my_up_self fh42) (fun i q => by rw [my_up_ne fh42 (by omega), my_up_ne fh40 (by omega)]) (fun i q => by rw [my_up_ne fh42 (by omega), my_up_ne fh40 (by omega)]) (fun i q => by rw [my_up_ne fh42 (by omega), my_up_ne fh40 (by omega)]) (fun _ => ⟨by have q := dv_159_0; rw [show (min (p159_0 - p17_1) 3).toNat = (p159_0 - p17_1).toNat by omega] at q; exact q, by omega⟩) (fun z => absurd z (by decide)) (fun z => absurd z (by decide)) | exact Mcu_add (τ := ((h 152, h 151 2) : (Int → Int) × Int)) (κ := 4) mc_159_0 (by omega) rfl (tk_mk (t := h 152) (n := h 151 2) (c := 2) (by omega) nb_159_0.1 nb_159_0.2 (by omega) (by omega) k0_159_0 rn_159_0 (fun a b => by omega) (fun a => by omega) (by omega)) (by decide) (by rw [my_up_ne fh42 (by omega), my_up_self fh40]) (by rw [my_up_ne fh42 (by omega), my_up_ne fh40 (by omega)]; exact pl_159_0) (my_up_self fh42) (fun i q => by rw [my_up_ne fh42 (by omega), my_up_ne fh40 (by omega)]) (fun i q => by rw [my_up_ne fh42 (by omega), my_up_ne fh40 (by omega)]) (fun i q => by rw [my_up_ne fh42 (by omega), my_up_ne fh40 (by omega)]) (fun z => absurd z (by decide)) (fun z => absurd z (by decide)) (fun z => absurd z (by decide))
                  refine w_iinc (ls' := [(2, 151), (0, (p17_0 + 1)), (0, p159_0), (0, p159_1), (0, p17_1), (1, z159_l5), (9, 0)]) gz_169_273 rfl gm_169 rfl rfl rfl ⟨by omega, by omega⟩ ?_
                  refine w_goto (t := 17) gz_169_276 rfl ?_
                  have ce44 : h42 151 3 = v1 := ((my_up_role fh42 is_151 is_155 rfl).trans ((my_up_role fh40 is_151 is_153 rfl).trans ev1.symm))
                  have t3 : ∀ j : Int, h42 153 j = h40 153 j := fun j => ((my_up_role fh42 is_153 is_155 rfl).trans (rfl : h40 153 j = h40 153 j))
                  have t5 : ∀ j : Int, h42 155 j = h42 155 j := fun j => rfl
                  refine w_weak (ls' := [(2, 151), (0, (p17_0 + 1)), (0, p159_0), (9, 0), (9, 0), (9, 0), (9, 0)]) (wk_e (wk_e (wk_e (wk_9 (wk_9 (wk_9 (wk_9 wk_n))))))) ?_
                  exact ih_17_0 ((p17_0 + 1)) (p159_0) (v1) h42 (gh42) (by omega) (by omega) (by omega) (by omega) (by omega) (by omega) (by omega) (((my_up_role fh42 is_151 is_155 rfl).trans ((my_up_role fh40 is_151 is_153 rfl).trans c151_2_159_0)).trans (by omega)) (((my_up_role fh42 is_151 is_155 rfl).trans ((my_up_role fh40 is_151 is_153 rfl).trans ev1.symm)).trans (by omega)) Tkn_h42t43 (by first | assumption | omega | (subst_vars; omega) | omega) (by first | assumption | omega | (subst_vars; omega) | omega) (by first | exact mA | exact Mcu_b mc_17_0 (by omega) (by show _ < h 151 2; omega) (by show h 152 _ = 10 ∨ h 152 _ = 32; omega) | exact Mcu_cg mc_17_0 (fun i q => t3 i) (fun i q => my_up_ne f62 (by omega)) (fun i q => t5 i) | exact mc_70_0 | exact mc_159_0 | exact Mcu_0 (by omega) (by omega) (by show 0 ≤ h 151 2; omega) | omega) (by omega) (by omega)
              ·
                refine w_iconst gz_172_12 (by decide) ?_
                refine w_goto (t := 17) gz_172_13 rfl ?_
                refine w_bret gz_172_17 gm_172 (by omega) (by omega) ?_
                show wp l rho (d + 2) 169 176 [(2, 151), (0, p17_0), (0, p159_0), (0, p159_1), (0, p17_1), (1, z159_l5), (9, 0)] [(0, 1)] h159_0 Q
                refine w_ifeq (t := 218) gz_169_176 rfl (fun u45 => by exfalso; omega) (fun u45 => ?_)
                refine w_iload_n gz_169_179 rfl ?_
                refine w_iload gz_169_180 rfl ?_
                refine w_isub gz_169_182 ⟨by omega, by omega⟩ ?_
                refine w_iconst gz_169_183 (by decide) ?_
                refine w_icge (t := 208) gz_169_184 rfl (fun u46 => ?_) (fun u46 => ?_)
                ·
                  refine w_lload gz_169_208 rfl ?_
                  refine w_lstore (ls' := [(2, 151), (0, p17_0), (0, p159_0), (0, p159_1), (0, p17_1), (1, z159_l5), (9, 0)]) gz_169_210 gm_169 rfl rfl rfl ?_
                  refine w_iinc (ls' := [(2, 151), (0, p17_0), (0, (p159_0 + 1)), (0, p159_1), (0, p17_1), (1, z159_l5), (9, 0)]) gz_169_212 rfl gm_169 rfl rfl rfl ⟨by omega, by omega⟩ ?_
                  refine w_goto (t := 159) gz_169_215 rfl ?_
                  have ce47 : h159_0 151 3 = v1 := ev1.symm
                  have tp : ∀ j : Int, h159_0 152 j = h159_0 152 j := fun _ => rfl
                  have t3 : ∀ j : Int, h159_0 153 j = h159_0 153 j := fun _ => rfl
                  have t5 : ∀ j : Int, h159_0 155 j = h159_0 155 j := fun _ => rfl
                  exact ih_159_0 ((p159_0 + 1)) (p159_1) (z159_l5) h159_0 (gh_159_0) (by omega) (by omega) (by omega) (by omega) (by omega) (by omega) (by omega) (by omega) (by omega) (by omega) (c151_2_159_0.trans (by omega)) (ev1.symm.trans (by omega)) n_Tkn_159_0 (by first | assumption | omega | (subst_vars; omega) | omega) (by first | assumption | omega | (subst_vars; omega) | omega) (by first | (intro q; rw [tp]; omega) | omega | (intro q; omega) | omega) (by first | assumption | omega | (subst_vars; omega) | omega) (by first | assumption | omega | (subst_vars; omega) | omega) (by omega) (by first | exact mA | exact Mcu_b mc_17_0 (by omega) (by show _ < h 151 2; omega) (by show h 152 _ = 10 ∨ h 152 _ = 32; omega) | exact Mcu_cg mc_17_0 (fun i q => t3 i) (fun i q => my_up_ne f62 (by omega)) (fun i q => t5 i) | exact mc_70_0 | exact mc_159_0 | exact Mcu_0 (by omega) (by omega) (by show 0 ≤ h 151 2; omega) | omega) (by first | exact my_up_self f62 | exact pl_70_0 | exact pl_159_0 | omega) (by first | omega | exact nb_70_0 | exact nb_159_0 | omega) (by first | (intro i a b; exfalso; omega) | (intro i a b; rcases (by omega : i = p159_0 ∨ i < p159_0) with q | q <;> first | exact rn_70_0 i a q | exact rn_159_0 i a q | (rw [q]; omega)) | omega) (by first | exact k0_70_0 | exact k0_159_0 | omega) (by omega) (by first | exact td_0 (by omega) rfl | exact td_s dv_159_0 (by omega) (by omega) (by omega) (by omega) | exact td_3 dv_159_0 (by omega) (by omega) (by omega) | omega) (by omega)
                ·
                  refine w_ldc2 gz_169_187 rfl ?_
                  refine w_lload gz_169_190 rfl ?_
                  refine w_lmulE gz_169_192 (fun v48 pv48 xv48 => ?_)
                  refine w_aload_n gz_169_193 rfl ?_
                  refine w_getX (v := 152) gz_169_194 is_151 rd_10 rfl (by decide) rfl ?_
                  refine w_iload_n gz_169_197 rfl ?_
                  refine w_iald gz_169_198 is_152 rd_51 (by omega) (by omega) (fun v50 ev50 pv50 qv50 => ?_)
                  have zv50 := ev50.trans ev16.symm
                  have c199 : v50 = h 152 p159_0 := by
                    have z := my_fr.at (j := p159_0) gh_159_0 is_152 rfl
                    omega
                  refine w_i2l gz_169_199 ?_
                  refine w_laddE gz_169_200 (fun v51 pv51 xv51 => ?_)
                  refine w_ldc2 gz_169_201 rfl ?_
                  refine w_lsubE gz_169_204 (fun v52 pv52 xv52 => ?_)
                  refine w_goto (t := 210) gz_169_205 rfl ?_
                  refine w_lstore (ls' := [(2, 151), (0, p17_0), (0, p159_0), (0, p159_1), (0, p17_1), (1, v52), (9, 0)]) gz_169_210 gm_169 rfl rfl rfl ?_
                  refine w_iinc (ls' := [(2, 151), (0, p17_0), (0, (p159_0 + 1)), (0, p159_1), (0, p17_1), (1, v52), (9, 0)]) gz_169_212 rfl gm_169 rfl rfl rfl ⟨by omega, by omega⟩ ?_
                  refine w_goto (t := 159) gz_169_215 rfl ?_
                  have ce53 : h159_0 151 3 = v1 := ev1.symm
                  have tp : ∀ j : Int, h159_0 152 j = h159_0 152 j := fun _ => rfl
                  have t3 : ∀ j : Int, h159_0 153 j = h159_0 153 j := fun _ => rfl
                  have t5 : ∀ j : Int, h159_0 155 j = h159_0 155 j := fun _ => rfl
                  exact ih_159_0 ((p159_0 + 1)) (p159_1) (v52) h159_0 (gh_159_0) (by omega) (by omega) (by omega) (by omega) (by omega) (by omega) (by omega) (by omega) (by omega) (by omega) (c151_2_159_0.trans (by omega)) (ev1.symm.trans (by omega)) n_Tkn_159_0 (by first | assumption | omega | (subst_vars; omega) | omega) (by first | assumption | omega | (subst_vars; omega) | omega) (by first | (intro q; rw [tp]; omega) | omega | (intro q; omega) | omega) (by first | assumption | omega | (subst_vars; omega) | omega) (by first | assumption | omega | (subst_vars; omega) | omega) (by omega) (by first | exact mA | exact Mcu_b mc_17_0 (by omega) (by show _ < h 151 2; omega) (by show h 152 _ = 10 ∨ h 152 _ = 32; omega) | exact Mcu_cg mc_17_0 (fun i q => t3 i) (fun i q => my_up_ne f62 (by omega)) (fun i q => t5 i) | exact mc_70_0 | exact mc_159_0 | exact Mcu_0 (by omega) (by omega) (by show 0 ≤ h 151 2; omega) | omega) (by first | exact my_up_self f62 | exact pl_70_0 | exact pl_159_0 | omega) (by first | omega | exact nb_70_0 | exact nb_159_0 | omega) (by first | (intro i a b; exfalso; omega) | (intro i a b; rcases (by omega : i = p159_0 ∨ i < p159_0) with q | q <;> first | exact rn_70_0 i a q | exact rn_159_0 i a q | (rw [q]; omega)) | omega) (by first | exact k0_70_0 | exact k0_159_0 | omega) (by omega) (by first | exact td_0 (by omega) rfl | exact td_s dv_159_0 (by omega) (by omega) (by omega) (by omega) | exact td_3 dv_159_0 (by omega) (by omega) (by omega) | omega) (by omega)
      have J70_0 : ∀ (n : Nat) (p70_0 p70_1 z70_l5 : Int) (h70_0 : my_H), my_fr [(10, 2), (10, 3), (10, 7), (10, 8), (52, -1), (53, -1), (54, -1)] h h70_0 → p17_0 ≤ 999 → 0 ≤ p70_0 → p70_0 ≤ 1000 → 97 ≤ p70_1 → p70_1 ≤ 122 → p17_1 ≤ 999 → 1 ≤ p17_2 → p70_0 ≤ p17_2 → p17_1 ≤ p70_0 → p17_1 ≤ (p17_2 - 1) → h70_0 151 2 = 0 → h70_0 151 3 = p17_2 → Tkn h70_0 p17_0 → p17_0 ≤ p17_1 → p17_1 ≤ p70_0 → (p70_0 = p17_1 → 97 ≤ h70_0 152 p17_1 ∧ h70_0 152 p17_1 ≤ 122) → p17_1 < h70_0 151 3 → p70_0 ≤ h70_0 151 3 → (Mcu ((h 152, h 151 2) : (Int → Int) × Int) h70_0 p17_0 p17_1) → h70_0 154 p17_0 = p17_1 → h 152 p17_1 ≠ 10 ∧ h 152 p17_1 ≠ 32 → (∀ i : Int, p17_1 ≤ i → i < p70_0 → tk_k (h 152 i) = 1) → tk_k (h 152 p17_1) = 1 → h70_0 151 3 = h 151 2 → z70_l5 = tk_wv (h 152) p17_1 (min (p70_0 - p17_1) 8).toNat → 1001 - p70_0 ≤ (n : Int) → wp l rho (d + 2) 169 70 [(2, 151), (0, p17_0), (0, p70_0), (0, p70_1), (0, p17_1), (1, z70_l5), (9, 0)] [] h70_0 Q := by
        intro n
        induction n with
        | zero => intro p70_0 p70_1 z70_l5 h70_0 gh_70_0 q0_70_0 q1_70_0 q2_70_0 q3_70_0 q4_70_0 q5_70_0 q6_70_0 q7_70_0 q8_70_0 q9_70_0 c151_2_70_0 c151_3_70_0 n_Tkn_70_0 nk_70_0 fk_70_0 f0_70_0 ls_70_0 ks_70_0 mc_70_0 pl_70_0 nb_70_0 rn_70_0 k0_70_0 sz_70_0 wv_70_0 hm_70_0; exfalso; omega
        | succ n ih_70_0 =>
          intro p70_0 p70_1 z70_l5 h70_0 gh_70_0 q0_70_0 q1_70_0 q2_70_0 q3_70_0 q4_70_0 q5_70_0 q6_70_0 q7_70_0 q8_70_0 q9_70_0 c151_2_70_0 c151_3_70_0 n_Tkn_70_0 nk_70_0 fk_70_0 f0_70_0 ls_70_0 ks_70_0 mc_70_0 pl_70_0 nb_70_0 rn_70_0 k0_70_0 sz_70_0 wv_70_0 hm_70_0
          refine w_iload_n gz_169_70 rfl ?_
          refine w_aload_n gz_169_71 rfl ?_
          refine v_getI (j := 3) gz_169_72 rfl is_151 rd_10 rfl (fun v54 ev54 pv54 qv54 => ?_)
          have zv54 := ev54.trans c151_3_70_0
          refine w_icge (t := 129) gz_169_75 rfl (fun u55 => ?_) (fun u55 => ?_)
          ·
            have ne : p70_0 ≠ p17_1 := by intro q; have z := f0_70_0 q; rw [← q] at z; omega
            refine w_aload_n gz_169_129 rfl ?_
            refine w_getX (v := 153) gz_169_130 is_151 rd_10 rfl (by decide) rfl ?_
            refine w_iload_n gz_169_133 rfl ?_
            refine w_iload_n gz_169_134 rfl ?_
            refine w_iload gz_169_135 rfl ?_
            refine w_isub gz_169_137 ⟨by omega, by omega⟩ ?_
            refine w_bipush gz_169_138 (by decide) ?_
            refine w_icle (t := 147) gz_169_140 rfl (fun u57 => ?_) (fun u57 => ?_)
            ·
              refine w_iconst gz_169_147 (by decide) ?_
              have tkA := n_Tkn_70_0
              refine w_iast gz_169_148 is_153 rd_52 (by omega) (by omega) (by omega) (by omega) (fun h58 fh58 => ?_)
              have gh58 : my_fr [(10, 2), (10, 3), (10, 7), (10, 8), (52, -1), (53, -1), (54, -1)] h h58 := my_fr.up gh_70_0 is_153 fh58 rfl
              refine w_goto (t := 265) gz_169_149 rfl ?_
              refine w_aload_n gz_169_265 rfl ?_
              refine w_getX (v := 155) gz_169_266 is_151 rd_10 rfl (by decide) rfl ?_
              refine w_iload_n gz_169_269 rfl ?_
              refine w_lload gz_169_270 rfl ?_
              refine w_last gz_169_272 is_155 rd_54 (by omega) (by omega) (fun h60 fh60 => ?_)
              have gh60 : my_fr [(10, 2), (10, 3), (10, 7), (10, 8), (52, -1), (53, -1), (54, -1)] h h60 := my_fr.up gh58 is_155 fh60 rfl
              have tN : h60 153 p17_0 ≠ 0 ∧ (h60 153 p17_0 = 2 → 0 ≤ h60 155 p17_0 ∧ h60 155 p17_0 ≤ 999) := by rw [my_up_ne (x := 153) (i := p17_0) fh60 (by omega), my_up_self fh58, my_up_self fh60]; omega
              have Tkn_h60t61 : Tkn h60 (p17_0 + 1) := by
                intro i a b
                rcases (by omega : i = p17_0 ∨ i < p17_0) with q | q
                · subst q; exact tN
                · rw [my_up_ne (x := 153) (i := i) fh60 (by omega), my_up_ne (x := 153) (i := i) fh58 (by omega), my_up_ne (x := 155) (i := i) fh60 (by omega), my_up_ne (x := 155) (i := i) fh58 (by omega)]
                  exact tkA i a q
              have mA : Mcu ((h 152, h 151 2) : (Int → Int) × Int) h60 (p17_0 + 1) p70_0 := by first | exact Mcu_add (τ := ((h 152, h 151 2) : (Int → Int) × Int)) (κ := 1) mc_70_0 (by omega) rfl (tk_mk (t := h 152) (n := h 151 2) (c := 1) (by omega) nb_70_0.1 nb_70_0.2 (by omega) (by omega) k0_70_0 rn_70_0 (fun a b => by omega) (fun a => by omega) (by omega)) (by decide) (by rw [my_up_ne fh60 (by omega), my_up_self fh58]) (by rw [my_up_ne fh60 (by omega), my_up_ne fh58 (by omega)]; exact pl_70_0) (my_up_self fh60) (fun i q => by rw [my_up_ne fh60 (by omega), my_up_ne fh58 (by omega)]) (fun i q => by rw [my_up_ne fh60 (by omega), my_up_ne fh58 (by omega)]) (fun i q => by rw [my_up_ne fh60 (by omega), my_up_ne fh58 (by omega)]) (fun z => absurd z (by decide)) (fun _ => by have q := wv_70_0; rw [show (min (p70_0 - p17_1) 8).toNat = (p70_0 - p17_1).toNat by omega] at q; exact q) (fun z => absurd z (by decide)) | exact Mcu_add (τ := ((h 152, h 151 2) : (Int → Int) × Int)) (κ := 4) mc_70_0 (by omega) rfl (tk_mk (t := h 152) (n := h 151 2) (c := 1) (by omega) nb_70_0.1 nb_70_0.2 (by omega) (by omega) k0_70_0 rn_70_0 (fun a b => by omega) (fun a => by omega) (by omega)) (by decide) (by rw [my_up_ne fh60 (by omega), my_up_self fh58]) (by rw [my_up_ne fh60 (by omega), my_up_ne fh58 (by omega)]; exact pl_70_0) (my_up_self fh60) (fun i q => by rw [my_up_ne fh60 (by omega), my_up_ne fh58 (by omega)]) (fun i q => by rw [my_up_ne fh60 (by omega), my_up_ne fh58 (by omega)]) (fun i q => by rw [my_up_ne fh60 (by omega), my_up_ne fh58 (by omega)]) (fun z => absurd z (by decide)) (fun z => absurd z (by decide)) (fun z => absurd z (by decide))
              refine w_iinc (ls' := [(2, 151), (0, (p17_0 + 1)), (0, p70_0), (0, p70_1), (0, p17_1), (1, z70_l5), (9, 0)]) gz_169_273 rfl gm_169 rfl rfl rfl ⟨by omega, by omega⟩ ?_
              refine w_goto (t := 17) gz_169_276 rfl ?_
              have ce62 : h60 151 3 = v54 := ((my_up_role fh60 is_151 is_155 rfl).trans ((my_up_role fh58 is_151 is_153 rfl).trans ev54.symm))
              have t3 : ∀ j : Int, h60 153 j = h58 153 j := fun j => ((my_up_role fh60 is_153 is_155 rfl).trans (rfl : h58 153 j = h58 153 j))
              have t5 : ∀ j : Int, h60 155 j = h60 155 j := fun j => rfl
              refine w_weak (ls' := [(2, 151), (0, (p17_0 + 1)), (0, p70_0), (9, 0), (9, 0), (9, 0), (9, 0)]) (wk_e (wk_e (wk_e (wk_9 (wk_9 (wk_9 (wk_9 wk_n))))))) ?_
              exact ih_17_0 ((p17_0 + 1)) (p70_0) (v54) h60 (gh60) (by omega) (by omega) (by omega) (by omega) (by omega) (by omega) (by omega) (((my_up_role fh60 is_151 is_155 rfl).trans ((my_up_role fh58 is_151 is_153 rfl).trans c151_2_70_0)).trans (by omega)) (((my_up_role fh60 is_151 is_155 rfl).trans ((my_up_role fh58 is_151 is_153 rfl).trans ev54.symm)).trans (by omega)) Tkn_h60t61 (by first | assumption | omega | (subst_vars; omega) | omega) (by first | assumption | omega | (subst_vars; omega) | omega) (by first | exact mA | exact Mcu_b mc_17_0 (by omega) (by show _ < h 151 2; omega) (by show h 152 _ = 10 ∨ h 152 _ = 32; omega) | exact Mcu_cg mc_17_0 (fun i q => t3 i) (fun i q => my_up_ne f62 (by omega)) (fun i q => t5 i) | exact mc_70_0 | exact mc_159_0 | exact Mcu_0 (by omega) (by omega) (by show 0 ≤ h 151 2; omega) | omega) (by omega) (by omega)
            ·
              refine w_iconst gz_169_143 (by decide) ?_
              refine w_goto (t := 148) gz_169_144 rfl ?_
              have tkA := n_Tkn_70_0
              refine w_iast gz_169_148 is_153 rd_52 (by omega) (by omega) (by omega) (by omega) (fun h63 fh63 => ?_)
              have gh63 : my_fr [(10, 2), (10, 3), (10, 7), (10, 8), (52, -1), (53, -1), (54, -1)] h h63 := my_fr.up gh_70_0 is_153 fh63 rfl
              refine w_goto (t := 265) gz_169_149 rfl ?_
              refine w_aload_n gz_169_265 rfl ?_
              refine w_getX (v := 155) gz_169_266 is_151 rd_10 rfl (by decide) rfl ?_
              refine w_iload_n gz_169_269 rfl ?_
              refine w_lload gz_169_270 rfl ?_
              refine w_last gz_169_272 is_155 rd_54 (by omega) (by omega) (fun h65 fh65 => ?_)
              have gh65 : my_fr [(10, 2), (10, 3), (10, 7), (10, 8), (52, -1), (53, -1), (54, -1)] h h65 := my_fr.up gh63 is_155 fh65 rfl
              have tN : h65 153 p17_0 ≠ 0 ∧ (h65 153 p17_0 = 2 → 0 ≤ h65 155 p17_0 ∧ h65 155 p17_0 ≤ 999) := by rw [my_up_ne (x := 153) (i := p17_0) fh65 (by omega), my_up_self fh63, my_up_self fh65]; omega
              have Tkn_h65t66 : Tkn h65 (p17_0 + 1) := by
                intro i a b
                rcases (by omega : i = p17_0 ∨ i < p17_0) with q | q
                · subst q; exact tN
                · rw [my_up_ne (x := 153) (i := i) fh65 (by omega), my_up_ne (x := 153) (i := i) fh63 (by omega), my_up_ne (x := 155) (i := i) fh65 (by omega), my_up_ne (x := 155) (i := i) fh63 (by omega)]
                  exact tkA i a q
              have mA : Mcu ((h 152, h 151 2) : (Int → Int) × Int) h65 (p17_0 + 1) p70_0 := by first | exact Mcu_add (τ := ((h 152, h 151 2) : (Int → Int) × Int)) (κ := 1) mc_70_0 (by omega) rfl (tk_mk (t := h 152) (n := h 151 2) (c := 1) (by omega) nb_70_0.1 nb_70_0.2 (by omega) (by omega) k0_70_0 rn_70_0 (fun a b => by omega) (fun a => by omega) (by omega)) (by decide) (by rw [my_up_ne fh65 (by omega), my_up_self fh63]) (by rw [my_up_ne fh65 (by omega), my_up_ne fh63 (by omega)]; exact pl_70_0) (my_up_self fh65) (fun i q => by rw [my_up_ne fh65 (by omega), my_up_ne fh63 (by omega)]) (fun i q => by rw [my_up_ne fh65 (by omega), my_up_ne fh63 (by omega)]) (fun i q => by rw [my_up_ne fh65 (by omega), my_up_ne fh63 (by omega)]) (fun z => absurd z (by decide)) (fun _ => by have q := wv_70_0; rw [show (min (p70_0 - p17_1) 8).toNat = (p70_0 - p17_1).toNat by omega] at q; exact q) (fun z => absurd z (by decide)) | exact Mcu_add (τ := ((h 152, h 151 2) : (Int → Int) × Int)) (κ := 4) mc_70_0 (by omega) rfl (tk_mk (t := h 152) (n := h 151 2) (c := 1) (by omega) nb_70_0.1 nb_70_0.2 (by omega) (by omega) k0_70_0 rn_70_0 (fun a b => by omega) (fun a => by omega) (by omega)) (by decide) (by rw [my_up_ne fh65 (by omega), my_up_self fh63]) (by rw [my_up_ne fh65 (by omega), my_up_ne fh63 (by omega)]; exact pl_70_0) (my_up_self fh65) (fun i q => by rw [my_up_ne fh65 (by omega), my_up_ne fh63 (by omega)]) (fun i q => by rw [my_up_ne fh65 (by omega), my_up_ne fh63 (by omega)]) (fun i q => by rw [my_up_ne fh65 (by omega), my_up_ne fh63 (by omega)]) (fun z => absurd z (by decide)) (fun z => absurd z (by decide)) (fun z => absurd z (by decide))
              refine w_iinc (ls' := [(2, 151), (0, (p17_0 + 1)), (0, p70_0), (0, p70_1), (0, p17_1), (1, z70_l5), (9, 0)]) gz_169_273 rfl gm_169 rfl rfl rfl ⟨by omega, by omega⟩ ?_
              refine w_goto (t := 17) gz_169_276 rfl ?_
              have ce67 : h65 151 3 = v54 := ((my_up_role fh65 is_151 is_155 rfl).trans ((my_up_role fh63 is_151 is_153 rfl).trans ev54.symm))
              have t3 : ∀ j : Int, h65 153 j = h63 153 j := fun j => ((my_up_role fh65 is_153 is_155 rfl).trans (rfl : h63 153 j = h63 153 j))
              have t5 : ∀ j : Int, h65 155 j = h65 155 j := fun j => rfl
              refine w_weak (ls' := [(2, 151), (0, (p17_0 + 1)), (0, p70_0), (9, 0), (9, 0), (9, 0), (9, 0)]) (wk_e (wk_e (wk_e (wk_9 (wk_9 (wk_9 (wk_9 wk_n))))))) ?_
              exact ih_17_0 ((p17_0 + 1)) (p70_0) (v54) h65 (gh65) (by omega) (by omega) (by omega) (by omega) (by omega) (by omega) (by omega) (((my_up_role fh65 is_151 is_155 rfl).trans ((my_up_role fh63 is_151 is_153 rfl).trans c151_2_70_0)).trans (by omega)) (((my_up_role fh65 is_151 is_155 rfl).trans ((my_up_role fh63 is_151 is_153 rfl).trans ev54.symm)).trans (by omega)) Tkn_h65t66 (by first | assumption | omega | (subst_vars; omega) | omega) (by first | assumption | omega | (subst_vars; omega) | omega) (by first | exact mA | exact Mcu_b mc_17_0 (by omega) (by show _ < h 151 2; omega) (by show h 152 _ = 10 ∨ h 152 _ = 32; omega) | exact Mcu_cg mc_17_0 (fun i q => t3 i) (fun i q => my_up_ne f62 (by omega)) (fun i q => t5 i) | exact mc_70_0 | exact mc_159_0 | exact Mcu_0 (by omega) (by omega) (by show 0 ≤ h 151 2; omega) | omega) (by omega) (by omega)
          ·
            refine w_aload_n gz_169_78 rfl ?_
            refine w_getX (v := 152) gz_169_79 is_151 rd_10 rfl (by decide) rfl ?_
            refine w_iload_n gz_169_82 rfl ?_
            refine w_iald gz_169_83 is_152 rd_51 (by omega) (by omega) (fun v69 ev69 pv69 qv69 => ?_)
            have c84 : v69 = h 152 p70_0 := by
              have z := my_fr.at (j := p70_0) gh_70_0 is_152 rfl
              omega
            have kz2 := tk_kk (h 152 p70_0)
            refine w_inS (k := 0) (as := [(0, v69)]) (r := []) (ls0 := [(0, v69)]) gz_169_84 gm_170 rfl rfl rfl rfl rfl rfl ?_
            refine w_iload_n gz_170_0 rfl ?_
            refine w_bipush gz_170_1 (by decide) ?_
            refine w_iclt (t := 16) gz_170_3 rfl (fun u70 => ?_) (fun u70 => ?_)
            ·
              refine w_iconst gz_170_16 (by decide) ?_
              refine w_bret gz_170_17 gm_170 (by omega) (by omega) ?_
              show wp l rho (d + 2) 169 87 [(2, 151), (0, p17_0), (0, p70_0), (0, p70_1), (0, p17_1), (1, z70_l5), (9, 0)] [(0, 0)] h70_0 Q
              refine w_ifeq (t := 129) gz_169_87 rfl (fun u71 => ?_) (fun u71 => by exfalso; omega)
              have ne : p70_0 ≠ p17_1 := by intro q; have z := f0_70_0 q; rw [← q] at z; omega
              refine w_aload_n gz_169_129 rfl ?_
              refine w_getX (v := 153) gz_169_130 is_151 rd_10 rfl (by decide) rfl ?_
              refine w_iload_n gz_169_133 rfl ?_
              refine w_iload_n gz_169_134 rfl ?_
              refine w_iload gz_169_135 rfl ?_
              refine w_isub gz_169_137 ⟨by omega, by omega⟩ ?_
              refine w_bipush gz_169_138 (by decide) ?_
              refine w_icle (t := 147) gz_169_140 rfl (fun u73 => ?_) (fun u73 => ?_)
              ·
                refine w_iconst gz_169_147 (by decide) ?_
                have tkA := n_Tkn_70_0
                refine w_iast gz_169_148 is_153 rd_52 (by omega) (by omega) (by omega) (by omega) (fun h74 fh74 => ?_)
                have gh74 : my_fr [(10, 2), (10, 3), (10, 7), (10, 8), (52, -1), (53, -1), (54, -1)] h h74 := my_fr.up gh_70_0 is_153 fh74 rfl
                refine w_goto (t := 265) gz_169_149 rfl ?_
                refine w_aload_n gz_169_265 rfl ?_
                refine w_getX (v := 155) gz_169_266 is_151 rd_10 rfl (by decide) rfl ?_
                refine w_iload_n gz_169_269 rfl ?_
                refine w_lload gz_169_270 rfl ?_
                refine w_last gz_169_272 is_155 rd_54 (by omega) (by omega) (fun h76 fh76 => ?_)
                have gh76 : my_fr [(10, 2), (10, 3), (10, 7), (10, 8), (52, -1), (53, -1), (54, -1)] h h76 := my_fr.up gh74 is_155 fh76 rfl
                have tN : h76 153 p17_0 ≠ 0 ∧ (h76 153 p17_0 = 2 → 0 ≤ h76 155 p17_0 ∧ h76 155 p17_0 ≤ 999) := by rw [my_up_ne (x := 153) (i := p17_0) fh76 (by omega), my_up_self fh74, my_up_self fh76]; omega
                have Tkn_h76t77 : Tkn h76 (p17_0 + 1) := by
                  intro i a b
                  rcases (by omega : i = p17_0 ∨ i < p17_0) with q | q
                  · subst q; exact tN
                  · rw [my_up_ne (x := 153) (i := i) fh76 (by omega), my_up_ne (x := 153) (i := i) fh74 (by omega), my_up_ne (x := 155) (i := i) fh76 (by omega), my_up_ne (x := 155) (i := i) fh74 (by omega)]
                    exact tkA i a q
                have mA : Mcu ((h 152, h 151 2) : (Int → Int) × Int) h76 (p17_0 + 1) p70_0 := by first | exact Mcu_add (τ := ((h 152, h 151 2) : (Int → Int) × Int)) (κ := 1) mc_70_0 (by omega) rfl (tk_mk (t := h 152) (n := h 151 2) (c := 1) (by omega) nb_70_0.1 nb_70_0.2 (by omega) (by omega) k0_70_0 rn_70_0 (fun a b => by omega) (fun a => by omega) (by omega)) (by decide) (by rw [my_up_ne fh76 (by omega), my_up_self fh74]) (by rw [my_up_ne fh76 (by omega), my_up_ne fh74 (by omega)]; exact pl_70_0) (my_up_self fh76) (fun i q => by rw [my_up_ne fh76 (by omega), my_up_ne fh74 (by omega)]) (fun i q => by rw [my_up_ne fh76 (by omega), my_up_ne fh74 (by omega)]) (fun i q => by rw [my_up_ne fh76 (by omega), my_up_ne fh74 (by omega)]) (fun z => absurd z (by decide)) (fun _ => by have q := wv_70_0; rw [show (min (p70_0 - p17_1) 8).toNat = (p70_0 - p17_1).toNat by omega] at q; exact q) (fun z => absurd z (by decide)) | exact Mcu_add (τ := ((h 152, h 151 2) : (Int → Int) × Int)) (κ := 4) mc_70_0 (by omega) rfl (tk_mk (t := h 152) (n := h 151 2) (c := 1) (by omega) nb_70_0.1 nb_70_0.2 (by omega) (by omega) k0_70_0 rn_70_0 (fun a b => by omega) (fun a => by omega) (by omega)) (by decide) (by rw [my_up_ne fh76 (by omega), my_up_self fh74]) (by rw [my_up_ne fh76 (by omega), my_up_ne fh74 (by omega)]; exact pl_70_0) (my_up_self fh76) (fun i q => by rw [my_up_ne fh76 (by omega), my_up_ne fh74 (by omega)]) (fun i q => by rw [my_up_ne fh76 (by omega), my_up_ne fh74 (by omega)]) (fun i q => by rw [my_up_ne fh76 (by omega), my_up_ne fh74 (by omega)]) (fun z => absurd z (by decide)) (fun z => absurd z (by decide)) (fun z => absurd z (by decide))
                refine w_iinc (ls' := [(2, 151), (0, (p17_0 + 1)), (0, p70_0), (0, p70_1), (0, p17_1), (1, z70_l5), (9, 0)]) gz_169_273 rfl gm_169 rfl rfl rfl ⟨by omega, by omega⟩ ?_
                refine w_goto (t := 17) gz_169_276 rfl ?_
                have ce78 : h76 151 3 = v54 := ((my_up_role fh76 is_151 is_155 rfl).trans ((my_up_role fh74 is_151 is_153 rfl).trans ev54.symm))
                have t3 : ∀ j : Int, h76 153 j = h74 153 j := fun j => ((my_up_role fh76 is_153 is_155 rfl).trans (rfl : h74 153 j = h74 153 j))
                have t5 : ∀ j : Int, h76 155 j = h76 155 j := fun j => rfl
                refine w_weak (ls' := [(2, 151), (0, (p17_0 + 1)), (0, p70_0), (9, 0), (9, 0), (9, 0), (9, 0)]) (wk_e (wk_e (wk_e (wk_9 (wk_9 (wk_9 (wk_9 wk_n))))))) ?_
                exact ih_17_0 ((p17_0 + 1)) (p70_0) (v54) h76 (gh76) (by omega) (by omega) (by omega) (by omega) (by omega) (by omega) (by omega) (((my_up_role fh76 is_151 is_155 rfl).trans ((my_up_role fh74 is_151 is_153 rfl).trans c151_2_70_0)).trans (by omega)) (((my_up_role fh76 is_151 is_155 rfl).trans ((my_up_role fh74 is_151 is_153 rfl).trans ev54.symm)).trans (by omega)) Tkn_h76t77 (by first | assumption | omega | (subst_vars; omega) | omega) (by first | assumption | omega | (subst_vars; omega) | omega) (by first | exact mA | exact Mcu_b mc_17_0 (by omega) (by show _ < h 151 2; omega) (by show h 152 _ = 10 ∨ h 152 _ = 32; omega) | exact Mcu_cg mc_17_0 (fun i q => t3 i) (fun i q => my_up_ne f62 (by omega)) (fun i q => t5 i) | exact mc_70_0 | exact mc_159_0 | exact Mcu_0 (by omega) (by omega) (by show 0 ≤ h 151 2; omega) | omega) (by omega) (by omega)
              ·
                refine w_iconst gz_169_143 (by decide) ?_
                refine w_goto (t := 148) gz_169_144 rfl ?_
                have tkA := n_Tkn_70_0
                refine w_iast gz_169_148 is_153 rd_52 (by omega) (by omega) (by omega) (by omega) (fun h79 fh79 => ?_)
                have gh79 : my_fr [(10, 2), (10, 3), (10, 7), (10, 8), (52, -1), (53, -1), (54, -1)] h h79 := my_fr.up gh_70_0 is_153 fh79 rfl
                refine w_goto (t := 265) gz_169_149 rfl ?_
                refine w_aload_n gz_169_265 rfl ?_
                refine w_getX (v := 155) gz_169_266 is_151 rd_10 rfl (by decide) rfl ?_
                refine w_iload_n gz_169_269 rfl ?_
                refine w_lload gz_169_270 rfl ?_
                refine w_last gz_169_272 is_155 rd_54 (by omega) (by omega) (fun h81 fh81 => ?_)
                have gh81 : my_fr [(10, 2), (10, 3), (10, 7), (10, 8), (52, -1), (53, -1), (54, -1)] h h81 := my_fr.up gh79 is_155 fh81 rfl
                have tN : h81 153 p17_0 ≠ 0 ∧ (h81 153 p17_0 = 2 → 0 ≤ h81 155 p17_0 ∧ h81 155 p17_0 ≤ 999) := by rw [my_up_ne (x := 153) (i := p17_0) fh81 (by omega), my_up_self fh79, my_up_self fh81]; omega
                have Tkn_h81t82 : Tkn h81 (p17_0 + 1) := by
                  intro i a b
                  rcases (by omega : i = p17_0 ∨ i < p17_0) with q | q
                  · subst q; exact tN
                  · rw [my_up_ne (x := 153) (i := i) fh81 (by omega), my_up_ne (x := 153) (i := i) fh79 (by omega), my_up_ne (x := 155) (i := i) fh81 (by omega), my_up_ne (x := 155) (i := i) fh79 (by omega)]
                    exact tkA i a q
                have mA : Mcu ((h 152, h 151 2) : (Int → Int) × Int) h81 (p17_0 + 1) p70_0 := by first | exact Mcu_add (τ := ((h 152, h 151 2) : (Int → Int) × Int)) (κ := 1) mc_70_0 (by omega) rfl (tk_mk (t := h 152) (n := h 151 2) (c := 1) (by omega) nb_70_0.1 nb_70_0.2 (by omega) (by omega) k0_70_0 rn_70_0 (fun a b => by omega) (fun a => by omega) (by omega)) (by decide) (by rw [my_up_ne fh81 (by omega), my_up_self fh79]) (by rw [my_up_ne fh81 (by omega), my_up_ne fh79 (by omega)]; exact pl_70_0) (my_up_self fh81) (fun i q => by rw [my_up_ne fh81 (by omega), my_up_ne fh79 (by omega)]) (fun i q => by rw [my_up_ne fh81 (by omega), my_up_ne fh79 (by omega)]) (fun i q => by rw [my_up_ne fh81 (by omega), my_up_ne fh79 (by omega)]) (fun z => absurd z (by decide)) (fun _ => by have q := wv_70_0; rw [show (min (p70_0 - p17_1) 8).toNat = (p70_0 - p17_1).toNat by omega] at q; exact q) (fun z => absurd z (by decide)) | exact Mcu_add (τ := ((h 152, h 151 2) : (Int → Int) × Int)) (κ := 4) mc_70_0 (by omega) rfl (tk_mk (t := h 152) (n := h 151 2) (c := 1) (by omega) nb_70_0.1 nb_70_0.2 (by omega) (by omega) k0_70_0 rn_70_0 (fun a b => by omega) (fun a => by omega) (by omega)) (by decide) (by rw [my_up_ne fh81 (by omega), my_up_self fh79]) (by rw [my_up_ne fh81 (by omega), my_up_ne fh79 (by omega)]; exact pl_70_0) (my_up_self fh81) (fun i q => by rw [my_up_ne fh81 (by omega), my_up_ne fh79 (by omega)]) (fun i q => by rw [my_up_ne fh81 (by omega), my_up_ne fh79 (by omega)]) (fun i q => by rw [my_up_ne fh81 (by omega), my_up_ne fh79 (by omega)]) (fun z => absurd z (by decide)) (fun z => absurd z (by decide)) (fun z => absurd z (by decide))
                refine w_iinc (ls' := [(2, 151), (0, (p17_0 + 1)), (0, p70_0), (0, p70_1), (0, p17_1), (1, z70_l5), (9, 0)]) gz_169_273 rfl gm_169 rfl rfl rfl ⟨by omega, by omega⟩ ?_
                refine w_goto (t := 17) gz_169_276 rfl ?_
                have ce83 : h81 151 3 = v54 := ((my_up_role fh81 is_151 is_155 rfl).trans ((my_up_role fh79 is_151 is_153 rfl).trans ev54.symm))
                have t3 : ∀ j : Int, h81 153 j = h79 153 j := fun j => ((my_up_role fh81 is_153 is_155 rfl).trans (rfl : h79 153 j = h79 153 j))
                have t5 : ∀ j : Int, h81 155 j = h81 155 j := fun j => rfl
                refine w_weak (ls' := [(2, 151), (0, (p17_0 + 1)), (0, p70_0), (9, 0), (9, 0), (9, 0), (9, 0)]) (wk_e (wk_e (wk_e (wk_9 (wk_9 (wk_9 (wk_9 wk_n))))))) ?_
                exact ih_17_0 ((p17_0 + 1)) (p70_0) (v54) h81 (gh81) (by omega) (by omega) (by omega) (by omega) (by omega) (by omega) (by omega) (((my_up_role fh81 is_151 is_155 rfl).trans ((my_up_role fh79 is_151 is_153 rfl).trans c151_2_70_0)).trans (by omega)) (((my_up_role fh81 is_151 is_155 rfl).trans ((my_up_role fh79 is_151 is_153 rfl).trans ev54.symm)).trans (by omega)) Tkn_h81t82 (by first | assumption | omega | (subst_vars; omega) | omega) (by first | assumption | omega | (subst_vars; omega) | omega) (by first | exact mA | exact Mcu_b mc_17_0 (by omega) (by show _ < h 151 2; omega) (by show h 152 _ = 10 ∨ h 152 _ = 32; omega) | exact Mcu_cg mc_17_0 (fun i q => t3 i) (fun i q => my_up_ne f62 (by omega)) (fun i q => t5 i) | exact mc_70_0 | exact mc_159_0 | exact Mcu_0 (by omega) (by omega) (by show 0 ≤ h 151 2; omega) | omega) (by omega) (by omega)
            ·
              refine w_iload_n gz_170_6 rfl ?_
              refine w_bipush gz_170_7 (by decide) ?_
              refine w_icgt (t := 16) gz_170_9 rfl (fun u84 => ?_) (fun u84 => ?_)
              ·
                refine w_iconst gz_170_16 (by decide) ?_
                refine w_bret gz_170_17 gm_170 (by omega) (by omega) ?_
                show wp l rho (d + 2) 169 87 [(2, 151), (0, p17_0), (0, p70_0), (0, p70_1), (0, p17_1), (1, z70_l5), (9, 0)] [(0, 0)] h70_0 Q
                refine w_ifeq (t := 129) gz_169_87 rfl (fun u85 => ?_) (fun u85 => by exfalso; omega)
                have ne : p70_0 ≠ p17_1 := by intro q; have z := f0_70_0 q; rw [← q] at z; omega
                refine w_aload_n gz_169_129 rfl ?_
                refine w_getX (v := 153) gz_169_130 is_151 rd_10 rfl (by decide) rfl ?_
                refine w_iload_n gz_169_133 rfl ?_
                refine w_iload_n gz_169_134 rfl ?_
                refine w_iload gz_169_135 rfl ?_
                refine w_isub gz_169_137 ⟨by omega, by omega⟩ ?_
                refine w_bipush gz_169_138 (by decide) ?_
                refine w_icle (t := 147) gz_169_140 rfl (fun u87 => ?_) (fun u87 => ?_)
                ·
                  refine w_iconst gz_169_147 (by decide) ?_
                  have tkA := n_Tkn_70_0
                  refine w_iast gz_169_148 is_153 rd_52 (by omega) (by omega) (by omega) (by omega) (fun h88 fh88 => ?_)
                  have gh88 : my_fr [(10, 2), (10, 3), (10, 7), (10, 8), (52, -1), (53, -1), (54, -1)] h h88 := my_fr.up gh_70_0 is_153 fh88 rfl
                  refine w_goto (t := 265) gz_169_149 rfl ?_
                  refine w_aload_n gz_169_265 rfl ?_
                  refine w_getX (v := 155) gz_169_266 is_151 rd_10 rfl (by decide) rfl ?_
                  refine w_iload_n gz_169_269 rfl ?_
                  refine w_lload gz_169_270 rfl ?_
                  refine w_last gz_169_272 is_155 rd_54 (by omega) (by omega) (fun h90 fh90 => ?_)
                  have gh90 : my_fr [(10, 2), (10, 3), (10, 7), (10, 8), (52, -1), (53, -1), (54, -1)] h h90 := my_fr.up gh88 is_155 fh90 rfl
                  have tN : h90 153 p17_0 ≠ 0 ∧ (h90 153 p17_0 = 2 → 0 ≤ h90 155 p17_0 ∧ h90 155 p17_0 ≤ 999) := by rw [my_up_ne (x := 153) (i := p17_0) fh90 (by omega), my_up_self fh88, my_up_self fh90]; omega
                  have Tkn_h90t91 : Tkn h90 (p17_0 + 1) := by
                    intro i a b
                    rcases (by omega : i = p17_0 ∨ i < p17_0) with q | q
                    · subst q; exact tN
                    · rw [my_up_ne (x := 153) (i := i) fh90 (by omega), my_up_ne (x := 153) (i := i) fh88 (by omega), my_up_ne (x := 155) (i := i) fh90 (by omega), my_up_ne (x := 155) (i := i) fh88 (by omega)]
                      exact tkA i a q
                  have mA : Mcu ((h 152, h 151 2) : (Int → Int) × Int) h90 (p17_0 + 1) p70_0 := by first | exact Mcu_add (τ := ((h 152, h 151 2) : (Int → Int) × Int)) (κ := 1) mc_70_0 (by omega) rfl (tk_mk (t := h 152) (n := h 151 2) (c := 1) (by omega) nb_70_0.1 nb_70_0.2 (by omega) (by omega) k0_70_0 rn_70_0 (fun a b => by omega) (fun a => by omega) (by omega)) (by decide) (by rw [my_up_ne fh90 (by omega), my_up_self fh88]) (by rw [my_up_ne fh90 (by omega), my_up_ne fh88 (by omega)]; exact pl_70_0) (my_up_self fh90) (fun i q => by rw [my_up_ne fh90 (by omega), my_up_ne fh88 (by omega)]) (fun i q => by rw [my_up_ne fh90 (by omega), my_up_ne fh88 (by omega)]) (fun i q => by rw [my_up_ne fh90 (by omega), my_up_ne fh88 (by omega)]) (fun z => absurd z (by decide)) (fun _ => by have q := wv_70_0; rw [show (min (p70_0 - p17_1) 8).toNat = (p70_0 - p17_1).toNat by omega] at q; exact q) (fun z => absurd z (by decide)) | exact Mcu_add (τ := ((h 152, h 151 2) : (Int → Int) × Int)) (κ := 4) mc_70_0 (by omega) rfl (tk_mk (t := h 152) (n := h 151 2) (c := 1) (by omega) nb_70_0.1 nb_70_0.2 (by omega) (by omega) k0_70_0 rn_70_0 (fun a b => by omega) (fun a => by omega) (by omega)) (by decide) (by rw [my_up_ne fh90 (by omega), my_up_self fh88]) (by rw [my_up_ne fh90 (by omega), my_up_ne fh88 (by omega)]; exact pl_70_0) (my_up_self fh90) (fun i q => by rw [my_up_ne fh90 (by omega), my_up_ne fh88 (by omega)]) (fun i q => by rw [my_up_ne fh90 (by omega), my_up_ne fh88 (by omega)]) (fun i q => by rw [my_up_ne fh90 (by omega), my_up_ne fh88 (by omega)]) (fun z => absurd z (by decide)) (fun z => absurd z (by decide)) (fun z => absurd z (by decide))
                  refine w_iinc (ls' := [(2, 151), (0, (p17_0 + 1)), (0, p70_0), (0, p70_1), (0, p17_1), (1, z70_l5), (9, 0)]) gz_169_273 rfl gm_169 rfl rfl rfl ⟨by omega, by omega⟩ ?_
                  refine w_goto (t := 17) gz_169_276 rfl ?_
                  have ce92 : h90 151 3 = v54 := ((my_up_role fh90 is_151 is_155 rfl).trans ((my_up_role fh88 is_151 is_153 rfl).trans ev54.symm))
                  have t3 : ∀ j : Int, h90 153 j = h88 153 j := fun j => ((my_up_role fh90 is_153 is_155 rfl).trans (rfl : h88 153 j = h88 153 j))
                  have t5 : ∀ j : Int, h90 155 j = h90 155 j := fun j => rfl
                  refine w_weak (ls' := [(2, 151), (0, (p17_0 + 1)), (0, p70_0), (9, 0), (9, 0), (9, 0), (9, 0)]) (wk_e (wk_e (wk_e (wk_9 (wk_9 (wk_9 (wk_9 wk_n))))))) ?_
                  exact ih_17_0 ((p17_0 + 1)) (p70_0) (v54) h90 (gh90) (by omega) (by omega) (by omega) (by omega) (by omega) (by omega) (by omega) (((my_up_role fh90 is_151 is_155 rfl).trans ((my_up_role fh88 is_151 is_153 rfl).trans c151_2_70_0)).trans (by omega)) (((my_up_role fh90 is_151 is_155 rfl).trans ((my_up_role fh88 is_151 is_153 rfl).trans ev54.symm)).trans (by omega)) Tkn_h90t91 (by first | assumption | omega | (subst_vars; omega) | omega) (by first | assumption | omega | (subst_vars; omega) | omega) (by first | exact mA | exact Mcu_b mc_17_0 (by omega) (by show _ < h 151 2; omega) (by show h 152 _ = 10 ∨ h 152 _ = 32; omega) | exact Mcu_cg mc_17_0 (fun i q => t3 i) (fun i q => my_up_ne f62 (by omega)) (fun i q => t5 i) | exact mc_70_0 | exact mc_159_0 | exact Mcu_0 (by omega) (by omega) (by show 0 ≤ h 151 2; omega) | omega) (by omega) (by omega)
                ·
                  refine w_iconst gz_169_143 (by decide) ?_
                  refine w_goto (t := 148) gz_169_144 rfl ?_
                  have tkA := n_Tkn_70_0
                  refine w_iast gz_169_148 is_153 rd_52 (by omega) (by omega) (by omega) (by omega) (fun h93 fh93 => ?_)
                  have gh93 : my_fr [(10, 2), (10, 3), (10, 7), (10, 8), (52, -1), (53, -1), (54, -1)] h h93 := my_fr.up gh_70_0 is_153 fh93 rfl
                  refine w_goto (t := 265) gz_169_149 rfl ?_
                  refine w_aload_n gz_169_265 rfl ?_
                  refine w_getX (v := 155) gz_169_266 is_151 rd_10 rfl (by decide) rfl ?_
                  refine w_iload_n gz_169_269 rfl ?_
                  refine w_lload gz_169_270 rfl ?_
                  refine w_last gz_169_272 is_155 rd_54 (by omega) (by omega) (fun h95 fh95 => ?_)
                  have gh95 : my_fr [(10, 2), (10, 3), (10, 7), (10, 8), (52, -1), (53, -1), (54, -1)] h h95 := my_fr.up gh93 is_155 fh95 rfl
                  have tN : h95 153 p17_0 ≠ 0 ∧ (h95 153 p17_0 = 2 → 0 ≤ h95 155 p17_0 ∧ h95 155 p17_0 ≤ 999) := by rw [my_up_ne (x := 153) (i := p17_0) fh95 (by omega), my_up_self fh93, my_up_self fh95]; omega
                  have Tkn_h95t96 : Tkn h95 (p17_0 + 1) := by
                    intro i a b
                    rcases (by omega : i = p17_0 ∨ i < p17_0) with q | q
                    · subst q; exact tN
                    · rw [my_up_ne (x := 153) (i := i) fh95 (by omega), my_up_ne (x := 153) (i := i) fh93 (by omega), my_up_ne (x := 155) (i := i) fh95 (by omega), my_up_ne (x := 155) (i := i) fh93 (by omega)]
                      exact tkA i a q
                  have mA : Mcu ((h 152, h 151 2) : (Int → Int) × Int) h95 (p17_0 + 1) p70_0 := by first | exact Mcu_add (τ := ((h 152, h 151 2) : (Int → Int) × Int)) (κ := 1) mc_70_0 (by omega) rfl (tk_mk (t := h 152) (n := h 151 2) (c := 1) (by omega) nb_70_0.1 nb_70_0.2 (by omega) (by omega) k0_70_0 rn_70_0 (fun a b => by omega) (fun a => by omega) (by omega)) (by decide) (by rw [my_up_ne fh95 (by omega), my_up_self fh93]) (by rw [my_up_ne fh95 (by omega), my_up_ne fh93 (by omega)]; exact pl_70_0) (my_up_self fh95) (fun i q => by rw [my_up_ne fh95 (by omega), my_up_ne fh93 (by omega)]) (fun i q => by rw [my_up_ne fh95 (by omega), my_up_ne fh93 (by omega)]) (fun i q => by rw [my_up_ne fh95 (by omega), my_up_ne fh93 (by omega)]) (fun z => absurd z (by decide)) (fun _ => by have q := wv_70_0; rw [show (min (p70_0 - p17_1) 8).toNat = (p70_0 - p17_1).toNat by omega] at q; exact q) (fun z => absurd z (by decide)) | exact Mcu_add (τ := ((h 152, h 151 2) : (Int → Int) × Int)) (κ := 4) mc_70_0 (by omega) rfl (tk_mk (t := h 152) (n := h 151 2) (c := 1) (by omega) nb_70_0.1 nb_70_0.2 (by omega) (by omega) k0_70_0 rn_70_0 (fun a b => by omega) (fun a => by omega) (by omega)) (by decide) (by rw [my_up_ne fh95 (by omega), my_up_self fh93]) (by rw [my_up_ne fh95 (by omega), my_up_ne fh93 (by omega)]; exact pl_70_0) (my_up_self fh95) (fun i q => by rw [my_up_ne fh95 (by omega), my_up_ne fh93 (by omega)]) (fun i q => by rw [my_up_ne fh95 (by omega), my_up_ne fh93 (by omega)]) (fun i q => by rw [my_up_ne fh95 (by omega), my_up_ne fh93 (by omega)]) (fun z => absurd z (by decide)) (fun z => absurd z (by decide)) (fun z => absurd z (by decide))
                  refine w_iinc (ls' := [(2, 151), (0, (p17_0 + 1)), (0, p70_0), (0, p70_1), (0, p17_1), (1, z70_l5), (9, 0)]) gz_169_273 rfl gm_169 rfl rfl rfl ⟨by omega, by omega⟩ ?_
                  refine w_goto (t := 17) gz_169_276 rfl ?_
                  have ce97 : h95 151 3 = v54 := ((my_up_role fh95 is_151 is_155 rfl).trans ((my_up_role fh93 is_151 is_153 rfl).trans ev54.symm))
                  have t3 : ∀ j : Int, h95 153 j = h93 153 j := fun j => ((my_up_role fh95 is_153 is_155 rfl).trans (rfl : h93 153 j = h93 153 j))
                  have t5 : ∀ j : Int, h95 155 j = h95 155 j := fun j => rfl
                  refine w_weak (ls' := [(2, 151), (0, (p17_0 + 1)), (0, p70_0), (9, 0), (9, 0), (9, 0), (9, 0)]) (wk_e (wk_e (wk_e (wk_9 (wk_9 (wk_9 (wk_9 wk_n))))))) ?_
                  exact ih_17_0 ((p17_0 + 1)) (p70_0) (v54) h95 (gh95) (by omega) (by omega) (by omega) (by omega) (by omega) (by omega) (by omega) (((my_up_role fh95 is_151 is_155 rfl).trans ((my_up_role fh93 is_151 is_153 rfl).trans c151_2_70_0)).trans (by omega)) (((my_up_role fh95 is_151 is_155 rfl).trans ((my_up_role fh93 is_151 is_153 rfl).trans ev54.symm)).trans (by omega)) Tkn_h95t96 (by first | assumption | omega | (subst_vars; omega) | omega) (by first | assumption | omega | (subst_vars; omega) | omega) (by first | exact mA | exact Mcu_b mc_17_0 (by omega) (by show _ < h 151 2; omega) (by show h 152 _ = 10 ∨ h 152 _ = 32; omega) | exact Mcu_cg mc_17_0 (fun i q => t3 i) (fun i q => my_up_ne f62 (by omega)) (fun i q => t5 i) | exact mc_70_0 | exact mc_159_0 | exact Mcu_0 (by omega) (by omega) (by show 0 ≤ h 151 2; omega) | omega) (by omega) (by omega)
              ·
                refine w_iconst gz_170_12 (by decide) ?_
                refine w_goto (t := 17) gz_170_13 rfl ?_
                refine w_bret gz_170_17 gm_170 (by omega) (by omega) ?_
                show wp l rho (d + 2) 169 87 [(2, 151), (0, p17_0), (0, p70_0), (0, p70_1), (0, p17_1), (1, z70_l5), (9, 0)] [(0, 1)] h70_0 Q
                refine w_ifeq (t := 129) gz_169_87 rfl (fun u98 => by exfalso; omega) (fun u98 => ?_)
                refine w_iload_n gz_169_90 rfl ?_
                refine w_iload gz_169_91 rfl ?_
                refine w_isub gz_169_93 ⟨by omega, by omega⟩ ?_
                refine w_bipush gz_169_94 (by decide) ?_
                refine w_icge (t := 119) gz_169_96 rfl (fun u99 => ?_) (fun u99 => ?_)
                ·
                  refine w_lload gz_169_119 rfl ?_
                  refine w_lstore (ls' := [(2, 151), (0, p17_0), (0, p70_0), (0, p70_1), (0, p17_1), (1, z70_l5), (9, 0)]) gz_169_121 gm_169 rfl rfl rfl ?_
                  refine w_iinc (ls' := [(2, 151), (0, p17_0), (0, (p70_0 + 1)), (0, p70_1), (0, p17_1), (1, z70_l5), (9, 0)]) gz_169_123 rfl gm_169 rfl rfl rfl ⟨by omega, by omega⟩ ?_
                  refine w_goto (t := 70) gz_169_126 rfl ?_
                  have ce100 : h70_0 151 3 = v54 := ev54.symm
                  have tp : ∀ j : Int, h70_0 152 j = h70_0 152 j := fun _ => rfl
                  have t3 : ∀ j : Int, h70_0 153 j = h70_0 153 j := fun _ => rfl
                  have t5 : ∀ j : Int, h70_0 155 j = h70_0 155 j := fun _ => rfl
                  exact ih_70_0 ((p70_0 + 1)) (p70_1) (z70_l5) h70_0 (gh_70_0) (by omega) (by omega) (by omega) (by omega) (by omega) (by omega) (by omega) (by omega) (by omega) (by omega) (c151_2_70_0.trans (by omega)) (ev54.symm.trans (by omega)) n_Tkn_70_0 (by first | assumption | omega | (subst_vars; omega) | omega) (by first | assumption | omega | (subst_vars; omega) | omega) (by first | (intro q; rw [tp]; omega) | omega | (intro q; omega) | omega) (by first | assumption | omega | (subst_vars; omega) | omega) (by first | assumption | omega | (subst_vars; omega) | omega) (by first | exact mA | exact Mcu_b mc_17_0 (by omega) (by show _ < h 151 2; omega) (by show h 152 _ = 10 ∨ h 152 _ = 32; omega) | exact Mcu_cg mc_17_0 (fun i q => t3 i) (fun i q => my_up_ne f62 (by omega)) (fun i q => t5 i) | exact mc_70_0 | exact mc_159_0 | exact Mcu_0 (by omega) (by omega) (by show 0 ≤ h 151 2; omega) | omega) (by first | exact my_up_self f62 | exact pl_70_0 | exact pl_159_0 | omega) (by first | omega | exact nb_70_0 | exact nb_159_0 | omega) (by first | (intro i a b; exfalso; omega) | (intro i a b; rcases (by omega : i = p70_0 ∨ i < p70_0) with q | q <;> first | exact rn_70_0 i a q | exact rn_159_0 i a q | (rw [q]; omega)) | omega) (by first | exact k0_70_0 | exact k0_159_0 | omega) (by omega) (by first | exact tw_0 (by omega) rfl | exact tw_s wv_70_0 (by omega) (by omega) (by omega) (by omega) | exact tw_8 wv_70_0 (by omega) (by omega) (by omega) | omega) (by omega)
                ·
                  have wb := tw_bd wv_70_0 (by omega) rn_70_0
                  refine w_ldc2 gz_169_99 rfl ?_
                  refine w_lload gz_169_102 rfl ?_
                  refine w_lmulE gz_169_104 (fun v101 pv101 xv101 => ?_)
                  refine w_aload_n gz_169_105 rfl ?_
                  refine w_getX (v := 152) gz_169_106 is_151 rd_10 rfl (by decide) rfl ?_
                  refine w_iload_n gz_169_109 rfl ?_
                  refine w_iald gz_169_110 is_152 rd_51 (by omega) (by omega) (fun v103 ev103 pv103 qv103 => ?_)
                  have zv103 := ev103.trans ev69.symm
                  have c111 : v103 = h 152 p70_0 := by
                    have z := my_fr.at (j := p70_0) gh_70_0 is_152 rfl
                    omega
                  refine w_inS (k := 0) (as := [(0, v103)]) (r := [(1, v101)]) (ls0 := [(0, v103)]) gz_169_111 gm_171 rfl rfl rfl rfl rfl rfl ?_
                  refine w_iload_n gz_171_0 rfl ?_
                  refine w_inS (k := 0) (as := [(0, v103)]) (r := []) (ls0 := [(0, v103)]) gz_171_1 gm_170 rfl rfl rfl rfl rfl rfl ?_
                  refine w_iload_n gz_170_0 rfl ?_
                  refine w_bipush gz_170_1 (by decide) ?_
                  refine w_iclt (t := 16) gz_170_3 rfl (fun u104 => by exfalso; omega) (fun u104 => ?_)
                  refine w_iload_n gz_170_6 rfl ?_
                  refine w_bipush gz_170_7 (by decide) ?_
                  refine w_icgt (t := 16) gz_170_9 rfl (fun u105 => by exfalso; omega) (fun u105 => ?_)
                  refine w_iconst gz_170_12 (by decide) ?_
                  refine w_goto (t := 17) gz_170_13 rfl ?_
                  refine w_bret gz_170_17 gm_170 (by omega) (by omega) ?_
                  show wp l rho (d + 1) 171 4 [(0, v103)] [(0, 1)] h70_0 _
                  refine w_ifeq (t := 14) gz_171_4 rfl (fun u106 => by exfalso; omega) (fun u106 => ?_)
                  refine w_iload_n gz_171_7 rfl ?_
                  refine w_bipush gz_171_8 (by decide) ?_
                  refine w_isub gz_171_10 ⟨by omega, by omega⟩ ?_
                  refine w_goto (t := 18) gz_171_11 rfl ?_
                  refine w_iret gz_171_18 gm_171 ?_
                  show wp l rho (d + 2) 169 114 [(2, 151), (0, p17_0), (0, p70_0), (0, p70_1), (0, p17_1), (1, z70_l5), (9, 0)] [(0, (v103 - 96)), (1, v101)] h70_0 Q
                  refine w_i2l gz_169_114 ?_
                  refine w_laddE gz_169_115 (fun v107 pv107 xv107 => ?_)
                  refine w_goto (t := 121) gz_169_116 rfl ?_
                  refine w_lstore (ls' := [(2, 151), (0, p17_0), (0, p70_0), (0, p70_1), (0, p17_1), (1, v107), (9, 0)]) gz_169_121 gm_169 rfl rfl rfl ?_
                  refine w_iinc (ls' := [(2, 151), (0, p17_0), (0, (p70_0 + 1)), (0, p70_1), (0, p17_1), (1, v107), (9, 0)]) gz_169_123 rfl gm_169 rfl rfl rfl ⟨by omega, by omega⟩ ?_
                  refine w_goto (t := 70) gz_169_126 rfl ?_
                  have ce108 : h70_0 151 3 = v54 := ev54.symm
                  have tp : ∀ j : Int, h70_0 152 j = h70_0 152 j := fun _ => rfl
                  have t3 : ∀ j : Int, h70_0 153 j = h70_0 153 j := fun _ => rfl
                  have t5 : ∀ j : Int, h70_0 155 j = h70_0 155 j := fun _ => rfl
                  exact ih_70_0 ((p70_0 + 1)) (p70_1) (v107) h70_0 (gh_70_0) (by omega) (by omega) (by omega) (by omega) (by omega) (by omega) (by omega) (by omega) (by omega) (by omega) (c151_2_70_0.trans (by omega)) (ev54.symm.trans (by omega)) n_Tkn_70_0 (by first | assumption | omega | (subst_vars; omega) | omega) (by first | assumption | omega | (subst_vars; omega) | omega) (by first | (intro q; rw [tp]; omega) | omega | (intro q; omega) | omega) (by first | assumption | omega | (subst_vars; omega) | omega) (by first | assumption | omega | (subst_vars; omega) | omega) (by first | exact mA | exact Mcu_b mc_17_0 (by omega) (by show _ < h 151 2; omega) (by show h 152 _ = 10 ∨ h 152 _ = 32; omega) | exact Mcu_cg mc_17_0 (fun i q => t3 i) (fun i q => my_up_ne f62 (by omega)) (fun i q => t5 i) | exact mc_70_0 | exact mc_159_0 | exact Mcu_0 (by omega) (by omega) (by show 0 ≤ h 151 2; omega) | omega) (by first | exact my_up_self f62 | exact pl_70_0 | exact pl_159_0 | omega) (by first | omega | exact nb_70_0 | exact nb_159_0 | omega) (by first | (intro i a b; exfalso; omega) | (intro i a b; rcases (by omega : i = p70_0 ∨ i < p70_0) with q | q <;> first | exact rn_70_0 i a q | exact rn_159_0 i a q | (rw [q]; omega)) | omega) (by first | exact k0_70_0 | exact k0_159_0 | omega) (by omega) (by first | exact tw_0 (by omega) rfl | exact tw_s wv_70_0 (by omega) (by omega) (by omega) (by omega) | exact tw_8 wv_70_0 (by omega) (by omega) (by omega) | omega) (by omega)
      refine w_iload_n gz_169_17 rfl ?_
      refine w_aload_n gz_169_18 rfl ?_
      refine v_getI (j := 3) gz_169_19 rfl is_151 rd_10 rfl (fun v109 ev109 pv109 qv109 => ?_)
      have zv109 := ev109.trans c151_3_17_0
      refine w_icge (t := 279) gz_169_22 rfl (fun u110 => ?_) (fun u110 => ?_)
      ·
        refine w_aload_n gz_169_279 rfl ?_
        refine w_getX (v := 153) gz_169_280 is_151 rd_10 rfl (by decide) rfl ?_
        refine w_iload_n gz_169_283 rfl ?_
        refine w_iconst gz_169_284 (by decide) ?_
        have tkE := n_Tkn_17_0
        refine w_iast gz_169_285 is_153 rd_52 (by omega) (by omega) (by omega) (by omega) (fun h112 fh112 => ?_)
        have gh112 : my_fr [(10, 2), (10, 3), (10, 7), (10, 8), (52, -1), (53, -1), (54, -1)] h h112 := my_fr.up gh_17_0 is_153 fh112 rfl
        refine w_aload_n gz_169_286 rfl ?_
        refine w_getX (v := 154) gz_169_287 is_151 rd_10 rfl (by decide) rfl ?_
        refine w_iload_n gz_169_290 rfl ?_
        refine w_aload_n gz_169_291 rfl ?_
        refine v_getI (j := 3) gz_169_292 rfl is_151 rd_10 rfl (fun v114 ev114 pv114 qv114 => ?_)
        have zv114 := ev114.trans ((my_up_role fh112 is_151 is_153 rfl).trans ev109.symm)
        refine w_iast gz_169_295 is_154 rd_53 (by omega) (by omega) (by omega) (by omega) (fun h115 fh115 => ?_)
        have gh115 : my_fr [(10, 2), (10, 3), (10, 7), (10, 8), (52, -1), (53, -1), (54, -1)] h h115 := my_fr.up gh112 is_154 fh115 rfl
        refine w_aload_n gz_169_296 rfl ?_
        refine w_iconst gz_169_297 (by decide) ?_
        refine v_putI (j := 7) gz_169_298 rfl is_151 rd_10 rfl (by omega) (by omega) rfl (fun h116 fh116 => ?_)
        have gh116 : my_fr [(10, 2), (10, 3), (10, 7), (10, 8), (52, -1), (53, -1), (54, -1)] h h116 := my_fr.up gh115 is_151 fh116 rfl
        have Tok_h116t117 : Tok h116 := ⟨p17_0, by omega, by omega, by rw [my_up_self fh116]; omega, by rw [my_up_self fh116]; omega, by rw [my_up_ne (x := 153) (i := p17_0) fh116 (by omega), my_up_ne (x := 153) (i := p17_0) fh115 (by omega), my_up_self fh112], fun i a b => by rw [my_up_ne (x := 153) (i := i) fh116 (by omega), my_up_ne (x := 153) (i := i) fh115 (by omega), my_up_ne (x := 153) (i := i) fh112 (by omega), my_up_ne (x := 155) (i := i) fh116 (by omega), my_up_ne (x := 155) (i := i) fh115 (by omega), my_up_ne (x := 155) (i := i) fh112 (by omega)]; exact tkE i a b⟩
        refine w_aload_n gz_169_301 rfl ?_
        refine w_iconst gz_169_302 (by decide) ?_
        refine v_putI (j := 8) gz_169_303 rfl is_151 rd_10 rfl (by omega) (by omega) rfl (fun h118 fh118 => ?_)
        have gh118 : my_fr [(10, 2), (10, 3), (10, 7), (10, 8), (52, -1), (53, -1), (54, -1)] h h118 := my_fr.up gh116 is_151 fh118 rfl
        have Tok_h118 : Tok h118 := Tok_ag (my_ag.up fh118 is_151 rfl) Tok_h116t117
        have c119 := ((my_up_fld fh118 (by decide)).trans ((my_up_fld fh116 (by decide)).trans ((my_up_role fh115 is_151 is_154 rfl).trans ((my_up_role fh112 is_151 is_153 rfl).trans c151_2_17_0))))
        have c120 := ((my_up_fld fh118 (by decide)).trans (my_up_self fh116))
        have c121 := (my_up_self fh118)
        exact w_vret gz_169_306 gm_169 (k0 h118 (gh118) (by omega) (by omega) (by omega) (by first | exact ⟨p17_0, by omega, Mcu_end (τ := ((h 152, h 151 2) : (Int → Int) × Int)) mc_17_0 (by omega) (by show _ = h 151 2; omega) (by rw [my_up_ne fh118 (by omega), my_up_ne fh116 (by omega), my_up_ne fh115 (by omega), my_up_self fh112]) (by rw [my_up_ne fh118 (by omega), my_up_ne fh116 (by omega), my_up_self fh115]; omega) (fun i q => by rw [my_up_ne fh118 (by omega), my_up_ne fh116 (by omega), my_up_ne fh115 (by omega), my_up_ne fh112 (by omega)]) (fun i q => by rw [my_up_ne fh118 (by omega), my_up_ne fh116 (by omega), my_up_ne fh115 (by omega), my_up_ne fh112 (by omega)]) (fun i q => by rw [my_up_ne fh118 (by omega), my_up_ne fh116 (by omega), my_up_ne fh115 (by omega), my_up_ne fh112 (by omega)])⟩ | omega) Tok_h118)
      ·
        refine w_aload_n gz_169_25 rfl ?_
        refine w_getX (v := 152) gz_169_26 is_151 rd_10 rfl (by decide) rfl ?_
        refine w_iload_n gz_169_29 rfl ?_
        refine w_iald gz_169_30 is_152 rd_51 (by omega) (by omega) (fun v123 ev123 pv123 qv123 => ?_)
        have c31 : v123 = h 152 p17_1 := by
          have z := my_fr.at (j := p17_1) gh_17_0 is_152 rfl
          omega
        have kz := tk_kk (h 152 p17_1)
        refine w_istore_n (ls' := [(2, 151), (0, p17_0), (0, p17_1), (0, v123), (9, 0), (9, 0), (9, 0)]) gz_169_31 gm_169 rfl rfl rfl ?_
        refine w_iload_n gz_169_32 rfl ?_
        refine w_bipush gz_169_33 (by decide) ?_
        refine w_iceq (t := 44) gz_169_35 rfl (fun u124 => ?_) (fun u124 => ?_)
        ·
          refine w_iinc (ls' := [(2, 151), (0, p17_0), (0, (p17_1 + 1)), (0, v123), (9, 0), (9, 0), (9, 0)]) gz_169_44 rfl gm_169 rfl rfl rfl ⟨by omega, by omega⟩ ?_
          refine w_goto (t := 17) gz_169_47 rfl ?_
          have ce125 : h17_0 151 3 = v109 := ev109.symm
          have t3 : ∀ j : Int, h17_0 153 j = h17_0 153 j := fun _ => rfl
          have t5 : ∀ j : Int, h17_0 155 j = h17_0 155 j := fun _ => rfl
          refine w_weak (ls' := [(2, 151), (0, p17_0), (0, (p17_1 + 1)), (9, 0), (9, 0), (9, 0), (9, 0)]) (wk_e (wk_e (wk_e (wk_9 (wk_9 (wk_9 (wk_9 wk_n))))))) ?_
          exact ih_17_0 (p17_0) ((p17_1 + 1)) (v109) h17_0 (gh_17_0) (by omega) (by omega) (by omega) (by omega) (by omega) (by omega) (by omega) (c151_2_17_0.trans (by omega)) (ev109.symm.trans (by omega)) n_Tkn_17_0 (by first | assumption | omega | (subst_vars; omega) | omega) (by first | assumption | omega | (subst_vars; omega) | omega) (by first | exact mA | exact Mcu_b mc_17_0 (by omega) (by show _ < h 151 2; omega) (by show h 152 _ = 10 ∨ h 152 _ = 32; omega) | exact Mcu_cg mc_17_0 (fun i q => t3 i) (fun i q => my_up_ne f62 (by omega)) (fun i q => t5 i) | exact mc_70_0 | exact mc_159_0 | exact Mcu_0 (by omega) (by omega) (by show 0 ≤ h 151 2; omega) | omega) (by omega) (by omega)
        ·
          refine w_iload_n gz_169_38 rfl ?_
          refine w_bipush gz_169_39 (by decide) ?_
          refine w_icne (t := 50) gz_169_41 rfl (fun u126 => ?_) (fun u126 => ?_)
          ·
            refine w_iload_n gz_169_50 rfl ?_
            refine w_istore (ls' := [(2, 151), (0, p17_0), (0, p17_1), (0, v123), (0, p17_1), (9, 0), (9, 0)]) gz_169_51 gm_169 rfl rfl rfl ?_
            refine w_lconst gz_169_53 ?_
            refine w_lstore (ls' := [(2, 151), (0, p17_0), (0, p17_1), (0, v123), (0, p17_1), (1, (((0 : Fin 2).val : Nat) : Int)), (9, 0)]) gz_169_54 gm_169 rfl rfl rfl ?_
            refine w_aload_n gz_169_56 rfl ?_
            refine w_getX (v := 154) gz_169_57 is_151 rd_10 rfl (by decide) rfl ?_
            refine w_iload_n gz_169_60 rfl ?_
            refine w_iload_n gz_169_61 rfl ?_
            have hi128 : 0 ≤ p17_0 := by omega
            have hi129 : p17_0 ≤ 999 := by omega
            refine w_iast gz_169_62 is_154 rd_53 (by omega) (by omega) (by omega) (by omega) (fun h130 fh130 => ?_)
            have gh130 : my_fr [(10, 2), (10, 3), (10, 7), (10, 8), (52, -1), (53, -1), (54, -1)] h h130 := my_fr.up gh_17_0 is_154 fh130 rfl
            have Tkn_h130 : Tkn h130 p17_0 := Tkn_ag (my_ag.up fh130 is_154 rfl) n_Tkn_17_0
            have f62 := fh130
            refine w_iload_n gz_169_63 rfl ?_
            refine w_inS (k := 0) (as := [(0, v123)]) (r := []) (ls0 := [(0, v123)]) gz_169_64 gm_170 rfl rfl rfl rfl rfl rfl ?_
            refine w_iload_n gz_170_0 rfl ?_
            refine w_bipush gz_170_1 (by decide) ?_
            refine w_iclt (t := 16) gz_170_3 rfl (fun u131 => ?_) (fun u131 => ?_)
            ·
              refine w_iconst gz_170_16 (by decide) ?_
              refine w_bret gz_170_17 gm_170 (by omega) (by omega) ?_
              show wp l rho (d + 2) 169 67 [(2, 151), (0, p17_0), (0, p17_1), (0, v123), (0, p17_1), (1, (((0 : Fin 2).val : Nat) : Int)), (9, 0)] [(0, 0)] h130 Q
              refine w_ifeq (t := 152) gz_169_67 rfl (fun u132 => ?_) (fun u132 => by exfalso; omega)
              refine w_iload_n gz_169_152 rfl ?_
              refine w_inS (k := 0) (as := [(0, v123)]) (r := []) (ls0 := [(0, v123)]) gz_169_153 gm_172 rfl rfl rfl rfl rfl rfl ?_
              refine w_iload_n gz_172_0 rfl ?_
              refine w_bipush gz_172_1 (by decide) ?_
              refine w_iclt (t := 16) gz_172_3 rfl (fun u133 => ?_) (fun u133 => ?_)
              ·
                refine w_iconst gz_172_16 (by decide) ?_
                refine w_bret gz_172_17 gm_172 (by omega) (by omega) ?_
                show wp l rho (d + 2) 169 156 [(2, 151), (0, p17_0), (0, p17_1), (0, v123), (0, p17_1), (1, (((0 : Fin 2).val : Nat) : Int)), (9, 0)] [(0, 0)] h130 Q
                refine w_ifeq (t := 240) gz_169_156 rfl (fun u134 => ?_) (fun u134 => by exfalso; omega)
                refine w_iload_n gz_169_240 rfl ?_
                refine w_i2l gz_169_241 ?_
                refine w_lstore (ls' := [(2, 151), (0, p17_0), (0, p17_1), (0, v123), (0, p17_1), (1, v123), (9, 0)]) gz_169_242 gm_169 rfl rfl rfl ?_
                refine w_aload_n gz_169_244 rfl ?_
                refine w_getX (v := 153) gz_169_245 is_151 rd_10 rfl (by decide) rfl ?_
                refine w_iload_n gz_169_248 rfl ?_
                refine w_iload_n gz_169_249 rfl ?_
                refine w_inS (k := 0) (as := [(0, v123)]) (r := [(0, p17_0), (2, 153)]) (ls0 := [(0, v123)]) gz_169_250 gm_173 rfl rfl rfl rfl rfl rfl ?_
                refine w_iload_n gz_173_0 rfl ?_
                refine w_bipush gz_173_1 (by decide) ?_
                refine w_icne (t := 10) gz_173_3 rfl (fun u136 => ?_) (fun u136 => by exfalso; omega)
                refine w_iconst gz_173_10 (by decide) ?_
                refine w_bret gz_173_11 gm_173 (by omega) (by omega) ?_
                show wp l rho (d + 2) 169 253 [(2, 151), (0, p17_0), (0, p17_1), (0, v123), (0, p17_1), (1, v123), (9, 0)] [(0, 0), (0, p17_0), (2, 153)] h130 Q
                refine w_ifeq (t := 260) gz_169_253 rfl (fun u137 => ?_) (fun u137 => by exfalso; omega)
                refine w_iconst gz_169_260 (by decide) ?_
                have tkA := Tkn_h130
                refine w_iast gz_169_261 is_153 rd_52 (by omega) (by omega) (by omega) (by omega) (fun h138 fh138 => ?_)
                have gh138 : my_fr [(10, 2), (10, 3), (10, 7), (10, 8), (52, -1), (53, -1), (54, -1)] h h138 := my_fr.up gh130 is_153 fh138 rfl
                refine w_iinc (ls' := [(2, 151), (0, p17_0), (0, (p17_1 + 1)), (0, v123), (0, p17_1), (1, v123), (9, 0)]) gz_169_262 rfl gm_169 rfl rfl rfl ⟨by omega, by omega⟩ ?_
                refine w_aload_n gz_169_265 rfl ?_
                refine w_getX (v := 155) gz_169_266 is_151 rd_10 rfl (by decide) rfl ?_
                refine w_iload_n gz_169_269 rfl ?_
                refine w_lload gz_169_270 rfl ?_
                refine w_last gz_169_272 is_155 rd_54 (by omega) (by omega) (fun h140 fh140 => ?_)
                have gh140 : my_fr [(10, 2), (10, 3), (10, 7), (10, 8), (52, -1), (53, -1), (54, -1)] h h140 := my_fr.up gh138 is_155 fh140 rfl
                have tN : h140 153 p17_0 ≠ 0 ∧ (h140 153 p17_0 = 2 → 0 ≤ h140 155 p17_0 ∧ h140 155 p17_0 ≤ 999) := by rw [my_up_ne (x := 153) (i := p17_0) fh140 (by omega), my_up_self fh138, my_up_self fh140]; omega
                have Tkn_h140t141 : Tkn h140 (p17_0 + 1) := by
                  intro i a b
                  rcases (by omega : i = p17_0 ∨ i < p17_0) with q | q
                  · subst q; exact tN
                  · rw [my_up_ne (x := 153) (i := i) fh140 (by omega), my_up_ne (x := 153) (i := i) fh138 (by omega), my_up_ne (x := 155) (i := i) fh140 (by omega), my_up_ne (x := 155) (i := i) fh138 (by omega)]
                    exact tkA i a q
                have mA : Mcu ((h 152, h 151 2) : (Int → Int) × Int) h140 (p17_0 + 1) (p17_1 + 1) := by first | exact Mcu_add (τ := ((h 152, h 151 2) : (Int → Int) × Int)) (κ := 3) mc_17_0 (by omega) rfl (tk_mk (t := h 152) (n := h 151 2) (c := 3) (by omega) (by omega) (by omega) (by omega) (by omega) (by omega) (fun i a b => by rw [show i = p17_1 by omega]; omega) (fun a b => by omega) (fun a => by omega) (by omega)) (by decide) (by rw [my_up_ne fh140 (by omega), my_up_self fh138]) (by rw [my_up_ne fh140 (by omega), my_up_ne fh138 (by omega), my_up_self fh130]) (my_up_self fh140) (fun i q => by rw [my_up_ne fh140 (by omega), my_up_ne fh138 (by omega), my_up_ne fh130 (by omega)]) (fun i q => by rw [my_up_ne fh140 (by omega), my_up_ne fh138 (by omega), my_up_ne fh130 (by omega)]) (fun i q => by rw [my_up_ne fh140 (by omega), my_up_ne fh138 (by omega), my_up_ne fh130 (by omega)]) (fun z => absurd z (by decide)) (fun z => absurd z (by decide)) (fun _ => by omega) | exact Mcu_add (τ := ((h 152, h 151 2) : (Int → Int) × Int)) (κ := 4) mc_17_0 (by omega) rfl (tk_mk (t := h 152) (n := h 151 2) (c := 4) (by omega) (by omega) (by omega) (by omega) (by omega) (by omega) (fun i a b => by rw [show i = p17_1 by omega]; omega) (fun a b => by omega) (fun a => by omega) (by omega)) (by decide) (by rw [my_up_ne fh140 (by omega), my_up_self fh138]) (by rw [my_up_ne fh140 (by omega), my_up_ne fh138 (by omega), my_up_self fh130]) (my_up_self fh140) (fun i q => by rw [my_up_ne fh140 (by omega), my_up_ne fh138 (by omega), my_up_ne fh130 (by omega)]) (fun i q => by rw [my_up_ne fh140 (by omega), my_up_ne fh138 (by omega), my_up_ne fh130 (by omega)]) (fun i q => by rw [my_up_ne fh140 (by omega), my_up_ne fh138 (by omega), my_up_ne fh130 (by omega)]) (fun z => absurd z (by decide)) (fun z => absurd z (by decide)) (fun _ => by omega)
                refine w_iinc (ls' := [(2, 151), (0, (p17_0 + 1)), (0, (p17_1 + 1)), (0, v123), (0, p17_1), (1, v123), (9, 0)]) gz_169_273 rfl gm_169 rfl rfl rfl ⟨by omega, by omega⟩ ?_
                refine w_goto (t := 17) gz_169_276 rfl ?_
                have ce142 : h140 151 3 = v109 := ((my_up_role fh140 is_151 is_155 rfl).trans ((my_up_role fh138 is_151 is_153 rfl).trans ((my_up_role fh130 is_151 is_154 rfl).trans ev109.symm)))
                have t3 : ∀ j : Int, h140 153 j = h138 153 j := fun j => ((my_up_role fh140 is_153 is_155 rfl).trans (rfl : h138 153 j = h138 153 j))
                have t5 : ∀ j : Int, h140 155 j = h140 155 j := fun j => rfl
                refine w_weak (ls' := [(2, 151), (0, (p17_0 + 1)), (0, (p17_1 + 1)), (9, 0), (9, 0), (9, 0), (9, 0)]) (wk_e (wk_e (wk_e (wk_9 (wk_9 (wk_9 (wk_9 wk_n))))))) ?_
                exact ih_17_0 ((p17_0 + 1)) ((p17_1 + 1)) (v109) h140 (gh140) (by omega) (by omega) (by omega) (by omega) (by omega) (by omega) (by omega) (((my_up_role fh140 is_151 is_155 rfl).trans ((my_up_role fh138 is_151 is_153 rfl).trans ((my_up_role fh130 is_151 is_154 rfl).trans c151_2_17_0))).trans (by omega)) (((my_up_role fh140 is_151 is_155 rfl).trans ((my_up_role fh138 is_151 is_153 rfl).trans ((my_up_role fh130 is_151 is_154 rfl).trans ev109.symm))).trans (by omega)) Tkn_h140t141 (by first | assumption | omega | (subst_vars; omega) | omega) (by first | assumption | omega | (subst_vars; omega) | omega) (by first | exact mA | exact Mcu_b mc_17_0 (by omega) (by show _ < h 151 2; omega) (by show h 152 _ = 10 ∨ h 152 _ = 32; omega) | exact Mcu_cg mc_17_0 (fun i q => t3 i) (fun i q => my_up_ne f62 (by omega)) (fun i q => t5 i) | exact mc_70_0 | exact mc_159_0 | exact Mcu_0 (by omega) (by omega) (by show 0 ≤ h 151 2; omega) | omega) (by omega) (by omega)
              ·
                refine w_iload_n gz_172_6 rfl ?_
                refine w_bipush gz_172_7 (by decide) ?_
                refine w_icgt (t := 16) gz_172_9 rfl (fun u143 => ?_) (fun u143 => ?_)
                ·
                  refine w_iconst gz_172_16 (by decide) ?_
                  refine w_bret gz_172_17 gm_172 (by omega) (by omega) ?_
                  show wp l rho (d + 2) 169 156 [(2, 151), (0, p17_0), (0, p17_1), (0, v123), (0, p17_1), (1, (((0 : Fin 2).val : Nat) : Int)), (9, 0)] [(0, 0)] h130 Q
                  refine w_ifeq (t := 240) gz_169_156 rfl (fun u144 => ?_) (fun u144 => by exfalso; omega)
                  refine w_iload_n gz_169_240 rfl ?_
                  refine w_i2l gz_169_241 ?_
                  refine w_lstore (ls' := [(2, 151), (0, p17_0), (0, p17_1), (0, v123), (0, p17_1), (1, v123), (9, 0)]) gz_169_242 gm_169 rfl rfl rfl ?_
                  refine w_aload_n gz_169_244 rfl ?_
                  refine w_getX (v := 153) gz_169_245 is_151 rd_10 rfl (by decide) rfl ?_
                  refine w_iload_n gz_169_248 rfl ?_
                  refine w_iload_n gz_169_249 rfl ?_
                  refine w_inS (k := 0) (as := [(0, v123)]) (r := [(0, p17_0), (2, 153)]) (ls0 := [(0, v123)]) gz_169_250 gm_173 rfl rfl rfl rfl rfl rfl ?_
                  refine w_iload_n gz_173_0 rfl ?_
                  refine w_bipush gz_173_1 (by decide) ?_
                  refine w_icne (t := 10) gz_173_3 rfl (fun u146 => ?_) (fun u146 => ?_)
                  ·
                    refine w_iconst gz_173_10 (by decide) ?_
                    refine w_bret gz_173_11 gm_173 (by omega) (by omega) ?_
                    show wp l rho (d + 2) 169 253 [(2, 151), (0, p17_0), (0, p17_1), (0, v123), (0, p17_1), (1, v123), (9, 0)] [(0, 0), (0, p17_0), (2, 153)] h130 Q
                    refine w_ifeq (t := 260) gz_169_253 rfl (fun u147 => ?_) (fun u147 => by exfalso; omega)
                    refine w_iconst gz_169_260 (by decide) ?_
                    have tkA := Tkn_h130
                    refine w_iast gz_169_261 is_153 rd_52 (by omega) (by omega) (by omega) (by omega) (fun h148 fh148 => ?_)
                    have gh148 : my_fr [(10, 2), (10, 3), (10, 7), (10, 8), (52, -1), (53, -1), (54, -1)] h h148 := my_fr.up gh130 is_153 fh148 rfl
                    refine w_iinc (ls' := [(2, 151), (0, p17_0), (0, (p17_1 + 1)), (0, v123), (0, p17_1), (1, v123), (9, 0)]) gz_169_262 rfl gm_169 rfl rfl rfl ⟨by omega, by omega⟩ ?_
                    refine w_aload_n gz_169_265 rfl ?_
                    refine w_getX (v := 155) gz_169_266 is_151 rd_10 rfl (by decide) rfl ?_
                    refine w_iload_n gz_169_269 rfl ?_
                    refine w_lload gz_169_270 rfl ?_
                    refine w_last gz_169_272 is_155 rd_54 (by omega) (by omega) (fun h150 fh150 => ?_)
                    have gh150 : my_fr [(10, 2), (10, 3), (10, 7), (10, 8), (52, -1), (53, -1), (54, -1)] h h150 := my_fr.up gh148 is_155 fh150 rfl
                    have tN : h150 153 p17_0 ≠ 0 ∧ (h150 153 p17_0 = 2 → 0 ≤ h150 155 p17_0 ∧ h150 155 p17_0 ≤ 999) := by rw [my_up_ne (x := 153) (i := p17_0) fh150 (by omega), my_up_self fh148, my_up_self fh150]; omega
                    have Tkn_h150t151 : Tkn h150 (p17_0 + 1) := by
                      intro i a b
                      rcases (by omega : i = p17_0 ∨ i < p17_0) with q | q
                      · subst q; exact tN
                      · rw [my_up_ne (x := 153) (i := i) fh150 (by omega), my_up_ne (x := 153) (i := i) fh148 (by omega), my_up_ne (x := 155) (i := i) fh150 (by omega), my_up_ne (x := 155) (i := i) fh148 (by omega)]
                        exact tkA i a q
                    have mA : Mcu ((h 152, h 151 2) : (Int → Int) × Int) h150 (p17_0 + 1) (p17_1 + 1) := by first | exact Mcu_add (τ := ((h 152, h 151 2) : (Int → Int) × Int)) (κ := 3) mc_17_0 (by omega) rfl (tk_mk (t := h 152) (n := h 151 2) (c := 3) (by omega) (by omega) (by omega) (by omega) (by omega) (by omega) (fun i a b => by rw [show i = p17_1 by omega]; omega) (fun a b => by omega) (fun a => by omega) (by omega)) (by decide) (by rw [my_up_ne fh150 (by omega), my_up_self fh148]) (by rw [my_up_ne fh150 (by omega), my_up_ne fh148 (by omega), my_up_self fh130]) (my_up_self fh150) (fun i q => by rw [my_up_ne fh150 (by omega), my_up_ne fh148 (by omega), my_up_ne fh130 (by omega)]) (fun i q => by rw [my_up_ne fh150 (by omega), my_up_ne fh148 (by omega), my_up_ne fh130 (by omega)]) (fun i q => by rw [my_up_ne fh150 (by omega), my_up_ne fh148 (by omega), my_up_ne fh130 (by omega)]) (fun z => absurd z (by decide)) (fun z => absurd z (by decide)) (fun _ => by omega) | exact Mcu_add (τ := ((h 152, h 151 2) : (Int → Int) × Int)) (κ := 4) mc_17_0 (by omega) rfl (tk_mk (t := h 152) (n := h 151 2) (c := 4) (by omega) (by omega) (by omega) (by omega) (by omega) (by omega) (fun i a b => by rw [show i = p17_1 by omega]; omega) (fun a b => by omega) (fun a => by omega) (by omega)) (by decide) (by rw [my_up_ne fh150 (by omega), my_up_self fh148]) (by rw [my_up_ne fh150 (by omega), my_up_ne fh148 (by omega), my_up_self fh130]) (my_up_self fh150) (fun i q => by rw [my_up_ne fh150 (by omega), my_up_ne fh148 (by omega), my_up_ne fh130 (by omega)]) (fun i q => by rw [my_up_ne fh150 (by omega), my_up_ne fh148 (by omega), my_up_ne fh130 (by omega)]) (fun i q => by rw [my_up_ne fh150 (by omega), my_up_ne fh148 (by omega), my_up_ne fh130 (by omega)]) (fun z => absurd z (by decide)) (fun z => absurd z (by decide)) (fun _ => by omega)
                    refine w_iinc (ls' := [(2, 151), (0, (p17_0 + 1)), (0, (p17_1 + 1)), (0, v123), (0, p17_1), (1, v123), (9, 0)]) gz_169_273 rfl gm_169 rfl rfl rfl ⟨by omega, by omega⟩ ?_
                    refine w_goto (t := 17) gz_169_276 rfl ?_
                    have ce152 : h150 151 3 = v109 := ((my_up_role fh150 is_151 is_155 rfl).trans ((my_up_role fh148 is_151 is_153 rfl).trans ((my_up_role fh130 is_151 is_154 rfl).trans ev109.symm)))
                    have t3 : ∀ j : Int, h150 153 j = h148 153 j := fun j => ((my_up_role fh150 is_153 is_155 rfl).trans (rfl : h148 153 j = h148 153 j))
                    have t5 : ∀ j : Int, h150 155 j = h150 155 j := fun j => rfl
                    refine w_weak (ls' := [(2, 151), (0, (p17_0 + 1)), (0, (p17_1 + 1)), (9, 0), (9, 0), (9, 0), (9, 0)]) (wk_e (wk_e (wk_e (wk_9 (wk_9 (wk_9 (wk_9 wk_n))))))) ?_
                    exact ih_17_0 ((p17_0 + 1)) ((p17_1 + 1)) (v109) h150 (gh150) (by omega) (by omega) (by omega) (by omega) (by omega) (by omega) (by omega) (((my_up_role fh150 is_151 is_155 rfl).trans ((my_up_role fh148 is_151 is_153 rfl).trans ((my_up_role fh130 is_151 is_154 rfl).trans c151_2_17_0))).trans (by omega)) (((my_up_role fh150 is_151 is_155 rfl).trans ((my_up_role fh148 is_151 is_153 rfl).trans ((my_up_role fh130 is_151 is_154 rfl).trans ev109.symm))).trans (by omega)) Tkn_h150t151 (by first | assumption | omega | (subst_vars; omega) | omega) (by first | assumption | omega | (subst_vars; omega) | omega) (by first | exact mA | exact Mcu_b mc_17_0 (by omega) (by show _ < h 151 2; omega) (by show h 152 _ = 10 ∨ h 152 _ = 32; omega) | exact Mcu_cg mc_17_0 (fun i q => t3 i) (fun i q => my_up_ne f62 (by omega)) (fun i q => t5 i) | exact mc_70_0 | exact mc_159_0 | exact Mcu_0 (by omega) (by omega) (by show 0 ≤ h 151 2; omega) | omega) (by omega) (by omega)
                  ·
                    refine w_iconst gz_173_6 (by decide) ?_
                    refine w_goto (t := 11) gz_173_7 rfl ?_
                    refine w_bret gz_173_11 gm_173 (by omega) (by omega) ?_
                    show wp l rho (d + 2) 169 253 [(2, 151), (0, p17_0), (0, p17_1), (0, v123), (0, p17_1), (1, v123), (9, 0)] [(0, 1), (0, p17_0), (2, 153)] h130 Q
                    refine w_ifeq (t := 260) gz_169_253 rfl (fun u153 => by exfalso; omega) (fun u153 => ?_)
                    refine w_iconst gz_169_256 (by decide) ?_
                    refine w_goto (t := 261) gz_169_257 rfl ?_
                    have tkA := Tkn_h130
                    refine w_iast gz_169_261 is_153 rd_52 (by omega) (by omega) (by omega) (by omega) (fun h154 fh154 => ?_)
                    have gh154 : my_fr [(10, 2), (10, 3), (10, 7), (10, 8), (52, -1), (53, -1), (54, -1)] h h154 := my_fr.up gh130 is_153 fh154 rfl
                    refine w_iinc (ls' := [(2, 151), (0, p17_0), (0, (p17_1 + 1)), (0, v123), (0, p17_1), (1, v123), (9, 0)]) gz_169_262 rfl gm_169 rfl rfl rfl ⟨by omega, by omega⟩ ?_
                    refine w_aload_n gz_169_265 rfl ?_
                    refine w_getX (v := 155) gz_169_266 is_151 rd_10 rfl (by decide) rfl ?_
                    refine w_iload_n gz_169_269 rfl ?_
                    refine w_lload gz_169_270 rfl ?_
                    refine w_last gz_169_272 is_155 rd_54 (by omega) (by omega) (fun h156 fh156 => ?_)
                    have gh156 : my_fr [(10, 2), (10, 3), (10, 7), (10, 8), (52, -1), (53, -1), (54, -1)] h h156 := my_fr.up gh154 is_155 fh156 rfl
                    have tN : h156 153 p17_0 ≠ 0 ∧ (h156 153 p17_0 = 2 → 0 ≤ h156 155 p17_0 ∧ h156 155 p17_0 ≤ 999) := by rw [my_up_ne (x := 153) (i := p17_0) fh156 (by omega), my_up_self fh154, my_up_self fh156]; omega
                    have Tkn_h156t157 : Tkn h156 (p17_0 + 1) := by
                      intro i a b
                      rcases (by omega : i = p17_0 ∨ i < p17_0) with q | q
                      · subst q; exact tN
                      · rw [my_up_ne (x := 153) (i := i) fh156 (by omega), my_up_ne (x := 153) (i := i) fh154 (by omega), my_up_ne (x := 155) (i := i) fh156 (by omega), my_up_ne (x := 155) (i := i) fh154 (by omega)]
                        exact tkA i a q
                    have mA : Mcu ((h 152, h 151 2) : (Int → Int) × Int) h156 (p17_0 + 1) (p17_1 + 1) := by first | exact Mcu_add (τ := ((h 152, h 151 2) : (Int → Int) × Int)) (κ := 3) mc_17_0 (by omega) rfl (tk_mk (t := h 152) (n := h 151 2) (c := 3) (by omega) (by omega) (by omega) (by omega) (by omega) (by omega) (fun i a b => by rw [show i = p17_1 by omega]; omega) (fun a b => by omega) (fun a => by omega) (by omega)) (by decide) (by rw [my_up_ne fh156 (by omega), my_up_self fh154]) (by rw [my_up_ne fh156 (by omega), my_up_ne fh154 (by omega), my_up_self fh130]) (my_up_self fh156) (fun i q => by rw [my_up_ne fh156 (by omega), my_up_ne fh154 (by omega), my_up_ne fh130 (by omega)]) (fun i q => by rw [my_up_ne fh156 (by omega), my_up_ne fh154 (by omega), my_up_ne fh130 (by omega)]) (fun i q => by rw [my_up_ne fh156 (by omega), my_up_ne fh154 (by omega), my_up_ne fh130 (by omega)]) (fun z => absurd z (by decide)) (fun z => absurd z (by decide)) (fun _ => by omega) | exact Mcu_add (τ := ((h 152, h 151 2) : (Int → Int) × Int)) (κ := 4) mc_17_0 (by omega) rfl (tk_mk (t := h 152) (n := h 151 2) (c := 4) (by omega) (by omega) (by omega) (by omega) (by omega) (by omega) (fun i a b => by rw [show i = p17_1 by omega]; omega) (fun a b => by omega) (fun a => by omega) (by omega)) (by decide) (by rw [my_up_ne fh156 (by omega), my_up_self fh154]) (by rw [my_up_ne fh156 (by omega), my_up_ne fh154 (by omega), my_up_self fh130]) (my_up_self fh156) (fun i q => by rw [my_up_ne fh156 (by omega), my_up_ne fh154 (by omega), my_up_ne fh130 (by omega)]) (fun i q => by rw [my_up_ne fh156 (by omega), my_up_ne fh154 (by omega), my_up_ne fh130 (by omega)]) (fun i q => by rw [my_up_ne fh156 (by omega), my_up_ne fh154 (by omega), my_up_ne fh130 (by omega)]) (fun z => absurd z (by decide)) (fun z => absurd z (by decide)) (fun _ => by omega)
                    refine w_iinc (ls' := [(2, 151), (0, (p17_0 + 1)), (0, (p17_1 + 1)), (0, v123), (0, p17_1), (1, v123), (9, 0)]) gz_169_273 rfl gm_169 rfl rfl rfl ⟨by omega, by omega⟩ ?_
                    refine w_goto (t := 17) gz_169_276 rfl ?_
                    have ce158 : h156 151 3 = v109 := ((my_up_role fh156 is_151 is_155 rfl).trans ((my_up_role fh154 is_151 is_153 rfl).trans ((my_up_role fh130 is_151 is_154 rfl).trans ev109.symm)))
                    have t3 : ∀ j : Int, h156 153 j = h154 153 j := fun j => ((my_up_role fh156 is_153 is_155 rfl).trans (rfl : h154 153 j = h154 153 j))
                    have t5 : ∀ j : Int, h156 155 j = h156 155 j := fun j => rfl
                    refine w_weak (ls' := [(2, 151), (0, (p17_0 + 1)), (0, (p17_1 + 1)), (9, 0), (9, 0), (9, 0), (9, 0)]) (wk_e (wk_e (wk_e (wk_9 (wk_9 (wk_9 (wk_9 wk_n))))))) ?_
                    exact ih_17_0 ((p17_0 + 1)) ((p17_1 + 1)) (v109) h156 (gh156) (by omega) (by omega) (by omega) (by omega) (by omega) (by omega) (by omega) (((my_up_role fh156 is_151 is_155 rfl).trans ((my_up_role fh154 is_151 is_153 rfl).trans ((my_up_role fh130 is_151 is_154 rfl).trans c151_2_17_0))).trans (by omega)) (((my_up_role fh156 is_151 is_155 rfl).trans ((my_up_role fh154 is_151 is_153 rfl).trans ((my_up_role fh130 is_151 is_154 rfl).trans ev109.symm))).trans (by omega)) Tkn_h156t157 (by first | assumption | omega | (subst_vars; omega) | omega) (by first | assumption | omega | (subst_vars; omega) | omega) (by first | exact mA | exact Mcu_b mc_17_0 (by omega) (by show _ < h 151 2; omega) (by show h 152 _ = 10 ∨ h 152 _ = 32; omega) | exact Mcu_cg mc_17_0 (fun i q => t3 i) (fun i q => my_up_ne f62 (by omega)) (fun i q => t5 i) | exact mc_70_0 | exact mc_159_0 | exact Mcu_0 (by omega) (by omega) (by show 0 ≤ h 151 2; omega) | omega) (by omega) (by omega)
                ·
                  refine w_iconst gz_172_12 (by decide) ?_
                  refine w_goto (t := 17) gz_172_13 rfl ?_
                  refine w_bret gz_172_17 gm_172 (by omega) (by omega) ?_
                  show wp l rho (d + 2) 169 156 [(2, 151), (0, p17_0), (0, p17_1), (0, v123), (0, p17_1), (1, (((0 : Fin 2).val : Nat) : Int)), (9, 0)] [(0, 1)] h130 Q
                  refine w_ifeq (t := 240) gz_169_156 rfl (fun u159 => by exfalso; omega) (fun u159 => ?_)
                  have ce160 : h130 151 3 = v109 := ((my_up_role fh130 is_151 is_154 rfl).trans ev109.symm)
                  have tp : ∀ j : Int, h130 152 j = h17_0 152 j := fun j => ((my_up_role fh130 is_152 is_154 rfl).trans (rfl : h17_0 152 j = h17_0 152 j))
                  have t3 : ∀ j : Int, h130 153 j = h17_0 153 j := fun j => ((my_up_role fh130 is_153 is_154 rfl).trans (rfl : h17_0 153 j = h17_0 153 j))
                  have t5 : ∀ j : Int, h130 155 j = h17_0 155 j := fun j => ((my_up_role fh130 is_155 is_154 rfl).trans (rfl : h17_0 155 j = h17_0 155 j))
                  exact J159_0 (1001) (p17_1) (v123) ((((0 : Fin 2).val : Nat) : Int)) h130 (gh130) (by omega) (by omega) (by omega) (by omega) (by omega) (by omega) (by omega) (by omega) (by omega) (by omega) (((my_up_role fh130 is_151 is_154 rfl).trans c151_2_17_0).trans (by omega)) (((my_up_role fh130 is_151 is_154 rfl).trans ev109.symm).trans (by omega)) Tkn_h130 (by first | assumption | omega | (subst_vars; omega) | omega) (by first | assumption | omega | (subst_vars; omega) | omega) (by first | (intro q; rw [tp]; omega) | omega | (intro q; omega) | omega) (by first | assumption | omega | (subst_vars; omega) | omega) (by first | assumption | omega | (subst_vars; omega) | omega) (by omega) (by first | exact mA | exact Mcu_b mc_17_0 (by omega) (by show _ < h 151 2; omega) (by show h 152 _ = 10 ∨ h 152 _ = 32; omega) | exact Mcu_cg mc_17_0 (fun i q => t3 i) (fun i q => my_up_ne f62 (by omega)) (fun i q => t5 i) | exact mc_70_0 | exact mc_159_0 | exact Mcu_0 (by omega) (by omega) (by show 0 ≤ h 151 2; omega) | omega) (by first | exact my_up_self f62 | exact pl_70_0 | exact pl_159_0 | omega) (by first | omega | exact nb_70_0 | exact nb_159_0 | omega) (by first | (intro i a b; exfalso; omega) | (intro i a b; rcases (by omega : i = p159_0 ∨ i < p159_0) with q | q <;> first | exact rn_70_0 i a q | exact rn_159_0 i a q | (rw [q]; omega)) | omega) (by first | exact k0_70_0 | exact k0_159_0 | omega) (by omega) (by first | exact td_0 (by omega) rfl | exact td_s dv_159_0 (by omega) (by omega) (by omega) (by omega) | exact td_3 dv_159_0 (by omega) (by omega) (by omega) | omega) (by omega)
            ·
              refine w_iload_n gz_170_6 rfl ?_
              refine w_bipush gz_170_7 (by decide) ?_
              refine w_icgt (t := 16) gz_170_9 rfl (fun u161 => ?_) (fun u161 => ?_)
              ·
                refine w_iconst gz_170_16 (by decide) ?_
                refine w_bret gz_170_17 gm_170 (by omega) (by omega) ?_
                show wp l rho (d + 2) 169 67 [(2, 151), (0, p17_0), (0, p17_1), (0, v123), (0, p17_1), (1, (((0 : Fin 2).val : Nat) : Int)), (9, 0)] [(0, 0)] h130 Q
                refine w_ifeq (t := 152) gz_169_67 rfl (fun u162 => ?_) (fun u162 => by exfalso; omega)
                refine w_iload_n gz_169_152 rfl ?_
                refine w_inS (k := 0) (as := [(0, v123)]) (r := []) (ls0 := [(0, v123)]) gz_169_153 gm_172 rfl rfl rfl rfl rfl rfl ?_
                refine w_iload_n gz_172_0 rfl ?_
                refine w_bipush gz_172_1 (by decide) ?_
                refine w_iclt (t := 16) gz_172_3 rfl (fun u163 => by exfalso; omega) (fun u163 => ?_)
                refine w_iload_n gz_172_6 rfl ?_
                refine w_bipush gz_172_7 (by decide) ?_
                refine w_icgt (t := 16) gz_172_9 rfl (fun u164 => ?_) (fun u164 => by exfalso; omega)
                refine w_iconst gz_172_16 (by decide) ?_
                refine w_bret gz_172_17 gm_172 (by omega) (by omega) ?_
                show wp l rho (d + 2) 169 156 [(2, 151), (0, p17_0), (0, p17_1), (0, v123), (0, p17_1), (1, (((0 : Fin 2).val : Nat) : Int)), (9, 0)] [(0, 0)] h130 Q
                refine w_ifeq (t := 240) gz_169_156 rfl (fun u165 => ?_) (fun u165 => by exfalso; omega)
                refine w_iload_n gz_169_240 rfl ?_
                refine w_i2l gz_169_241 ?_
                refine w_lstore (ls' := [(2, 151), (0, p17_0), (0, p17_1), (0, v123), (0, p17_1), (1, v123), (9, 0)]) gz_169_242 gm_169 rfl rfl rfl ?_
                refine w_aload_n gz_169_244 rfl ?_
                refine w_getX (v := 153) gz_169_245 is_151 rd_10 rfl (by decide) rfl ?_
                refine w_iload_n gz_169_248 rfl ?_
                refine w_iload_n gz_169_249 rfl ?_
                refine w_inS (k := 0) (as := [(0, v123)]) (r := [(0, p17_0), (2, 153)]) (ls0 := [(0, v123)]) gz_169_250 gm_173 rfl rfl rfl rfl rfl rfl ?_
                refine w_iload_n gz_173_0 rfl ?_
                refine w_bipush gz_173_1 (by decide) ?_
                refine w_icne (t := 10) gz_173_3 rfl (fun u167 => ?_) (fun u167 => by exfalso; omega)
                refine w_iconst gz_173_10 (by decide) ?_
                refine w_bret gz_173_11 gm_173 (by omega) (by omega) ?_
                show wp l rho (d + 2) 169 253 [(2, 151), (0, p17_0), (0, p17_1), (0, v123), (0, p17_1), (1, v123), (9, 0)] [(0, 0), (0, p17_0), (2, 153)] h130 Q
                refine w_ifeq (t := 260) gz_169_253 rfl (fun u168 => ?_) (fun u168 => by exfalso; omega)
                refine w_iconst gz_169_260 (by decide) ?_
                have tkA := Tkn_h130
                refine w_iast gz_169_261 is_153 rd_52 (by omega) (by omega) (by omega) (by omega) (fun h169 fh169 => ?_)
                have gh169 : my_fr [(10, 2), (10, 3), (10, 7), (10, 8), (52, -1), (53, -1), (54, -1)] h h169 := my_fr.up gh130 is_153 fh169 rfl
                refine w_iinc (ls' := [(2, 151), (0, p17_0), (0, (p17_1 + 1)), (0, v123), (0, p17_1), (1, v123), (9, 0)]) gz_169_262 rfl gm_169 rfl rfl rfl ⟨by omega, by omega⟩ ?_
                refine w_aload_n gz_169_265 rfl ?_
                refine w_getX (v := 155) gz_169_266 is_151 rd_10 rfl (by decide) rfl ?_
                refine w_iload_n gz_169_269 rfl ?_
                refine w_lload gz_169_270 rfl ?_
                refine w_last gz_169_272 is_155 rd_54 (by omega) (by omega) (fun h171 fh171 => ?_)
                have gh171 : my_fr [(10, 2), (10, 3), (10, 7), (10, 8), (52, -1), (53, -1), (54, -1)] h h171 := my_fr.up gh169 is_155 fh171 rfl
                have tN : h171 153 p17_0 ≠ 0 ∧ (h171 153 p17_0 = 2 → 0 ≤ h171 155 p17_0 ∧ h171 155 p17_0 ≤ 999) := by rw [my_up_ne (x := 153) (i := p17_0) fh171 (by omega), my_up_self fh169, my_up_self fh171]; omega
                have Tkn_h171t172 : Tkn h171 (p17_0 + 1) := by
                  intro i a b
                  rcases (by omega : i = p17_0 ∨ i < p17_0) with q | q
                  · subst q; exact tN
                  · rw [my_up_ne (x := 153) (i := i) fh171 (by omega), my_up_ne (x := 153) (i := i) fh169 (by omega), my_up_ne (x := 155) (i := i) fh171 (by omega), my_up_ne (x := 155) (i := i) fh169 (by omega)]
                    exact tkA i a q
                have mA : Mcu ((h 152, h 151 2) : (Int → Int) × Int) h171 (p17_0 + 1) (p17_1 + 1) := by first | exact Mcu_add (τ := ((h 152, h 151 2) : (Int → Int) × Int)) (κ := 3) mc_17_0 (by omega) rfl (tk_mk (t := h 152) (n := h 151 2) (c := 3) (by omega) (by omega) (by omega) (by omega) (by omega) (by omega) (fun i a b => by rw [show i = p17_1 by omega]; omega) (fun a b => by omega) (fun a => by omega) (by omega)) (by decide) (by rw [my_up_ne fh171 (by omega), my_up_self fh169]) (by rw [my_up_ne fh171 (by omega), my_up_ne fh169 (by omega), my_up_self fh130]) (my_up_self fh171) (fun i q => by rw [my_up_ne fh171 (by omega), my_up_ne fh169 (by omega), my_up_ne fh130 (by omega)]) (fun i q => by rw [my_up_ne fh171 (by omega), my_up_ne fh169 (by omega), my_up_ne fh130 (by omega)]) (fun i q => by rw [my_up_ne fh171 (by omega), my_up_ne fh169 (by omega), my_up_ne fh130 (by omega)]) (fun z => absurd z (by decide)) (fun z => absurd z (by decide)) (fun _ => by omega) | exact Mcu_add (τ := ((h 152, h 151 2) : (Int → Int) × Int)) (κ := 4) mc_17_0 (by omega) rfl (tk_mk (t := h 152) (n := h 151 2) (c := 4) (by omega) (by omega) (by omega) (by omega) (by omega) (by omega) (fun i a b => by rw [show i = p17_1 by omega]; omega) (fun a b => by omega) (fun a => by omega) (by omega)) (by decide) (by rw [my_up_ne fh171 (by omega), my_up_self fh169]) (by rw [my_up_ne fh171 (by omega), my_up_ne fh169 (by omega), my_up_self fh130]) (my_up_self fh171) (fun i q => by rw [my_up_ne fh171 (by omega), my_up_ne fh169 (by omega), my_up_ne fh130 (by omega)]) (fun i q => by rw [my_up_ne fh171 (by omega), my_up_ne fh169 (by omega), my_up_ne fh130 (by omega)]) (fun i q => by rw [my_up_ne fh171 (by omega), my_up_ne fh169 (by omega), my_up_ne fh130 (by omega)]) (fun z => absurd z (by decide)) (fun z => absurd z (by decide)) (fun _ => by omega)
                refine w_iinc (ls' := [(2, 151), (0, (p17_0 + 1)), (0, (p17_1 + 1)), (0, v123), (0, p17_1), (1, v123), (9, 0)]) gz_169_273 rfl gm_169 rfl rfl rfl ⟨by omega, by omega⟩ ?_
                refine w_goto (t := 17) gz_169_276 rfl ?_
                have ce173 : h171 151 3 = v109 := ((my_up_role fh171 is_151 is_155 rfl).trans ((my_up_role fh169 is_151 is_153 rfl).trans ((my_up_role fh130 is_151 is_154 rfl).trans ev109.symm)))
                have t3 : ∀ j : Int, h171 153 j = h169 153 j := fun j => ((my_up_role fh171 is_153 is_155 rfl).trans (rfl : h169 153 j = h169 153 j))
                have t5 : ∀ j : Int, h171 155 j = h171 155 j := fun j => rfl
                refine w_weak (ls' := [(2, 151), (0, (p17_0 + 1)), (0, (p17_1 + 1)), (9, 0), (9, 0), (9, 0), (9, 0)]) (wk_e (wk_e (wk_e (wk_9 (wk_9 (wk_9 (wk_9 wk_n))))))) ?_
                exact ih_17_0 ((p17_0 + 1)) ((p17_1 + 1)) (v109) h171 (gh171) (by omega) (by omega) (by omega) (by omega) (by omega) (by omega) (by omega) (((my_up_role fh171 is_151 is_155 rfl).trans ((my_up_role fh169 is_151 is_153 rfl).trans ((my_up_role fh130 is_151 is_154 rfl).trans c151_2_17_0))).trans (by omega)) (((my_up_role fh171 is_151 is_155 rfl).trans ((my_up_role fh169 is_151 is_153 rfl).trans ((my_up_role fh130 is_151 is_154 rfl).trans ev109.symm))).trans (by omega)) Tkn_h171t172 (by first | assumption | omega | (subst_vars; omega) | omega) (by first | assumption | omega | (subst_vars; omega) | omega) (by first | exact mA | exact Mcu_b mc_17_0 (by omega) (by show _ < h 151 2; omega) (by show h 152 _ = 10 ∨ h 152 _ = 32; omega) | exact Mcu_cg mc_17_0 (fun i q => t3 i) (fun i q => my_up_ne f62 (by omega)) (fun i q => t5 i) | exact mc_70_0 | exact mc_159_0 | exact Mcu_0 (by omega) (by omega) (by show 0 ≤ h 151 2; omega) | omega) (by omega) (by omega)
              ·
                refine w_iconst gz_170_12 (by decide) ?_
                refine w_goto (t := 17) gz_170_13 rfl ?_
                refine w_bret gz_170_17 gm_170 (by omega) (by omega) ?_
                show wp l rho (d + 2) 169 67 [(2, 151), (0, p17_0), (0, p17_1), (0, v123), (0, p17_1), (1, (((0 : Fin 2).val : Nat) : Int)), (9, 0)] [(0, 1)] h130 Q
                refine w_ifeq (t := 152) gz_169_67 rfl (fun u174 => by exfalso; omega) (fun u174 => ?_)
                have ce175 : h130 151 3 = v109 := ((my_up_role fh130 is_151 is_154 rfl).trans ev109.symm)
                have tp : ∀ j : Int, h130 152 j = h17_0 152 j := fun j => ((my_up_role fh130 is_152 is_154 rfl).trans (rfl : h17_0 152 j = h17_0 152 j))
                have t3 : ∀ j : Int, h130 153 j = h17_0 153 j := fun j => ((my_up_role fh130 is_153 is_154 rfl).trans (rfl : h17_0 153 j = h17_0 153 j))
                have t5 : ∀ j : Int, h130 155 j = h17_0 155 j := fun j => ((my_up_role fh130 is_155 is_154 rfl).trans (rfl : h17_0 155 j = h17_0 155 j))
                exact J70_0 (1001) (p17_1) (v123) ((((0 : Fin 2).val : Nat) : Int)) h130 (gh130) (by omega) (by omega) (by omega) (by omega) (by omega) (by omega) (by omega) (by omega) (by omega) (by omega) (((my_up_role fh130 is_151 is_154 rfl).trans c151_2_17_0).trans (by omega)) (((my_up_role fh130 is_151 is_154 rfl).trans ev109.symm).trans (by omega)) Tkn_h130 (by first | assumption | omega | (subst_vars; omega) | omega) (by first | assumption | omega | (subst_vars; omega) | omega) (by first | (intro q; rw [tp]; omega) | omega | (intro q; omega) | omega) (by first | assumption | omega | (subst_vars; omega) | omega) (by first | assumption | omega | (subst_vars; omega) | omega) (by first | exact mA | exact Mcu_b mc_17_0 (by omega) (by show _ < h 151 2; omega) (by show h 152 _ = 10 ∨ h 152 _ = 32; omega) | exact Mcu_cg mc_17_0 (fun i q => t3 i) (fun i q => my_up_ne f62 (by omega)) (fun i q => t5 i) | exact mc_70_0 | exact mc_159_0 | exact Mcu_0 (by omega) (by omega) (by show 0 ≤ h 151 2; omega) | omega) (by first | exact my_up_self f62 | exact pl_70_0 | exact pl_159_0 | omega) (by first | omega | exact nb_70_0 | exact nb_159_0 | omega) (by first | (intro i a b; exfalso; omega) | (intro i a b; rcases (by omega : i = p70_0 ∨ i < p70_0) with q | q <;> first | exact rn_70_0 i a q | exact rn_159_0 i a q | (rw [q]; omega)) | omega) (by first | exact k0_70_0 | exact k0_159_0 | omega) (by omega) (by first | exact tw_0 (by omega) rfl | exact tw_s wv_70_0 (by omega) (by omega) (by omega) (by omega) | exact tw_8 wv_70_0 (by omega) (by omega) (by omega) | omega) (by omega)
          ·
            refine w_iinc (ls' := [(2, 151), (0, p17_0), (0, (p17_1 + 1)), (0, v123), (9, 0), (9, 0), (9, 0)]) gz_169_44 rfl gm_169 rfl rfl rfl ⟨by omega, by omega⟩ ?_
            refine w_goto (t := 17) gz_169_47 rfl ?_
            have ce176 : h17_0 151 3 = v109 := ev109.symm
            have t3 : ∀ j : Int, h17_0 153 j = h17_0 153 j := fun _ => rfl
            have t5 : ∀ j : Int, h17_0 155 j = h17_0 155 j := fun _ => rfl
            refine w_weak (ls' := [(2, 151), (0, p17_0), (0, (p17_1 + 1)), (9, 0), (9, 0), (9, 0), (9, 0)]) (wk_e (wk_e (wk_e (wk_9 (wk_9 (wk_9 (wk_9 wk_n))))))) ?_
            exact ih_17_0 (p17_0) ((p17_1 + 1)) (v109) h17_0 (gh_17_0) (by omega) (by omega) (by omega) (by omega) (by omega) (by omega) (by omega) (c151_2_17_0.trans (by omega)) (ev109.symm.trans (by omega)) n_Tkn_17_0 (by first | assumption | omega | (subst_vars; omega) | omega) (by first | assumption | omega | (subst_vars; omega) | omega) (by first | exact mA | exact Mcu_b mc_17_0 (by omega) (by show _ < h 151 2; omega) (by show h 152 _ = 10 ∨ h 152 _ = 32; omega) | exact Mcu_cg mc_17_0 (fun i q => t3 i) (fun i q => my_up_ne f62 (by omega)) (fun i q => t5 i) | exact mc_70_0 | exact mc_159_0 | exact Mcu_0 (by omega) (by omega) (by show 0 ≤ h 151 2; omega) | omega) (by omega) (by omega)
  refine w_aload_n gz_169_0 rfl ?_
  refine w_aload_n gz_169_1 rfl ?_
  refine v_getI (j := 2) gz_169_2 rfl is_151 rd_10 rfl (fun v177 ev177 pv177 qv177 => ?_)
  refine v_putI (j := 3) gz_169_5 rfl is_151 rd_10 rfl (by omega) (by omega) rfl (fun h178 fh178 => ?_)
  have gh178 : my_fr [(10, 2), (10, 3), (10, 7), (10, 8), (52, -1), (53, -1), (54, -1)] h h178 := my_fr.up my_fr.rf is_151 fh178 rfl
  have Tkn_h178 : Tkn h178 0 := Tkn_ag (my_ag.up fh178 is_151 rfl) (fun i a b => absurd b (by omega))
  refine w_aload_n gz_169_8 rfl ?_
  refine w_iconst gz_169_9 (by decide) ?_
  refine v_putI (j := 2) gz_169_10 rfl is_151 rd_10 rfl (by omega) (by omega) rfl (fun h179 fh179 => ?_)
  have gh179 : my_fr [(10, 2), (10, 3), (10, 7), (10, 8), (52, -1), (53, -1), (54, -1)] h h179 := my_fr.up gh178 is_151 fh179 rfl
  have Tkn_h179 : Tkn h179 0 := Tkn_ag (my_ag.up fh179 is_151 rfl) Tkn_h178
  refine w_iconst gz_169_13 (by decide) ?_
  refine w_istore_n (ls' := [(2, 151), (0, 0), (9, 0), (9, 0), (9, 0), (9, 0), (9, 0)]) gz_169_14 gm_169 rfl rfl rfl ?_
  refine w_iconst gz_169_15 (by decide) ?_
  refine w_istore_n (ls' := [(2, 151), (0, 0), (0, 0), (9, 0), (9, 0), (9, 0), (9, 0)]) gz_169_16 gm_169 rfl rfl rfl ?_
  have ce180 : h179 151 3 = v177 := ((my_up_fld fh179 (by decide)).trans (my_up_self fh178))
  have t3 : ∀ j : Int, h179 153 j = h 153 j := fun j => ((my_up_role fh179 is_153 is_151 rfl).trans ((my_up_role fh178 is_153 is_151 rfl).trans (rfl : h 153 j = h 153 j)))
  have t5 : ∀ j : Int, h179 155 j = h 155 j := fun j => ((my_up_role fh179 is_155 is_151 rfl).trans ((my_up_role fh178 is_155 is_151 rfl).trans (rfl : h 155 j = h 155 j)))
  exact J17_0 (1001) (0) (0) (v177) h179 (gh179) (by omega) (by omega) (by omega) (by omega) (by omega) (by omega) (by omega) ((my_up_self fh179).trans (by omega)) (((my_up_fld fh179 (by decide)).trans (my_up_self fh178)).trans (by omega)) Tkn_h179 (by first | assumption | omega | (subst_vars; omega) | omega) (by first | assumption | omega | (subst_vars; omega) | omega) (by first | exact mA | exact Mcu_b mc_17_0 (by omega) (by show _ < h 151 2; omega) (by show h 152 _ = 10 ∨ h 152 _ = 32; omega) | exact Mcu_cg mc_17_0 (fun i q => t3 i) (fun i q => my_up_ne f62 (by omega)) (fun i q => t5 i) | exact mc_70_0 | exact mc_159_0 | exact Mcu_0 (by omega) (by omega) (by show 0 ≤ h 151 2; omega) | omega) (by omega) (by omega)
end MYNModel_cutAll9
