/-! contracts, printed by wip/gen/gy.py -/
section MYNModel_isLeft5
theorem c_Model_isLeft5 {l : Launch} {rho : Nat → Int32} {d : Nat} {h : my_H} {Q : my_H → my_V → Prop} {x1 x2 x3 : Int} (a1 : 0 ≤ x1) (b1 : x1 ≤ 15) (a2 : 0 ≤ x2) (b2 : x2 ≤ 41) (a3 : 0 ≤ x3) (b3 : x3 ≤ 9) (pk : Pk3 h x2 (h 151 27)) (pj : h 168 x2 = 4 → 0 ≤ h 170 x2 ∧ h 170 x2 ≤ 2 ∧ 1 ≤ h 157 (h 170 x2) ∧ h 151 27 + h 157 (h 170 x2) ≤ 9) (k0 : ∀ (h' : my_H), my_fr [(81, -1), (82, -1), (83, -1), (84, -1)] h h' → RwO h h' x3 → LfN h x1 x2 x3 → Q h' (0, 0)) (k1 : ∀ (h' : my_H), my_fr [(81, -1), (82, -1), (83, -1), (84, -1)] h h' → RwN h h' x3 (h 151 27) (wl h x2 (h 151 27)) → RwO h h' x3 → LfY h h' x1 x2 x3 → Q h' (0, 1)) : wp l rho (d + 2) 196 0 [(2, 151), (0, x1), (0, x2), (0, x3), (9, 0), (9, 0)] [] h Q := by
  refine v_know (x := 151) (j := 27) (b := 27) rfl is_151 rd_10 rfl (fun k151_27 ek151_27 pk151_27 qk151_27 => ?_)
  refine v_knowA (x := 162) is_162 rd_61 (fun kT => ?_)
  refine v_knowA (x := 163) is_163 rd_62 (fun kV => ?_)
  refine v_knowA (x := 160) is_160 rd_59 (fun kN => ?_)
  refine v_knowA (x := 157) is_157 rd_56 (fun kC => ?_)
  have T : MTy h := ⟨kV, kT, kN, kC⟩
  refine v_knowA (x := 172) is_172 rd_71 (fun kF => ?_)
  refine v_knowA (x := 169) is_169 rd_68 (fun kA => ?_)
  have J172_0 : ∀ (n : Nat) (p172_0 p172_1 : Int) (h172_0 : my_H), my_fr [(81, -1), (82, -1), (83, -1), (84, -1)] h h172_0 → 0 ≤ p172_0 → 0 ≤ p172_1 → p172_1 ≤ 8 → h172_0 151 27 = k151_27 → h 168 x2 = 3 → (∀ k : Int, 0 ≤ k → k < 8 → h172_0 184 k = h 182 (8 * x3 + k)) → (∀ c : Int, 0 ≤ c → c < p172_1 → ∃ c2 : Int, 0 ≤ c2 ∧ c2 < h 151 27 ∧ h172_0 182 (8 * x3 + c) = h 182 (8 * x3 + c2)) → RwO h h172_0 x3 → (∀ c : Int, 0 ≤ c → c < p172_1 → h172_0 182 (8 * x3 + c) = h 182 (8 * x3 + h 172 (8 * x2 + c))) → 9 - p172_1 ≤ (n : Int) → wp l rho (d + 2) 196 172 [(2, 151), (0, x1), (0, x2), (0, x3), (0, p172_0), (0, p172_1)] [] h172_0 Q := by
    intro n
    induction n with
    | zero => intro p172_0 p172_1 h172_0 gh_172_0 q0_172_0 q1_172_0 q2_172_0 c151_27_172_0 k3_172_0 ka_172_0 nw_172_0 ot_172_0 ne_172_0 hm_172_0; exfalso; omega
    | succ n ih_172_0 =>
      intro p172_0 p172_1 h172_0 gh_172_0 q0_172_0 q1_172_0 q2_172_0 c151_27_172_0 k3_172_0 ka_172_0 nw_172_0 ot_172_0 ne_172_0 hm_172_0
      refine w_iload gz_196_172 rfl ?_
      refine w_aload_n gz_196_174 rfl ?_
      refine w_getX (v := 171) gz_196_175 is_151 rd_10 rfl (by decide) rfl ?_
      refine w_iload_n gz_196_178 rfl ?_
      refine w_iald gz_196_179 is_171 rd_70 (by omega) (by omega) (fun v2 ev2 pv2 qv2 => ?_)
      have f171 : h172_0 171 x2 = h 171 x2 := my_fr.at gh_172_0 is_171 rfl
      have m8 : v2 = h 171 x2 := by omega
      refine w_icge (t := 247) gz_196_180 rfl (fun u3 => ?_) (fun u3 => ?_)
      ·
        refine w_iconst gz_196_247 (by decide) ?_
        exact w_bret gz_196_248 gm_196 (by omega) (by omega) (k1 h172_0 (gh_172_0) (by first | exact ot_172_0 | exact ot_283_0 | exact (fun _ _ => rfl) | (rw [wl_k (by omega) (by omega)]; exact RwN_rf (Int.le_refl _)) | (rw [wl_3 k3_172_0]; exact fun c c0 cw => Or.inl (nw_172_0 c c0 (by omega))) | (rw [wl_4 k4_283_0]; exact fun c c0 cw => by rcases (by omega : c < h 151 27 ∨ h 151 27 ≤ c) with q | q <;> first | exact Or.inl ⟨c, c0, q, lo_283_0 c c0 q⟩ | exact Or.inr (hi_283_0 c q (by omega))) | exact lc.1 ⟨fun z => by omega, fun z => by omega, fun z => by omega⟩ | exact lc.2 (fun z => by have z1 := z.1; have z2 := z.2.1; have z3 := z.2.2; omega) | exact Lf_sum (by omega) | exact Lf_few (by omega) k3_172_0 (fun j a b => ⟨(kF _ (by omega) (by omega)).1, pk.2.2 k3_172_0 j a (by omega) b⟩) (my_fr.at gh_172_0 is_181 rfl) (fun c a b => ne_172_0 c a (by omega)) | exact (Lf_join (g := h172_0) (v := p172_0) T (by omega) (by omega) (by omega) k4_283_0 rfl (kA x2 (by omega) (by omega)).1 (pk.1 (by omega)) rfl (pj k4_283_0).1 (pj k4_283_0).2.1 rfl (pj k4_283_0).2.2.1 vq_283_0.symm).2 hs_283_0.1 v19_283_0 hs_283_0.2 (my_fr.at gh_172_0 is_181 rfl) lo_283_0 (fun k a b => hj_283_0 k a (by omega)) | exact (Lf_join (g := h172_0) (v := p172_0) T (by omega) (by omega) (by omega) (by omega) rfl (kA x2 (by omega) (by omega)).1 (pk.1 (by omega)) rfl (pj (by omega)).1 (pj (by omega)).2.1 rfl (pj (by omega)).2.2.1 (by rw [ea]; exact e55)).1 (Or.inr (Or.inl (by omega))) | exact (Lf_join (g := h172_0) (v := p172_0) T (by omega) (by omega) (by omega) (by omega) rfl (kA x2 (by omega) (by omega)).1 (pk.1 (by omega)) rfl (pj (by omega)).1 (pj (by omega)).2.1 rfl (pj (by omega)).2.2.1 (by rw [ea]; exact e55)).1 (Or.inr (Or.inr (by rw [c78]; omega))) | omega) (by first | exact ot_172_0 | exact ot_283_0 | exact (fun _ _ => rfl) | (rw [wl_k (by omega) (by omega)]; exact RwN_rf (Int.le_refl _)) | (rw [wl_3 k3_172_0]; exact fun c c0 cw => Or.inl (nw_172_0 c c0 (by omega))) | (rw [wl_4 k4_283_0]; exact fun c c0 cw => by rcases (by omega : c < h 151 27 ∨ h 151 27 ≤ c) with q | q <;> first | exact Or.inl ⟨c, c0, q, lo_283_0 c c0 q⟩ | exact Or.inr (hi_283_0 c q (by omega))) | exact lc.1 ⟨fun z => by omega, fun z => by omega, fun z => by omega⟩ | exact lc.2 (fun z => by have z1 := z.1; have z2 := z.2.1; have z3 := z.2.2; omega) | exact Lf_sum (by omega) | exact Lf_few (by omega) k3_172_0 (fun j a b => ⟨(kF _ (by omega) (by omega)).1, pk.2.2 k3_172_0 j a (by omega) b⟩) (my_fr.at gh_172_0 is_181 rfl) (fun c a b => ne_172_0 c a (by omega)) | exact (Lf_join (g := h172_0) (v := p172_0) T (by omega) (by omega) (by omega) k4_283_0 rfl (kA x2 (by omega) (by omega)).1 (pk.1 (by omega)) rfl (pj k4_283_0).1 (pj k4_283_0).2.1 rfl (pj k4_283_0).2.2.1 vq_283_0.symm).2 hs_283_0.1 v19_283_0 hs_283_0.2 (my_fr.at gh_172_0 is_181 rfl) lo_283_0 (fun k a b => hj_283_0 k a (by omega)) | exact (Lf_join (g := h172_0) (v := p172_0) T (by omega) (by omega) (by omega) (by omega) rfl (kA x2 (by omega) (by omega)).1 (pk.1 (by omega)) rfl (pj (by omega)).1 (pj (by omega)).2.1 rfl (pj (by omega)).2.2.1 (by rw [ea]; exact e55)).1 (Or.inr (Or.inl (by omega))) | exact (Lf_join (g := h172_0) (v := p172_0) T (by omega) (by omega) (by omega) (by omega) rfl (kA x2 (by omega) (by omega)).1 (pk.1 (by omega)) rfl (pj (by omega)).1 (pj (by omega)).2.1 rfl (pj (by omega)).2.2.1 (by rw [ea]; exact e55)).1 (Or.inr (Or.inr (by rw [c78]; omega))) | omega) (by first | exact ot_172_0 | exact ot_283_0 | exact (fun _ _ => rfl) | (rw [wl_k (by omega) (by omega)]; exact RwN_rf (Int.le_refl _)) | (rw [wl_3 k3_172_0]; exact fun c c0 cw => Or.inl (nw_172_0 c c0 (by omega))) | (rw [wl_4 k4_283_0]; exact fun c c0 cw => by rcases (by omega : c < h 151 27 ∨ h 151 27 ≤ c) with q | q <;> first | exact Or.inl ⟨c, c0, q, lo_283_0 c c0 q⟩ | exact Or.inr (hi_283_0 c q (by omega))) | exact lc.1 ⟨fun z => by omega, fun z => by omega, fun z => by omega⟩ | exact lc.2 (fun z => by have z1 := z.1; have z2 := z.2.1; have z3 := z.2.2; omega) | exact Lf_sum (by omega) | exact Lf_few (by omega) k3_172_0 (fun j a b => ⟨(kF _ (by omega) (by omega)).1, pk.2.2 k3_172_0 j a (by omega) b⟩) (my_fr.at gh_172_0 is_181 rfl) (fun c a b => ne_172_0 c a (by omega)) | exact (Lf_join (g := h172_0) (v := p172_0) T (by omega) (by omega) (by omega) k4_283_0 rfl (kA x2 (by omega) (by omega)).1 (pk.1 (by omega)) rfl (pj k4_283_0).1 (pj k4_283_0).2.1 rfl (pj k4_283_0).2.2.1 vq_283_0.symm).2 hs_283_0.1 v19_283_0 hs_283_0.2 (my_fr.at gh_172_0 is_181 rfl) lo_283_0 (fun k a b => hj_283_0 k a (by omega)) | exact (Lf_join (g := h172_0) (v := p172_0) T (by omega) (by omega) (by omega) (by omega) rfl (kA x2 (by omega) (by omega)).1 (pk.1 (by omega)) rfl (pj (by omega)).1 (pj (by omega)).2.1 rfl (pj (by omega)).2.2.1 (by rw [ea]; exact e55)).1 (Or.inr (Or.inl (by omega))) | exact (Lf_join (g := h172_0) (v := p172_0) T (by omega) (by omega) (by omega) (by omega) rfl (kA x2 (by omega) (by omega)).1 (pk.1 (by omega)) rfl (pj (by omega)).1 (pj (by omega)).2.1 rfl (pj (by omega)).2.2.1 (by rw [ea]; exact e55)).1 (Or.inr (Or.inr (by rw [c78]; omega))) | omega))
      ·
        refine w_aload_n gz_196_183 rfl ?_
        refine w_getX (v := 182) gz_196_184 is_151 rd_10 rfl (by decide) rfl ?_
        refine w_bipush gz_196_187 (by decide) ?_
        refine w_iload_n gz_196_189 rfl ?_
        refine w_imul gz_196_190 ⟨by omega, by omega⟩ ?_
        refine w_iload gz_196_191 rfl ?_
        refine w_iadd gz_196_193 ⟨by omega, by omega⟩ ?_
        refine w_aload_n gz_196_194 rfl ?_
        refine w_getX (v := 184) gz_196_195 is_151 rd_10 rfl (by decide) rfl ?_
        refine w_aload_n gz_196_198 rfl ?_
        refine w_getX (v := 172) gz_196_199 is_151 rd_10 rfl (by decide) rfl ?_
        refine w_bipush gz_196_202 (by decide) ?_
        refine w_iload_n gz_196_204 rfl ?_
        refine w_imul gz_196_205 ⟨by omega, by omega⟩ ?_
        refine w_iload gz_196_206 rfl ?_
        refine w_iadd gz_196_208 ⟨by omega, by omega⟩ ?_
        refine w_iald gz_196_209 is_172 rd_71 (by omega) (by omega) (fun v7 ev7 pv7 qv7 => ?_)
        have f172 : ∀ j : Int, h172_0 172 j = h 172 j := fun j => my_fr.at gh_172_0 is_172 rfl
        have fw : v7 < h 151 27 := by have z := pk.2.2 k3_172_0 p172_1 (by omega) (by omega) (by omega); rw [← f172] at z; omega
        obtain ⟨vw, ew⟩ : ∃ vw : Int, vw = v7 := ⟨_, rfl⟩
        have nf : h 172 (8 * x2 + p172_1) = v7 := by rw [← f172]; omega
        refine w_iald gz_196_210 is_184 rd_83 (by omega) (by omega) (fun v8 ev8 pv8 qv8 => ?_)
        have gv : v8 = h 182 (8 * x3 + vw) := by rw [← ka_172_0 vw (by omega) (by omega), ew]; omega
        refine w_iastU gz_196_211 is_182 rd_81 (by omega) (by omega) (by omega) (fun h9 fh9 => ?_)
        have gh9 : my_fr [(81, -1), (82, -1), (83, -1), (84, -1)] h h9 := my_fr.up gh_172_0 is_182 fh9 rfl
        have f211 := fh9
        refine w_aload_n gz_196_212 rfl ?_
        refine w_getX (v := 183) gz_196_213 is_151 rd_10 rfl (by decide) rfl ?_
        refine w_bipush gz_196_216 (by decide) ?_
        refine w_iload_n gz_196_218 rfl ?_
        refine w_imul gz_196_219 ⟨by omega, by omega⟩ ?_
        refine w_iload gz_196_220 rfl ?_
        refine w_iadd gz_196_222 ⟨by omega, by omega⟩ ?_
        refine w_aload_n gz_196_223 rfl ?_
        refine w_getX (v := 185) gz_196_224 is_151 rd_10 rfl (by decide) rfl ?_
        refine w_aload_n gz_196_227 rfl ?_
        refine w_getX (v := 172) gz_196_228 is_151 rd_10 rfl (by decide) rfl ?_
        refine w_bipush gz_196_231 (by decide) ?_
        refine w_iload_n gz_196_233 rfl ?_
        refine w_imul gz_196_234 ⟨by omega, by omega⟩ ?_
        refine w_iload gz_196_235 rfl ?_
        refine w_iadd gz_196_237 ⟨by omega, by omega⟩ ?_
        refine w_iald gz_196_238 is_172 rd_71 (by omega) (by omega) (fun v13 ev13 pv13 qv13 => ?_)
        refine w_iald gz_196_239 is_185 rd_84 (by omega) (by omega) (fun v14 ev14 pv14 qv14 => ?_)
        refine w_iast gz_196_240 is_183 rd_82 (by omega) (by omega) (by omega) (by omega) (fun h15 fh15 => ?_)
        have gh15 : my_fr [(81, -1), (82, -1), (83, -1), (84, -1)] h h15 := my_fr.up gh9 is_183 fh15 rfl
        refine w_iinc (ls' := [(2, 151), (0, x1), (0, x2), (0, x3), (0, p172_0), (0, (p172_1 + 1))]) gz_196_241 rfl gm_196 rfl rfl rfl ⟨by omega, by omega⟩ ?_
        refine w_goto (t := 172) gz_196_244 rfl ?_
        have a182 : ∀ j : Int, h15 182 j = h9 182 j := fun j => ((my_up_role fh15 is_182 is_183 rfl).trans (rfl : h9 182 j = h9 182 j))
        have a184 : ∀ j : Int, h15 184 j = h172_0 184 j := fun j => ((my_up_role fh15 is_184 is_183 rfl).trans ((my_up_role fh9 is_184 is_182 rfl).trans (rfl : h172_0 184 j = h172_0 184 j)))
        exact ih_172_0 (p172_0) ((p172_1 + 1)) h15 (gh15) (by omega) (by omega) (by omega) (((my_up_role fh15 is_151 is_183 rfl).trans ((my_up_role fh9 is_151 is_182 rfl).trans c151_27_172_0)).trans (by omega)) (by omega) (by first | (intro k a b; exfalso; omega) | (intro k a b; rw [a184]; exact ka_118_0 k a (by omega)) | (intro k a b; rw [a184]; exact ka_172_0 k a b) | (intro k a b; rw [a184]; rcases (by omega : k = p172_1 ∨ k < p172_1) with q | q <;> first | (rw [my_up_ne f143 (by omega)]; exact ka_118_0 k a q) | (rw [my_up_at f143 (by omega)]; have z := sm_118_0 (8 * x3 + k); subst q; omega)) | omega) (by first | (intro c a b; exfalso; omega) | (intro c a b; rw [a182]; rcases (by omega : c = p172_1 ∨ c < p172_1) with q | q <;> first | (rw [my_up_ne f211 (by omega)]; exact nw_172_0 c a q) | exact ⟨vw, by omega, by omega, by rw [my_up_at f211 (by omega)]; exact gv⟩) | omega) (by first | (intro j q; rw [a182]; exact sm_118_0 j) | (intro j q; exact a182 j) | (intro j q; rw [a182, my_up_ne f211 (by omega)]; exact ot_172_0 j q) | (intro j q; rw [a182, my_up_ne f332 (by omega)]; exact ot_283_0 j q) | omega) (by first | (intro c a b; exfalso; omega) | (intro c a b; rw [a182]; rcases (by omega : c = p172_1 ∨ c < p172_1) with q | q <;> first | (rw [my_up_ne f211 (by omega)]; exact ne_172_0 c a q) | (rw [my_up_at f211 (by omega), q, nf, ← ew]; exact gv)) | omega) (by omega)
  have J118_0 : ∀ (n : Nat) (p118_0 p118_1 : Int) (h118_0 : my_H), my_fr [(81, -1), (82, -1), (83, -1), (84, -1)] h h118_0 → 0 ≤ p118_0 → 0 ≤ p118_1 → p118_1 ≤ 8 → h118_0 151 27 = k151_27 → h 168 x2 = 3 → (∀ k : Int, 0 ≤ k → k < p118_1 → h118_0 184 k = h 182 (8 * x3 + k)) → (∀ j : Int, h118_0 182 j = h 182 j) → 9 - p118_1 ≤ (n : Int) → wp l rho (d + 2) 196 118 [(2, 151), (0, x1), (0, x2), (0, x3), (0, p118_0), (0, p118_1)] [] h118_0 Q := by
    intro n
    induction n with
    | zero => intro p118_0 p118_1 h118_0 gh_118_0 q0_118_0 q1_118_0 q2_118_0 c151_27_118_0 k3_118_0 ka_118_0 sm_118_0 hm_118_0; exfalso; omega
    | succ n ih_118_0 =>
      intro p118_0 p118_1 h118_0 gh_118_0 q0_118_0 q1_118_0 q2_118_0 c151_27_118_0 k3_118_0 ka_118_0 sm_118_0 hm_118_0
      refine w_iload gz_196_118 rfl ?_
      refine w_bipush gz_196_120 (by decide) ?_
      refine w_icge (t := 169) gz_196_122 rfl (fun u16 => ?_) (fun u16 => ?_)
      ·
        refine w_iconst gz_196_169 (by decide) ?_
        refine w_istore (ls' := [(2, 151), (0, x1), (0, x2), (0, x3), (0, p118_0), (0, 0)]) gz_196_170 gm_196 rfl rfl rfl ?_
        have a182 : ∀ j : Int, h118_0 182 j = h118_0 182 j := fun _ => rfl
        have a184 : ∀ j : Int, h118_0 184 j = h118_0 184 j := fun _ => rfl
        exact J172_0 9 (p118_0) (0) h118_0 (gh_118_0) (by omega) (by omega) (by omega) (c151_27_118_0.trans (by omega)) (by omega) (by first | (intro k a b; exfalso; omega) | (intro k a b; rw [a184]; exact ka_118_0 k a (by omega)) | (intro k a b; rw [a184]; exact ka_172_0 k a b) | (intro k a b; rw [a184]; rcases (by omega : k = p172_1 ∨ k < p172_1) with q | q <;> first | (rw [my_up_ne f143 (by omega)]; exact ka_118_0 k a q) | (rw [my_up_at f143 (by omega)]; have z := sm_118_0 (8 * x3 + k); subst q; omega)) | omega) (by first | (intro c a b; exfalso; omega) | (intro c a b; rw [a182]; rcases (by omega : c = p172_1 ∨ c < p172_1) with q | q <;> first | (rw [my_up_ne f211 (by omega)]; exact nw_172_0 c a q) | exact ⟨vw, by omega, by omega, by rw [my_up_at f211 (by omega)]; exact gv⟩) | omega) (by first | (intro j q; rw [a182]; exact sm_118_0 j) | (intro j q; exact a182 j) | (intro j q; rw [a182, my_up_ne f211 (by omega)]; exact ot_172_0 j q) | (intro j q; rw [a182, my_up_ne f332 (by omega)]; exact ot_283_0 j q) | omega) (by first | (intro c a b; exfalso; omega) | (intro c a b; rw [a182]; rcases (by omega : c = p172_1 ∨ c < p172_1) with q | q <;> first | (rw [my_up_ne f211 (by omega)]; exact ne_172_0 c a q) | (rw [my_up_at f211 (by omega), q, nf, ← ew]; exact gv)) | omega) (by omega)
      ·
        refine w_aload_n gz_196_125 rfl ?_
        refine w_getX (v := 184) gz_196_126 is_151 rd_10 rfl (by decide) rfl ?_
        refine w_iload gz_196_129 rfl ?_
        refine w_aload_n gz_196_131 rfl ?_
        refine w_getX (v := 182) gz_196_132 is_151 rd_10 rfl (by decide) rfl ?_
        refine w_bipush gz_196_135 (by decide) ?_
        refine w_iload_n gz_196_137 rfl ?_
        refine w_imul gz_196_138 ⟨by omega, by omega⟩ ?_
        refine w_iload gz_196_139 rfl ?_
        refine w_iadd gz_196_141 ⟨by omega, by omega⟩ ?_
        refine w_iald gz_196_142 is_182 rd_81 (by omega) (by omega) (fun v19 ev19 pv19 qv19 => ?_)
        refine w_iastU gz_196_143 is_184 rd_83 (by omega) (by omega) (by omega) (fun h20 fh20 => ?_)
        have gh20 : my_fr [(81, -1), (82, -1), (83, -1), (84, -1)] h h20 := my_fr.up gh_118_0 is_184 fh20 rfl
        have f143 := fh20
        refine w_aload_n gz_196_144 rfl ?_
        refine w_getX (v := 185) gz_196_145 is_151 rd_10 rfl (by decide) rfl ?_
        refine w_iload gz_196_148 rfl ?_
        refine w_aload_n gz_196_150 rfl ?_
        refine w_getX (v := 183) gz_196_151 is_151 rd_10 rfl (by decide) rfl ?_
        refine w_bipush gz_196_154 (by decide) ?_
        refine w_iload_n gz_196_156 rfl ?_
        refine w_imul gz_196_157 ⟨by omega, by omega⟩ ?_
        refine w_iload gz_196_158 rfl ?_
        refine w_iadd gz_196_160 ⟨by omega, by omega⟩ ?_
        refine w_iald gz_196_161 is_183 rd_82 (by omega) (by omega) (fun v23 ev23 pv23 qv23 => ?_)
        refine w_iast gz_196_162 is_185 rd_84 (by omega) (by omega) (by omega) (by omega) (fun h24 fh24 => ?_)
        have gh24 : my_fr [(81, -1), (82, -1), (83, -1), (84, -1)] h h24 := my_fr.up gh20 is_185 fh24 rfl
        refine w_iinc (ls' := [(2, 151), (0, x1), (0, x2), (0, x3), (0, p118_0), (0, (p118_1 + 1))]) gz_196_163 rfl gm_196 rfl rfl rfl ⟨by omega, by omega⟩ ?_
        refine w_goto (t := 118) gz_196_166 rfl ?_
        have a182 : ∀ j : Int, h24 182 j = h118_0 182 j := fun j => ((my_up_role fh24 is_182 is_185 rfl).trans ((my_up_role fh20 is_182 is_184 rfl).trans (rfl : h118_0 182 j = h118_0 182 j)))
        have a184 : ∀ j : Int, h24 184 j = h20 184 j := fun j => ((my_up_role fh24 is_184 is_185 rfl).trans (rfl : h20 184 j = h20 184 j))
        exact ih_118_0 (p118_0) ((p118_1 + 1)) h24 (gh24) (by omega) (by omega) (by omega) (((my_up_role fh24 is_151 is_185 rfl).trans ((my_up_role fh20 is_151 is_184 rfl).trans c151_27_118_0)).trans (by omega)) (by omega) (by first | (intro k a b; exfalso; omega) | (intro k a b; rw [a184]; exact ka_118_0 k a (by omega)) | (intro k a b; rw [a184]; exact ka_172_0 k a b) | (intro k a b; rw [a184]; rcases (by omega : k = p118_1 ∨ k < p118_1) with q | q <;> first | (rw [my_up_ne f143 (by omega)]; exact ka_118_0 k a q) | (rw [my_up_at f143 (by omega)]; have z := sm_118_0 (8 * x3 + k); subst q; omega)) | omega) (by first | exact a182 | (intro j; rw [a182]; exact sm_118_0 j) | omega) (by omega)
  have J283_0 : ∀ (n : Nat) (p283_0 p283_1 : Int) (h283_0 : my_H), my_fr [(81, -1), (82, -1), (83, -1), (84, -1)] h h283_0 → 0 ≤ p283_0 → p283_0 ≤ 19 → 1 ≤ p283_1 → p283_1 ≤ 4 → h283_0 151 27 = k151_27 → h 168 x2 = 4 → (∀ k : Int, 0 ≤ k → k < h 151 27 → h283_0 182 (8 * x3 + k) = h 182 (8 * x3 + k)) → (∀ k : Int, h 151 27 ≤ k → k < h 151 27 + p283_1 - 1 → h283_0 182 (8 * x3 + k) ≤ 19) → RwO h h283_0 x3 → p283_0 ≤ 19 → (∀ k : Int, h 151 27 ≤ k → k < h 151 27 + p283_1 - 1 → h283_0 182 (8 * x3 + k) = h 163 (4 * (60 * x1 + 20 * h 170 x2 + p283_0) + (k - h 151 27 + 1))) → p283_0 = h 182 (8 * x3 + h 169 x2) → 0 ≤ p283_0 ∧ h 162 (60 * x1 + 20 * h 170 x2 + p283_0) = 1 → 5 - p283_1 ≤ (n : Int) → wp l rho (d + 2) 196 283 [(2, 151), (0, x1), (0, x2), (0, x3), (0, p283_0), (0, p283_1)] [] h283_0 Q := by
    intro n
    induction n with
    | zero => intro p283_0 p283_1 h283_0 gh_283_0 q0_283_0 q1_283_0 q2_283_0 q3_283_0 c151_27_283_0 k4_283_0 lo_283_0 hi_283_0 ot_283_0 v19_283_0 hj_283_0 vq_283_0 hs_283_0 hm_283_0; exfalso; omega
    | succ n ih_283_0 =>
      intro p283_0 p283_1 h283_0 gh_283_0 q0_283_0 q1_283_0 q2_283_0 q3_283_0 c151_27_283_0 k4_283_0 lo_283_0 hi_283_0 ot_283_0 v19_283_0 hj_283_0 vq_283_0 hs_283_0 hm_283_0
      refine w_iload gz_196_283 rfl ?_
      refine w_aload_n gz_196_285 rfl ?_
      refine w_getX (v := 157) gz_196_286 is_151 rd_10 rfl (by decide) rfl ?_
      refine w_aload_n gz_196_289 rfl ?_
      refine w_getX (v := 170) gz_196_290 is_151 rd_10 rfl (by decide) rfl ?_
      refine w_iload_n gz_196_293 rfl ?_
      refine w_iald gz_196_294 is_170 rd_69 (by omega) (by omega) (fun v27 ev27 pv27 qv27 => ?_)
      have f170 : ∀ j : Int, h283_0 170 j = h 170 j := fun j => my_fr.at gh_283_0 is_170 rfl
      have n0 : v27 = h 170 x2 := by have q := f170 x2; omega
      have pj4 := pj k4_283_0
      have hi28 : 0 ≤ v27 := by omega
      have hi29 : v27 ≤ 2 := by omega
      refine w_iald gz_196_295 is_157 rd_56 (by omega) (by omega) (fun v30 ev30 pv30 qv30 => ?_)
      have f157 : ∀ j : Int, h283_0 157 j = h 157 j := fun j => my_fr.at gh_283_0 is_157 rfl
      have cN : v30 = h 157 (h 170 x2) := by rw [← n0, ← f157]; omega
      refine w_icge (t := 360) gz_196_296 rfl (fun u31 => ?_) (fun u31 => ?_)
      ·
        refine w_iconst gz_196_360 (by decide) ?_
        exact w_bret gz_196_361 gm_196 (by omega) (by omega) (k1 h283_0 (gh_283_0) (by first | exact ot_172_0 | exact ot_283_0 | exact (fun _ _ => rfl) | (rw [wl_k (by omega) (by omega)]; exact RwN_rf (Int.le_refl _)) | (rw [wl_3 k3_172_0]; exact fun c c0 cw => Or.inl (nw_172_0 c c0 (by omega))) | (rw [wl_4 k4_283_0]; exact fun c c0 cw => by rcases (by omega : c < h 151 27 ∨ h 151 27 ≤ c) with q | q <;> first | exact Or.inl ⟨c, c0, q, lo_283_0 c c0 q⟩ | exact Or.inr (hi_283_0 c q (by omega))) | exact lc.1 ⟨fun z => by omega, fun z => by omega, fun z => by omega⟩ | exact lc.2 (fun z => by have z1 := z.1; have z2 := z.2.1; have z3 := z.2.2; omega) | exact Lf_sum (by omega) | exact Lf_few (by omega) k3_172_0 (fun j a b => ⟨(kF _ (by omega) (by omega)).1, pk.2.2 k3_172_0 j a (by omega) b⟩) (my_fr.at gh_283_0 is_181 rfl) (fun c a b => ne_172_0 c a (by omega)) | exact (Lf_join (g := h283_0) (v := p283_0) T (by omega) (by omega) (by omega) k4_283_0 rfl (kA x2 (by omega) (by omega)).1 (pk.1 (by omega)) rfl (pj k4_283_0).1 (pj k4_283_0).2.1 rfl (pj k4_283_0).2.2.1 vq_283_0.symm).2 hs_283_0.1 v19_283_0 hs_283_0.2 (my_fr.at gh_283_0 is_181 rfl) lo_283_0 (fun k a b => hj_283_0 k a (by omega)) | exact (Lf_join (g := h283_0) (v := p283_0) T (by omega) (by omega) (by omega) (by omega) rfl (kA x2 (by omega) (by omega)).1 (pk.1 (by omega)) rfl (pj (by omega)).1 (pj (by omega)).2.1 rfl (pj (by omega)).2.2.1 (by rw [ea]; exact e55)).1 (Or.inr (Or.inl (by omega))) | exact (Lf_join (g := h283_0) (v := p283_0) T (by omega) (by omega) (by omega) (by omega) rfl (kA x2 (by omega) (by omega)).1 (pk.1 (by omega)) rfl (pj (by omega)).1 (pj (by omega)).2.1 rfl (pj (by omega)).2.2.1 (by rw [ea]; exact e55)).1 (Or.inr (Or.inr (by rw [c78]; omega))) | omega) (by first | exact ot_172_0 | exact ot_283_0 | exact (fun _ _ => rfl) | (rw [wl_k (by omega) (by omega)]; exact RwN_rf (Int.le_refl _)) | (rw [wl_3 k3_172_0]; exact fun c c0 cw => Or.inl (nw_172_0 c c0 (by omega))) | (rw [wl_4 k4_283_0]; exact fun c c0 cw => by rcases (by omega : c < h 151 27 ∨ h 151 27 ≤ c) with q | q <;> first | exact Or.inl ⟨c, c0, q, lo_283_0 c c0 q⟩ | exact Or.inr (hi_283_0 c q (by omega))) | exact lc.1 ⟨fun z => by omega, fun z => by omega, fun z => by omega⟩ | exact lc.2 (fun z => by have z1 := z.1; have z2 := z.2.1; have z3 := z.2.2; omega) | exact Lf_sum (by omega) | exact Lf_few (by omega) k3_172_0 (fun j a b => ⟨(kF _ (by omega) (by omega)).1, pk.2.2 k3_172_0 j a (by omega) b⟩) (my_fr.at gh_283_0 is_181 rfl) (fun c a b => ne_172_0 c a (by omega)) | exact (Lf_join (g := h283_0) (v := p283_0) T (by omega) (by omega) (by omega) k4_283_0 rfl (kA x2 (by omega) (by omega)).1 (pk.1 (by omega)) rfl (pj k4_283_0).1 (pj k4_283_0).2.1 rfl (pj k4_283_0).2.2.1 vq_283_0.symm).2 hs_283_0.1 v19_283_0 hs_283_0.2 (my_fr.at gh_283_0 is_181 rfl) lo_283_0 (fun k a b => hj_283_0 k a (by omega)) | exact (Lf_join (g := h283_0) (v := p283_0) T (by omega) (by omega) (by omega) (by omega) rfl (kA x2 (by omega) (by omega)).1 (pk.1 (by omega)) rfl (pj (by omega)).1 (pj (by omega)).2.1 rfl (pj (by omega)).2.2.1 (by rw [ea]; exact e55)).1 (Or.inr (Or.inl (by omega))) | exact (Lf_join (g := h283_0) (v := p283_0) T (by omega) (by omega) (by omega) (by omega) rfl (kA x2 (by omega) (by omega)).1 (pk.1 (by omega)) rfl (pj (by omega)).1 (pj (by omega)).2.1 rfl (pj (by omega)).2.2.1 (by rw [ea]; exact e55)).1 (Or.inr (Or.inr (by rw [c78]; omega))) | omega) (by first | exact ot_172_0 | exact ot_283_0 | exact (fun _ _ => rfl) | (rw [wl_k (by omega) (by omega)]; exact RwN_rf (Int.le_refl _)) | (rw [wl_3 k3_172_0]; exact fun c c0 cw => Or.inl (nw_172_0 c c0 (by omega))) | (rw [wl_4 k4_283_0]; exact fun c c0 cw => by rcases (by omega : c < h 151 27 ∨ h 151 27 ≤ c) with q | q <;> first | exact Or.inl ⟨c, c0, q, lo_283_0 c c0 q⟩ | exact Or.inr (hi_283_0 c q (by omega))) | exact lc.1 ⟨fun z => by omega, fun z => by omega, fun z => by omega⟩ | exact lc.2 (fun z => by have z1 := z.1; have z2 := z.2.1; have z3 := z.2.2; omega) | exact Lf_sum (by omega) | exact Lf_few (by omega) k3_172_0 (fun j a b => ⟨(kF _ (by omega) (by omega)).1, pk.2.2 k3_172_0 j a (by omega) b⟩) (my_fr.at gh_283_0 is_181 rfl) (fun c a b => ne_172_0 c a (by omega)) | exact (Lf_join (g := h283_0) (v := p283_0) T (by omega) (by omega) (by omega) k4_283_0 rfl (kA x2 (by omega) (by omega)).1 (pk.1 (by omega)) rfl (pj k4_283_0).1 (pj k4_283_0).2.1 rfl (pj k4_283_0).2.2.1 vq_283_0.symm).2 hs_283_0.1 v19_283_0 hs_283_0.2 (my_fr.at gh_283_0 is_181 rfl) lo_283_0 (fun k a b => hj_283_0 k a (by omega)) | exact (Lf_join (g := h283_0) (v := p283_0) T (by omega) (by omega) (by omega) (by omega) rfl (kA x2 (by omega) (by omega)).1 (pk.1 (by omega)) rfl (pj (by omega)).1 (pj (by omega)).2.1 rfl (pj (by omega)).2.2.1 (by rw [ea]; exact e55)).1 (Or.inr (Or.inl (by omega))) | exact (Lf_join (g := h283_0) (v := p283_0) T (by omega) (by omega) (by omega) (by omega) rfl (kA x2 (by omega) (by omega)).1 (pk.1 (by omega)) rfl (pj (by omega)).1 (pj (by omega)).2.1 rfl (pj (by omega)).2.2.1 (by rw [ea]; exact e55)).1 (Or.inr (Or.inr (by rw [c78]; omega))) | omega))
      ·
        refine w_aload_n gz_196_299 rfl ?_
        refine w_getX (v := 182) gz_196_300 is_151 rd_10 rfl (by decide) rfl ?_
        refine w_bipush gz_196_303 (by decide) ?_
        refine w_iload_n gz_196_305 rfl ?_
        refine w_imul gz_196_306 ⟨by omega, by omega⟩ ?_
        refine w_aload_n gz_196_307 rfl ?_
        refine v_getI (j := 27) gz_196_308 rfl is_151 rd_10 rfl (fun v33 ev33 pv33 qv33 => ?_)
        have zv33 := ev33.trans c151_27_283_0
        refine w_iadd gz_196_311 ⟨by omega, by omega⟩ ?_
        refine w_iload gz_196_312 rfl ?_
        refine w_iadd gz_196_314 ⟨by omega, by omega⟩ ?_
        refine w_iconst gz_196_315 (by decide) ?_
        refine w_isub gz_196_316 ⟨by omega, by omega⟩ ?_
        refine w_aload_n gz_196_317 rfl ?_
        refine w_iload_n gz_196_318 rfl ?_
        refine w_aload_n gz_196_319 rfl ?_
        refine w_getX (v := 170) gz_196_320 is_151 rd_10 rfl (by decide) rfl ?_
        refine w_iload_n gz_196_323 rfl ?_
        refine w_iald gz_196_324 is_170 rd_69 (by omega) (by omega) (fun v35 ev35 pv35 qv35 => ?_)
        have zv35 := ev35.trans ev27.symm
        refine w_iload gz_196_325 rfl ?_
        refine w_iload gz_196_327 rfl ?_
        have f170 : ∀ j : Int, h283_0 170 j = h 170 j := fun j => my_fr.at gh_283_0 is_170 rfl
        have n1 : v35 = h 170 x2 := by have q := f170 x2; omega
        have hi36 : 0 ≤ v35 := by omega
        have hi37 : v35 ≤ 2 := by omega
        have hi38 : 0 ≤ p283_0 := by omega
        have hi39 : p283_0 ≤ 19 := by omega
        have hi40 : 1 ≤ p283_1 := by omega
        have hi41 : p283_1 ≤ 3 := by omega
        refine w_inv (k := 0) (as := [(0, p283_1), (0, p283_0), (0, v35), (0, x1)]) (r := [(0, ((((8 * x3) + v33) + p283_1) - 1)), (2, 182)]) (x := 151) (ls0 := [(2, 151), (0, x1), (0, v35), (0, p283_0), (0, p283_1)]) gz_196_329 gm_157 rfl is_151 rd_10 rfl rfl rfl rfl rfl ?_
        refine w_aload_n gz_157_0 rfl ?_
        refine w_getX (v := 163) gz_157_1 is_151 rd_10 rfl (by decide) rfl ?_
        refine w_iconst gz_157_4 (by decide) ?_
        refine w_iload_n gz_157_5 rfl ?_
        refine w_iload_n gz_157_6 rfl ?_
        refine w_iload_n gz_157_7 rfl ?_
        refine w_inS (k := 0) (as := [(0, p283_0), (0, v35), (0, x1)]) (r := [(0, 4), (2, 163)]) (ls0 := [(0, x1), (0, v35), (0, p283_0)]) gz_157_8 gm_150 rfl rfl rfl rfl rfl rfl ?_
        refine w_bipush gz_150_0 (by decide) ?_
        refine w_iload_n gz_150_2 rfl ?_
        refine w_imul gz_150_3 ⟨by omega, by omega⟩ ?_
        refine w_bipush gz_150_4 (by decide) ?_
        refine w_iload_n gz_150_6 rfl ?_
        refine w_imul gz_150_7 ⟨by omega, by omega⟩ ?_
        refine w_iadd gz_150_8 ⟨by omega, by omega⟩ ?_
        refine w_iload_n gz_150_9 rfl ?_
        refine w_iadd gz_150_10 ⟨by omega, by omega⟩ ?_
        refine w_iret gz_150_11 gm_150 ?_
        show wp l rho (d + 1) 157 11 [(2, 151), (0, x1), (0, v35), (0, p283_0), (0, p283_1)] [(0, (((60 * x1) + (20 * v35)) + p283_0)), (0, 4), (2, 163)] h283_0 _
        refine w_imul gz_157_11 ⟨by omega, by omega⟩ ?_
        refine w_iload gz_157_12 rfl ?_
        refine w_iadd gz_157_14 ⟨by omega, by omega⟩ ?_
        refine w_iald gz_157_15 is_163 rd_62 (by omega) (by omega) (fun v43 ev43 pv43 qv43 => ?_)
        refine w_iret gz_157_16 gm_157 ?_
        show wp l rho (d + 2) 196 332 [(2, 151), (0, x1), (0, x2), (0, x3), (0, p283_0), (0, p283_1)] [(0, v43), (0, ((((8 * x3) + v33) + p283_1) - 1)), (2, 182)] h283_0 Q
        have cv : h 163 (4 * (60 * x1 + 20 * h 170 x2 + p283_0) + p283_1) = v43 := by
          have z := my_fr.at (j := ((4 * (((60 * x1) + (20 * v35)) + p283_0)) + p283_1)) gh_283_0 is_163 rfl
          rw [show 4 * (60 * x1 + 20 * h 170 x2 + p283_0) + p283_1 = ((4 * (((60 * x1) + (20 * v35)) + p283_0)) + p283_1) by omega, ← z]
          omega
        have hi44 : 0 ≤ ((((8 * x3) + v33) + p283_1) - 1) := by omega
        have hi45 : ((((8 * x3) + v33) + p283_1) - 1) ≤ 79 := by omega
        refine w_iast gz_196_332 is_182 rd_81 (by omega) (by omega) (by omega) (by omega) (fun h46 fh46 => ?_)
        have gh46 : my_fr [(81, -1), (82, -1), (83, -1), (84, -1)] h h46 := my_fr.up gh_283_0 is_182 fh46 rfl
        have f332 := fh46
        refine w_aload_n gz_196_333 rfl ?_
        refine w_getX (v := 183) gz_196_334 is_151 rd_10 rfl (by decide) rfl ?_
        refine w_bipush gz_196_337 (by decide) ?_
        refine w_iload_n gz_196_339 rfl ?_
        refine w_imul gz_196_340 ⟨by omega, by omega⟩ ?_
        refine w_aload_n gz_196_341 rfl ?_
        refine v_getI (j := 27) gz_196_342 rfl is_151 rd_10 rfl (fun v48 ev48 pv48 qv48 => ?_)
        have zv48 := ev48.trans ((my_up_role fh46 is_151 is_182 rfl).trans ev33.symm)
        refine w_iadd gz_196_345 ⟨by omega, by omega⟩ ?_
        refine w_iload gz_196_346 rfl ?_
        refine w_iadd gz_196_348 ⟨by omega, by omega⟩ ?_
        refine w_iconst gz_196_349 (by decide) ?_
        refine w_isub gz_196_350 ⟨by omega, by omega⟩ ?_
        refine w_iload gz_196_351 rfl ?_
        have hi49 : 0 ≤ ((((8 * x3) + v48) + p283_1) - 1) := by omega
        have hi50 : ((((8 * x3) + v48) + p283_1) - 1) ≤ 79 := by omega
        refine w_iast gz_196_353 is_183 rd_82 (by omega) (by omega) (by omega) (by omega) (fun h51 fh51 => ?_)
        have gh51 : my_fr [(81, -1), (82, -1), (83, -1), (84, -1)] h h51 := my_fr.up gh46 is_183 fh51 rfl
        refine w_iinc (ls' := [(2, 151), (0, x1), (0, x2), (0, x3), (0, p283_0), (0, (p283_1 + 1))]) gz_196_354 rfl gm_196 rfl rfl rfl ⟨by omega, by omega⟩ ?_
        refine w_goto (t := 283) gz_196_357 rfl ?_
        have a182 : ∀ j : Int, h51 182 j = h46 182 j := fun j => ((my_up_role fh51 is_182 is_183 rfl).trans (rfl : h46 182 j = h46 182 j))
        exact ih_283_0 (p283_0) ((p283_1 + 1)) h51 (gh51) (by omega) (by omega) (by omega) (by omega) (((my_up_role fh51 is_151 is_183 rfl).trans ev48.symm).trans (by omega)) (by omega) (by first | (intro k a b; exact a182 _) | (intro k a b; rw [a182, my_up_ne f332 (by omega)]; exact lo_283_0 k a b) | omega) (by first | (intro k a b; exfalso; omega) | (intro k a b; rw [a182]; rcases (by omega : k = h 151 27 + p283_1 - 1 ∨ k < h 151 27 + p283_1 - 1) with q | q <;> first | (rw [my_up_ne f332 (by omega)]; exact hi_283_0 k a q) | (rw [my_up_at f332 (by omega)]; omega)) | omega) (by first | (intro j q; rw [a182]; exact sm_118_0 j) | (intro j q; exact a182 j) | (intro j q; rw [a182, my_up_ne f211 (by omega)]; exact ot_172_0 j q) | (intro j q; rw [a182, my_up_ne f332 (by omega)]; exact ot_283_0 j q) | omega) (by omega) (by first | (intro k a b; exfalso; omega) | (intro k a b; rw [a182]; rcases (by omega : k = h 151 27 + p283_1 - 1 ∨ k < h 151 27 + p283_1 - 1) with q | q <;> first | (rw [my_up_ne f332 (by omega)]; exact hj_283_0 k a q) | (rw [my_up_at f332 (by omega), show k - h 151 27 + 1 = p283_1 by omega]; exact cv.symm)) | omega) (by first | exact vq_283_0 | (rw [ea]; exact e55.symm) | assumption | omega) (by first | exact hs_283_0 | exact ⟨by omega, by rw [c78]; omega⟩ | assumption | omega) (by omega)
  refine w_aload_n gz_196_0 rfl ?_
  refine w_getX (v := 182) gz_196_1 is_151 rd_10 rfl (by decide) rfl ?_
  refine w_bipush gz_196_4 (by decide) ?_
  refine w_iload_n gz_196_6 rfl ?_
  refine w_imul gz_196_7 ⟨by omega, by omega⟩ ?_
  refine w_aload_n gz_196_8 rfl ?_
  refine w_getX (v := 169) gz_196_9 is_151 rd_10 rfl (by decide) rfl ?_
  refine w_iload_n gz_196_12 rfl ?_
  refine w_iald gz_196_13 is_169 rd_68 (by omega) (by omega) (fun v54 ev54 pv54 qv54 => ?_)
  obtain ⟨cA, ecA⟩ : ∃ z : Int, z = v54 := ⟨_, rfl⟩
  have ea : h 169 x2 = cA := by omega
  refine w_iadd gz_196_14 ⟨by omega, by omega⟩ ?_
  refine w_iald gz_196_15 is_182 rd_81 (by omega) (by omega) (fun v55 ev55 pv55 qv55 => ?_)
  have e55 : h 182 (8 * x3 + cA) = v55 := by
    rw [show 8 * x3 + cA = ((8 * x3) + v54) by omega]
    omega
  refine w_istore (ls' := [(2, 151), (0, x1), (0, x2), (0, x3), (0, v55), (9, 0)]) gz_196_16 gm_196 rfl rfl rfl ?_
  refine w_aload_n gz_196_18 rfl ?_
  refine w_getX (v := 168) gz_196_19 is_151 rd_10 rfl (by decide) rfl ?_
  refine w_iload_n gz_196_22 rfl ?_
  refine w_iald gz_196_23 is_168 rd_67 (by omega) (by omega) (fun v57 ev57 pv57 qv57 => ?_)
  by_cases u58 : v57 = 0
  ·
    refine w_tswE (t := 64) gz_196_24 u58 (by decide) (by decide) rfl rfl ?_
    refine w_iload gz_196_64 rfl ?_
    refine w_aload_n gz_196_66 rfl ?_
    refine w_getX (v := 170) gz_196_67 is_151 rd_10 rfl (by decide) rfl ?_
    refine w_iload_n gz_196_70 rfl ?_
    refine w_iald gz_196_71 is_170 rd_69 (by omega) (by omega) (fun v60 ev60 pv60 qv60 => ?_)
    have pa := pk.1 (by omega)
    have ka := kA x2 (by omega) (by omega)
    have lc := Lf_cut (s := x1) (p := x2) (i := x3) (k := 0) (n := v60) (by omega) (by omega) (by omega) ea (by omega) (by omega) (by omega) e55
    refine w_icge (t := 79) gz_196_72 rfl (fun u61 => ?_) (fun u61 => ?_)
    ·
      refine w_iconst gz_196_79 (by decide) ?_
      exact w_bret gz_196_80 gm_196 (by omega) (by omega) (k0 h (my_fr.rf) (by first | exact ot_172_0 | exact ot_283_0 | exact (fun _ _ => rfl) | (rw [wl_k (by omega) (by omega)]; exact RwN_rf (Int.le_refl _)) | (rw [wl_3 k3_172_0]; exact fun c c0 cw => Or.inl (nw_172_0 c c0 (by omega))) | (rw [wl_4 k4_283_0]; exact fun c c0 cw => by rcases (by omega : c < h 151 27 ∨ h 151 27 ≤ c) with q | q <;> first | exact Or.inl ⟨c, c0, q, lo_283_0 c c0 q⟩ | exact Or.inr (hi_283_0 c q (by omega))) | exact lc.1 ⟨fun z => by omega, fun z => by omega, fun z => by omega⟩ | exact lc.2 (fun z => by have z1 := z.1; have z2 := z.2.1; have z3 := z.2.2; omega) | exact Lf_sum (by omega) | exact Lf_few (by omega) k3_172_0 (fun j a b => ⟨(kF _ (by omega) (by omega)).1, pk.2.2 k3_172_0 j a (by omega) b⟩) (my_fr.at my_fr.rf is_181 rfl) (fun c a b => ne_172_0 c a (by omega)) | exact (Lf_join (g := h) (v := v55) T (by omega) (by omega) (by omega) k4_283_0 rfl (kA x2 (by omega) (by omega)).1 (pk.1 (by omega)) rfl (pj k4_283_0).1 (pj k4_283_0).2.1 rfl (pj k4_283_0).2.2.1 vq_283_0.symm).2 hs_283_0.1 v19_283_0 hs_283_0.2 (my_fr.at my_fr.rf is_181 rfl) lo_283_0 (fun k a b => hj_283_0 k a (by omega)) | exact (Lf_join (g := h) (v := v55) T (by omega) (by omega) (by omega) (by omega) rfl (kA x2 (by omega) (by omega)).1 (pk.1 (by omega)) rfl (pj (by omega)).1 (pj (by omega)).2.1 rfl (pj (by omega)).2.2.1 (by rw [ea]; exact e55)).1 (Or.inr (Or.inl (by omega))) | exact (Lf_join (g := h) (v := v55) T (by omega) (by omega) (by omega) (by omega) rfl (kA x2 (by omega) (by omega)).1 (pk.1 (by omega)) rfl (pj (by omega)).1 (pj (by omega)).2.1 rfl (pj (by omega)).2.2.1 (by rw [ea]; exact e55)).1 (Or.inr (Or.inr (by rw [c78]; omega))) | omega) (by first | exact ot_172_0 | exact ot_283_0 | exact (fun _ _ => rfl) | (rw [wl_k (by omega) (by omega)]; exact RwN_rf (Int.le_refl _)) | (rw [wl_3 k3_172_0]; exact fun c c0 cw => Or.inl (nw_172_0 c c0 (by omega))) | (rw [wl_4 k4_283_0]; exact fun c c0 cw => by rcases (by omega : c < h 151 27 ∨ h 151 27 ≤ c) with q | q <;> first | exact Or.inl ⟨c, c0, q, lo_283_0 c c0 q⟩ | exact Or.inr (hi_283_0 c q (by omega))) | exact lc.1 ⟨fun z => by omega, fun z => by omega, fun z => by omega⟩ | exact lc.2 (fun z => by have z1 := z.1; have z2 := z.2.1; have z3 := z.2.2; omega) | exact Lf_sum (by omega) | exact Lf_few (by omega) k3_172_0 (fun j a b => ⟨(kF _ (by omega) (by omega)).1, pk.2.2 k3_172_0 j a (by omega) b⟩) (my_fr.at my_fr.rf is_181 rfl) (fun c a b => ne_172_0 c a (by omega)) | exact (Lf_join (g := h) (v := v55) T (by omega) (by omega) (by omega) k4_283_0 rfl (kA x2 (by omega) (by omega)).1 (pk.1 (by omega)) rfl (pj k4_283_0).1 (pj k4_283_0).2.1 rfl (pj k4_283_0).2.2.1 vq_283_0.symm).2 hs_283_0.1 v19_283_0 hs_283_0.2 (my_fr.at my_fr.rf is_181 rfl) lo_283_0 (fun k a b => hj_283_0 k a (by omega)) | exact (Lf_join (g := h) (v := v55) T (by omega) (by omega) (by omega) (by omega) rfl (kA x2 (by omega) (by omega)).1 (pk.1 (by omega)) rfl (pj (by omega)).1 (pj (by omega)).2.1 rfl (pj (by omega)).2.2.1 (by rw [ea]; exact e55)).1 (Or.inr (Or.inl (by omega))) | exact (Lf_join (g := h) (v := v55) T (by omega) (by omega) (by omega) (by omega) rfl (kA x2 (by omega) (by omega)).1 (pk.1 (by omega)) rfl (pj (by omega)).1 (pj (by omega)).2.1 rfl (pj (by omega)).2.2.1 (by rw [ea]; exact e55)).1 (Or.inr (Or.inr (by rw [c78]; omega))) | omega))
    ·
      refine w_iconst gz_196_75 (by decide) ?_
      refine w_goto (t := 80) gz_196_76 rfl ?_
      exact w_bret gz_196_80 gm_196 (by omega) (by omega) (k1 h (my_fr.rf) (by first | exact ot_172_0 | exact ot_283_0 | exact (fun _ _ => rfl) | (rw [wl_k (by omega) (by omega)]; exact RwN_rf (Int.le_refl _)) | (rw [wl_3 k3_172_0]; exact fun c c0 cw => Or.inl (nw_172_0 c c0 (by omega))) | (rw [wl_4 k4_283_0]; exact fun c c0 cw => by rcases (by omega : c < h 151 27 ∨ h 151 27 ≤ c) with q | q <;> first | exact Or.inl ⟨c, c0, q, lo_283_0 c c0 q⟩ | exact Or.inr (hi_283_0 c q (by omega))) | exact lc.1 ⟨fun z => by omega, fun z => by omega, fun z => by omega⟩ | exact lc.2 (fun z => by have z1 := z.1; have z2 := z.2.1; have z3 := z.2.2; omega) | exact Lf_sum (by omega) | exact Lf_few (by omega) k3_172_0 (fun j a b => ⟨(kF _ (by omega) (by omega)).1, pk.2.2 k3_172_0 j a (by omega) b⟩) (my_fr.at my_fr.rf is_181 rfl) (fun c a b => ne_172_0 c a (by omega)) | exact (Lf_join (g := h) (v := v55) T (by omega) (by omega) (by omega) k4_283_0 rfl (kA x2 (by omega) (by omega)).1 (pk.1 (by omega)) rfl (pj k4_283_0).1 (pj k4_283_0).2.1 rfl (pj k4_283_0).2.2.1 vq_283_0.symm).2 hs_283_0.1 v19_283_0 hs_283_0.2 (my_fr.at my_fr.rf is_181 rfl) lo_283_0 (fun k a b => hj_283_0 k a (by omega)) | exact (Lf_join (g := h) (v := v55) T (by omega) (by omega) (by omega) (by omega) rfl (kA x2 (by omega) (by omega)).1 (pk.1 (by omega)) rfl (pj (by omega)).1 (pj (by omega)).2.1 rfl (pj (by omega)).2.2.1 (by rw [ea]; exact e55)).1 (Or.inr (Or.inl (by omega))) | exact (Lf_join (g := h) (v := v55) T (by omega) (by omega) (by omega) (by omega) rfl (kA x2 (by omega) (by omega)).1 (pk.1 (by omega)) rfl (pj (by omega)).1 (pj (by omega)).2.1 rfl (pj (by omega)).2.2.1 (by rw [ea]; exact e55)).1 (Or.inr (Or.inr (by rw [c78]; omega))) | omega) (by first | exact ot_172_0 | exact ot_283_0 | exact (fun _ _ => rfl) | (rw [wl_k (by omega) (by omega)]; exact RwN_rf (Int.le_refl _)) | (rw [wl_3 k3_172_0]; exact fun c c0 cw => Or.inl (nw_172_0 c c0 (by omega))) | (rw [wl_4 k4_283_0]; exact fun c c0 cw => by rcases (by omega : c < h 151 27 ∨ h 151 27 ≤ c) with q | q <;> first | exact Or.inl ⟨c, c0, q, lo_283_0 c c0 q⟩ | exact Or.inr (hi_283_0 c q (by omega))) | exact lc.1 ⟨fun z => by omega, fun z => by omega, fun z => by omega⟩ | exact lc.2 (fun z => by have z1 := z.1; have z2 := z.2.1; have z3 := z.2.2; omega) | exact Lf_sum (by omega) | exact Lf_few (by omega) k3_172_0 (fun j a b => ⟨(kF _ (by omega) (by omega)).1, pk.2.2 k3_172_0 j a (by omega) b⟩) (my_fr.at my_fr.rf is_181 rfl) (fun c a b => ne_172_0 c a (by omega)) | exact (Lf_join (g := h) (v := v55) T (by omega) (by omega) (by omega) k4_283_0 rfl (kA x2 (by omega) (by omega)).1 (pk.1 (by omega)) rfl (pj k4_283_0).1 (pj k4_283_0).2.1 rfl (pj k4_283_0).2.2.1 vq_283_0.symm).2 hs_283_0.1 v19_283_0 hs_283_0.2 (my_fr.at my_fr.rf is_181 rfl) lo_283_0 (fun k a b => hj_283_0 k a (by omega)) | exact (Lf_join (g := h) (v := v55) T (by omega) (by omega) (by omega) (by omega) rfl (kA x2 (by omega) (by omega)).1 (pk.1 (by omega)) rfl (pj (by omega)).1 (pj (by omega)).2.1 rfl (pj (by omega)).2.2.1 (by rw [ea]; exact e55)).1 (Or.inr (Or.inl (by omega))) | exact (Lf_join (g := h) (v := v55) T (by omega) (by omega) (by omega) (by omega) rfl (kA x2 (by omega) (by omega)).1 (pk.1 (by omega)) rfl (pj (by omega)).1 (pj (by omega)).2.1 rfl (pj (by omega)).2.2.1 (by rw [ea]; exact e55)).1 (Or.inr (Or.inr (by rw [c78]; omega))) | omega) (by first | exact ot_172_0 | exact ot_283_0 | exact (fun _ _ => rfl) | (rw [wl_k (by omega) (by omega)]; exact RwN_rf (Int.le_refl _)) | (rw [wl_3 k3_172_0]; exact fun c c0 cw => Or.inl (nw_172_0 c c0 (by omega))) | (rw [wl_4 k4_283_0]; exact fun c c0 cw => by rcases (by omega : c < h 151 27 ∨ h 151 27 ≤ c) with q | q <;> first | exact Or.inl ⟨c, c0, q, lo_283_0 c c0 q⟩ | exact Or.inr (hi_283_0 c q (by omega))) | exact lc.1 ⟨fun z => by omega, fun z => by omega, fun z => by omega⟩ | exact lc.2 (fun z => by have z1 := z.1; have z2 := z.2.1; have z3 := z.2.2; omega) | exact Lf_sum (by omega) | exact Lf_few (by omega) k3_172_0 (fun j a b => ⟨(kF _ (by omega) (by omega)).1, pk.2.2 k3_172_0 j a (by omega) b⟩) (my_fr.at my_fr.rf is_181 rfl) (fun c a b => ne_172_0 c a (by omega)) | exact (Lf_join (g := h) (v := v55) T (by omega) (by omega) (by omega) k4_283_0 rfl (kA x2 (by omega) (by omega)).1 (pk.1 (by omega)) rfl (pj k4_283_0).1 (pj k4_283_0).2.1 rfl (pj k4_283_0).2.2.1 vq_283_0.symm).2 hs_283_0.1 v19_283_0 hs_283_0.2 (my_fr.at my_fr.rf is_181 rfl) lo_283_0 (fun k a b => hj_283_0 k a (by omega)) | exact (Lf_join (g := h) (v := v55) T (by omega) (by omega) (by omega) (by omega) rfl (kA x2 (by omega) (by omega)).1 (pk.1 (by omega)) rfl (pj (by omega)).1 (pj (by omega)).2.1 rfl (pj (by omega)).2.2.1 (by rw [ea]; exact e55)).1 (Or.inr (Or.inl (by omega))) | exact (Lf_join (g := h) (v := v55) T (by omega) (by omega) (by omega) (by omega) rfl (kA x2 (by omega) (by omega)).1 (pk.1 (by omega)) rfl (pj (by omega)).1 (pj (by omega)).2.1 rfl (pj (by omega)).2.2.1 (by rw [ea]; exact e55)).1 (Or.inr (Or.inr (by rw [c78]; omega))) | omega))
  ·
    by_cases u62 : v57 = 1
    ·
      refine w_tswE (t := 81) gz_196_24 u62 (by decide) (by decide) rfl rfl ?_
      refine w_iload gz_196_81 rfl ?_
      refine w_aload_n gz_196_83 rfl ?_
      refine w_getX (v := 170) gz_196_84 is_151 rd_10 rfl (by decide) rfl ?_
      refine w_iload_n gz_196_87 rfl ?_
      refine w_iald gz_196_88 is_170 rd_69 (by omega) (by omega) (fun v64 ev64 pv64 qv64 => ?_)
      have pa := pk.1 (by omega)
      have ka := kA x2 (by omega) (by omega)
      have lc := Lf_cut (s := x1) (p := x2) (i := x3) (k := 1) (n := v64) (by omega) (by omega) (by omega) ea (by omega) (by omega) (by omega) e55
      refine w_icne (t := 96) gz_196_89 rfl (fun u65 => ?_) (fun u65 => ?_)
      ·
        refine w_iconst gz_196_96 (by decide) ?_
        exact w_bret gz_196_97 gm_196 (by omega) (by omega) (k0 h (my_fr.rf) (by first | exact ot_172_0 | exact ot_283_0 | exact (fun _ _ => rfl) | (rw [wl_k (by omega) (by omega)]; exact RwN_rf (Int.le_refl _)) | (rw [wl_3 k3_172_0]; exact fun c c0 cw => Or.inl (nw_172_0 c c0 (by omega))) | (rw [wl_4 k4_283_0]; exact fun c c0 cw => by rcases (by omega : c < h 151 27 ∨ h 151 27 ≤ c) with q | q <;> first | exact Or.inl ⟨c, c0, q, lo_283_0 c c0 q⟩ | exact Or.inr (hi_283_0 c q (by omega))) | exact lc.1 ⟨fun z => by omega, fun z => by omega, fun z => by omega⟩ | exact lc.2 (fun z => by have z1 := z.1; have z2 := z.2.1; have z3 := z.2.2; omega) | exact Lf_sum (by omega) | exact Lf_few (by omega) k3_172_0 (fun j a b => ⟨(kF _ (by omega) (by omega)).1, pk.2.2 k3_172_0 j a (by omega) b⟩) (my_fr.at my_fr.rf is_181 rfl) (fun c a b => ne_172_0 c a (by omega)) | exact (Lf_join (g := h) (v := v55) T (by omega) (by omega) (by omega) k4_283_0 rfl (kA x2 (by omega) (by omega)).1 (pk.1 (by omega)) rfl (pj k4_283_0).1 (pj k4_283_0).2.1 rfl (pj k4_283_0).2.2.1 vq_283_0.symm).2 hs_283_0.1 v19_283_0 hs_283_0.2 (my_fr.at my_fr.rf is_181 rfl) lo_283_0 (fun k a b => hj_283_0 k a (by omega)) | exact (Lf_join (g := h) (v := v55) T (by omega) (by omega) (by omega) (by omega) rfl (kA x2 (by omega) (by omega)).1 (pk.1 (by omega)) rfl (pj (by omega)).1 (pj (by omega)).2.1 rfl (pj (by omega)).2.2.1 (by rw [ea]; exact e55)).1 (Or.inr (Or.inl (by omega))) | exact (Lf_join (g := h) (v := v55) T (by omega) (by omega) (by omega) (by omega) rfl (kA x2 (by omega) (by omega)).1 (pk.1 (by omega)) rfl (pj (by omega)).1 (pj (by omega)).2.1 rfl (pj (by omega)).2.2.1 (by rw [ea]; exact e55)).1 (Or.inr (Or.inr (by rw [c78]; omega))) | omega) (by first | exact ot_172_0 | exact ot_283_0 | exact (fun _ _ => rfl) | (rw [wl_k (by omega) (by omega)]; exact RwN_rf (Int.le_refl _)) | (rw [wl_3 k3_172_0]; exact fun c c0 cw => Or.inl (nw_172_0 c c0 (by omega))) | (rw [wl_4 k4_283_0]; exact fun c c0 cw => by rcases (by omega : c < h 151 27 ∨ h 151 27 ≤ c) with q | q <;> first | exact Or.inl ⟨c, c0, q, lo_283_0 c c0 q⟩ | exact Or.inr (hi_283_0 c q (by omega))) | exact lc.1 ⟨fun z => by omega, fun z => by omega, fun z => by omega⟩ | exact lc.2 (fun z => by have z1 := z.1; have z2 := z.2.1; have z3 := z.2.2; omega) | exact Lf_sum (by omega) | exact Lf_few (by omega) k3_172_0 (fun j a b => ⟨(kF _ (by omega) (by omega)).1, pk.2.2 k3_172_0 j a (by omega) b⟩) (my_fr.at my_fr.rf is_181 rfl) (fun c a b => ne_172_0 c a (by omega)) | exact (Lf_join (g := h) (v := v55) T (by omega) (by omega) (by omega) k4_283_0 rfl (kA x2 (by omega) (by omega)).1 (pk.1 (by omega)) rfl (pj k4_283_0).1 (pj k4_283_0).2.1 rfl (pj k4_283_0).2.2.1 vq_283_0.symm).2 hs_283_0.1 v19_283_0 hs_283_0.2 (my_fr.at my_fr.rf is_181 rfl) lo_283_0 (fun k a b => hj_283_0 k a (by omega)) | exact (Lf_join (g := h) (v := v55) T (by omega) (by omega) (by omega) (by omega) rfl (kA x2 (by omega) (by omega)).1 (pk.1 (by omega)) rfl (pj (by omega)).1 (pj (by omega)).2.1 rfl (pj (by omega)).2.2.1 (by rw [ea]; exact e55)).1 (Or.inr (Or.inl (by omega))) | exact (Lf_join (g := h) (v := v55) T (by omega) (by omega) (by omega) (by omega) rfl (kA x2 (by omega) (by omega)).1 (pk.1 (by omega)) rfl (pj (by omega)).1 (pj (by omega)).2.1 rfl (pj (by omega)).2.2.1 (by rw [ea]; exact e55)).1 (Or.inr (Or.inr (by rw [c78]; omega))) | omega))
      ·
        refine w_iconst gz_196_92 (by decide) ?_
        refine w_goto (t := 97) gz_196_93 rfl ?_
        exact w_bret gz_196_97 gm_196 (by omega) (by omega) (k1 h (my_fr.rf) (by first | exact ot_172_0 | exact ot_283_0 | exact (fun _ _ => rfl) | (rw [wl_k (by omega) (by omega)]; exact RwN_rf (Int.le_refl _)) | (rw [wl_3 k3_172_0]; exact fun c c0 cw => Or.inl (nw_172_0 c c0 (by omega))) | (rw [wl_4 k4_283_0]; exact fun c c0 cw => by rcases (by omega : c < h 151 27 ∨ h 151 27 ≤ c) with q | q <;> first | exact Or.inl ⟨c, c0, q, lo_283_0 c c0 q⟩ | exact Or.inr (hi_283_0 c q (by omega))) | exact lc.1 ⟨fun z => by omega, fun z => by omega, fun z => by omega⟩ | exact lc.2 (fun z => by have z1 := z.1; have z2 := z.2.1; have z3 := z.2.2; omega) | exact Lf_sum (by omega) | exact Lf_few (by omega) k3_172_0 (fun j a b => ⟨(kF _ (by omega) (by omega)).1, pk.2.2 k3_172_0 j a (by omega) b⟩) (my_fr.at my_fr.rf is_181 rfl) (fun c a b => ne_172_0 c a (by omega)) | exact (Lf_join (g := h) (v := v55) T (by omega) (by omega) (by omega) k4_283_0 rfl (kA x2 (by omega) (by omega)).1 (pk.1 (by omega)) rfl (pj k4_283_0).1 (pj k4_283_0).2.1 rfl (pj k4_283_0).2.2.1 vq_283_0.symm).2 hs_283_0.1 v19_283_0 hs_283_0.2 (my_fr.at my_fr.rf is_181 rfl) lo_283_0 (fun k a b => hj_283_0 k a (by omega)) | exact (Lf_join (g := h) (v := v55) T (by omega) (by omega) (by omega) (by omega) rfl (kA x2 (by omega) (by omega)).1 (pk.1 (by omega)) rfl (pj (by omega)).1 (pj (by omega)).2.1 rfl (pj (by omega)).2.2.1 (by rw [ea]; exact e55)).1 (Or.inr (Or.inl (by omega))) | exact (Lf_join (g := h) (v := v55) T (by omega) (by omega) (by omega) (by omega) rfl (kA x2 (by omega) (by omega)).1 (pk.1 (by omega)) rfl (pj (by omega)).1 (pj (by omega)).2.1 rfl (pj (by omega)).2.2.1 (by rw [ea]; exact e55)).1 (Or.inr (Or.inr (by rw [c78]; omega))) | omega) (by first | exact ot_172_0 | exact ot_283_0 | exact (fun _ _ => rfl) | (rw [wl_k (by omega) (by omega)]; exact RwN_rf (Int.le_refl _)) | (rw [wl_3 k3_172_0]; exact fun c c0 cw => Or.inl (nw_172_0 c c0 (by omega))) | (rw [wl_4 k4_283_0]; exact fun c c0 cw => by rcases (by omega : c < h 151 27 ∨ h 151 27 ≤ c) with q | q <;> first | exact Or.inl ⟨c, c0, q, lo_283_0 c c0 q⟩ | exact Or.inr (hi_283_0 c q (by omega))) | exact lc.1 ⟨fun z => by omega, fun z => by omega, fun z => by omega⟩ | exact lc.2 (fun z => by have z1 := z.1; have z2 := z.2.1; have z3 := z.2.2; omega) | exact Lf_sum (by omega) | exact Lf_few (by omega) k3_172_0 (fun j a b => ⟨(kF _ (by omega) (by omega)).1, pk.2.2 k3_172_0 j a (by omega) b⟩) (my_fr.at my_fr.rf is_181 rfl) (fun c a b => ne_172_0 c a (by omega)) | exact (Lf_join (g := h) (v := v55) T (by omega) (by omega) (by omega) k4_283_0 rfl (kA x2 (by omega) (by omega)).1 (pk.1 (by omega)) rfl (pj k4_283_0).1 (pj k4_283_0).2.1 rfl (pj k4_283_0).2.2.1 vq_283_0.symm).2 hs_283_0.1 v19_283_0 hs_283_0.2 (my_fr.at my_fr.rf is_181 rfl) lo_283_0 (fun k a b => hj_283_0 k a (by omega)) | exact (Lf_join (g := h) (v := v55) T (by omega) (by omega) (by omega) (by omega) rfl (kA x2 (by omega) (by omega)).1 (pk.1 (by omega)) rfl (pj (by omega)).1 (pj (by omega)).2.1 rfl (pj (by omega)).2.2.1 (by rw [ea]; exact e55)).1 (Or.inr (Or.inl (by omega))) | exact (Lf_join (g := h) (v := v55) T (by omega) (by omega) (by omega) (by omega) rfl (kA x2 (by omega) (by omega)).1 (pk.1 (by omega)) rfl (pj (by omega)).1 (pj (by omega)).2.1 rfl (pj (by omega)).2.2.1 (by rw [ea]; exact e55)).1 (Or.inr (Or.inr (by rw [c78]; omega))) | omega) (by first | exact ot_172_0 | exact ot_283_0 | exact (fun _ _ => rfl) | (rw [wl_k (by omega) (by omega)]; exact RwN_rf (Int.le_refl _)) | (rw [wl_3 k3_172_0]; exact fun c c0 cw => Or.inl (nw_172_0 c c0 (by omega))) | (rw [wl_4 k4_283_0]; exact fun c c0 cw => by rcases (by omega : c < h 151 27 ∨ h 151 27 ≤ c) with q | q <;> first | exact Or.inl ⟨c, c0, q, lo_283_0 c c0 q⟩ | exact Or.inr (hi_283_0 c q (by omega))) | exact lc.1 ⟨fun z => by omega, fun z => by omega, fun z => by omega⟩ | exact lc.2 (fun z => by have z1 := z.1; have z2 := z.2.1; have z3 := z.2.2; omega) | exact Lf_sum (by omega) | exact Lf_few (by omega) k3_172_0 (fun j a b => ⟨(kF _ (by omega) (by omega)).1, pk.2.2 k3_172_0 j a (by omega) b⟩) (my_fr.at my_fr.rf is_181 rfl) (fun c a b => ne_172_0 c a (by omega)) | exact (Lf_join (g := h) (v := v55) T (by omega) (by omega) (by omega) k4_283_0 rfl (kA x2 (by omega) (by omega)).1 (pk.1 (by omega)) rfl (pj k4_283_0).1 (pj k4_283_0).2.1 rfl (pj k4_283_0).2.2.1 vq_283_0.symm).2 hs_283_0.1 v19_283_0 hs_283_0.2 (my_fr.at my_fr.rf is_181 rfl) lo_283_0 (fun k a b => hj_283_0 k a (by omega)) | exact (Lf_join (g := h) (v := v55) T (by omega) (by omega) (by omega) (by omega) rfl (kA x2 (by omega) (by omega)).1 (pk.1 (by omega)) rfl (pj (by omega)).1 (pj (by omega)).2.1 rfl (pj (by omega)).2.2.1 (by rw [ea]; exact e55)).1 (Or.inr (Or.inl (by omega))) | exact (Lf_join (g := h) (v := v55) T (by omega) (by omega) (by omega) (by omega) rfl (kA x2 (by omega) (by omega)).1 (pk.1 (by omega)) rfl (pj (by omega)).1 (pj (by omega)).2.1 rfl (pj (by omega)).2.2.1 (by rw [ea]; exact e55)).1 (Or.inr (Or.inr (by rw [c78]; omega))) | omega))
    ·
      by_cases u66 : v57 = 2
      ·
        refine w_tswE (t := 98) gz_196_24 u66 (by decide) (by decide) rfl rfl ?_
        refine w_iload gz_196_98 rfl ?_
        refine w_aload_n gz_196_100 rfl ?_
        refine w_getX (v := 170) gz_196_101 is_151 rd_10 rfl (by decide) rfl ?_
        refine w_iload_n gz_196_104 rfl ?_
        refine w_iald gz_196_105 is_170 rd_69 (by omega) (by omega) (fun v68 ev68 pv68 qv68 => ?_)
        have pa := pk.1 (by omega)
        have ka := kA x2 (by omega) (by omega)
        have lc := Lf_cut (s := x1) (p := x2) (i := x3) (k := 2) (n := v68) (by omega) (by omega) (by omega) ea (by omega) (by omega) (by omega) e55
        refine w_icle (t := 113) gz_196_106 rfl (fun u69 => ?_) (fun u69 => ?_)
        ·
          refine w_iconst gz_196_113 (by decide) ?_
          exact w_bret gz_196_114 gm_196 (by omega) (by omega) (k0 h (my_fr.rf) (by first | exact ot_172_0 | exact ot_283_0 | exact (fun _ _ => rfl) | (rw [wl_k (by omega) (by omega)]; exact RwN_rf (Int.le_refl _)) | (rw [wl_3 k3_172_0]; exact fun c c0 cw => Or.inl (nw_172_0 c c0 (by omega))) | (rw [wl_4 k4_283_0]; exact fun c c0 cw => by rcases (by omega : c < h 151 27 ∨ h 151 27 ≤ c) with q | q <;> first | exact Or.inl ⟨c, c0, q, lo_283_0 c c0 q⟩ | exact Or.inr (hi_283_0 c q (by omega))) | exact lc.1 ⟨fun z => by omega, fun z => by omega, fun z => by omega⟩ | exact lc.2 (fun z => by have z1 := z.1; have z2 := z.2.1; have z3 := z.2.2; omega) | exact Lf_sum (by omega) | exact Lf_few (by omega) k3_172_0 (fun j a b => ⟨(kF _ (by omega) (by omega)).1, pk.2.2 k3_172_0 j a (by omega) b⟩) (my_fr.at my_fr.rf is_181 rfl) (fun c a b => ne_172_0 c a (by omega)) | exact (Lf_join (g := h) (v := v55) T (by omega) (by omega) (by omega) k4_283_0 rfl (kA x2 (by omega) (by omega)).1 (pk.1 (by omega)) rfl (pj k4_283_0).1 (pj k4_283_0).2.1 rfl (pj k4_283_0).2.2.1 vq_283_0.symm).2 hs_283_0.1 v19_283_0 hs_283_0.2 (my_fr.at my_fr.rf is_181 rfl) lo_283_0 (fun k a b => hj_283_0 k a (by omega)) | exact (Lf_join (g := h) (v := v55) T (by omega) (by omega) (by omega) (by omega) rfl (kA x2 (by omega) (by omega)).1 (pk.1 (by omega)) rfl (pj (by omega)).1 (pj (by omega)).2.1 rfl (pj (by omega)).2.2.1 (by rw [ea]; exact e55)).1 (Or.inr (Or.inl (by omega))) | exact (Lf_join (g := h) (v := v55) T (by omega) (by omega) (by omega) (by omega) rfl (kA x2 (by omega) (by omega)).1 (pk.1 (by omega)) rfl (pj (by omega)).1 (pj (by omega)).2.1 rfl (pj (by omega)).2.2.1 (by rw [ea]; exact e55)).1 (Or.inr (Or.inr (by rw [c78]; omega))) | omega) (by first | exact ot_172_0 | exact ot_283_0 | exact (fun _ _ => rfl) | (rw [wl_k (by omega) (by omega)]; exact RwN_rf (Int.le_refl _)) | (rw [wl_3 k3_172_0]; exact fun c c0 cw => Or.inl (nw_172_0 c c0 (by omega))) | (rw [wl_4 k4_283_0]; exact fun c c0 cw => by rcases (by omega : c < h 151 27 ∨ h 151 27 ≤ c) with q | q <;> first | exact Or.inl ⟨c, c0, q, lo_283_0 c c0 q⟩ | exact Or.inr (hi_283_0 c q (by omega))) | exact lc.1 ⟨fun z => by omega, fun z => by omega, fun z => by omega⟩ | exact lc.2 (fun z => by have z1 := z.1; have z2 := z.2.1; have z3 := z.2.2; omega) | exact Lf_sum (by omega) | exact Lf_few (by omega) k3_172_0 (fun j a b => ⟨(kF _ (by omega) (by omega)).1, pk.2.2 k3_172_0 j a (by omega) b⟩) (my_fr.at my_fr.rf is_181 rfl) (fun c a b => ne_172_0 c a (by omega)) | exact (Lf_join (g := h) (v := v55) T (by omega) (by omega) (by omega) k4_283_0 rfl (kA x2 (by omega) (by omega)).1 (pk.1 (by omega)) rfl (pj k4_283_0).1 (pj k4_283_0).2.1 rfl (pj k4_283_0).2.2.1 vq_283_0.symm).2 hs_283_0.1 v19_283_0 hs_283_0.2 (my_fr.at my_fr.rf is_181 rfl) lo_283_0 (fun k a b => hj_283_0 k a (by omega)) | exact (Lf_join (g := h) (v := v55) T (by omega) (by omega) (by omega) (by omega) rfl (kA x2 (by omega) (by omega)).1 (pk.1 (by omega)) rfl (pj (by omega)).1 (pj (by omega)).2.1 rfl (pj (by omega)).2.2.1 (by rw [ea]; exact e55)).1 (Or.inr (Or.inl (by omega))) | exact (Lf_join (g := h) (v := v55) T (by omega) (by omega) (by omega) (by omega) rfl (kA x2 (by omega) (by omega)).1 (pk.1 (by omega)) rfl (pj (by omega)).1 (pj (by omega)).2.1 rfl (pj (by omega)).2.2.1 (by rw [ea]; exact e55)).1 (Or.inr (Or.inr (by rw [c78]; omega))) | omega))
        ·
          refine w_iconst gz_196_109 (by decide) ?_
          refine w_goto (t := 114) gz_196_110 rfl ?_
          exact w_bret gz_196_114 gm_196 (by omega) (by omega) (k1 h (my_fr.rf) (by first | exact ot_172_0 | exact ot_283_0 | exact (fun _ _ => rfl) | (rw [wl_k (by omega) (by omega)]; exact RwN_rf (Int.le_refl _)) | (rw [wl_3 k3_172_0]; exact fun c c0 cw => Or.inl (nw_172_0 c c0 (by omega))) | (rw [wl_4 k4_283_0]; exact fun c c0 cw => by rcases (by omega : c < h 151 27 ∨ h 151 27 ≤ c) with q | q <;> first | exact Or.inl ⟨c, c0, q, lo_283_0 c c0 q⟩ | exact Or.inr (hi_283_0 c q (by omega))) | exact lc.1 ⟨fun z => by omega, fun z => by omega, fun z => by omega⟩ | exact lc.2 (fun z => by have z1 := z.1; have z2 := z.2.1; have z3 := z.2.2; omega) | exact Lf_sum (by omega) | exact Lf_few (by omega) k3_172_0 (fun j a b => ⟨(kF _ (by omega) (by omega)).1, pk.2.2 k3_172_0 j a (by omega) b⟩) (my_fr.at my_fr.rf is_181 rfl) (fun c a b => ne_172_0 c a (by omega)) | exact (Lf_join (g := h) (v := v55) T (by omega) (by omega) (by omega) k4_283_0 rfl (kA x2 (by omega) (by omega)).1 (pk.1 (by omega)) rfl (pj k4_283_0).1 (pj k4_283_0).2.1 rfl (pj k4_283_0).2.2.1 vq_283_0.symm).2 hs_283_0.1 v19_283_0 hs_283_0.2 (my_fr.at my_fr.rf is_181 rfl) lo_283_0 (fun k a b => hj_283_0 k a (by omega)) | exact (Lf_join (g := h) (v := v55) T (by omega) (by omega) (by omega) (by omega) rfl (kA x2 (by omega) (by omega)).1 (pk.1 (by omega)) rfl (pj (by omega)).1 (pj (by omega)).2.1 rfl (pj (by omega)).2.2.1 (by rw [ea]; exact e55)).1 (Or.inr (Or.inl (by omega))) | exact (Lf_join (g := h) (v := v55) T (by omega) (by omega) (by omega) (by omega) rfl (kA x2 (by omega) (by omega)).1 (pk.1 (by omega)) rfl (pj (by omega)).1 (pj (by omega)).2.1 rfl (pj (by omega)).2.2.1 (by rw [ea]; exact e55)).1 (Or.inr (Or.inr (by rw [c78]; omega))) | omega) (by first | exact ot_172_0 | exact ot_283_0 | exact (fun _ _ => rfl) | (rw [wl_k (by omega) (by omega)]; exact RwN_rf (Int.le_refl _)) | (rw [wl_3 k3_172_0]; exact fun c c0 cw => Or.inl (nw_172_0 c c0 (by omega))) | (rw [wl_4 k4_283_0]; exact fun c c0 cw => by rcases (by omega : c < h 151 27 ∨ h 151 27 ≤ c) with q | q <;> first | exact Or.inl ⟨c, c0, q, lo_283_0 c c0 q⟩ | exact Or.inr (hi_283_0 c q (by omega))) | exact lc.1 ⟨fun z => by omega, fun z => by omega, fun z => by omega⟩ | exact lc.2 (fun z => by have z1 := z.1; have z2 := z.2.1; have z3 := z.2.2; omega) | exact Lf_sum (by omega) | exact Lf_few (by omega) k3_172_0 (fun j a b => ⟨(kF _ (by omega) (by omega)).1, pk.2.2 k3_172_0 j a (by omega) b⟩) (my_fr.at my_fr.rf is_181 rfl) (fun c a b => ne_172_0 c a (by omega)) | exact (Lf_join (g := h) (v := v55) T (by omega) (by omega) (by omega) k4_283_0 rfl (kA x2 (by omega) (by omega)).1 (pk.1 (by omega)) rfl (pj k4_283_0).1 (pj k4_283_0).2.1 rfl (pj k4_283_0).2.2.1 vq_283_0.symm).2 hs_283_0.1 v19_283_0 hs_283_0.2 (my_fr.at my_fr.rf is_181 rfl) lo_283_0 (fun k a b => hj_283_0 k a (by omega)) | exact (Lf_join (g := h) (v := v55) T (by omega) (by omega) (by omega) (by omega) rfl (kA x2 (by omega) (by omega)).1 (pk.1 (by omega)) rfl (pj (by omega)).1 (pj (by omega)).2.1 rfl (pj (by omega)).2.2.1 (by rw [ea]; exact e55)).1 (Or.inr (Or.inl (by omega))) | exact (Lf_join (g := h) (v := v55) T (by omega) (by omega) (by omega) (by omega) rfl (kA x2 (by omega) (by omega)).1 (pk.1 (by omega)) rfl (pj (by omega)).1 (pj (by omega)).2.1 rfl (pj (by omega)).2.2.1 (by rw [ea]; exact e55)).1 (Or.inr (Or.inr (by rw [c78]; omega))) | omega) (by first | exact ot_172_0 | exact ot_283_0 | exact (fun _ _ => rfl) | (rw [wl_k (by omega) (by omega)]; exact RwN_rf (Int.le_refl _)) | (rw [wl_3 k3_172_0]; exact fun c c0 cw => Or.inl (nw_172_0 c c0 (by omega))) | (rw [wl_4 k4_283_0]; exact fun c c0 cw => by rcases (by omega : c < h 151 27 ∨ h 151 27 ≤ c) with q | q <;> first | exact Or.inl ⟨c, c0, q, lo_283_0 c c0 q⟩ | exact Or.inr (hi_283_0 c q (by omega))) | exact lc.1 ⟨fun z => by omega, fun z => by omega, fun z => by omega⟩ | exact lc.2 (fun z => by have z1 := z.1; have z2 := z.2.1; have z3 := z.2.2; omega) | exact Lf_sum (by omega) | exact Lf_few (by omega) k3_172_0 (fun j a b => ⟨(kF _ (by omega) (by omega)).1, pk.2.2 k3_172_0 j a (by omega) b⟩) (my_fr.at my_fr.rf is_181 rfl) (fun c a b => ne_172_0 c a (by omega)) | exact (Lf_join (g := h) (v := v55) T (by omega) (by omega) (by omega) k4_283_0 rfl (kA x2 (by omega) (by omega)).1 (pk.1 (by omega)) rfl (pj k4_283_0).1 (pj k4_283_0).2.1 rfl (pj k4_283_0).2.2.1 vq_283_0.symm).2 hs_283_0.1 v19_283_0 hs_283_0.2 (my_fr.at my_fr.rf is_181 rfl) lo_283_0 (fun k a b => hj_283_0 k a (by omega)) | exact (Lf_join (g := h) (v := v55) T (by omega) (by omega) (by omega) (by omega) rfl (kA x2 (by omega) (by omega)).1 (pk.1 (by omega)) rfl (pj (by omega)).1 (pj (by omega)).2.1 rfl (pj (by omega)).2.2.1 (by rw [ea]; exact e55)).1 (Or.inr (Or.inl (by omega))) | exact (Lf_join (g := h) (v := v55) T (by omega) (by omega) (by omega) (by omega) rfl (kA x2 (by omega) (by omega)).1 (pk.1 (by omega)) rfl (pj (by omega)).1 (pj (by omega)).2.1 rfl (pj (by omega)).2.2.1 (by rw [ea]; exact e55)).1 (Or.inr (Or.inr (by rw [c78]; omega))) | omega))
      ·
        by_cases u70 : v57 = 3
        ·
          refine w_tswE (t := 115) gz_196_24 u70 (by decide) (by decide) rfl rfl ?_
          refine w_iconst gz_196_115 (by decide) ?_
          refine w_istore (ls' := [(2, 151), (0, x1), (0, x2), (0, x3), (0, v55), (0, 0)]) gz_196_116 gm_196 rfl rfl rfl ?_
          have a182 : ∀ j : Int, h 182 j = h 182 j := fun _ => rfl
          have a184 : ∀ j : Int, h 184 j = h 184 j := fun _ => rfl
          exact J118_0 9 (v55) (0) h (my_fr.rf) (by omega) (by omega) (by omega) (ek151_27.symm.trans (by omega)) (by omega) (by first | (intro k a b; exfalso; omega) | (intro k a b; rw [a184]; exact ka_118_0 k a (by omega)) | (intro k a b; rw [a184]; exact ka_172_0 k a b) | (intro k a b; rw [a184]; rcases (by omega : k = p118_1 ∨ k < p118_1) with q | q <;> first | (rw [my_up_ne f143 (by omega)]; exact ka_118_0 k a q) | (rw [my_up_at f143 (by omega)]; have z := sm_118_0 (8 * x3 + k); subst q; omega)) | omega) (by first | exact a182 | (intro j; rw [a182]; exact sm_118_0 j) | omega) (by omega)
        ·
          by_cases u71 : v57 = 4
          ·
            refine w_tswE (t := 251) gz_196_24 u71 (by decide) (by decide) rfl rfl ?_
            refine w_iload gz_196_251 rfl ?_
            refine w_bipush gz_196_253 (by decide) ?_
            refine w_icgt (t := 278) gz_196_255 rfl (fun u72 => ?_) (fun u72 => ?_)
            ·
              refine w_iconst gz_196_278 (by decide) ?_
              exact w_bret gz_196_279 gm_196 (by omega) (by omega) (k0 h (my_fr.rf) (by first | exact ot_172_0 | exact ot_283_0 | exact (fun _ _ => rfl) | (rw [wl_k (by omega) (by omega)]; exact RwN_rf (Int.le_refl _)) | (rw [wl_3 k3_172_0]; exact fun c c0 cw => Or.inl (nw_172_0 c c0 (by omega))) | (rw [wl_4 k4_283_0]; exact fun c c0 cw => by rcases (by omega : c < h 151 27 ∨ h 151 27 ≤ c) with q | q <;> first | exact Or.inl ⟨c, c0, q, lo_283_0 c c0 q⟩ | exact Or.inr (hi_283_0 c q (by omega))) | exact lc.1 ⟨fun z => by omega, fun z => by omega, fun z => by omega⟩ | exact lc.2 (fun z => by have z1 := z.1; have z2 := z.2.1; have z3 := z.2.2; omega) | exact Lf_sum (by omega) | exact Lf_few (by omega) k3_172_0 (fun j a b => ⟨(kF _ (by omega) (by omega)).1, pk.2.2 k3_172_0 j a (by omega) b⟩) (my_fr.at my_fr.rf is_181 rfl) (fun c a b => ne_172_0 c a (by omega)) | exact (Lf_join (g := h) (v := v55) T (by omega) (by omega) (by omega) k4_283_0 rfl (kA x2 (by omega) (by omega)).1 (pk.1 (by omega)) rfl (pj k4_283_0).1 (pj k4_283_0).2.1 rfl (pj k4_283_0).2.2.1 vq_283_0.symm).2 hs_283_0.1 v19_283_0 hs_283_0.2 (my_fr.at my_fr.rf is_181 rfl) lo_283_0 (fun k a b => hj_283_0 k a (by omega)) | exact (Lf_join (g := h) (v := v55) T (by omega) (by omega) (by omega) (by omega) rfl (kA x2 (by omega) (by omega)).1 (pk.1 (by omega)) rfl (pj (by omega)).1 (pj (by omega)).2.1 rfl (pj (by omega)).2.2.1 (by rw [ea]; exact e55)).1 (Or.inr (Or.inl (by omega))) | exact (Lf_join (g := h) (v := v55) T (by omega) (by omega) (by omega) (by omega) rfl (kA x2 (by omega) (by omega)).1 (pk.1 (by omega)) rfl (pj (by omega)).1 (pj (by omega)).2.1 rfl (pj (by omega)).2.2.1 (by rw [ea]; exact e55)).1 (Or.inr (Or.inr (by rw [c78]; omega))) | omega) (by first | exact ot_172_0 | exact ot_283_0 | exact (fun _ _ => rfl) | (rw [wl_k (by omega) (by omega)]; exact RwN_rf (Int.le_refl _)) | (rw [wl_3 k3_172_0]; exact fun c c0 cw => Or.inl (nw_172_0 c c0 (by omega))) | (rw [wl_4 k4_283_0]; exact fun c c0 cw => by rcases (by omega : c < h 151 27 ∨ h 151 27 ≤ c) with q | q <;> first | exact Or.inl ⟨c, c0, q, lo_283_0 c c0 q⟩ | exact Or.inr (hi_283_0 c q (by omega))) | exact lc.1 ⟨fun z => by omega, fun z => by omega, fun z => by omega⟩ | exact lc.2 (fun z => by have z1 := z.1; have z2 := z.2.1; have z3 := z.2.2; omega) | exact Lf_sum (by omega) | exact Lf_few (by omega) k3_172_0 (fun j a b => ⟨(kF _ (by omega) (by omega)).1, pk.2.2 k3_172_0 j a (by omega) b⟩) (my_fr.at my_fr.rf is_181 rfl) (fun c a b => ne_172_0 c a (by omega)) | exact (Lf_join (g := h) (v := v55) T (by omega) (by omega) (by omega) k4_283_0 rfl (kA x2 (by omega) (by omega)).1 (pk.1 (by omega)) rfl (pj k4_283_0).1 (pj k4_283_0).2.1 rfl (pj k4_283_0).2.2.1 vq_283_0.symm).2 hs_283_0.1 v19_283_0 hs_283_0.2 (my_fr.at my_fr.rf is_181 rfl) lo_283_0 (fun k a b => hj_283_0 k a (by omega)) | exact (Lf_join (g := h) (v := v55) T (by omega) (by omega) (by omega) (by omega) rfl (kA x2 (by omega) (by omega)).1 (pk.1 (by omega)) rfl (pj (by omega)).1 (pj (by omega)).2.1 rfl (pj (by omega)).2.2.1 (by rw [ea]; exact e55)).1 (Or.inr (Or.inl (by omega))) | exact (Lf_join (g := h) (v := v55) T (by omega) (by omega) (by omega) (by omega) rfl (kA x2 (by omega) (by omega)).1 (pk.1 (by omega)) rfl (pj (by omega)).1 (pj (by omega)).2.1 rfl (pj (by omega)).2.2.1 (by rw [ea]; exact e55)).1 (Or.inr (Or.inr (by rw [c78]; omega))) | omega))
            ·
              refine w_aload_n gz_196_258 rfl ?_
              refine w_getX (v := 162) gz_196_259 is_151 rd_10 rfl (by decide) rfl ?_
              refine w_iload_n gz_196_262 rfl ?_
              refine w_aload_n gz_196_263 rfl ?_
              refine w_getX (v := 170) gz_196_264 is_151 rd_10 rfl (by decide) rfl ?_
              refine w_iload_n gz_196_267 rfl ?_
              refine w_iald gz_196_268 is_170 rd_69 (by omega) (by omega) (fun v75 ev75 pv75 qv75 => ?_)
              refine w_iload gz_196_269 rfl ?_
              have pj4 := pj (by omega)
              refine w_inS (k := 0) (as := [(0, v55), (0, v75), (0, x1)]) (r := [(2, 162)]) (ls0 := [(0, x1), (0, v75), (0, v55)]) gz_196_271 gm_150 rfl rfl rfl rfl rfl rfl ?_
              refine w_bipush gz_150_0 (by decide) ?_
              refine w_iload_n gz_150_2 rfl ?_
              refine w_imul gz_150_3 ⟨by omega, by omega⟩ ?_
              refine w_bipush gz_150_4 (by decide) ?_
              refine w_iload_n gz_150_6 rfl ?_
              refine w_imul gz_150_7 ⟨by omega, by omega⟩ ?_
              refine w_iadd gz_150_8 ⟨by omega, by omega⟩ ?_
              refine w_iload_n gz_150_9 rfl ?_
              refine w_iadd gz_150_10 ⟨by omega, by omega⟩ ?_
              refine w_iret gz_150_11 gm_150 ?_
              show wp l rho (d + 2) 196 274 [(2, 151), (0, x1), (0, x2), (0, x3), (0, v55), (9, 0)] [(0, (((60 * x1) + (20 * v75)) + v55)), (2, 162)] h Q
              have hi76 : 0 ≤ (((60 * x1) + (20 * v75)) + v55) := by omega
              have hi77 : (((60 * x1) + (20 * v75)) + v55) ≤ 959 := by omega
              refine w_bald gz_196_274 is_162 rd_61 (by omega) (by omega) (fun v78 ev78 pv78 qv78 => ?_)
              have c78 : h 162 (60 * x1 + 20 * h 170 x2 + v55) = v78 := by
                rw [show 60 * x1 + 20 * h 170 x2 + v55 = (((60 * x1) + (20 * v75)) + v55) by omega]
                omega
              refine w_ifne (t := 280) gz_196_275 rfl (fun u79 => ?_) (fun u79 => ?_)
              ·
                refine w_iconst gz_196_280 (by decide) ?_
                refine w_istore (ls' := [(2, 151), (0, x1), (0, x2), (0, x3), (0, v55), (0, 1)]) gz_196_281 gm_196 rfl rfl rfl ?_
                have a182 : ∀ j : Int, h 182 j = h 182 j := fun _ => rfl
                exact J283_0 4 (v55) (1) h (my_fr.rf) (by omega) (by omega) (by omega) (by omega) (ek151_27.symm.trans (by omega)) (by omega) (by first | (intro k a b; exact a182 _) | (intro k a b; rw [a182, my_up_ne f332 (by omega)]; exact lo_283_0 k a b) | omega) (by first | (intro k a b; exfalso; omega) | (intro k a b; rw [a182]; rcases (by omega : k = h 151 27 + p283_1 - 1 ∨ k < h 151 27 + p283_1 - 1) with q | q <;> first | (rw [my_up_ne f332 (by omega)]; exact hi_283_0 k a q) | (rw [my_up_at f332 (by omega)]; omega)) | omega) (by first | (intro j q; rw [a182]; exact sm_118_0 j) | (intro j q; exact a182 j) | (intro j q; rw [a182, my_up_ne f211 (by omega)]; exact ot_172_0 j q) | (intro j q; rw [a182, my_up_ne f332 (by omega)]; exact ot_283_0 j q) | omega) (by omega) (by first | (intro k a b; exfalso; omega) | (intro k a b; rw [a182]; rcases (by omega : k = h 151 27 + p283_1 - 1 ∨ k < h 151 27 + p283_1 - 1) with q | q <;> first | (rw [my_up_ne f332 (by omega)]; exact hj_283_0 k a q) | (rw [my_up_at f332 (by omega), show k - h 151 27 + 1 = p283_1 by omega]; exact cv.symm)) | omega) (by first | exact vq_283_0 | (rw [ea]; exact e55.symm) | assumption | omega) (by first | exact hs_283_0 | exact ⟨by omega, by rw [c78]; omega⟩ | assumption | omega) (by omega)
              ·
                refine w_iconst gz_196_278 (by decide) ?_
                exact w_bret gz_196_279 gm_196 (by omega) (by omega) (k0 h (my_fr.rf) (by first | exact ot_172_0 | exact ot_283_0 | exact (fun _ _ => rfl) | (rw [wl_k (by omega) (by omega)]; exact RwN_rf (Int.le_refl _)) | (rw [wl_3 k3_172_0]; exact fun c c0 cw => Or.inl (nw_172_0 c c0 (by omega))) | (rw [wl_4 k4_283_0]; exact fun c c0 cw => by rcases (by omega : c < h 151 27 ∨ h 151 27 ≤ c) with q | q <;> first | exact Or.inl ⟨c, c0, q, lo_283_0 c c0 q⟩ | exact Or.inr (hi_283_0 c q (by omega))) | exact lc.1 ⟨fun z => by omega, fun z => by omega, fun z => by omega⟩ | exact lc.2 (fun z => by have z1 := z.1; have z2 := z.2.1; have z3 := z.2.2; omega) | exact Lf_sum (by omega) | exact Lf_few (by omega) k3_172_0 (fun j a b => ⟨(kF _ (by omega) (by omega)).1, pk.2.2 k3_172_0 j a (by omega) b⟩) (my_fr.at my_fr.rf is_181 rfl) (fun c a b => ne_172_0 c a (by omega)) | exact (Lf_join (g := h) (v := v55) T (by omega) (by omega) (by omega) k4_283_0 rfl (kA x2 (by omega) (by omega)).1 (pk.1 (by omega)) rfl (pj k4_283_0).1 (pj k4_283_0).2.1 rfl (pj k4_283_0).2.2.1 vq_283_0.symm).2 hs_283_0.1 v19_283_0 hs_283_0.2 (my_fr.at my_fr.rf is_181 rfl) lo_283_0 (fun k a b => hj_283_0 k a (by omega)) | exact (Lf_join (g := h) (v := v55) T (by omega) (by omega) (by omega) (by omega) rfl (kA x2 (by omega) (by omega)).1 (pk.1 (by omega)) rfl (pj (by omega)).1 (pj (by omega)).2.1 rfl (pj (by omega)).2.2.1 (by rw [ea]; exact e55)).1 (Or.inr (Or.inl (by omega))) | exact (Lf_join (g := h) (v := v55) T (by omega) (by omega) (by omega) (by omega) rfl (kA x2 (by omega) (by omega)).1 (pk.1 (by omega)) rfl (pj (by omega)).1 (pj (by omega)).2.1 rfl (pj (by omega)).2.2.1 (by rw [ea]; exact e55)).1 (Or.inr (Or.inr (by rw [c78]; omega))) | omega) (by first | exact ot_172_0 | exact ot_283_0 | exact (fun _ _ => rfl) | (rw [wl_k (by omega) (by omega)]; exact RwN_rf (Int.le_refl _)) | (rw [wl_3 k3_172_0]; exact fun c c0 cw => Or.inl (nw_172_0 c c0 (by omega))) | (rw [wl_4 k4_283_0]; exact fun c c0 cw => by rcases (by omega : c < h 151 27 ∨ h 151 27 ≤ c) with q | q <;> first | exact Or.inl ⟨c, c0, q, lo_283_0 c c0 q⟩ | exact Or.inr (hi_283_0 c q (by omega))) | exact lc.1 ⟨fun z => by omega, fun z => by omega, fun z => by omega⟩ | exact lc.2 (fun z => by have z1 := z.1; have z2 := z.2.1; have z3 := z.2.2; omega) | exact Lf_sum (by omega) | exact Lf_few (by omega) k3_172_0 (fun j a b => ⟨(kF _ (by omega) (by omega)).1, pk.2.2 k3_172_0 j a (by omega) b⟩) (my_fr.at my_fr.rf is_181 rfl) (fun c a b => ne_172_0 c a (by omega)) | exact (Lf_join (g := h) (v := v55) T (by omega) (by omega) (by omega) k4_283_0 rfl (kA x2 (by omega) (by omega)).1 (pk.1 (by omega)) rfl (pj k4_283_0).1 (pj k4_283_0).2.1 rfl (pj k4_283_0).2.2.1 vq_283_0.symm).2 hs_283_0.1 v19_283_0 hs_283_0.2 (my_fr.at my_fr.rf is_181 rfl) lo_283_0 (fun k a b => hj_283_0 k a (by omega)) | exact (Lf_join (g := h) (v := v55) T (by omega) (by omega) (by omega) (by omega) rfl (kA x2 (by omega) (by omega)).1 (pk.1 (by omega)) rfl (pj (by omega)).1 (pj (by omega)).2.1 rfl (pj (by omega)).2.2.1 (by rw [ea]; exact e55)).1 (Or.inr (Or.inl (by omega))) | exact (Lf_join (g := h) (v := v55) T (by omega) (by omega) (by omega) (by omega) rfl (kA x2 (by omega) (by omega)).1 (pk.1 (by omega)) rfl (pj (by omega)).1 (pj (by omega)).2.1 rfl (pj (by omega)).2.2.1 (by rw [ea]; exact e55)).1 (Or.inr (Or.inr (by rw [c78]; omega))) | omega))
          ·
            by_cases u80 : v57 = 5
            ·
              refine w_tswE (t := 249) gz_196_24 u80 (by decide) (by decide) rfl rfl ?_
              refine w_iconst gz_196_249 (by decide) ?_
              exact w_bret gz_196_250 gm_196 (by omega) (by omega) (k1 h (my_fr.rf) (by first | exact ot_172_0 | exact ot_283_0 | exact (fun _ _ => rfl) | (rw [wl_k (by omega) (by omega)]; exact RwN_rf (Int.le_refl _)) | (rw [wl_3 k3_172_0]; exact fun c c0 cw => Or.inl (nw_172_0 c c0 (by omega))) | (rw [wl_4 k4_283_0]; exact fun c c0 cw => by rcases (by omega : c < h 151 27 ∨ h 151 27 ≤ c) with q | q <;> first | exact Or.inl ⟨c, c0, q, lo_283_0 c c0 q⟩ | exact Or.inr (hi_283_0 c q (by omega))) | exact lc.1 ⟨fun z => by omega, fun z => by omega, fun z => by omega⟩ | exact lc.2 (fun z => by have z1 := z.1; have z2 := z.2.1; have z3 := z.2.2; omega) | exact Lf_sum (by omega) | exact Lf_few (by omega) k3_172_0 (fun j a b => ⟨(kF _ (by omega) (by omega)).1, pk.2.2 k3_172_0 j a (by omega) b⟩) (my_fr.at my_fr.rf is_181 rfl) (fun c a b => ne_172_0 c a (by omega)) | exact (Lf_join (g := h) (v := v55) T (by omega) (by omega) (by omega) k4_283_0 rfl (kA x2 (by omega) (by omega)).1 (pk.1 (by omega)) rfl (pj k4_283_0).1 (pj k4_283_0).2.1 rfl (pj k4_283_0).2.2.1 vq_283_0.symm).2 hs_283_0.1 v19_283_0 hs_283_0.2 (my_fr.at my_fr.rf is_181 rfl) lo_283_0 (fun k a b => hj_283_0 k a (by omega)) | exact (Lf_join (g := h) (v := v55) T (by omega) (by omega) (by omega) (by omega) rfl (kA x2 (by omega) (by omega)).1 (pk.1 (by omega)) rfl (pj (by omega)).1 (pj (by omega)).2.1 rfl (pj (by omega)).2.2.1 (by rw [ea]; exact e55)).1 (Or.inr (Or.inl (by omega))) | exact (Lf_join (g := h) (v := v55) T (by omega) (by omega) (by omega) (by omega) rfl (kA x2 (by omega) (by omega)).1 (pk.1 (by omega)) rfl (pj (by omega)).1 (pj (by omega)).2.1 rfl (pj (by omega)).2.2.1 (by rw [ea]; exact e55)).1 (Or.inr (Or.inr (by rw [c78]; omega))) | omega) (by first | exact ot_172_0 | exact ot_283_0 | exact (fun _ _ => rfl) | (rw [wl_k (by omega) (by omega)]; exact RwN_rf (Int.le_refl _)) | (rw [wl_3 k3_172_0]; exact fun c c0 cw => Or.inl (nw_172_0 c c0 (by omega))) | (rw [wl_4 k4_283_0]; exact fun c c0 cw => by rcases (by omega : c < h 151 27 ∨ h 151 27 ≤ c) with q | q <;> first | exact Or.inl ⟨c, c0, q, lo_283_0 c c0 q⟩ | exact Or.inr (hi_283_0 c q (by omega))) | exact lc.1 ⟨fun z => by omega, fun z => by omega, fun z => by omega⟩ | exact lc.2 (fun z => by have z1 := z.1; have z2 := z.2.1; have z3 := z.2.2; omega) | exact Lf_sum (by omega) | exact Lf_few (by omega) k3_172_0 (fun j a b => ⟨(kF _ (by omega) (by omega)).1, pk.2.2 k3_172_0 j a (by omega) b⟩) (my_fr.at my_fr.rf is_181 rfl) (fun c a b => ne_172_0 c a (by omega)) | exact (Lf_join (g := h) (v := v55) T (by omega) (by omega) (by omega) k4_283_0 rfl (kA x2 (by omega) (by omega)).1 (pk.1 (by omega)) rfl (pj k4_283_0).1 (pj k4_283_0).2.1 rfl (pj k4_283_0).2.2.1 vq_283_0.symm).2 hs_283_0.1 v19_283_0 hs_283_0.2 (my_fr.at my_fr.rf is_181 rfl) lo_283_0 (fun k a b => hj_283_0 k a (by omega)) | exact (Lf_join (g := h) (v := v55) T (by omega) (by omega) (by omega) (by omega) rfl (kA x2 (by omega) (by omega)).1 (pk.1 (by omega)) rfl (pj (by omega)).1 (pj (by omega)).2.1 rfl (pj (by omega)).2.2.1 (by rw [ea]; exact e55)).1 (Or.inr (Or.inl (by omega))) | exact (Lf_join (g := h) (v := v55) T (by omega) (by omega) (by omega) (by omega) rfl (kA x2 (by omega) (by omega)).1 (pk.1 (by omega)) rfl (pj (by omega)).1 (pj (by omega)).2.1 rfl (pj (by omega)).2.2.1 (by rw [ea]; exact e55)).1 (Or.inr (Or.inr (by rw [c78]; omega))) | omega) (by first | exact ot_172_0 | exact ot_283_0 | exact (fun _ _ => rfl) | (rw [wl_k (by omega) (by omega)]; exact RwN_rf (Int.le_refl _)) | (rw [wl_3 k3_172_0]; exact fun c c0 cw => Or.inl (nw_172_0 c c0 (by omega))) | (rw [wl_4 k4_283_0]; exact fun c c0 cw => by rcases (by omega : c < h 151 27 ∨ h 151 27 ≤ c) with q | q <;> first | exact Or.inl ⟨c, c0, q, lo_283_0 c c0 q⟩ | exact Or.inr (hi_283_0 c q (by omega))) | exact lc.1 ⟨fun z => by omega, fun z => by omega, fun z => by omega⟩ | exact lc.2 (fun z => by have z1 := z.1; have z2 := z.2.1; have z3 := z.2.2; omega) | exact Lf_sum (by omega) | exact Lf_few (by omega) k3_172_0 (fun j a b => ⟨(kF _ (by omega) (by omega)).1, pk.2.2 k3_172_0 j a (by omega) b⟩) (my_fr.at my_fr.rf is_181 rfl) (fun c a b => ne_172_0 c a (by omega)) | exact (Lf_join (g := h) (v := v55) T (by omega) (by omega) (by omega) k4_283_0 rfl (kA x2 (by omega) (by omega)).1 (pk.1 (by omega)) rfl (pj k4_283_0).1 (pj k4_283_0).2.1 rfl (pj k4_283_0).2.2.1 vq_283_0.symm).2 hs_283_0.1 v19_283_0 hs_283_0.2 (my_fr.at my_fr.rf is_181 rfl) lo_283_0 (fun k a b => hj_283_0 k a (by omega)) | exact (Lf_join (g := h) (v := v55) T (by omega) (by omega) (by omega) (by omega) rfl (kA x2 (by omega) (by omega)).1 (pk.1 (by omega)) rfl (pj (by omega)).1 (pj (by omega)).2.1 rfl (pj (by omega)).2.2.1 (by rw [ea]; exact e55)).1 (Or.inr (Or.inl (by omega))) | exact (Lf_join (g := h) (v := v55) T (by omega) (by omega) (by omega) (by omega) rfl (kA x2 (by omega) (by omega)).1 (pk.1 (by omega)) rfl (pj (by omega)).1 (pj (by omega)).2.1 rfl (pj (by omega)).2.2.1 (by rw [ea]; exact e55)).1 (Or.inr (Or.inr (by rw [c78]; omega))) | omega))
            ·
              exfalso; omega
theorem c_Model_shifts5 {l : Launch} {rho : Nat → Int32} {d : Nat} {h : my_H} {Q : my_H → my_V → Prop} {x1 x2 : Int} (a1 : 0 ≤ x1) (b1 : x1 ≤ 9) (a2 : 0 ≤ x2) (b2 : x2 ≤ 9) (k0 : ∀ (h' : my_H), my_fr [(80, -1), (81, -1), (82, -1)] h h' → (∀ k : Int, 0 ≤ k → k < 8 → h' 182 (8 * x2 + k) = h 182 (8 * x1 + k)) → RwO h h' x2 → ShfN h h' x1 x2 → Q h' (9, 0)) : wp l rho d 197 0 [(2, 151), (0, x1), (0, x2), (9, 0)] [] h Q := by
  have J14_0 : ∀ (n : Nat) (p14_0 : Int) (h14_0 : my_H), my_fr [(80, -1), (81, -1), (82, -1)] h h14_0 → 0 ≤ p14_0 → p14_0 ≤ 8 → (∀ k : Int, 0 ≤ k → k < p14_0 → h14_0 182 (8 * x2 + k) = h 182 (8 * x1 + k)) → (∀ k : Int, p14_0 ≤ k → k < 8 → h14_0 182 (8 * x1 + k) = h 182 (8 * x1 + k)) → RwO h h14_0 x2 → h14_0 181 x2 = h 181 x1 → (∀ j : Int, j ≠ x2 → h14_0 181 j = h 181 j) → 9 - p14_0 ≤ (n : Int) → wp l rho d 197 14 [(2, 151), (0, x1), (0, x2), (0, p14_0)] [] h14_0 Q := by
    intro n
    induction n with
    | zero => intro p14_0 h14_0 gh_14_0 q0_14_0 q1_14_0 cp_14_0 nt_14_0 ot_14_0 s1_14_0 s2_14_0 hm_14_0; exfalso; omega
    | succ n ih_14_0 =>
      intro p14_0 h14_0 gh_14_0 q0_14_0 q1_14_0 cp_14_0 nt_14_0 ot_14_0 s1_14_0 s2_14_0 hm_14_0
      refine w_iload_n gz_197_14 rfl ?_
      refine w_bipush gz_197_15 (by decide) ?_
      refine w_icge (t := 70) gz_197_17 rfl (fun u1 => ?_) (fun u1 => ?_)
      ·
        exact w_vret gz_197_70 gm_197 (k0 h14_0 (gh_14_0) (by first | exact ot_14_0 | exact (fun k a b => cp_14_0 k a (by omega)) | exact ⟨s1_14_0, fun k a b => cp_14_0 k a (by omega), s2_14_0, ot_14_0⟩ | assumption | omega) (by first | exact ot_14_0 | exact (fun k a b => cp_14_0 k a (by omega)) | exact ⟨s1_14_0, fun k a b => cp_14_0 k a (by omega), s2_14_0, ot_14_0⟩ | assumption | omega) (by first | exact ot_14_0 | exact (fun k a b => cp_14_0 k a (by omega)) | exact ⟨s1_14_0, fun k a b => cp_14_0 k a (by omega), s2_14_0, ot_14_0⟩ | assumption | omega))
      ·
        refine w_aload_n gz_197_20 rfl ?_
        refine w_getX (v := 182) gz_197_21 is_151 rd_10 rfl (by decide) rfl ?_
        refine w_bipush gz_197_24 (by decide) ?_
        refine w_iload_n gz_197_26 rfl ?_
        refine w_imul gz_197_27 ⟨by omega, by omega⟩ ?_
        refine w_iload_n gz_197_28 rfl ?_
        refine w_iadd gz_197_29 ⟨by omega, by omega⟩ ?_
        refine w_aload_n gz_197_30 rfl ?_
        refine w_getX (v := 182) gz_197_31 is_151 rd_10 rfl (by decide) rfl ?_
        refine w_bipush gz_197_34 (by decide) ?_
        refine w_iload_n gz_197_36 rfl ?_
        refine w_imul gz_197_37 ⟨by omega, by omega⟩ ?_
        refine w_iload_n gz_197_38 rfl ?_
        refine w_iadd gz_197_39 ⟨by omega, by omega⟩ ?_
        refine w_iald gz_197_40 is_182 rd_81 (by omega) (by omega) (fun v4 ev4 pv4 qv4 => ?_)
        refine w_iastU gz_197_41 is_182 rd_81 (by omega) (by omega) (by omega) (fun h5 fh5 => ?_)
        have gh5 : my_fr [(80, -1), (81, -1), (82, -1)] h h5 := my_fr.up gh_14_0 is_182 fh5 rfl
        have f41 := fh5
        have k41 := my_up_self fh5
        refine w_aload_n gz_197_42 rfl ?_
        refine w_getX (v := 183) gz_197_43 is_151 rd_10 rfl (by decide) rfl ?_
        refine w_bipush gz_197_46 (by decide) ?_
        refine w_iload_n gz_197_48 rfl ?_
        refine w_imul gz_197_49 ⟨by omega, by omega⟩ ?_
        refine w_iload_n gz_197_50 rfl ?_
        refine w_iadd gz_197_51 ⟨by omega, by omega⟩ ?_
        refine w_aload_n gz_197_52 rfl ?_
        refine w_getX (v := 183) gz_197_53 is_151 rd_10 rfl (by decide) rfl ?_
        refine w_bipush gz_197_56 (by decide) ?_
        refine w_iload_n gz_197_58 rfl ?_
        refine w_imul gz_197_59 ⟨by omega, by omega⟩ ?_
        refine w_iload_n gz_197_60 rfl ?_
        refine w_iadd gz_197_61 ⟨by omega, by omega⟩ ?_
        refine w_iald gz_197_62 is_183 rd_82 (by omega) (by omega) (fun v8 ev8 pv8 qv8 => ?_)
        refine w_iast gz_197_63 is_183 rd_82 (by omega) (by omega) (by omega) (by omega) (fun h9 fh9 => ?_)
        have gh9 : my_fr [(80, -1), (81, -1), (82, -1)] h h9 := my_fr.up gh5 is_183 fh9 rfl
        refine w_iinc (ls' := [(2, 151), (0, x1), (0, x2), (0, (p14_0 + 1))]) gz_197_64 rfl gm_197 rfl rfl rfl ⟨by omega, by omega⟩ ?_
        refine w_goto (t := 14) gz_197_67 rfl ?_
        have a182 : ∀ j : Int, h9 182 j = h5 182 j := fun j => ((my_up_role fh9 is_182 is_183 rfl).trans (rfl : h5 182 j = h5 182 j))
        have a181 : ∀ j : Int, h9 181 j = h14_0 181 j := fun j => ((my_up_role fh9 is_181 is_183 rfl).trans ((my_up_role fh5 is_181 is_182 rfl).trans (rfl : h14_0 181 j = h14_0 181 j)))
        exact ih_14_0 ((p14_0 + 1)) h9 (gh9) (by omega) (by omega) (by first | (intro k a b; omega) | (intro k a b; rw [a182]; rcases (by omega : k = p14_0 ∨ k < p14_0) with q | q <;> first | (rw [my_up_ne f41 (by omega)]; exact cp_14_0 k a q) | (subst q; have z := nt_14_0 _ (Int.le_refl _) (by omega); rw [k41]; omega)) | omega) (by first | (intro k a b; exact a182 _) | (intro k a b; rw [a182, my_up_ne f41 (by omega)]; exact nt_14_0 k (by omega) b) | omega) (by first | (intro j q; exact a182 j) | (intro j q; rw [a182, my_up_ne f41 (by omega)]; exact ot_14_0 j q) | omega) (by first | (rw [a181]; exact s1_14_0) | (rw [my_up_at fh9 (by omega)]; omega) | assumption | omega) (by first | (intro j hj; rw [a181]; exact s2_14_0 j hj) | (intro j hj; exact my_up_ne fh9 (by omega)) | assumption | omega) (by omega)
  refine w_aload_n gz_197_0 rfl ?_
  refine w_getX (v := 181) gz_197_1 is_151 rd_10 rfl (by decide) rfl ?_
  refine w_iload_n gz_197_4 rfl ?_
  refine w_aload_n gz_197_5 rfl ?_
  refine w_getX (v := 181) gz_197_6 is_151 rd_10 rfl (by decide) rfl ?_
  refine w_iload_n gz_197_9 rfl ?_
  refine w_iald gz_197_10 is_181 rd_80 (by omega) (by omega) (fun v12 ev12 pv12 qv12 => ?_)
  refine w_iast gz_197_11 is_181 rd_80 (by omega) (by omega) (by omega) (by omega) (fun h13 fh13 => ?_)
  have gh13 : my_fr [(80, -1), (81, -1), (82, -1)] h h13 := my_fr.up my_fr.rf is_181 fh13 rfl
  refine w_iconst gz_197_12 (by decide) ?_
  refine w_istore_n (ls' := [(2, 151), (0, x1), (0, x2), (0, 0)]) gz_197_13 gm_197 rfl rfl rfl ?_
  have a182 : ∀ j : Int, h13 182 j = h 182 j := fun j => ((my_up_role fh13 is_182 is_181 rfl).trans (rfl : h 182 j = h 182 j))
  have a181 : ∀ j : Int, h13 181 j = h13 181 j := fun j => rfl
  exact J14_0 9 (0) h13 (gh13) (by omega) (by omega) (by first | (intro k a b; omega) | (intro k a b; rw [a182]; rcases (by omega : k = p14_0 ∨ k < p14_0) with q | q <;> first | (rw [my_up_ne f41 (by omega)]; exact cp_14_0 k a q) | (subst q; have z := nt_14_0 _ (Int.le_refl _) (by omega); rw [k41]; omega)) | omega) (by first | (intro k a b; exact a182 _) | (intro k a b; rw [a182, my_up_ne f41 (by omega)]; exact nt_14_0 k (by omega) b) | omega) (by first | (intro j q; exact a182 j) | (intro j q; rw [a182, my_up_ne f41 (by omega)]; exact ot_14_0 j q) | omega) (by first | (rw [a181]; exact s1_14_0) | (rw [my_up_at fh13 (by omega)]; omega) | assumption | omega) (by first | (intro j hj; rw [a181]; exact s2_14_0 j hj) | (intro j hj; exact my_up_ne fh13 (by omega)) | assumption | omega) (by omega)
theorem c_Model_sums5 {l : Launch} {rho : Nat → Int32} {d : Nat} {h : my_H} {Q : my_H → my_V → Prop} {x1 : Int} (a1 : 0 ≤ x1) (b1 : x1 ≤ 41) (k5 : h 168 x1 = 5) (pk : Pk3 h x1 (h 151 27)) (sh : Shn h 0 (h 151 37) (h 151 27) (vb (h 151 37))) (k0 : ∀ (h' : my_H), my_fr [(10, 37), (80, -1), (81, -1), (85, -1), (86, -1)] h h' → h' 151 37 ≤ h 151 37 → Shn h' 0 (h' 151 37) 2 (vb (h' 151 37)) → (zqL (zqN h' 2) (h' 151 37).toNat).map Prod.snd = (zqG (h 170 x1) (h 169 x1) ((zqL (zqN h (h 151 27)) (h 151 37).toNat).map Prod.snd)).map zq2 → Q h' (9, 0)) : wp l rho d 198 0 [(2, 151), (0, x1), (9, 0), (9, 0), (9, 0), (9, 0)] [] h Q := by
  refine v_know (x := 151) (j := 37) (b := 37) rfl is_151 rd_10 rfl (fun k151_37 ek151_37 pk151_37 qk151_37 => ?_)
  refine v_know (x := 151) (j := 27) (b := 27) rfl is_151 rd_10 rfl (fun k151_27 ek151_27 pk151_27 qk151_27 => ?_)
  have vB := vb_bd (m := h 151 37) (by omega) (by omega)
  refine v_knowA (x := 169) is_169 rd_68 (fun kA => ?_)
  refine v_knowA (x := 170) is_170 rd_69 (fun kB => ?_)
  have ga := kA x1 (by omega) (by omega)
  have gb := kB x1 (by omega) (by omega)
  have gc := pk.1 (by omega)
  have gd := pk.2.1 k5
  have J120_0 : ∀ (n : Nat) (p120_0 p120_1 : Int) (h120_0 : my_H), my_fr [(10, 37), (80, -1), (81, -1), (85, -1), (86, -1)] h h120_0 → 0 ≤ p120_0 → p120_0 ≤ 10 → 0 ≤ p120_1 → p120_1 ≤ 10 → p120_0 ≤ k151_37 → p120_1 ≤ p120_0 → p120_1 ≤ k151_37 → k151_37 ≤ (p120_0 + 9) → h120_0 151 27 = k151_27 → h120_0 151 37 = p120_0 → p120_0 ≤ h 151 37 → h120_0 151 37 = p120_0 → Sbv h120_0 (vb (h 151 37)) p120_0 (h 151 37 - p120_0) → Shn h120_0 0 p120_1 2 (vb p120_0) → SmI h h120_0 (h 151 27) (h 170 x1) (h 169 x1) (h 151 37) p120_0 → (∀ i : Nat, (i : Int) < p120_1 → h120_0 182 (8 * (i : Int)) = h120_0 186 (i : Int) ∧ h120_0 182 (8 * (i : Int) + 1) = h120_0 187 (i : Int)) → 11 - p120_1 ≤ (n : Int) → wp l rho d 198 120 [(2, 151), (0, x1), (0, p120_0), (0, p120_1), (9, 0), (9, 0)] [] h120_0 Q := by
    intro n
    induction n with
    | zero => intro p120_0 p120_1 h120_0 gh_120_0 q0_120_0 q1_120_0 q2_120_0 q3_120_0 q4_120_0 q5_120_0 q6_120_0 q7_120_0 c151_27_120_0 c151_37_120_0 nm_120_0 mn_120_0 sv_120_0 sn_120_0 sr_120_0 cp_120_0 hm_120_0; exfalso; omega
    | succ n ih_120_0 =>
      intro p120_0 p120_1 h120_0 gh_120_0 q0_120_0 q1_120_0 q2_120_0 q3_120_0 q4_120_0 q5_120_0 q6_120_0 q7_120_0 c151_27_120_0 c151_37_120_0 nm_120_0 mn_120_0 sv_120_0 sn_120_0 sr_120_0 cp_120_0 hm_120_0
      refine w_iload_n gz_198_120 rfl ?_
      refine w_iload_n gz_198_121 rfl ?_
      refine w_icge (t := 170) gz_198_122 rfl (fun u1 => ?_) (fun u1 => ?_)
      ·
        have ce2 : h120_0 151 37 = p120_0 := c151_37_120_0
        exact w_vret gz_198_170 gm_198 (k0 h120_0 (gh_120_0) (by first | omega | (rw [mn_120_0]; exact Shn_V sn_120_0 (by omega) (by omega) (by omega) (by omega)) | (rw [mn_120_0]; exact SmI_e sr_120_0 (fun k hk => cp_120_0 k (by omega))) | omega) (by first | omega | (rw [mn_120_0]; exact Shn_V sn_120_0 (by omega) (by omega) (by omega) (by omega)) | (rw [mn_120_0]; exact SmI_e sr_120_0 (fun k hk => cp_120_0 k (by omega))) | omega) (by first | omega | (rw [mn_120_0]; exact Shn_V sn_120_0 (by omega) (by omega) (by omega) (by omega)) | (rw [mn_120_0]; exact SmI_e sr_120_0 (fun k hk => cp_120_0 k (by omega))) | omega))
      ·
        refine w_aload_n gz_198_125 rfl ?_
        refine w_getX (v := 181) gz_198_126 is_151 rd_10 rfl (by decide) rfl ?_
        refine w_iload_n gz_198_129 rfl ?_
        refine w_iload_n gz_198_130 rfl ?_
        refine w_iast gz_198_131 is_181 rd_80 (by omega) (by omega) (by omega) (by omega) (fun h4 fh4 => ?_)
        have gh4 : my_fr [(10, 37), (80, -1), (81, -1), (85, -1), (86, -1)] h h4 := my_fr.up gh_120_0 is_181 fh4 rfl
        have b182 : ∀ j : Int, h4 182 j = h120_0 182 j := fun j => ((my_up_role fh4 is_182 is_181 rfl).trans (rfl : h120_0 182 j = h120_0 182 j))
        refine w_aload_n gz_198_132 rfl ?_
        refine w_getX (v := 182) gz_198_133 is_151 rd_10 rfl (by decide) rfl ?_
        refine w_bipush gz_198_136 (by decide) ?_
        refine w_iload_n gz_198_138 rfl ?_
        refine w_imul gz_198_139 ⟨by omega, by omega⟩ ?_
        refine w_aload_n gz_198_140 rfl ?_
        refine w_getX (v := 186) gz_198_141 is_151 rd_10 rfl (by decide) rfl ?_
        refine w_iload_n gz_198_144 rfl ?_
        have a186b : ∀ j : Int, h4 186 j = h120_0 186 j := fun j => ((my_up_role fh4 is_186 is_181 rfl).trans (rfl : h120_0 186 j = h120_0 186 j))
        refine w_iald gz_198_145 is_186 rd_85 (by omega) (by omega) (fun v7 ev7 pv7 qv7 => ?_)
        have ga : v7 ≤ vb p120_0 := by have z := (sv_120_0 p120_1 (by omega) (by omega)).1; have z2 := sb_vb (m := h 151 37) (n := p120_0) (by omega) (by omega) (by omega); have z3 := a186b p120_1; omega
        refine w_iastU gz_198_146 is_182 rd_81 (by omega) (by omega) (by omega) (fun h8 fh8 => ?_)
        have gh8 : my_fr [(10, 37), (80, -1), (81, -1), (85, -1), (86, -1)] h h8 := my_fr.up gh4 is_182 fh8 rfl
        have f146 := fh8
        refine w_aload_n gz_198_147 rfl ?_
        refine w_getX (v := 182) gz_198_148 is_151 rd_10 rfl (by decide) rfl ?_
        refine w_bipush gz_198_151 (by decide) ?_
        refine w_iload_n gz_198_153 rfl ?_
        refine w_imul gz_198_154 ⟨by omega, by omega⟩ ?_
        refine w_iconst gz_198_155 (by decide) ?_
        refine w_iadd gz_198_156 ⟨by omega, by omega⟩ ?_
        refine w_aload_n gz_198_157 rfl ?_
        refine w_getX (v := 187) gz_198_158 is_151 rd_10 rfl (by decide) rfl ?_
        refine w_iload_n gz_198_161 rfl ?_
        have a187b : ∀ j : Int, h8 187 j = h120_0 187 j := fun j => ((my_up_role fh8 is_187 is_182 rfl).trans ((my_up_role fh4 is_187 is_181 rfl).trans (rfl : h120_0 187 j = h120_0 187 j)))
        refine w_iald gz_198_162 is_187 rd_86 (by omega) (by omega) (fun v11 ev11 pv11 qv11 => ?_)
        have gb : v11 ≤ vb p120_0 := by have z := (sv_120_0 p120_1 (by omega) (by omega)).2; have z2 := sb_vb (m := h 151 37) (n := p120_0) (by omega) (by omega) (by omega); have z3 := a187b p120_1; omega
        refine w_iastU gz_198_163 is_182 rd_81 (by omega) (by omega) (by omega) (fun h12 fh12 => ?_)
        have gh12 : my_fr [(10, 37), (80, -1), (81, -1), (85, -1), (86, -1)] h h12 := my_fr.up gh8 is_182 fh12 rfl
        have f163 := fh12
        refine w_iinc (ls' := [(2, 151), (0, x1), (0, p120_0), (0, (p120_1 + 1)), (9, 0), (9, 0)]) gz_198_164 rfl gm_198 rfl rfl rfl ⟨by omega, by omega⟩ ?_
        refine w_goto (t := 120) gz_198_167 rfl ?_
        have a182 : ∀ j : Int, h12 182 j = h12 182 j := fun j => rfl
        have a186 : ∀ j : Int, h12 186 j = h120_0 186 j := fun j => ((my_up_role fh12 is_186 is_182 rfl).trans ((my_up_role fh8 is_186 is_182 rfl).trans ((my_up_role fh4 is_186 is_181 rfl).trans (rfl : h120_0 186 j = h120_0 186 j))))
        have a187 : ∀ j : Int, h12 187 j = h120_0 187 j := fun j => ((my_up_role fh12 is_187 is_182 rfl).trans ((my_up_role fh8 is_187 is_182 rfl).trans ((my_up_role fh4 is_187 is_181 rfl).trans (rfl : h120_0 187 j = h120_0 187 j))))
        have ce13 : h12 151 37 = p120_0 := ((my_up_role fh12 is_151 is_182 rfl).trans ((my_up_role fh8 is_151 is_182 rfl).trans ((my_up_role fh4 is_151 is_181 rfl).trans c151_37_120_0)))
        exact ih_120_0 (p120_0) ((p120_1 + 1)) h12 (gh12) (by omega) (by omega) (by omega) (by omega) (by omega) (by omega) (by omega) (by omega) (((my_up_role fh12 is_151 is_182 rfl).trans ((my_up_role fh8 is_151 is_182 rfl).trans ((my_up_role fh4 is_151 is_181 rfl).trans c151_27_120_0))).trans (by omega)) (((my_up_role fh12 is_151 is_182 rfl).trans ((my_up_role fh8 is_151 is_182 rfl).trans ((my_up_role fh4 is_151 is_181 rfl).trans c151_37_120_0))).trans (by omega)) (by omega) (by omega) (by first | exact Sbv_0 | exact Sbv_eq a186 a187 sv_33_0 | exact Sbv_eq a186 a187 sv_4_0 | exact Sbv_eq a186 a187 sv_120_0 | exact Sbv_d (Sbv_eq a186 a187 sv_4_0) (by omega) | exact Sbv_m (by omega) sv_33_0 f106 (by omega) (by omega) | exact Sbv_n (by omega) (by omega) nm_33_0 (by omega) (by omega) sv_33_0 f70 (by omega) f77 f106 (by omega) (by omega) (by omega) (by omega) | omega) (by first | (intro i c a b; exfalso; omega) | exact Shn_eq a182 (Shn_2 (Shn_eq b182 sn_120_0) f146 f163 ga gb (by omega)) | omega) (by first | exact SmI_eq a186 a187 sr_120_0 | (have q := SmI_eq a186 a187 sm_4_0; rw [show p4_1 = h 151 37 by omega] at q; exact q) | assumption | omega) (by first | exact st_N0 | (intro i hi; rw [a186, a187]; rcases (by omega : (i : Int) = p120_1 ∨ (i : Int) < p120_1) with z | z <;> first | (rw [z]; exact ⟨by rw [my_up_ne f163 (by omega), my_up_at f146 (by omega), ← a186b]; omega, by rw [my_up_at f163 (by omega), ← a187b]; omega⟩) | (rw [my_up_ne f163 (by omega), my_up_ne f163 (by omega), my_up_ne f146 (by omega), my_up_ne f146 (by omega), b182, b182]; exact cp_120_0 i (by omega))) | assumption | omega) (by omega)
  have J4_0 : ∀ (n : Nat) (p4_0 p4_1 : Int) (h4_0 : my_H), my_fr [(10, 37), (80, -1), (81, -1), (85, -1), (86, -1)] h h4_0 → 0 ≤ p4_0 → p4_0 ≤ 10 → 0 ≤ p4_1 → p4_1 ≤ 10 → p4_0 ≤ p4_1 → p4_0 ≤ k151_37 → p4_1 ≤ (p4_0 + 9) → p4_1 ≤ k151_37 → h4_0 151 27 = k151_27 → h4_0 151 37 = k151_37 → p4_0 ≤ p4_1 → p4_1 ≤ h 151 37 → (∀ j : Int, h4_0 182 j = h 182 j) → Sbv h4_0 (vb (h 151 37)) p4_0 (p4_1 - p4_0) → SmI h h4_0 (h 151 27) (h 170 x1) (h 169 x1) p4_1 p4_0 → 11 - p4_1 ≤ (n : Int) → wp l rho d 198 4 [(2, 151), (0, x1), (0, p4_0), (0, p4_1), (9, 0), (9, 0)] [] h4_0 Q := by
    intro n
    induction n with
    | zero => intro p4_0 p4_1 h4_0 gh_4_0 q0_4_0 q1_4_0 q2_4_0 q3_4_0 q4_4_0 q5_4_0 q6_4_0 q7_4_0 c151_27_4_0 c151_37_4_0 nm_4_0 im_4_0 s2_4_0 sv_4_0 sm_4_0 hm_4_0; exfalso; omega
    | succ n ih_4_0 =>
      intro p4_0 p4_1 h4_0 gh_4_0 q0_4_0 q1_4_0 q2_4_0 q3_4_0 q4_4_0 q5_4_0 q6_4_0 q7_4_0 c151_27_4_0 c151_37_4_0 nm_4_0 im_4_0 s2_4_0 sv_4_0 sm_4_0 hm_4_0
      have J33_0 : ∀ (n : Nat) (p33_0 p33_1 : Int) (h33_0 : my_H), my_fr [(10, 37), (80, -1), (81, -1), (85, -1), (86, -1)] h h33_0 → p4_0 ≤ 9 → p4_1 ≤ 9 → 0 ≤ p33_0 → 0 ≤ p33_1 → p33_1 ≤ 9 → 1 ≤ k151_37 → p33_1 ≤ p4_0 → p33_1 ≤ p4_1 → p33_1 ≤ (k151_37 - 1) → p4_0 ≤ p4_1 → p4_0 ≤ (k151_37 - 1) → p4_1 ≤ (k151_37 - 1) → h33_0 151 27 = k151_27 → h33_0 151 37 = k151_37 → p4_0 ≤ p4_1 → p4_1 < h 151 37 → (∀ j : Int, h33_0 182 j = h 182 j) → Sbv h33_0 (vb (h 151 37)) p4_0 (p4_1 - p4_0) → p33_1 ≤ p4_0 → p33_0 ≤ vb (h 151 37) → SmI h h33_0 (h 151 27) (h 170 x1) (h 169 x1) p4_1 p4_0 → (∀ i : Nat, (i : Int) < p33_1 → h33_0 186 (i : Int) ≠ p33_0) → p33_0 = h 182 (8 * p4_1 + h 169 x1) → 10 - p33_1 ≤ (n : Int) → wp l rho d 198 33 [(2, 151), (0, x1), (0, p4_0), (0, p4_1), (0, p33_0), (0, p33_1)] [] h33_0 Q := by
        intro n
        induction n with
        | zero => intro p33_0 p33_1 h33_0 gh_33_0 q0_33_0 q1_33_0 q2_33_0 q3_33_0 q4_33_0 q5_33_0 q6_33_0 q7_33_0 q8_33_0 q9_33_0 q10_33_0 q11_33_0 c151_27_33_0 c151_37_33_0 nm_33_0 im_33_0 s2_33_0 sv_33_0 kn_33_0 bv_33_0 sq_33_0 nf_33_0 e4_33_0 hm_33_0; exfalso; omega
        | succ n ih_33_0 =>
          intro p33_0 p33_1 h33_0 gh_33_0 q0_33_0 q1_33_0 q2_33_0 q3_33_0 q4_33_0 q5_33_0 q6_33_0 q7_33_0 q8_33_0 q9_33_0 q10_33_0 q11_33_0 c151_27_33_0 c151_37_33_0 nm_33_0 im_33_0 s2_33_0 sv_33_0 kn_33_0 bv_33_0 sq_33_0 nf_33_0 e4_33_0 hm_33_0
          refine w_iload gz_198_33 rfl ?_
          refine w_iload_n gz_198_35 rfl ?_
          refine w_icge (t := 57) gz_198_36 rfl (fun u14 => ?_) (fun u14 => ?_)
          ·
            refine w_iload gz_198_57 rfl ?_
            refine w_iload_n gz_198_59 rfl ?_
            refine w_icne (t := 81) gz_198_60 rfl (fun u15 => by exfalso; omega) (fun u15 => ?_)
            refine w_aload_n gz_198_63 rfl ?_
            refine w_getX (v := 186) gz_198_64 is_151 rd_10 rfl (by decide) rfl ?_
            refine w_iload_n gz_198_67 rfl ?_
            refine w_iload gz_198_68 rfl ?_
            refine w_iastU gz_198_70 is_186 rd_85 (by omega) (by omega) (by omega) (fun h17 fh17 => ?_)
            have gh17 : my_fr [(10, 37), (80, -1), (81, -1), (85, -1), (86, -1)] h h17 := my_fr.up gh_33_0 is_186 fh17 rfl
            have f70 := fh17
            refine w_aload_n gz_198_71 rfl ?_
            refine w_getX (v := 187) gz_198_72 is_151 rd_10 rfl (by decide) rfl ?_
            refine w_iload_n gz_198_75 rfl ?_
            refine w_iconst gz_198_76 (by decide) ?_
            refine w_iast gz_198_77 is_187 rd_86 (by omega) (by omega) (by omega) (by omega) (fun h19 fh19 => ?_)
            have gh19 : my_fr [(10, 37), (80, -1), (81, -1), (85, -1), (86, -1)] h h19 := my_fr.up gh17 is_187 fh19 rfl
            have f77 := fh19
            refine w_iinc (ls' := [(2, 151), (0, x1), (0, (p4_0 + 1)), (0, p4_1), (0, p33_0), (0, p33_1)]) gz_198_78 rfl gm_198 rfl rfl rfl ⟨by omega, by omega⟩ ?_
            refine w_aload_n gz_198_81 rfl ?_
            refine w_getX (v := 187) gz_198_82 is_151 rd_10 rfl (by decide) rfl ?_
            refine w_iload gz_198_85 rfl ?_
            refine w_dup2 gz_198_87 rfl rfl ?_
            refine w_iald gz_198_88 is_187 rd_86 (by omega) (by omega) (fun v21 ev21 pv21 qv21 => ?_)
            have b8 : (p33_1 = p4_0 → v21 = 0) ∧ (p33_1 ≠ p4_0 → v21 ≤ sb (vb (h 151 37)) (p4_1 - p4_0)) := by first | exact ⟨fun q => absurd q (by omega), fun q => by have z := (sv_33_0 p33_1 (by omega) (by omega)).2; omega⟩ | exact ⟨fun q => by rw [show v21 = h19 187 p33_1 by omega, my_up_at f77 (by omega)], fun q => absurd (by omega) q⟩ | omega
            refine w_aload_n gz_198_89 rfl ?_
            refine w_getX (v := 182) gz_198_90 is_151 rd_10 rfl (by decide) rfl ?_
            refine w_bipush gz_198_93 (by decide) ?_
            refine w_iload_n gz_198_95 rfl ?_
            refine w_imul gz_198_96 ⟨by omega, by omega⟩ ?_
            refine w_aload_n gz_198_97 rfl ?_
            refine w_getX (v := 170) gz_198_98 is_151 rd_10 rfl (by decide) rfl ?_
            refine w_iload_n gz_198_101 rfl ?_
            refine w_iald gz_198_102 is_170 rd_69 (by omega) (by omega) (fun v24 ev24 pv24 qv24 => ?_)
            have f170 : h19 170 x1 = h 170 x1 := my_fr.at gh19 is_170 rfl
            have n0 : v24 = h 170 x1 := by omega
            have n8 := pk.2.1 k5
            have t182 : ∀ j : Int, h19 182 j = h33_0 182 j := fun j => ((my_up_role fh19 is_182 is_187 rfl).trans ((my_up_role fh17 is_182 is_186 rfl).trans (rfl : h33_0 182 j = h33_0 182 j)))
            refine w_iadd gz_198_103 ⟨by omega, by omega⟩ ?_
            have hi25 : 0 ≤ ((8 * p4_1) + v24) := by omega
            have hi26 : ((8 * p4_1) + v24) ≤ 79 := by omega
            refine w_iald gz_198_104 is_182 rd_81 (by omega) (by omega) (fun v27 ev27 pv27 qv27 => ?_)
            have bs : v27 ≤ vb (h 151 37) := by have z := sh p4_1 (h 170 x1) (by omega) (by omega) (by omega) n8; rw [← n0, ← s2_33_0, ← t182] at z; omega
            have sz := sb_le (V := vb (h 151 37)) (d := p4_1 - p4_0) (by omega) (by omega) (by omega) (by omega)
            have b9 : v21 ≤ 214016 := by omega
            have e105 : v27 = h 182 (8 * p4_1 + h 170 x1) := by rw [← n0, ← s2_33_0, ← t182]; omega
            have e88 : v21 = h19 187 p33_1 := by omega
            have hi28 : 0 ≤ v27 := by omega
            have hi29 : v27 ≤ 19456 := by omega
            have hi30 : 0 ≤ v21 := by omega
            have hi31 : v21 ≤ 214016 := by omega
            refine w_iadd gz_198_105 ⟨by omega, by omega⟩ ?_
            have hi32 : 0 ≤ (v21 + v27) := by omega
            have hi33 : (v21 + v27) ≤ 2147483647 := by omega
            refine w_iast gz_198_106 is_187 rd_86 (by omega) (by omega) (by omega) (by omega) (fun h34 fh34 => ?_)
            have gh34 : my_fr [(10, 37), (80, -1), (81, -1), (85, -1), (86, -1)] h h34 := my_fr.up gh19 is_187 fh34 rfl
            have f106 := fh34
            refine w_iinc (ls' := [(2, 151), (0, x1), (0, (p4_0 + 1)), (0, (p4_1 + 1)), (0, p33_0), (0, p33_1)]) gz_198_107 rfl gm_198 rfl rfl rfl ⟨by omega, by omega⟩ ?_
            refine w_goto (t := 4) gz_198_110 rfl ?_
            have a182 : ∀ j : Int, h34 182 j = h33_0 182 j := fun j => ((my_up_role fh34 is_182 is_187 rfl).trans ((my_up_role fh19 is_182 is_187 rfl).trans ((my_up_role fh17 is_182 is_186 rfl).trans (rfl : h33_0 182 j = h33_0 182 j))))
            have a186 : ∀ j : Int, h34 186 j = h17 186 j := fun j => ((my_up_role fh34 is_186 is_187 rfl).trans ((my_up_role fh19 is_186 is_187 rfl).trans (rfl : h17 186 j = h17 186 j)))
            have a187 : ∀ j : Int, h34 187 j = h34 187 j := fun j => rfl
            refine w_weak (ls' := [(2, 151), (0, x1), (0, (p4_0 + 1)), (0, (p4_1 + 1)), (9, 0), (9, 0)]) (wk_e (wk_e (wk_e (wk_e (wk_9 (wk_9 wk_n)))))) ?_
            exact ih_4_0 ((p4_0 + 1)) ((p4_1 + 1)) h34 (gh34) (by omega) (by omega) (by omega) (by omega) (by omega) (by omega) (by omega) (by omega) (((my_up_role fh34 is_151 is_187 rfl).trans ((my_up_role fh19 is_151 is_187 rfl).trans ((my_up_role fh17 is_151 is_186 rfl).trans c151_27_33_0))).trans (by omega)) (((my_up_role fh34 is_151 is_187 rfl).trans ((my_up_role fh19 is_151 is_187 rfl).trans ((my_up_role fh17 is_151 is_186 rfl).trans c151_37_33_0))).trans (by omega)) (by omega) (by omega) (by first | exact a182 | (intro j; rw [a182]; first | exact s2_33_0 j | exact s2_4_0 j) | omega) (by first | exact Sbv_0 | exact Sbv_eq a186 a187 sv_33_0 | exact Sbv_eq a186 a187 sv_4_0 | exact Sbv_eq a186 a187 sv_120_0 | exact Sbv_d (Sbv_eq a186 a187 sv_4_0) (by omega) | exact Sbv_m (by omega) sv_33_0 f106 (by omega) (by omega) | exact Sbv_n (by omega) (by omega) nm_33_0 (by omega) (by omega) sv_33_0 f70 (by omega) f77 f106 (by omega) (by omega) (by omega) (by omega) | omega) (by first | exact SmI_0 | exact SmI_f (k := p33_1) (by omega) (by omega) (by omega) (by omega) (by omega) sq_33_0 e4_33_0 e105 (by omega) (by omega) (by omega) fh34 (by omega) (by omega) | exact SmI_a (by omega) (by omega) (by omega) (by omega) (by omega) sq_33_0 e4_33_0 e105 (fun j hj => nf_33_0 j (by omega)) fh17 (by omega) fh19 (by omega) fh34 (by omega) (by omega) | assumption | omega) (by omega)
          ·
            refine w_aload_n gz_198_39 rfl ?_
            refine w_getX (v := 186) gz_198_40 is_151 rd_10 rfl (by decide) rfl ?_
            refine w_iload gz_198_43 rfl ?_
            refine w_iald gz_198_45 is_186 rd_85 (by omega) (by omega) (fun v36 ev36 pv36 qv36 => ?_)
            have e36 : h33_0 186 p33_1 = v36 := by omega
            refine w_iload gz_198_46 rfl ?_
            refine w_iceq (t := 57) gz_198_48 rfl (fun u37 => ?_) (fun u37 => ?_)
            ·
              refine w_iload gz_198_57 rfl ?_
              refine w_iload_n gz_198_59 rfl ?_
              refine w_icne (t := 81) gz_198_60 rfl (fun u38 => ?_) (fun u38 => by exfalso; omega)
              refine w_aload_n gz_198_81 rfl ?_
              refine w_getX (v := 187) gz_198_82 is_151 rd_10 rfl (by decide) rfl ?_
              refine w_iload gz_198_85 rfl ?_
              refine w_dup2 gz_198_87 rfl rfl ?_
              refine w_iald gz_198_88 is_187 rd_86 (by omega) (by omega) (fun v40 ev40 pv40 qv40 => ?_)
              have b8 : (p33_1 = p4_0 → v40 = 0) ∧ (p33_1 ≠ p4_0 → v40 ≤ sb (vb (h 151 37)) (p4_1 - p4_0)) := by first | exact ⟨fun q => absurd q (by omega), fun q => by have z := (sv_33_0 p33_1 (by omega) (by omega)).2; omega⟩ | exact ⟨fun q => by rw [show v40 = h33_0 187 p33_1 by omega, my_up_at f77 (by omega)], fun q => absurd (by omega) q⟩ | omega
              refine w_aload_n gz_198_89 rfl ?_
              refine w_getX (v := 182) gz_198_90 is_151 rd_10 rfl (by decide) rfl ?_
              refine w_bipush gz_198_93 (by decide) ?_
              refine w_iload_n gz_198_95 rfl ?_
              refine w_imul gz_198_96 ⟨by omega, by omega⟩ ?_
              refine w_aload_n gz_198_97 rfl ?_
              refine w_getX (v := 170) gz_198_98 is_151 rd_10 rfl (by decide) rfl ?_
              refine w_iload_n gz_198_101 rfl ?_
              refine w_iald gz_198_102 is_170 rd_69 (by omega) (by omega) (fun v43 ev43 pv43 qv43 => ?_)
              have f170 : h33_0 170 x1 = h 170 x1 := my_fr.at gh_33_0 is_170 rfl
              have n0 : v43 = h 170 x1 := by omega
              have n8 := pk.2.1 k5
              have t182 : ∀ j : Int, h33_0 182 j = h33_0 182 j := fun _ => rfl
              refine w_iadd gz_198_103 ⟨by omega, by omega⟩ ?_
              have hi44 : 0 ≤ ((8 * p4_1) + v43) := by omega
              have hi45 : ((8 * p4_1) + v43) ≤ 79 := by omega
              refine w_iald gz_198_104 is_182 rd_81 (by omega) (by omega) (fun v46 ev46 pv46 qv46 => ?_)
              have bs : v46 ≤ vb (h 151 37) := by have z := sh p4_1 (h 170 x1) (by omega) (by omega) (by omega) n8; rw [← n0, ← s2_33_0, ← t182] at z; omega
              have sz := sb_le (V := vb (h 151 37)) (d := p4_1 - p4_0) (by omega) (by omega) (by omega) (by omega)
              have b9 : v40 ≤ 214016 := by omega
              have e105 : v46 = h 182 (8 * p4_1 + h 170 x1) := by rw [← n0, ← s2_33_0, ← t182]; omega
              have e88 : v40 = h33_0 187 p33_1 := by omega
              have hi47 : 0 ≤ v46 := by omega
              have hi48 : v46 ≤ 19456 := by omega
              have hi49 : 0 ≤ v40 := by omega
              have hi50 : v40 ≤ 214016 := by omega
              refine w_iadd gz_198_105 ⟨by omega, by omega⟩ ?_
              have hi51 : 0 ≤ (v40 + v46) := by omega
              have hi52 : (v40 + v46) ≤ 2147483647 := by omega
              refine w_iast gz_198_106 is_187 rd_86 (by omega) (by omega) (by omega) (by omega) (fun h53 fh53 => ?_)
              have gh53 : my_fr [(10, 37), (80, -1), (81, -1), (85, -1), (86, -1)] h h53 := my_fr.up gh_33_0 is_187 fh53 rfl
              have f106 := fh53
              refine w_iinc (ls' := [(2, 151), (0, x1), (0, p4_0), (0, (p4_1 + 1)), (0, p33_0), (0, p33_1)]) gz_198_107 rfl gm_198 rfl rfl rfl ⟨by omega, by omega⟩ ?_
              refine w_goto (t := 4) gz_198_110 rfl ?_
              have a182 : ∀ j : Int, h53 182 j = h33_0 182 j := fun j => ((my_up_role fh53 is_182 is_187 rfl).trans (rfl : h33_0 182 j = h33_0 182 j))
              have a186 : ∀ j : Int, h53 186 j = h33_0 186 j := fun j => ((my_up_role fh53 is_186 is_187 rfl).trans (rfl : h33_0 186 j = h33_0 186 j))
              have a187 : ∀ j : Int, h53 187 j = h53 187 j := fun j => rfl
              refine w_weak (ls' := [(2, 151), (0, x1), (0, p4_0), (0, (p4_1 + 1)), (9, 0), (9, 0)]) (wk_e (wk_e (wk_e (wk_e (wk_9 (wk_9 wk_n)))))) ?_
              exact ih_4_0 (p4_0) ((p4_1 + 1)) h53 (gh53) (by omega) (by omega) (by omega) (by omega) (by omega) (by omega) (by omega) (by omega) (((my_up_role fh53 is_151 is_187 rfl).trans c151_27_33_0).trans (by omega)) (((my_up_role fh53 is_151 is_187 rfl).trans c151_37_33_0).trans (by omega)) (by omega) (by omega) (by first | exact a182 | (intro j; rw [a182]; first | exact s2_33_0 j | exact s2_4_0 j) | omega) (by first | exact Sbv_0 | exact Sbv_eq a186 a187 sv_33_0 | exact Sbv_eq a186 a187 sv_4_0 | exact Sbv_eq a186 a187 sv_120_0 | exact Sbv_d (Sbv_eq a186 a187 sv_4_0) (by omega) | exact Sbv_m (by omega) sv_33_0 f106 (by omega) (by omega) | exact Sbv_n (by omega) (by omega) nm_33_0 (by omega) (by omega) sv_33_0 f70 (by omega) f77 f106 (by omega) (by omega) (by omega) (by omega) | omega) (by first | exact SmI_0 | exact SmI_f (k := p33_1) (by omega) (by omega) (by omega) (by omega) (by omega) sq_33_0 e4_33_0 e105 (by omega) (by omega) (by omega) fh53 (by omega) (by omega) | exact SmI_a (by omega) (by omega) (by omega) (by omega) (by omega) sq_33_0 e4_33_0 e105 (fun j hj => nf_33_0 j (by omega)) no_such_saying (by omega) no_such_saying (by omega) fh53 (by omega) (by omega) | assumption | omega) (by omega)
            ·
              refine w_iinc (ls' := [(2, 151), (0, x1), (0, p4_0), (0, p4_1), (0, p33_0), (0, (p33_1 + 1))]) gz_198_51 rfl gm_198 rfl rfl rfl ⟨by omega, by omega⟩ ?_
              refine w_goto (t := 33) gz_198_54 rfl ?_
              have a182 : ∀ j : Int, h33_0 182 j = h33_0 182 j := fun _ => rfl
              have a186 : ∀ j : Int, h33_0 186 j = h33_0 186 j := fun _ => rfl
              have a187 : ∀ j : Int, h33_0 187 j = h33_0 187 j := fun _ => rfl
              exact ih_33_0 (p33_0) ((p33_1 + 1)) h33_0 (gh_33_0) (by omega) (by omega) (by omega) (by omega) (by omega) (by omega) (by omega) (by omega) (by omega) (by omega) (by omega) (by omega) (c151_27_33_0.trans (by omega)) (c151_37_33_0.trans (by omega)) (by omega) (by omega) (by first | exact a182 | (intro j; rw [a182]; first | exact s2_33_0 j | exact s2_4_0 j) | omega) (by first | exact Sbv_0 | exact Sbv_eq a186 a187 sv_33_0 | exact Sbv_eq a186 a187 sv_4_0 | exact Sbv_eq a186 a187 sv_120_0 | exact Sbv_d (Sbv_eq a186 a187 sv_4_0) (by omega) | exact Sbv_m (by omega) sv_33_0 f106 (by omega) (by omega) | exact Sbv_n (by omega) (by omega) nm_33_0 (by omega) (by omega) sv_33_0 f70 (by omega) f77 f106 (by omega) (by omega) (by omega) (by omega) | omega) (by omega) (by omega) (by first | exact SmI_eq a186 a187 sq_33_0 | exact SmI_eq a186 a187 sm_4_0 | assumption | omega) (by first | exact st_N0 | exact st_N1 (by omega) nf_33_0 (by rw [Int.toNat_of_nonneg (by omega)]; omega) | assumption | omega) (by first | exact e61 | exact e4_33_0 | assumption | omega) (by omega)
      refine w_iload_n gz_198_4 rfl ?_
      refine w_aload_n gz_198_5 rfl ?_
      refine v_getI (j := 37) gz_198_6 rfl is_151 rd_10 rfl (fun v54 ev54 pv54 qv54 => ?_)
      have zv54 := ev54.trans c151_37_4_0
      refine w_icge (t := 113) gz_198_9 rfl (fun u55 => ?_) (fun u55 => ?_)
      ·
        refine w_aload_n gz_198_113 rfl ?_
        refine w_iload_n gz_198_114 rfl ?_
        refine v_putI (j := 37) gz_198_115 rfl is_151 rd_10 rfl (by omega) (by omega) rfl (fun h56 fh56 => ?_)
        have gh56 : my_fr [(10, 37), (80, -1), (81, -1), (85, -1), (86, -1)] h h56 := my_fr.up gh_4_0 is_151 fh56 rfl
        refine w_iconst gz_198_118 (by decide) ?_
        refine w_istore_n (ls' := [(2, 151), (0, x1), (0, p4_0), (0, 0), (9, 0), (9, 0)]) gz_198_119 gm_198 rfl rfl rfl ?_
        have a182 : ∀ j : Int, h56 182 j = h4_0 182 j := fun j => ((my_up_role fh56 is_182 is_151 rfl).trans (rfl : h4_0 182 j = h4_0 182 j))
        have a186 : ∀ j : Int, h56 186 j = h4_0 186 j := fun j => ((my_up_role fh56 is_186 is_151 rfl).trans (rfl : h4_0 186 j = h4_0 186 j))
        have a187 : ∀ j : Int, h56 187 j = h4_0 187 j := fun j => ((my_up_role fh56 is_187 is_151 rfl).trans (rfl : h4_0 187 j = h4_0 187 j))
        have ce57 : h56 151 37 = p4_0 := (my_up_self fh56)
        exact J120_0 11 (p4_0) (0) h56 (gh56) (by omega) (by omega) (by omega) (by omega) (by omega) (by omega) (by omega) (by omega) (((my_up_fld fh56 (by decide)).trans c151_27_4_0).trans (by omega)) ((my_up_self fh56).trans (by omega)) (by omega) (by omega) (by first | exact Sbv_0 | exact Sbv_eq a186 a187 sv_33_0 | exact Sbv_eq a186 a187 sv_4_0 | exact Sbv_eq a186 a187 sv_120_0 | exact Sbv_d (Sbv_eq a186 a187 sv_4_0) (by omega) | exact Sbv_m (by omega) sv_33_0 f106 (by omega) (by omega) | exact Sbv_n (by omega) (by omega) nm_33_0 (by omega) (by omega) sv_33_0 f70 (by omega) f77 f106 (by omega) (by omega) (by omega) (by omega) | omega) (by first | (intro i c a b; exfalso; omega) | exact Shn_eq a182 (Shn_2 (Shn_eq b182 sn_120_0) f146 f163 ga gb (by omega)) | omega) (by first | exact SmI_eq a186 a187 sr_120_0 | (have q := SmI_eq a186 a187 sm_4_0; rw [show p4_1 = h 151 37 by omega] at q; exact q) | assumption | omega) (by first | exact st_N0 | (intro i hi; rw [a186, a187]; rcases (by omega : (i : Int) = p120_1 ∨ (i : Int) < p120_1) with z | z <;> first | (rw [z]; exact ⟨by rw [my_up_ne f163 (by omega), my_up_at f146 (by omega), ← a186b]; omega, by rw [my_up_at f163 (by omega), ← a187b]; omega⟩) | (rw [my_up_ne f163 (by omega), my_up_ne f163 (by omega), my_up_ne f146 (by omega), my_up_ne f146 (by omega), b182, b182]; exact cp_120_0 i (by omega))) | assumption | omega) (by omega)
      ·
        refine w_aload_n gz_198_12 rfl ?_
        refine w_getX (v := 182) gz_198_13 is_151 rd_10 rfl (by decide) rfl ?_
        refine w_bipush gz_198_16 (by decide) ?_
        refine w_iload_n gz_198_18 rfl ?_
        refine w_imul gz_198_19 ⟨by omega, by omega⟩ ?_
        refine w_aload_n gz_198_20 rfl ?_
        refine w_getX (v := 169) gz_198_21 is_151 rd_10 rfl (by decide) rfl ?_
        refine w_iload_n gz_198_24 rfl ?_
        refine w_iald gz_198_25 is_169 rd_68 (by omega) (by omega) (fun v60 ev60 pv60 qv60 => ?_)
        have f169 : h4_0 169 x1 = h 169 x1 := my_fr.at gh_4_0 is_169 rfl
        have c0 : v60 = h 169 x1 := by omega
        refine w_iadd gz_198_26 ⟨by omega, by omega⟩ ?_
        refine w_iald gz_198_27 is_182 rd_81 (by omega) (by omega) (fun v61 ev61 pv61 qv61 => ?_)
        have bv : v61 ≤ vb (h 151 37) := by have z := sh p4_1 (h 169 x1) (by omega) (by omega) (by omega) (pk.1 (by omega)); rw [← c0, ← s2_4_0] at z; omega
        have e61 : v61 = h 182 (8 * p4_1 + h 169 x1) := by rw [← c0, ← s2_4_0]; omega
        refine w_istore (ls' := [(2, 151), (0, x1), (0, p4_0), (0, p4_1), (0, v61), (9, 0)]) gz_198_28 gm_198 rfl rfl rfl ?_
        refine w_iconst gz_198_30 (by decide) ?_
        refine w_istore (ls' := [(2, 151), (0, x1), (0, p4_0), (0, p4_1), (0, v61), (0, 0)]) gz_198_31 gm_198 rfl rfl rfl ?_
        have a182 : ∀ j : Int, h4_0 182 j = h4_0 182 j := fun _ => rfl
        have a186 : ∀ j : Int, h4_0 186 j = h4_0 186 j := fun _ => rfl
        have a187 : ∀ j : Int, h4_0 187 j = h4_0 187 j := fun _ => rfl
        exact J33_0 10 (v61) (0) h4_0 (gh_4_0) (by omega) (by omega) (by omega) (by omega) (by omega) (by omega) (by omega) (by omega) (by omega) (by omega) (by omega) (by omega) (c151_27_4_0.trans (by omega)) (ev54.symm.trans (by omega)) (by omega) (by omega) (by first | exact a182 | (intro j; rw [a182]; first | exact s2_33_0 j | exact s2_4_0 j) | omega) (by first | exact Sbv_0 | exact Sbv_eq a186 a187 sv_33_0 | exact Sbv_eq a186 a187 sv_4_0 | exact Sbv_eq a186 a187 sv_120_0 | exact Sbv_d (Sbv_eq a186 a187 sv_4_0) (by omega) | exact Sbv_m (by omega) sv_33_0 f106 (by omega) (by omega) | exact Sbv_n (by omega) (by omega) nm_33_0 (by omega) (by omega) sv_33_0 f70 (by omega) f77 f106 (by omega) (by omega) (by omega) (by omega) | omega) (by omega) (by omega) (by first | exact SmI_eq a186 a187 sq_33_0 | exact SmI_eq a186 a187 sm_4_0 | assumption | omega) (by first | exact st_N0 | exact st_N1 (by omega) nf_33_0 (by rw [Int.toNat_of_nonneg (by omega)]; omega) | assumption | omega) (by first | exact e61 | exact e4_33_0 | assumption | omega) (by omega)
  refine w_iconst gz_198_0 (by decide) ?_
  refine w_istore_n (ls' := [(2, 151), (0, x1), (0, 0), (9, 0), (9, 0), (9, 0)]) gz_198_1 gm_198 rfl rfl rfl ?_
  refine w_iconst gz_198_2 (by decide) ?_
  refine w_istore_n (ls' := [(2, 151), (0, x1), (0, 0), (0, 0), (9, 0), (9, 0)]) gz_198_3 gm_198 rfl rfl rfl ?_
  have a182 : ∀ j : Int, h 182 j = h 182 j := fun _ => rfl
  have a186 : ∀ j : Int, h 186 j = h 186 j := fun _ => rfl
  have a187 : ∀ j : Int, h 187 j = h 187 j := fun _ => rfl
  exact J4_0 11 (0) (0) h (my_fr.rf) (by omega) (by omega) (by omega) (by omega) (by omega) (by omega) (by omega) (by omega) (ek151_27.symm.trans (by omega)) (ek151_37.symm.trans (by omega)) (by omega) (by omega) (by first | exact a182 | (intro j; rw [a182]; first | exact s2_33_0 j | exact s2_4_0 j) | omega) (by first | exact Sbv_0 | exact Sbv_eq a186 a187 sv_33_0 | exact Sbv_eq a186 a187 sv_4_0 | exact Sbv_eq a186 a187 sv_120_0 | exact Sbv_d (Sbv_eq a186 a187 sv_4_0) (by omega) | exact Sbv_m (by omega) sv_33_0 f106 (by omega) (by omega) | exact Sbv_n (by omega) (by omega) nm_33_0 (by omega) (by omega) sv_33_0 f70 (by omega) f77 f106 (by omega) (by omega) (by omega) (by omega) | omega) (by first | exact SmI_0 | exact SmI_f (k := 0) (by omega) (by omega) (by omega) (by omega) (by omega) sq_33_0 e4_33_0 e105 (by omega) (by omega) (by omega) no_such_saying (by omega) (by omega) | exact SmI_a (by omega) (by omega) (by omega) (by omega) (by omega) sq_33_0 e4_33_0 e105 (fun j hj => nf_33_0 j (by omega)) no_such_saying (by omega) no_such_saying (by omega) no_such_saying (by omega) (by omega) | assumption | omega) (by omega)
theorem c_Model_isBefore5 {l : Launch} {rho : Nat → Int32} {d : Nat} {h : my_H} {Q : my_H → my_V → Prop} {x1 x2 : Int} (a1 : 1 ≤ x1) (b1 : x1 ≤ 9) (a2 : 0 ≤ x2) (b2 : x2 ≤ 8) (k0 : zqle (zqN h (h 151 27) (x2).toNat).2 (zqN h (h 151 27) (x1).toNat).2 → Q h (0, 0)) (k1 : zqle (zqN h (h 151 27) (x1).toNat).2 (zqN h (h 151 27) (x2).toNat).2 → Q h (0, 1)) : wp l rho d 200 0 [(2, 151), (0, x1), (0, x2), (9, 0)] [] h Q := by
  have J2_0 : ∀ (n : Nat) (p2_0 : Int), 0 ≤ p2_0 → p2_0 ≤ 8 → (∀ j : Int, 0 ≤ j → j < p2_0 → h 182 (8 * x1 + j) = h 182 (8 * x2 + j)) → 9 - p2_0 ≤ (n : Int) → wp l rho d 200 2 [(2, 151), (0, x1), (0, x2), (0, p2_0)] [] h Q := by
    intro n
    induction n with
    | zero => intro p2_0 q0_2_0 q1_2_0 eq_2_0 hm_2_0; exfalso; omega
    | succ n ih_2_0 =>
      intro p2_0 q0_2_0 q1_2_0 eq_2_0 hm_2_0
      refine w_iload_n gz_200_2 rfl ?_
      refine w_aload_n gz_200_3 rfl ?_
      refine v_getI (j := 27) gz_200_4 rfl is_151 rd_10 rfl (fun v1 ev1 pv1 qv1 => ?_)
      refine w_icge (t := 72) gz_200_7 rfl (fun u2 => ?_) (fun u2 => ?_)
      ·
        refine w_aload_n gz_200_72 rfl ?_
        refine w_getX (v := 181) gz_200_73 is_151 rd_10 rfl (by decide) rfl ?_
        refine w_iload_n gz_200_76 rfl ?_
        refine w_iald gz_200_77 is_181 rd_80 (by omega) (by omega) (fun v4 ev4 pv4 qv4 => ?_)
        refine w_aload_n gz_200_78 rfl ?_
        refine w_getX (v := 181) gz_200_79 is_151 rd_10 rfl (by decide) rfl ?_
        refine w_iload_n gz_200_82 rfl ?_
        refine w_iald gz_200_83 is_181 rd_80 (by omega) (by omega) (fun v6 ev6 pv6 qv6 => ?_)
        refine w_icge (t := 91) gz_200_84 rfl (fun u7 => ?_) (fun u7 => ?_)
        ·
          refine w_iconst gz_200_91 (by decide) ?_
          exact w_bret gz_200_92 gm_200 (by omega) (by omega) (k0 (by first | exact Or.inl (Bf_eq (by omega) (by omega) (fun j a b => eq_2_0 j a (by omega))) | exact Or.inl (Bf_eq (by omega) (by omega) (fun j a b => (eq_2_0 j a (by omega)).symm)) | exact Bf_lt (by omega) (by omega) eq_2_0 (by omega) (by omega) (by omega) | exact Bf_lt (by omega) (by omega) (fun j a b => (eq_2_0 j a b).symm) (by omega) (by omega) (by omega) | assumption | omega))
        ·
          refine w_iconst gz_200_87 (by decide) ?_
          refine w_goto (t := 92) gz_200_88 rfl ?_
          exact w_bret gz_200_92 gm_200 (by omega) (by omega) (k1 (by first | exact Or.inl (Bf_eq (by omega) (by omega) (fun j a b => eq_2_0 j a (by omega))) | exact Or.inl (Bf_eq (by omega) (by omega) (fun j a b => (eq_2_0 j a (by omega)).symm)) | exact Bf_lt (by omega) (by omega) eq_2_0 (by omega) (by omega) (by omega) | exact Bf_lt (by omega) (by omega) (fun j a b => (eq_2_0 j a b).symm) (by omega) (by omega) (by omega) | assumption | omega))
      ·
        refine w_aload_n gz_200_10 rfl ?_
        refine w_getX (v := 182) gz_200_11 is_151 rd_10 rfl (by decide) rfl ?_
        refine w_bipush gz_200_14 (by decide) ?_
        refine w_iload_n gz_200_16 rfl ?_
        refine w_imul gz_200_17 ⟨by omega, by omega⟩ ?_
        refine w_iload_n gz_200_18 rfl ?_
        refine w_iadd gz_200_19 ⟨by omega, by omega⟩ ?_
        refine w_iald gz_200_20 is_182 rd_81 (by omega) (by omega) (fun v9 ev9 pv9 qv9 => ?_)
        refine w_aload_n gz_200_21 rfl ?_
        refine w_getX (v := 182) gz_200_22 is_151 rd_10 rfl (by decide) rfl ?_
        refine w_bipush gz_200_25 (by decide) ?_
        refine w_iload_n gz_200_27 rfl ?_
        refine w_imul gz_200_28 ⟨by omega, by omega⟩ ?_
        refine w_iload_n gz_200_29 rfl ?_
        refine w_iadd gz_200_30 ⟨by omega, by omega⟩ ?_
        refine w_iald gz_200_31 is_182 rd_81 (by omega) (by omega) (fun v11 ev11 pv11 qv11 => ?_)
        have e9 : h 182 (8 * x1 + p2_0) = v9 := by omega
        have e11 : h 182 (8 * x2 + p2_0) = v11 := by omega
        refine w_iceq (t := 66) gz_200_32 rfl (fun u12 => ?_) (fun u12 => ?_)
        ·
          refine w_iinc (ls' := [(2, 151), (0, x1), (0, x2), (0, (p2_0 + 1))]) gz_200_66 rfl gm_200 rfl rfl rfl ⟨by omega, by omega⟩ ?_
          refine w_goto (t := 2) gz_200_69 rfl ?_
          exact ih_2_0 ((p2_0 + 1)) (by omega) (by omega) (by first | exact st_0 | exact st_1 eq_2_0 (by omega) | assumption | omega) (by omega)
        ·
          refine w_aload_n gz_200_35 rfl ?_
          refine w_getX (v := 182) gz_200_36 is_151 rd_10 rfl (by decide) rfl ?_
          refine w_bipush gz_200_39 (by decide) ?_
          refine w_iload_n gz_200_41 rfl ?_
          refine w_imul gz_200_42 ⟨by omega, by omega⟩ ?_
          refine w_iload_n gz_200_43 rfl ?_
          refine w_iadd gz_200_44 ⟨by omega, by omega⟩ ?_
          refine w_iald gz_200_45 is_182 rd_81 (by omega) (by omega) (fun v14 ev14 pv14 qv14 => ?_)
          refine w_aload_n gz_200_46 rfl ?_
          refine w_getX (v := 182) gz_200_47 is_151 rd_10 rfl (by decide) rfl ?_
          refine w_bipush gz_200_50 (by decide) ?_
          refine w_iload_n gz_200_52 rfl ?_
          refine w_imul gz_200_53 ⟨by omega, by omega⟩ ?_
          refine w_iload_n gz_200_54 rfl ?_
          refine w_iadd gz_200_55 ⟨by omega, by omega⟩ ?_
          refine w_iald gz_200_56 is_182 rd_81 (by omega) (by omega) (fun v16 ev16 pv16 qv16 => ?_)
          refine w_icge (t := 64) gz_200_57 rfl (fun u17 => ?_) (fun u17 => ?_)
          ·
            refine w_iconst gz_200_64 (by decide) ?_
            exact w_bret gz_200_65 gm_200 (by omega) (by omega) (k0 (by first | exact Or.inl (Bf_eq (by omega) (by omega) (fun j a b => eq_2_0 j a (by omega))) | exact Or.inl (Bf_eq (by omega) (by omega) (fun j a b => (eq_2_0 j a (by omega)).symm)) | exact Bf_lt (by omega) (by omega) eq_2_0 (by omega) (by omega) (by omega) | exact Bf_lt (by omega) (by omega) (fun j a b => (eq_2_0 j a b).symm) (by omega) (by omega) (by omega) | assumption | omega))
          ·
            refine w_iconst gz_200_60 (by decide) ?_
            refine w_goto (t := 65) gz_200_61 rfl ?_
            exact w_bret gz_200_65 gm_200 (by omega) (by omega) (k1 (by first | exact Or.inl (Bf_eq (by omega) (by omega) (fun j a b => eq_2_0 j a (by omega))) | exact Or.inl (Bf_eq (by omega) (by omega) (fun j a b => (eq_2_0 j a (by omega)).symm)) | exact Bf_lt (by omega) (by omega) eq_2_0 (by omega) (by omega) (by omega) | exact Bf_lt (by omega) (by omega) (fun j a b => (eq_2_0 j a b).symm) (by omega) (by omega) (by omega) | assumption | omega))
  refine w_iconst gz_200_0 (by decide) ?_
  refine w_istore_n (ls' := [(2, 151), (0, x1), (0, x2), (0, 0)]) gz_200_1 gm_200 rfl rfl rfl ?_
  exact J2_0 9 (0) (by omega) (by omega) (by first | exact st_0 | exact st_1 eq_2_0 (by omega) | assumption | omega) (by omega)
end MYNModel_isLeft5
