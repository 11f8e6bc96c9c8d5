/-! the law's cases (printed by wip/gen/mk61.py) -/
section MRB
variable {p : Program} {l : Launch} {e : Env} {s : State} {m : MethodId} {below : List Frame} {meth : Method} {c : Code} {b : Nat} {D : va_G} {tys : List (ClassId × FieldType)} {sg : Nat → Nat} {rho : Nat → Int32} {h : my_H} {kn : Nat} {i : Int} {L4 : Nat}
theorem lcase_0 (hL4 : L4 ≤ 4096) (hL : rho 4096 = Int32.ofNat L4) (I : LInv h) (i0 : 0 ≤ i) (i8 : i + 8 ≤ L4) (K : ∀ h' : my_H, LInv h' → lwp p l e s m below meth c b D tys sg rho 1878 [(3, 0), (2, 0), (2, 151), (2, 203), (0, i), (9, 0), (9, 0)] [] h' kn) : lwp p l e s m below meth c b D tys sg rho 172 [(3, 0), (2, 0), (2, 151), (2, 203), (0, i), (9, 0), (9, 0)] [] h kn := by
  refine lw_aload_n gz_0_172 rfl ?_
  refine lw_aload3_n gz_0_173 rfl ?_
  refine lw_iload gz_0_174 rfl ?_
  refine lw_iconst gz_0_176 (by decide) ?_
  refine lw_iadd gz_0_177 ⟨by omega, by omega⟩ ?_
  refine lw_sl gz_0_178 hL4 hL (by omega) (by omega) (fun z1 ez1 pz1 qz1 => ?_)
  refine lw_aload3_n gz_0_179 rfl ?_
  refine lw_iload gz_0_180 rfl ?_
  refine lw_iconst gz_0_182 (by decide) ?_
  refine lw_iadd gz_0_183 ⟨by omega, by omega⟩ ?_
  refine lw_sl gz_0_184 hL4 hL (by omega) (by omega) (fun z2 ez2 pz2 qz2 => ?_)
  refine lw_inv (kz := 0) (as := [(0, z2), (0, z1)]) (r := []) (x := 0) (ls0 := [(2, 0), (0, z1), (0, z2)]) gz_0_185 gm_12 rfl is_0 rd_9 rfl rfl rfl rfl rfl (c_ThroughWindow_wall3 (d := 28) (x1 := z1) (x2 := z2)  (fun w3 => ?_) (fun h4 w5 w6 w7 w8 w9 w10 w11 => ?_))
  ·
    show lwp p l e s m below meth c b D tys sg rho 188 [(3, 0), (2, 0), (2, 151), (2, 203), (0, i), (9, 0), (9, 0)] [(0, 0)] h kn
    refine lw_pop gz_0_188 rfl ?_
    refine lw_aload_n gz_0_189 rfl ?_
    refine lw_aload3_n gz_0_190 rfl ?_
    refine lw_iload gz_0_191 rfl ?_
    refine lw_iconst gz_0_193 (by decide) ?_
    refine lw_iadd gz_0_194 ⟨by omega, by omega⟩ ?_
    refine lw_sl gz_0_195 hL4 hL (by omega) (by omega) (fun z12 ez12 pz12 qz12 => ?_)
    refine lw_aload3_n gz_0_196 rfl ?_
    refine lw_iload gz_0_197 rfl ?_
    refine lw_iconst gz_0_199 (by decide) ?_
    refine lw_iadd gz_0_200 ⟨by omega, by omega⟩ ?_
    refine lw_sl gz_0_201 hL4 hL (by omega) (by omega) (fun z13 ez13 pz13 qz13 => ?_)
    refine lw_inv (kz := 0) (as := [(0, z13), (0, z12)]) (r := []) (x := 151) (ls0 := [(2, 151), (0, z12), (0, z13)]) gz_0_202 gm_146 rfl is_151 rd_10 rfl rfl rfl rfl rfl (c_Model_wall3 (d := 28) (x1 := z12) (x2 := z13) I.pMw I.pMw3 (fun h14 w15 w16 w17 w18 => ?_) (fun h19 w20 w21 w22 w23 w24 w25 w26 w27 w28 w29 => ?_))
    ·
      have q1 : z1 = z12 := ez1.trans ez12.symm
      have q2 : z2 = z13 := ez2.trans ez13.symm
      have sim_h14 : Sim h14 := Sim_q I.pLn (I.pWnq.2.1) (my_ag.fr w15 rfl) (bg26 w15 (by decide +kernel)) (Ot9_e (fun j => my_fr.at w15 qis_162 rfl) (fun j => my_fr.at w15 qis_163 rfl)) I.pSim
      have I_h14 : LInv h14 := ⟨Ln_ag (my_ag.fr w15 rfl) I.pLn, w17, w18, Rws_ag (my_ag.fr w15 rfl) I.pRws, Wrd_ag (my_ag.fr w15 rfl) I.pWrd, Ceq_ag (my_ag.fr w15 rfl) I.pCeq, Wd9_ag (my_ag.fr w15 rfl) I.pWd9, Teq_ag (my_ag.fr w15 rfl) I.pTeq, Wnq_ag (my_ag.fr w15 rfl) I.pWnq, Hed_ag (my_ag.fr w15 rfl) (I.pHed), sim_h14⟩
      show lwp p l e s m below meth c b D tys sg rho 205 [(3, 0), (2, 0), (2, 151), (2, 203), (0, i), (9, 0), (9, 0)] [(0, 0)] h14 kn
      refine lw_pop gz_0_205 rfl ?_
      refine lw_goto (t := 1878) gz_0_206 rfl ?_
      exact K h14 I_h14
    ·
      have q1 : z1 = z12 := ez1.trans ez12.symm
      have q2 : z2 = z13 := ez2.trans ez13.symm
      exfalso
      rw [q1, q2] at w3
      have c9 := I.pCeq z12 (by omega) (by omega)
      omega
  ·
    have J_h4 : LBas h4 := ⟨Ln_ag (my_ag.fr w5 rfl) I.pLn, Mw_ag (my_ag.fr w5 rfl) I.pMw, Mw3_ag (my_ag.fr w5 rfl) I.pMw3, Rws_ag (my_ag.fr w5 rfl) I.pRws, Wrd_ag (my_ag.fr w5 rfl) I.pWrd⟩
    show lwp p l e s m below meth c b D tys sg rho 188 [(3, 0), (2, 0), (2, 151), (2, 203), (0, i), (9, 0), (9, 0)] [(0, 1)] h4 kn
    refine lw_pop gz_0_188 rfl ?_
    refine lw_aload_n gz_0_189 rfl ?_
    refine lw_aload3_n gz_0_190 rfl ?_
    refine lw_iload gz_0_191 rfl ?_
    refine lw_iconst gz_0_193 (by decide) ?_
    refine lw_iadd gz_0_194 ⟨by omega, by omega⟩ ?_
    refine lw_sl gz_0_195 hL4 hL (by omega) (by omega) (fun z30 ez30 pz30 qz30 => ?_)
    refine lw_aload3_n gz_0_196 rfl ?_
    refine lw_iload gz_0_197 rfl ?_
    refine lw_iconst gz_0_199 (by decide) ?_
    refine lw_iadd gz_0_200 ⟨by omega, by omega⟩ ?_
    refine lw_sl gz_0_201 hL4 hL (by omega) (by omega) (fun z31 ez31 pz31 qz31 => ?_)
    refine lw_inv (kz := 0) (as := [(0, z31), (0, z30)]) (r := []) (x := 151) (ls0 := [(2, 151), (0, z30), (0, z31)]) gz_0_202 gm_146 rfl is_151 rd_10 rfl rfl rfl rfl rfl (c_Model_wall3 (d := 28) (x1 := z30) (x2 := z31) J_h4.pMw J_h4.pMw3 (fun h32 w33 w34 w35 w36 => ?_) (fun h37 w38 w39 w40 w41 w42 w43 w44 w45 w46 w47 => ?_))
    ·
      have q1 : z1 = z30 := ez1.trans ez30.symm
      have q2 : z2 = z31 := ez2.trans ez31.symm
      exfalso
      rw [← q1, ← q2] at w34
      have c9 := I.pCeq z1 w6 w7
      have e9 : h4 157 z1 = h 157 z1 := my_up_role w11 is_157 is_2 rfl
      omega
    ·
      have q1 : z1 = z30 := ez1.trans ez30.symm
      have q2 : z2 = z31 := ez2.trans ez31.symm
      have s157 : ∀ j : Int, 1 ≤ h4 157 j → h37 157 j = h4 157 j := fun j hj => w45 j (fun z => by rw [z] at hj; omega)
      have sim_h37 : Sim h37 := Sim_wall I.pLn (I.pWnq.2.1) I.pWnq w5 w38 w6 w7 w8 w9 w10 w11 (by rw [q1, q2]; exact w44) (fun j hj => w45 j (by rw [← q1]; exact hj)) I.pSim
      have I_h37 : LInv h37 := ⟨Ln_ag (my_ag.fr w38 rfl) J_h4.pLn, w46, w47, Rws_ag (my_ag.fr w38 rfl) J_h4.pRws, Wrd_ag (my_ag.fr w38 rfl) J_h4.pWrd, Ceq_wall I.pCeq w11 w38 (by rw [q1, q2]; exact w44) (fun j hj => w45 j (by rw [← q1]; exact hj)), Wd9_ag (my_ag.fr w38 rfl) (Wd9_ag (my_ag.fr w5 rfl) I.pWd9), Teq_ag (my_ag.fr w38 rfl) (Teq_ag (my_ag.fr w5 rfl) I.pTeq), Wnq_wall (my_ag.fr w38 rfl) s157 (Wnq_ag (my_ag.fr w5 rfl) I.pWnq), Hed_ag (my_ag.fr w38 rfl) (Hed_ag (my_ag.fr w5 rfl) (I.pHed)), sim_h37⟩
      show lwp p l e s m below meth c b D tys sg rho 205 [(3, 0), (2, 0), (2, 151), (2, 203), (0, i), (9, 0), (9, 0)] [(0, 1)] h37 kn
      refine lw_pop gz_0_205 rfl ?_
      refine lw_goto (t := 1878) gz_0_206 rfl ?_
      exact K h37 I_h37
theorem lcase_1 (hL4 : L4 ≤ 4096) (hL : rho 4096 = Int32.ofNat L4) (I : LInv h) (i0 : 0 ≤ i) (i8 : i + 8 ≤ L4) (K : ∀ h' : my_H, LInv h' → lwp p l e s m below meth c b D tys sg rho 1878 [(3, 0), (2, 0), (2, 151), (2, 203), (0, i), (9, 0), (9, 0)] [] h' kn) : lwp p l e s m below meth c b D tys sg rho 209 [(3, 0), (2, 0), (2, 151), (2, 203), (0, i), (9, 0), (9, 0)] [] h kn := by
  refine lw_aload_n gz_0_209 rfl ?_
  refine lw_aload3_n gz_0_210 rfl ?_
  refine lw_iload gz_0_211 rfl ?_
  refine lw_iconst gz_0_213 (by decide) ?_
  refine lw_iadd gz_0_214 ⟨by omega, by omega⟩ ?_
  refine lw_sl gz_0_215 hL4 hL (by omega) (by omega) (fun z1 ez1 pz1 qz1 => ?_)
  refine lw_aload3_n gz_0_216 rfl ?_
  refine lw_iload gz_0_217 rfl ?_
  refine lw_iconst gz_0_219 (by decide) ?_
  refine lw_iadd gz_0_220 ⟨by omega, by omega⟩ ?_
  refine lw_sl gz_0_221 hL4 hL (by omega) (by omega) (fun z2 ez2 pz2 qz2 => ?_)
  refine lw_aload3_n gz_0_222 rfl ?_
  refine lw_iload gz_0_223 rfl ?_
  refine lw_iconst gz_0_225 (by decide) ?_
  refine lw_iadd gz_0_226 ⟨by omega, by omega⟩ ?_
  refine lw_sl gz_0_227 hL4 hL (by omega) (by omega) (fun z3 ez3 pz3 qz3 => ?_)
  refine lw_aload3_n gz_0_228 rfl ?_
  refine lw_iload gz_0_229 rfl ?_
  refine lw_iconst gz_0_231 (by decide) ?_
  refine lw_iadd gz_0_232 ⟨by omega, by omega⟩ ?_
  refine lw_sl gz_0_233 hL4 hL (by omega) (by omega) (fun z4 ez4 pz4 qz4 => ?_)
  refine lw_aload3_n gz_0_234 rfl ?_
  refine lw_iload gz_0_235 rfl ?_
  refine lw_iconst gz_0_237 (by decide) ?_
  refine lw_iadd gz_0_238 ⟨by omega, by omega⟩ ?_
  refine lw_sl gz_0_239 hL4 hL (by omega) (by omega) (fun z5 ez5 pz5 qz5 => ?_)
  refine lw_inv (kz := 1) (as := [(0, z5), (0, z4), (0, z3), (0, z2), (0, z1)]) (r := []) (x := 0) (ls0 := [(2, 0), (0, z1), (0, z2), (0, z3), (0, z4), (0, z5), (9, 0)]) gz_0_240 gm_14 rfl is_0 rd_9 rfl rfl rfl rfl rfl (c_ThroughWindow_row5 (d := 25) (x1 := z1) (x2 := z2) (x3 := z3) (x4 := z4) (x5 := z5) (I.pSim.2.1.1) (fun h6 w7 w8 w9 w10 => ?_) (fun h11 w12 w13 w14 w15 w16 w17 => ?_))
  ·
    have J_h6 : LBas h6 := ⟨Ln_ag (my_ag.fr w7 rfl) I.pLn, Mw_ag (my_ag.fr w7 rfl) I.pMw, Mw3_ag (my_ag.fr w7 rfl) I.pMw3, Rws_ag (my_ag.fr w7 rfl) I.pRws, Wrd_ag (my_ag.fr w7 rfl) I.pWrd⟩
    show lwp p l e s m below meth c b D tys sg rho 243 [(3, 0), (2, 0), (2, 151), (2, 203), (0, i), (9, 0), (9, 0)] [(0, 0)] h6 kn
    refine lw_aload_n gz_0_243 rfl ?_
    refine lw_aload3_n gz_0_244 rfl ?_
    refine lw_iload gz_0_245 rfl ?_
    refine lw_iconst gz_0_247 (by decide) ?_
    refine lw_iadd gz_0_248 ⟨by omega, by omega⟩ ?_
    refine lw_sl gz_0_249 hL4 hL (by omega) (by omega) (fun z18 ez18 pz18 qz18 => ?_)
    refine lw_aload3_n gz_0_250 rfl ?_
    refine lw_iload gz_0_251 rfl ?_
    refine lw_iconst gz_0_253 (by decide) ?_
    refine lw_iadd gz_0_254 ⟨by omega, by omega⟩ ?_
    refine lw_sl gz_0_255 hL4 hL (by omega) (by omega) (fun z19 ez19 pz19 qz19 => ?_)
    refine lw_aload3_n gz_0_256 rfl ?_
    refine lw_iload gz_0_257 rfl ?_
    refine lw_iconst gz_0_259 (by decide) ?_
    refine lw_iadd gz_0_260 ⟨by omega, by omega⟩ ?_
    refine lw_sl gz_0_261 hL4 hL (by omega) (by omega) (fun z20 ez20 pz20 qz20 => ?_)
    refine lw_aload3_n gz_0_262 rfl ?_
    refine lw_iload gz_0_263 rfl ?_
    refine lw_iconst gz_0_265 (by decide) ?_
    refine lw_iadd gz_0_266 ⟨by omega, by omega⟩ ?_
    refine lw_sl gz_0_267 hL4 hL (by omega) (by omega) (fun z21 ez21 pz21 qz21 => ?_)
    refine lw_aload3_n gz_0_268 rfl ?_
    refine lw_iload gz_0_269 rfl ?_
    refine lw_iconst gz_0_271 (by decide) ?_
    refine lw_iadd gz_0_272 ⟨by omega, by omega⟩ ?_
    refine lw_sl gz_0_273 hL4 hL (by omega) (by omega) (fun z22 ez22 pz22 qz22 => ?_)
    refine lw_inv (kz := 1) (as := [(0, z22), (0, z21), (0, z20), (0, z19), (0, z18)]) (r := [(0, 0)]) (x := 151) (ls0 := [(2, 151), (0, z18), (0, z19), (0, z20), (0, z21), (0, z22), (9, 0)]) gz_0_274 gm_148 rfl is_151 rd_10 rfl rfl rfl rfl rfl (c_Model_row5 (d := 24) (x1 := z18) (x2 := z19) (x3 := z20) (x4 := z21) (x5 := z22) J_h6.pRws (fun h23 w24 w25 w26 w27 w28 => ?_) (fun h29 w30 w31 w32 w33 w34 w35 w36 w37 w38 => ?_))
    ·
      have q0 : z18 = z1 := ez18.trans ez1.symm
      have q1 : z19 = z2 := ez19.trans ez2.symm
      have q2 : z20 = z3 := ez20.trans ez3.symm
      have q3 : z21 = z4 := ez21.trans ez4.symm
      have q4 : z22 = z5 := ez22.trans ez5.symm
      try simp only [q0, q1, q2, q3, q4] at w26
      have sim_h23 : Sim h23 := Sim_row0 I.pLn (I.pWnq.2.1) w7 w24 w9 w10 w27 I.pSim
      have I_h23 : LInv h23 := ⟨Ln_ag (my_ag.fr w24 rfl) J_h6.pLn, Mw_ag (my_ag.fr w24 rfl) J_h6.pMw, Mw3_ag (my_ag.fr w24 rfl) J_h6.pMw3, w28, Wrd_ag (my_ag.fr w24 rfl) J_h6.pWrd, Ceq_ag (my_ag.fr w24 rfl) (Ceq_ag (my_ag.fr w7 rfl) (I.pCeq)), Wd9_ag (my_ag.fr w24 rfl) (Wd9_ag (my_ag.fr w7 rfl) (I.pWd9)), Teq_ag (my_ag.fr w24 rfl) (Teq_ag (my_ag.fr w7 rfl) (I.pTeq)), Wnq_ag (my_ag.fr w24 rfl) (Wnq_ag (my_ag.fr w7 rfl) (I.pWnq)), Hed_ag (my_ag.fr w24 rfl) (Hed_ag (my_ag.fr w7 rfl) (I.pHed)), sim_h23⟩
      show lwp p l e s m below meth c b D tys sg rho 277 [(3, 0), (2, 0), (2, 151), (2, 203), (0, i), (9, 0), (9, 0)] [(0, 0), (0, 0)] h23 kn
      refine lw_iceq (t := 1878) gz_0_277 rfl (fun u39 => ?_) (fun u39 => ?_)
      ·
        exact K h23 I_h23
      · exfalso; first | omega | exact absurd (by assumption) (by assumption)
    ·
      have q0 : z18 = z1 := ez18.trans ez1.symm
      have q1 : z19 = z2 := ez19.trans ez2.symm
      have q2 : z20 = z3 := ez20.trans ez3.symm
      have q3 : z21 = z4 := ez21.trans ez4.symm
      have q4 : z22 = z5 := ez22.trans ez5.symm
      try simp only [q0, q1, q2, q3, q4] at w31
      try simp only [q0, q1, q2, q3, q4] at w32
      try simp only [q0, q1, q2, q3, q4] at w33
      try simp only [q0, q1, q2, q3, q4] at w34
      try simp only [q0, q1, q2, q3, q4] at w36
      try simp only [q0, q1, q2, q3, q4] at w37
      exact absurd ((Row_iff I.pSim w7 rfl).mpr w36) w8
  ·
    have J_h11 : LBas h11 := ⟨Ln_ag (my_ag.fr w12 rfl) I.pLn, Mw_ag (my_ag.fr w12 rfl) I.pMw, Mw3_ag (my_ag.fr w12 rfl) I.pMw3, Rws_ag (my_ag.fr w12 rfl) I.pRws, Wrd_ag (my_ag.fr w12 rfl) I.pWrd⟩
    show lwp p l e s m below meth c b D tys sg rho 243 [(3, 0), (2, 0), (2, 151), (2, 203), (0, i), (9, 0), (9, 0)] [(0, 1)] h11 kn
    refine lw_aload_n gz_0_243 rfl ?_
    refine lw_aload3_n gz_0_244 rfl ?_
    refine lw_iload gz_0_245 rfl ?_
    refine lw_iconst gz_0_247 (by decide) ?_
    refine lw_iadd gz_0_248 ⟨by omega, by omega⟩ ?_
    refine lw_sl gz_0_249 hL4 hL (by omega) (by omega) (fun z40 ez40 pz40 qz40 => ?_)
    refine lw_aload3_n gz_0_250 rfl ?_
    refine lw_iload gz_0_251 rfl ?_
    refine lw_iconst gz_0_253 (by decide) ?_
    refine lw_iadd gz_0_254 ⟨by omega, by omega⟩ ?_
    refine lw_sl gz_0_255 hL4 hL (by omega) (by omega) (fun z41 ez41 pz41 qz41 => ?_)
    refine lw_aload3_n gz_0_256 rfl ?_
    refine lw_iload gz_0_257 rfl ?_
    refine lw_iconst gz_0_259 (by decide) ?_
    refine lw_iadd gz_0_260 ⟨by omega, by omega⟩ ?_
    refine lw_sl gz_0_261 hL4 hL (by omega) (by omega) (fun z42 ez42 pz42 qz42 => ?_)
    refine lw_aload3_n gz_0_262 rfl ?_
    refine lw_iload gz_0_263 rfl ?_
    refine lw_iconst gz_0_265 (by decide) ?_
    refine lw_iadd gz_0_266 ⟨by omega, by omega⟩ ?_
    refine lw_sl gz_0_267 hL4 hL (by omega) (by omega) (fun z43 ez43 pz43 qz43 => ?_)
    refine lw_aload3_n gz_0_268 rfl ?_
    refine lw_iload gz_0_269 rfl ?_
    refine lw_iconst gz_0_271 (by decide) ?_
    refine lw_iadd gz_0_272 ⟨by omega, by omega⟩ ?_
    refine lw_sl gz_0_273 hL4 hL (by omega) (by omega) (fun z44 ez44 pz44 qz44 => ?_)
    refine lw_inv (kz := 1) (as := [(0, z44), (0, z43), (0, z42), (0, z41), (0, z40)]) (r := [(0, 1)]) (x := 151) (ls0 := [(2, 151), (0, z40), (0, z41), (0, z42), (0, z43), (0, z44), (9, 0)]) gz_0_274 gm_148 rfl is_151 rd_10 rfl rfl rfl rfl rfl (c_Model_row5 (d := 24) (x1 := z40) (x2 := z41) (x3 := z42) (x4 := z43) (x5 := z44) J_h11.pRws (fun h45 w46 w47 w48 w49 w50 => ?_) (fun h51 w52 w53 w54 w55 w56 w57 w58 w59 w60 => ?_))
    ·
      have q0 : z40 = z1 := ez40.trans ez1.symm
      have q1 : z41 = z2 := ez41.trans ez2.symm
      have q2 : z42 = z3 := ez42.trans ez3.symm
      have q3 : z43 = z4 := ez43.trans ez4.symm
      have q4 : z44 = z5 := ez44.trans ez5.symm
      try simp only [q0, q1, q2, q3, q4] at w48
      exact absurd ((Row_iff I.pSim w12 rfl).mp w15) w48
    ·
      have q0 : z40 = z1 := ez40.trans ez1.symm
      have q1 : z41 = z2 := ez41.trans ez2.symm
      have q2 : z42 = z3 := ez42.trans ez3.symm
      have q3 : z43 = z4 := ez43.trans ez4.symm
      have q4 : z44 = z5 := ez44.trans ez5.symm
      try simp only [q0, q1, q2, q3, q4] at w53
      try simp only [q0, q1, q2, q3, q4] at w54
      try simp only [q0, q1, q2, q3, q4] at w55
      try simp only [q0, q1, q2, q3, q4] at w56
      try simp only [q0, q1, q2, q3, q4] at w58
      try simp only [q0, q1, q2, q3, q4] at w59
      have sim_h51 : Sim h51 := Sim_row1 I.pLn (I.pWnq.2.1) w12 w52 w13 w14 w16 w17 w59 I.pSim
      have I_h51 : LInv h51 := ⟨Ln_ag (my_ag.fr w52 rfl) J_h11.pLn, Mw_ag (my_ag.fr w52 rfl) J_h11.pMw, Mw3_ag (my_ag.fr w52 rfl) J_h11.pMw3, w60, Wrd_ag (my_ag.fr w52 rfl) J_h11.pWrd, Ceq_ag (my_ag.fr w52 rfl) (Ceq_ag (my_ag.fr w12 rfl) (I.pCeq)), Wd9_ag (my_ag.fr w52 rfl) (Wd9_ag (my_ag.fr w12 rfl) (I.pWd9)), Teq_ag (my_ag.fr w52 rfl) (Teq_ag (my_ag.fr w12 rfl) (I.pTeq)), Wnq_ag (my_ag.fr w52 rfl) (Wnq_ag (my_ag.fr w12 rfl) (I.pWnq)), Hed_ag (my_ag.fr w52 rfl) (Hed_ag (my_ag.fr w12 rfl) (I.pHed)), sim_h51⟩
      show lwp p l e s m below meth c b D tys sg rho 277 [(3, 0), (2, 0), (2, 151), (2, 203), (0, i), (9, 0), (9, 0)] [(0, 1), (0, 1)] h51 kn
      refine lw_iceq (t := 1878) gz_0_277 rfl (fun u61 => ?_) (fun u61 => ?_)
      ·
        exact K h51 I_h51
      · exfalso; first | omega | exact absurd (by assumption) (by assumption)
theorem lcase_2 (hL4 : L4 ≤ 4096) (hL : rho 4096 = Int32.ofNat L4) (I : LInv h) (i0 : 0 ≤ i) (i8 : i + 8 ≤ L4) (K : ∀ h' : my_H, LInv h' → lwp p l e s m below meth c b D tys sg rho 1878 [(3, 0), (2, 0), (2, 151), (2, 203), (0, i), (9, 0), (9, 0)] [] h' kn) : lwp p l e s m below meth c b D tys sg rho 282 [(3, 0), (2, 0), (2, 151), (2, 203), (0, i), (9, 0), (9, 0)] [] h kn := by
  refine lw_aload_n gz_0_282 rfl ?_
  refine lw_aload3_n gz_0_283 rfl ?_
  refine lw_iload gz_0_284 rfl ?_
  refine lw_iconst gz_0_286 (by decide) ?_
  refine lw_iadd gz_0_287 ⟨by omega, by omega⟩ ?_
  refine lw_sl gz_0_288 hL4 hL (by omega) (by omega) (fun z1 ez1 pz1 qz1 => ?_)
  refine lw_aload3_n gz_0_289 rfl ?_
  refine lw_iload gz_0_290 rfl ?_
  refine lw_iconst gz_0_292 (by decide) ?_
  refine lw_iadd gz_0_293 ⟨by omega, by omega⟩ ?_
  refine lw_sl gz_0_294 hL4 hL (by omega) (by omega) (fun z2 ez2 pz2 qz2 => ?_)
  refine lw_inv (kz := 0) (as := [(0, z2), (0, z1)]) (r := []) (x := 0) (ls0 := [(2, 0), (0, z1), (0, z2)]) gz_0_295 gm_24 rfl is_0 rd_9 rfl rfl rfl rfl rfl (c_ThroughWindow_out5 (d := 25) (x1 := z1) (x2 := z2) (I.pSim.2.1.1) (fun h3 w4 w5 w6 => ?_) (fun h7 w8 w9 w10 w11 w12 w13 w14 w15 => ?_))
  ·
    have J_h3 : LBas h3 := ⟨Ln_ag (my_ag.fr w4 rfl) I.pLn, Mw_ag (my_ag.fr w4 rfl) I.pMw, Mw3_ag (my_ag.fr w4 rfl) I.pMw3, Rws_ag (my_ag.fr w4 rfl) I.pRws, Wrd_ag (my_ag.fr w4 rfl) I.pWrd⟩
    show lwp p l e s m below meth c b D tys sg rho 298 [(3, 0), (2, 0), (2, 151), (2, 203), (0, i), (9, 0), (9, 0)] [(0, 0)] h3 kn
    refine lw_pop gz_0_298 rfl ?_
    refine lw_aload_n gz_0_299 rfl ?_
    refine lw_aload3_n gz_0_300 rfl ?_
    refine lw_iload gz_0_301 rfl ?_
    refine lw_iconst gz_0_303 (by decide) ?_
    refine lw_iadd gz_0_304 ⟨by omega, by omega⟩ ?_
    refine lw_sl gz_0_305 hL4 hL (by omega) (by omega) (fun z16 ez16 pz16 qz16 => ?_)
    refine lw_aload3_n gz_0_306 rfl ?_
    refine lw_iload gz_0_307 rfl ?_
    refine lw_iconst gz_0_309 (by decide) ?_
    refine lw_iadd gz_0_310 ⟨by omega, by omega⟩ ?_
    refine lw_sl gz_0_311 hL4 hL (by omega) (by omega) (fun z17 ez17 pz17 qz17 => ?_)
    refine lw_inv (kz := 0) (as := [(0, z17), (0, z16)]) (r := []) (x := 151) (ls0 := [(2, 151), (0, z16), (0, z17)]) gz_0_312 gm_158 rfl is_151 rd_10 rfl rfl rfl rfl rfl (c_Model_out5 (d := 24) (x1 := z16) (x2 := z17) J_h3.pRws (fun h18 w19 w20 w21 w22 w23 => ?_) (fun h24 w25 w26 w27 w28 w29 w30 w31 w32 w33 => ?_))
    ·
      have q0 : z16 = z1 := ez16.trans ez1.symm
      have q1 : z17 = z2 := ez17.trans ez2.symm
      try simp only [q0, q1] at w21
      have sim_h18 : Sim h18 := Sim_out0 I.pLn (I.pWnq.2.1) w4 w19 w6 w22 I.pSim
      have I_h18 : LInv h18 := ⟨Ln_ag (my_ag.fr w19 rfl) J_h3.pLn, Mw_ag (my_ag.fr w19 rfl) J_h3.pMw, Mw3_ag (my_ag.fr w19 rfl) J_h3.pMw3, w23, Wrd_ag (my_ag.fr w19 rfl) J_h3.pWrd, Ceq_ag (my_ag.fr w19 rfl) (Ceq_ag (my_ag.fr w4 rfl) (I.pCeq)), Wd9_ag (my_ag.fr w19 rfl) (Wd9_ag (my_ag.fr w4 rfl) (I.pWd9)), Teq_ag (my_ag.fr w19 rfl) (Teq_ag (my_ag.fr w4 rfl) (I.pTeq)), Wnq_ag (my_ag.fr w19 rfl) (Wnq_ag (my_ag.fr w4 rfl) (I.pWnq)), Hed_ag (my_ag.fr w19 rfl) (Hed_ag (my_ag.fr w4 rfl) (I.pHed)), sim_h18⟩
      show lwp p l e s m below meth c b D tys sg rho 315 [(3, 0), (2, 0), (2, 151), (2, 203), (0, i), (9, 0), (9, 0)] [(0, 0)] h18 kn
      refine lw_pop gz_0_315 rfl ?_
      refine lw_goto (t := 1878) gz_0_316 rfl ?_
      exact K h18 I_h18
    ·
      have q0 : z16 = z1 := ez16.trans ez1.symm
      have q1 : z17 = z2 := ez17.trans ez2.symm
      try simp only [q0, q1] at w26
      try simp only [q0, q1] at w27
      try simp only [q0, q1] at w28
      try simp only [q0, q1] at w29
      try simp only [q0, q1] at w31
      try simp only [q0, q1] at w32
      exact absurd ((Out_iff I.pSim w4 rfl).mpr w31) w5
  ·
    have J_h7 : LBas h7 := ⟨Ln_ag (my_ag.fr w8 rfl) I.pLn, Mw_ag (my_ag.fr w8 rfl) I.pMw, Mw3_ag (my_ag.fr w8 rfl) I.pMw3, Rws_ag (my_ag.fr w8 rfl) I.pRws, Wrd_ag (my_ag.fr w8 rfl) I.pWrd⟩
    show lwp p l e s m below meth c b D tys sg rho 298 [(3, 0), (2, 0), (2, 151), (2, 203), (0, i), (9, 0), (9, 0)] [(0, 1)] h7 kn
    refine lw_pop gz_0_298 rfl ?_
    refine lw_aload_n gz_0_299 rfl ?_
    refine lw_aload3_n gz_0_300 rfl ?_
    refine lw_iload gz_0_301 rfl ?_
    refine lw_iconst gz_0_303 (by decide) ?_
    refine lw_iadd gz_0_304 ⟨by omega, by omega⟩ ?_
    refine lw_sl gz_0_305 hL4 hL (by omega) (by omega) (fun z34 ez34 pz34 qz34 => ?_)
    refine lw_aload3_n gz_0_306 rfl ?_
    refine lw_iload gz_0_307 rfl ?_
    refine lw_iconst gz_0_309 (by decide) ?_
    refine lw_iadd gz_0_310 ⟨by omega, by omega⟩ ?_
    refine lw_sl gz_0_311 hL4 hL (by omega) (by omega) (fun z35 ez35 pz35 qz35 => ?_)
    refine lw_inv (kz := 0) (as := [(0, z35), (0, z34)]) (r := []) (x := 151) (ls0 := [(2, 151), (0, z34), (0, z35)]) gz_0_312 gm_158 rfl is_151 rd_10 rfl rfl rfl rfl rfl (c_Model_out5 (d := 24) (x1 := z34) (x2 := z35) J_h7.pRws (fun h36 w37 w38 w39 w40 w41 => ?_) (fun h42 w43 w44 w45 w46 w47 w48 w49 w50 w51 => ?_))
    ·
      have q0 : z34 = z1 := ez34.trans ez1.symm
      have q1 : z35 = z2 := ez35.trans ez2.symm
      try simp only [q0, q1] at w39
      exact absurd ((Out_iff I.pSim w8 rfl).mp w13) w39
    ·
      have q0 : z34 = z1 := ez34.trans ez1.symm
      have q1 : z35 = z2 := ez35.trans ez2.symm
      try simp only [q0, q1] at w44
      try simp only [q0, q1] at w45
      try simp only [q0, q1] at w46
      try simp only [q0, q1] at w47
      try simp only [q0, q1] at w49
      try simp only [q0, q1] at w50
      have sim_h42 : Sim h42 := Sim_out1 I.pLn (I.pWnq.2.1) w8 w43 w14 w15 w50 I.pSim
      have I_h42 : LInv h42 := ⟨Ln_ag (my_ag.fr w43 rfl) J_h7.pLn, Mw_ag (my_ag.fr w43 rfl) J_h7.pMw, Mw3_ag (my_ag.fr w43 rfl) J_h7.pMw3, w51, Wrd_ag (my_ag.fr w43 rfl) J_h7.pWrd, Ceq_ag (my_ag.fr w43 rfl) (Ceq_ag (my_ag.fr w8 rfl) (I.pCeq)), Wd9_ag (my_ag.fr w43 rfl) (Wd9_ag (my_ag.fr w8 rfl) (I.pWd9)), Teq_ag (my_ag.fr w43 rfl) (Teq_ag (my_ag.fr w8 rfl) (I.pTeq)), Wnq_ag (my_ag.fr w43 rfl) (Wnq_ag (my_ag.fr w8 rfl) (I.pWnq)), Hed_ag (my_ag.fr w43 rfl) (Hed_ag (my_ag.fr w8 rfl) (I.pHed)), sim_h42⟩
      show lwp p l e s m below meth c b D tys sg rho 315 [(3, 0), (2, 0), (2, 151), (2, 203), (0, i), (9, 0), (9, 0)] [(0, 1)] h42 kn
      refine lw_pop gz_0_315 rfl ?_
      refine lw_goto (t := 1878) gz_0_316 rfl ?_
      exact K h42 I_h42
theorem lcase_3 (hL4 : L4 ≤ 4096) (hL : rho 4096 = Int32.ofNat L4) (I : LInv h) (i0 : 0 ≤ i) (i8 : i + 8 ≤ L4) (K : ∀ h' : my_H, LInv h' → lwp p l e s m below meth c b D tys sg rho 1878 [(3, 0), (2, 0), (2, 151), (2, 203), (0, i), (9, 0), (9, 0)] [] h' kn) : lwp p l e s m below meth c b D tys sg rho 319 [(3, 0), (2, 0), (2, 151), (2, 203), (0, i), (9, 0), (9, 0)] [] h kn := by
  refine lw_aload_n gz_0_319 rfl ?_
  refine lw_aload3_n gz_0_320 rfl ?_
  refine lw_iload gz_0_321 rfl ?_
  refine lw_iconst gz_0_323 (by decide) ?_
  refine lw_iadd gz_0_324 ⟨by omega, by omega⟩ ?_
  refine lw_sl gz_0_325 hL4 hL (by omega) (by omega) (fun z1 ez1 pz1 qz1 => ?_)
  refine lw_aload3_n gz_0_326 rfl ?_
  refine lw_iload gz_0_327 rfl ?_
  refine lw_iconst gz_0_329 (by decide) ?_
  refine lw_iadd gz_0_330 ⟨by omega, by omega⟩ ?_
  refine lw_sl gz_0_331 hL4 hL (by omega) (by omega) (fun z2 ez2 pz2 qz2 => ?_)
  refine lw_aload3_n gz_0_332 rfl ?_
  refine lw_iload gz_0_333 rfl ?_
  refine lw_iconst gz_0_335 (by decide) ?_
  refine lw_iadd gz_0_336 ⟨by omega, by omega⟩ ?_
  refine lw_sl gz_0_337 hL4 hL (by omega) (by omega) (fun z3 ez3 pz3 qz3 => ?_)
  refine lw_aload3_n gz_0_338 rfl ?_
  refine lw_iload gz_0_339 rfl ?_
  refine lw_iconst gz_0_341 (by decide) ?_
  refine lw_iadd gz_0_342 ⟨by omega, by omega⟩ ?_
  refine lw_sl gz_0_343 hL4 hL (by omega) (by omega) (fun z4 ez4 pz4 qz4 => ?_)
  refine lw_inv (kz := 0) (as := [(0, z4), (0, z3), (0, z2), (0, z1)]) (r := []) (x := 0) (ls0 := [(2, 0), (0, z1), (0, z2), (0, z3), (0, z4)]) gz_0_344 gm_26 rfl is_0 rd_9 rfl rfl rfl rfl rfl (c_ThroughWindow_span5 (d := 27) (x1 := z1) (x2 := z2) (x3 := z3) (x4 := z4)  (fun h5 w6 w7 w8 => ?_) (fun h9 w10 w11 w12 w13 w14 w15 w16 w17 w18 w19 w20 => ?_))
  ·
    have J_h5 : LBas h5 := ⟨Ln_ag (my_ag.fr w6 rfl) I.pLn, Mw_ag (my_ag.fr w6 rfl) I.pMw, Mw3_ag (my_ag.fr w6 rfl) I.pMw3, Rws_ag (my_ag.fr w6 rfl) I.pRws, Wrd_ag (my_ag.fr w6 rfl) I.pWrd⟩
    show lwp p l e s m below meth c b D tys sg rho 347 [(3, 0), (2, 0), (2, 151), (2, 203), (0, i), (9, 0), (9, 0)] [(0, 0)] h5 kn
    refine lw_pop gz_0_347 rfl ?_
    refine lw_aload_n gz_0_348 rfl ?_
    refine lw_aload3_n gz_0_349 rfl ?_
    refine lw_iload gz_0_350 rfl ?_
    refine lw_iconst gz_0_352 (by decide) ?_
    refine lw_iadd gz_0_353 ⟨by omega, by omega⟩ ?_
    refine lw_sl gz_0_354 hL4 hL (by omega) (by omega) (fun z21 ez21 pz21 qz21 => ?_)
    refine lw_aload3_n gz_0_355 rfl ?_
    refine lw_iload gz_0_356 rfl ?_
    refine lw_iconst gz_0_358 (by decide) ?_
    refine lw_iadd gz_0_359 ⟨by omega, by omega⟩ ?_
    refine lw_sl gz_0_360 hL4 hL (by omega) (by omega) (fun z22 ez22 pz22 qz22 => ?_)
    refine lw_aload3_n gz_0_361 rfl ?_
    refine lw_iload gz_0_362 rfl ?_
    refine lw_iconst gz_0_364 (by decide) ?_
    refine lw_iadd gz_0_365 ⟨by omega, by omega⟩ ?_
    refine lw_sl gz_0_366 hL4 hL (by omega) (by omega) (fun z23 ez23 pz23 qz23 => ?_)
    refine lw_aload3_n gz_0_367 rfl ?_
    refine lw_iload gz_0_368 rfl ?_
    refine lw_iconst gz_0_370 (by decide) ?_
    refine lw_iadd gz_0_371 ⟨by omega, by omega⟩ ?_
    refine lw_sl gz_0_372 hL4 hL (by omega) (by omega) (fun z24 ez24 pz24 qz24 => ?_)
    refine lw_inv (kz := 0) (as := [(0, z24), (0, z23), (0, z22), (0, z21)]) (r := []) (x := 151) (ls0 := [(2, 151), (0, z21), (0, z22), (0, z23), (0, z24)]) gz_0_373 gm_160 rfl is_151 rd_10 rfl rfl rfl rfl rfl (c_Model_span5 (d := 26) (x1 := z21) (x2 := z22) (x3 := z23) (x4 := z24)  (fun h25 w26 w27 w28 w29 => ?_) (fun h30 w31 w32 w33 w34 w35 w36 w37 w38 w39 w40 w41 w42 => ?_))
    ·
      have q0 : z21 = z1 := ez21.trans ez1.symm
      have q1 : z22 = z2 := ez22.trans ez2.symm
      have q2 : z23 = z3 := ez23.trans ez3.symm
      have q3 : z24 = z4 := ez24.trans ez4.symm
      try simp only [q0, q1, q2, q3] at w28
      have sim_h25 : Sim h25 := Sim_l0 I.pLn (I.pWnq.2.1) ((my_ag.fr w6 rfl).tr (my_ag.fr w26 rfl)) (fun k j y z => (bg26 w26 (by decide +kernel) k j y z).trans (bg26 w6 (by decide +kernel) k j y z)) ((Ot9_e (fun j => my_fr.at w6 qis_162 rfl) (fun j => my_fr.at w6 qis_163 rfl)).tr (Ot9_e (fun j => my_fr.at w26 qis_162 rfl) (fun j => my_fr.at w26 qis_163 rfl))) (fun j => (my_fr.at w26 pis_3 rfl).trans (w8.1 j)) (fun j => (my_fr.at w26 pis_4 rfl).trans (w8.2 j)) (fun j => (my_fr.at w26 pis_5 rfl).trans (my_fr.at w6 pis_5 rfl)) (fun j => (my_fr.at w26 pis_6 rfl).trans (my_fr.at w6 pis_6 rfl)) (fun j => (w29.1 j).trans (my_fr.at w6 pis_158 rfl)) (fun j => (w29.2 j).trans (my_fr.at w6 pis_159 rfl)) (fun j => (my_fr.at w26 pis_160 rfl).trans (my_fr.at w6 pis_160 rfl)) (fun j => (my_fr.at w26 pis_161 rfl).trans (my_fr.at w6 pis_161 rfl)) I.pSim
      have I_h25 : LInv h25 := ⟨Ln_ag (my_ag.fr w26 rfl) J_h5.pLn, Mw_ag (my_ag.fr w26 rfl) J_h5.pMw, Mw3_ag (my_ag.fr w26 rfl) J_h5.pMw3, Rws_ag (my_ag.fr w26 rfl) J_h5.pRws, Wrd_ag (my_ag.fr w26 rfl) J_h5.pWrd, Ceq_ag (my_ag.fr w26 rfl) (Ceq_ag (my_ag.fr w6 rfl) (I.pCeq)), Wd9_ag (my_ag.fr w26 rfl) (Wd9_ag (my_ag.fr w6 rfl) (I.pWd9)), Teq_ag (my_ag.fr w26 rfl) (Teq_ag (my_ag.fr w6 rfl) (I.pTeq)), Wnq_ag (my_ag.fr w26 rfl) (Wnq_ag (my_ag.fr w6 rfl) (I.pWnq)), Hed_ag (my_ag.fr w26 rfl) (Hed_ag (my_ag.fr w6 rfl) (I.pHed)), sim_h25⟩
      show lwp p l e s m below meth c b D tys sg rho 376 [(3, 0), (2, 0), (2, 151), (2, 203), (0, i), (9, 0), (9, 0)] [(0, 0)] h25 kn
      refine lw_pop gz_0_376 rfl ?_
      refine lw_goto (t := 1878) gz_0_377 rfl ?_
      exact K h25 I_h25
    ·
      have q0 : z21 = z1 := ez21.trans ez1.symm
      have q1 : z22 = z2 := ez22.trans ez2.symm
      have q2 : z23 = z3 := ez23.trans ez3.symm
      have q3 : z24 = z4 := ez24.trans ez4.symm
      try simp only [q0, q1, q2, q3] at w32
      try simp only [q0, q1, q2, q3] at w33
      try simp only [q0, q1, q2, q3] at w34
      try simp only [q0, q1, q2, q3] at w35
      try simp only [q0, q1, q2, q3] at w36
      try simp only [q0, q1, q2, q3] at w37
      try simp only [q0, q1, q2, q3] at w38
      try simp only [q0, q1, q2, q3] at w39
      try simp only [q0, q1, q2, q3] at w41
      try simp only [q0, q1, q2, q3] at w42
      exact absurd ((Span_iff I.pSim w6 rfl).mpr w41) w7
  ·
    have J_h9 : LBas h9 := ⟨Ln_ag (my_ag.fr w10 rfl) I.pLn, Mw_ag (my_ag.fr w10 rfl) I.pMw, Mw3_ag (my_ag.fr w10 rfl) I.pMw3, Rws_ag (my_ag.fr w10 rfl) I.pRws, Wrd_ag (my_ag.fr w10 rfl) I.pWrd⟩
    show lwp p l e s m below meth c b D tys sg rho 347 [(3, 0), (2, 0), (2, 151), (2, 203), (0, i), (9, 0), (9, 0)] [(0, 1)] h9 kn
    refine lw_pop gz_0_347 rfl ?_
    refine lw_aload_n gz_0_348 rfl ?_
    refine lw_aload3_n gz_0_349 rfl ?_
    refine lw_iload gz_0_350 rfl ?_
    refine lw_iconst gz_0_352 (by decide) ?_
    refine lw_iadd gz_0_353 ⟨by omega, by omega⟩ ?_
    refine lw_sl gz_0_354 hL4 hL (by omega) (by omega) (fun z43 ez43 pz43 qz43 => ?_)
    refine lw_aload3_n gz_0_355 rfl ?_
    refine lw_iload gz_0_356 rfl ?_
    refine lw_iconst gz_0_358 (by decide) ?_
    refine lw_iadd gz_0_359 ⟨by omega, by omega⟩ ?_
    refine lw_sl gz_0_360 hL4 hL (by omega) (by omega) (fun z44 ez44 pz44 qz44 => ?_)
    refine lw_aload3_n gz_0_361 rfl ?_
    refine lw_iload gz_0_362 rfl ?_
    refine lw_iconst gz_0_364 (by decide) ?_
    refine lw_iadd gz_0_365 ⟨by omega, by omega⟩ ?_
    refine lw_sl gz_0_366 hL4 hL (by omega) (by omega) (fun z45 ez45 pz45 qz45 => ?_)
    refine lw_aload3_n gz_0_367 rfl ?_
    refine lw_iload gz_0_368 rfl ?_
    refine lw_iconst gz_0_370 (by decide) ?_
    refine lw_iadd gz_0_371 ⟨by omega, by omega⟩ ?_
    refine lw_sl gz_0_372 hL4 hL (by omega) (by omega) (fun z46 ez46 pz46 qz46 => ?_)
    refine lw_inv (kz := 0) (as := [(0, z46), (0, z45), (0, z44), (0, z43)]) (r := []) (x := 151) (ls0 := [(2, 151), (0, z43), (0, z44), (0, z45), (0, z46)]) gz_0_373 gm_160 rfl is_151 rd_10 rfl rfl rfl rfl rfl (c_Model_span5 (d := 26) (x1 := z43) (x2 := z44) (x3 := z45) (x4 := z46)  (fun h47 w48 w49 w50 w51 => ?_) (fun h52 w53 w54 w55 w56 w57 w58 w59 w60 w61 w62 w63 w64 => ?_))
    ·
      have q0 : z43 = z1 := ez43.trans ez1.symm
      have q1 : z44 = z2 := ez44.trans ez2.symm
      have q2 : z45 = z3 := ez45.trans ez3.symm
      have q3 : z46 = z4 := ez46.trans ez4.symm
      try simp only [q0, q1, q2, q3] at w50
      exact absurd ((Span_iff I.pSim w10 rfl).mp w19) w50
    ·
      have q0 : z43 = z1 := ez43.trans ez1.symm
      have q1 : z44 = z2 := ez44.trans ez2.symm
      have q2 : z45 = z3 := ez45.trans ez3.symm
      have q3 : z46 = z4 := ez46.trans ez4.symm
      try simp only [q0, q1, q2, q3] at w54
      try simp only [q0, q1, q2, q3] at w55
      try simp only [q0, q1, q2, q3] at w56
      try simp only [q0, q1, q2, q3] at w57
      try simp only [q0, q1, q2, q3] at w58
      try simp only [q0, q1, q2, q3] at w59
      try simp only [q0, q1, q2, q3] at w60
      try simp only [q0, q1, q2, q3] at w61
      try simp only [q0, q1, q2, q3] at w63
      try simp only [q0, q1, q2, q3] at w64
      have sim_h52 : Sim h52 := Sim_span I.pLn (I.pWnq.2.1) w10 w53 w19 w20 w64 I.pSim
      have I_h52 : LInv h52 := ⟨Ln_ag (my_ag.fr w53 rfl) J_h9.pLn, Mw_ag (my_ag.fr w53 rfl) J_h9.pMw, Mw3_ag (my_ag.fr w53 rfl) J_h9.pMw3, Rws_ag (my_ag.fr w53 rfl) J_h9.pRws, Wrd_ag (my_ag.fr w53 rfl) J_h9.pWrd, Ceq_ag (my_ag.fr w53 rfl) (Ceq_ag (my_ag.fr w10 rfl) (I.pCeq)), Wd9_ag (my_ag.fr w53 rfl) (Wd9_ag (my_ag.fr w10 rfl) (I.pWd9)), Teq_ag (my_ag.fr w53 rfl) (Teq_ag (my_ag.fr w10 rfl) (I.pTeq)), Wnq_ag (my_ag.fr w53 rfl) (Wnq_ag (my_ag.fr w10 rfl) (I.pWnq)), Hed_ag (my_ag.fr w53 rfl) (Hed_ag (my_ag.fr w10 rfl) (I.pHed)), sim_h52⟩
      show lwp p l e s m below meth c b D tys sg rho 376 [(3, 0), (2, 0), (2, 151), (2, 203), (0, i), (9, 0), (9, 0)] [(0, 1)] h52 kn
      refine lw_pop gz_0_376 rfl ?_
      refine lw_goto (t := 1878) gz_0_377 rfl ?_
      exact K h52 I_h52
theorem lcase_4 (hL4 : L4 ≤ 4096) (hL : rho 4096 = Int32.ofNat L4) (I : LInv h) (i0 : 0 ≤ i) (i8 : i + 8 ≤ L4) (K : ∀ h' : my_H, LInv h' → lwp p l e s m below meth c b D tys sg rho 1878 [(3, 0), (2, 0), (2, 151), (2, 203), (0, i), (9, 0), (9, 0)] [] h' kn) : lwp p l e s m below meth c b D tys sg rho 380 [(3, 0), (2, 0), (2, 151), (2, 203), (0, i), (9, 0), (9, 0)] [] h kn := by
  refine lw_aload_n gz_0_380 rfl ?_
  refine lw_aload3_n gz_0_381 rfl ?_
  refine lw_iload gz_0_382 rfl ?_
  refine lw_iconst gz_0_384 (by decide) ?_
  refine lw_iadd gz_0_385 ⟨by omega, by omega⟩ ?_
  refine lw_sl gz_0_386 hL4 hL (by omega) (by omega) (fun z1 ez1 pz1 qz1 => ?_)
  refine lw_aload3_n gz_0_387 rfl ?_
  refine lw_iload gz_0_388 rfl ?_
  refine lw_iconst gz_0_390 (by decide) ?_
  refine lw_iadd gz_0_391 ⟨by omega, by omega⟩ ?_
  refine lw_sl gz_0_392 hL4 hL (by omega) (by omega) (fun z2 ez2 pz2 qz2 => ?_)
  refine lw_aload3_n gz_0_393 rfl ?_
  refine lw_iload gz_0_394 rfl ?_
  refine lw_iconst gz_0_396 (by decide) ?_
  refine lw_iadd gz_0_397 ⟨by omega, by omega⟩ ?_
  refine lw_sl gz_0_398 hL4 hL (by omega) (by omega) (fun z3 ez3 pz3 qz3 => ?_)
  refine lw_inv (kz := 2) (as := [(0, z3), (0, z2), (0, z1)]) (r := []) (x := 0) (ls0 := [(2, 0), (0, z1), (0, z2), (0, z3), (9, 0), (9, 0)]) gz_0_399 gm_30 rfl is_0 rd_9 rfl rfl rfl rfl rfl (c_ThroughWindow_names5 (d := 25) (x1 := z1) (x2 := z2) (x3 := z3) (I.pSim.2.1.1) (fun h4 w5 w6 w7 => ?_) (fun h8 w9 w10 w11 w12 w13 w14 w15 w16 w17 => ?_))
  ·
    have J_h4 : LBas h4 := ⟨Ln_ag (my_ag.fr w5 rfl) I.pLn, Mw_ag (my_ag.fr w5 rfl) I.pMw, Mw3_ag (my_ag.fr w5 rfl) I.pMw3, Rws_ag (my_ag.fr w5 rfl) I.pRws, Wrd_ag (my_ag.fr w5 rfl) I.pWrd⟩
    show lwp p l e s m below meth c b D tys sg rho 402 [(3, 0), (2, 0), (2, 151), (2, 203), (0, i), (9, 0), (9, 0)] [(0, 0)] h4 kn
    refine lw_pop gz_0_402 rfl ?_
    refine lw_aload_n gz_0_403 rfl ?_
    refine lw_aload3_n gz_0_404 rfl ?_
    refine lw_iload gz_0_405 rfl ?_
    refine lw_iconst gz_0_407 (by decide) ?_
    refine lw_iadd gz_0_408 ⟨by omega, by omega⟩ ?_
    refine lw_sl gz_0_409 hL4 hL (by omega) (by omega) (fun z18 ez18 pz18 qz18 => ?_)
    refine lw_aload3_n gz_0_410 rfl ?_
    refine lw_iload gz_0_411 rfl ?_
    refine lw_iconst gz_0_413 (by decide) ?_
    refine lw_iadd gz_0_414 ⟨by omega, by omega⟩ ?_
    refine lw_sl gz_0_415 hL4 hL (by omega) (by omega) (fun z19 ez19 pz19 qz19 => ?_)
    refine lw_aload3_n gz_0_416 rfl ?_
    refine lw_iload gz_0_417 rfl ?_
    refine lw_iconst gz_0_419 (by decide) ?_
    refine lw_iadd gz_0_420 ⟨by omega, by omega⟩ ?_
    refine lw_sl gz_0_421 hL4 hL (by omega) (by omega) (fun z20 ez20 pz20 qz20 => ?_)
    refine lw_inv (kz := 1) (as := [(0, z20), (0, z19), (0, z18)]) (r := []) (x := 151) (ls0 := [(2, 151), (0, z18), (0, z19), (0, z20), (9, 0)]) gz_0_422 gm_165 rfl is_151 rd_10 rfl rfl rfl rfl rfl (c_Model_names5 (d := 25) (x1 := z18) (x2 := z19) (x3 := z20)  (fun h21 w22 w23 w24 w25 => ?_) (fun h26 w27 w28 w29 w30 w31 w32 w33 w34 w35 w36 => ?_))
    ·
      have q0 : z18 = z1 := ez18.trans ez1.symm
      have q1 : z19 = z2 := ez19.trans ez2.symm
      have q2 : z20 = z3 := ez20.trans ez3.symm
      try simp only [q0, q1, q2] at w24
      have sim_h21 : Sim h21 := Sim_l0 I.pLn (I.pWnq.2.1) ((my_ag.fr w5 rfl).tr (my_ag.fr w22 rfl)) (fun k j y z => (bg26 w22 (by decide +kernel) k j y z).trans (bg26 w5 (by decide +kernel) k j y z)) ((Ot9_e (fun j => my_fr.at w5 qis_162 rfl) (fun j => my_fr.at w5 qis_163 rfl)).tr (Ot9_e (fun j => my_fr.at w22 qis_162 rfl) (fun j => my_fr.at w22 qis_163 rfl))) (fun j => (my_fr.at w22 pis_3 rfl).trans (my_fr.at w5 pis_3 rfl)) (fun j => (my_fr.at w22 pis_4 rfl).trans (my_fr.at w5 pis_4 rfl)) (fun j => (my_fr.at w22 pis_5 rfl).trans (w7 j)) (fun j => (my_fr.at w22 pis_6 rfl).trans (my_fr.at w5 pis_6 rfl)) (fun j => (my_fr.at w22 pis_158 rfl).trans (my_fr.at w5 pis_158 rfl)) (fun j => (my_fr.at w22 pis_159 rfl).trans (my_fr.at w5 pis_159 rfl)) (fun j => (w25 j).trans (my_fr.at w5 pis_160 rfl)) (fun j => (my_fr.at w22 pis_161 rfl).trans (my_fr.at w5 pis_161 rfl)) I.pSim
      have I_h21 : LInv h21 := ⟨Ln_ag (my_ag.fr w22 rfl) J_h4.pLn, Mw_ag (my_ag.fr w22 rfl) J_h4.pMw, Mw3_ag (my_ag.fr w22 rfl) J_h4.pMw3, Rws_ag (my_ag.fr w22 rfl) J_h4.pRws, Wrd_ag (my_ag.fr w22 rfl) J_h4.pWrd, Ceq_ag (my_ag.fr w22 rfl) (Ceq_ag (my_ag.fr w5 rfl) (I.pCeq)), Wd9_ag (my_ag.fr w22 rfl) (Wd9_ag (my_ag.fr w5 rfl) (I.pWd9)), Teq_ag (my_ag.fr w22 rfl) (Teq_ag (my_ag.fr w5 rfl) (I.pTeq)), Wnq_ag (my_ag.fr w22 rfl) (Wnq_ag (my_ag.fr w5 rfl) (I.pWnq)), Hed_ag (my_ag.fr w22 rfl) (Hed_ag (my_ag.fr w5 rfl) (I.pHed)), sim_h21⟩
      show lwp p l e s m below meth c b D tys sg rho 425 [(3, 0), (2, 0), (2, 151), (2, 203), (0, i), (9, 0), (9, 0)] [(0, 0)] h21 kn
      refine lw_pop gz_0_425 rfl ?_
      refine lw_goto (t := 1878) gz_0_426 rfl ?_
      exact K h21 I_h21
    ·
      have q0 : z18 = z1 := ez18.trans ez1.symm
      have q1 : z19 = z2 := ez19.trans ez2.symm
      have q2 : z20 = z3 := ez20.trans ez3.symm
      try simp only [q0, q1, q2] at w28
      try simp only [q0, q1, q2] at w29
      try simp only [q0, q1, q2] at w30
      try simp only [q0, q1, q2] at w31
      try simp only [q0, q1, q2] at w32
      try simp only [q0, q1, q2] at w33
      try simp only [q0, q1, q2] at w35
      try simp only [q0, q1, q2] at w36
      exact absurd ((Names_iff I.pSim w5 rfl).mpr w35) w6
  ·
    have J_h8 : LBas h8 := ⟨Ln_ag (my_ag.fr w9 rfl) I.pLn, Mw_ag (my_ag.fr w9 rfl) I.pMw, Mw3_ag (my_ag.fr w9 rfl) I.pMw3, Rws_ag (my_ag.fr w9 rfl) I.pRws, Wrd_ag (my_ag.fr w9 rfl) I.pWrd⟩
    show lwp p l e s m below meth c b D tys sg rho 402 [(3, 0), (2, 0), (2, 151), (2, 203), (0, i), (9, 0), (9, 0)] [(0, 1)] h8 kn
    refine lw_pop gz_0_402 rfl ?_
    refine lw_aload_n gz_0_403 rfl ?_
    refine lw_aload3_n gz_0_404 rfl ?_
    refine lw_iload gz_0_405 rfl ?_
    refine lw_iconst gz_0_407 (by decide) ?_
    refine lw_iadd gz_0_408 ⟨by omega, by omega⟩ ?_
    refine lw_sl gz_0_409 hL4 hL (by omega) (by omega) (fun z37 ez37 pz37 qz37 => ?_)
    refine lw_aload3_n gz_0_410 rfl ?_
    refine lw_iload gz_0_411 rfl ?_
    refine lw_iconst gz_0_413 (by decide) ?_
    refine lw_iadd gz_0_414 ⟨by omega, by omega⟩ ?_
    refine lw_sl gz_0_415 hL4 hL (by omega) (by omega) (fun z38 ez38 pz38 qz38 => ?_)
    refine lw_aload3_n gz_0_416 rfl ?_
    refine lw_iload gz_0_417 rfl ?_
    refine lw_iconst gz_0_419 (by decide) ?_
    refine lw_iadd gz_0_420 ⟨by omega, by omega⟩ ?_
    refine lw_sl gz_0_421 hL4 hL (by omega) (by omega) (fun z39 ez39 pz39 qz39 => ?_)
    refine lw_inv (kz := 1) (as := [(0, z39), (0, z38), (0, z37)]) (r := []) (x := 151) (ls0 := [(2, 151), (0, z37), (0, z38), (0, z39), (9, 0)]) gz_0_422 gm_165 rfl is_151 rd_10 rfl rfl rfl rfl rfl (c_Model_names5 (d := 25) (x1 := z37) (x2 := z38) (x3 := z39)  (fun h40 w41 w42 w43 w44 => ?_) (fun h45 w46 w47 w48 w49 w50 w51 w52 w53 w54 w55 => ?_))
    ·
      have q0 : z37 = z1 := ez37.trans ez1.symm
      have q1 : z38 = z2 := ez38.trans ez2.symm
      have q2 : z39 = z3 := ez39.trans ez3.symm
      try simp only [q0, q1, q2] at w43
      exact absurd ((Names_iff I.pSim w9 rfl).mp w16) w43
    ·
      have q0 : z37 = z1 := ez37.trans ez1.symm
      have q1 : z38 = z2 := ez38.trans ez2.symm
      have q2 : z39 = z3 := ez39.trans ez3.symm
      try simp only [q0, q1, q2] at w47
      try simp only [q0, q1, q2] at w48
      try simp only [q0, q1, q2] at w49
      try simp only [q0, q1, q2] at w50
      try simp only [q0, q1, q2] at w51
      try simp only [q0, q1, q2] at w52
      try simp only [q0, q1, q2] at w54
      try simp only [q0, q1, q2] at w55
      have sim_h45 : Sim h45 := Sim_names I.pLn (I.pWnq.2.1) w9 w46 w16 w17 w55 I.pSim
      have I_h45 : LInv h45 := ⟨Ln_ag (my_ag.fr w46 rfl) J_h8.pLn, Mw_ag (my_ag.fr w46 rfl) J_h8.pMw, Mw3_ag (my_ag.fr w46 rfl) J_h8.pMw3, Rws_ag (my_ag.fr w46 rfl) J_h8.pRws, Wrd_ag (my_ag.fr w46 rfl) J_h8.pWrd, Ceq_ag (my_ag.fr w46 rfl) (Ceq_ag (my_ag.fr w9 rfl) (I.pCeq)), Wd9_ag (my_ag.fr w46 rfl) (Wd9_ag (my_ag.fr w9 rfl) (I.pWd9)), Teq_ag (my_ag.fr w46 rfl) (Teq_ag (my_ag.fr w9 rfl) (I.pTeq)), Wnq_ag (my_ag.fr w46 rfl) (Wnq_ag (my_ag.fr w9 rfl) (I.pWnq)), Hed_ag (my_ag.fr w46 rfl) (Hed_ag (my_ag.fr w9 rfl) (I.pHed)), sim_h45⟩
      show lwp p l e s m below meth c b D tys sg rho 425 [(3, 0), (2, 0), (2, 151), (2, 203), (0, i), (9, 0), (9, 0)] [(0, 1)] h45 kn
      refine lw_pop gz_0_425 rfl ?_
      refine lw_goto (t := 1878) gz_0_426 rfl ?_
      exact K h45 I_h45
theorem lcase_5 (hL4 : L4 ≤ 4096) (hL : rho 4096 = Int32.ofNat L4) (I : LInv h) (i0 : 0 ≤ i) (i8 : i + 8 ≤ L4) (K : ∀ h' : my_H, LInv h' → lwp p l e s m below meth c b D tys sg rho 1878 [(3, 0), (2, 0), (2, 151), (2, 203), (0, i), (9, 0), (9, 0)] [] h' kn) : lwp p l e s m below meth c b D tys sg rho 429 [(3, 0), (2, 0), (2, 151), (2, 203), (0, i), (9, 0), (9, 0)] [] h kn := by
  refine lw_aload_n gz_0_429 rfl ?_
  refine lw_aload3_n gz_0_430 rfl ?_
  refine lw_iload gz_0_431 rfl ?_
  refine lw_iconst gz_0_433 (by decide) ?_
  refine lw_iadd gz_0_434 ⟨by omega, by omega⟩ ?_
  refine lw_sl gz_0_435 hL4 hL (by omega) (by omega) (fun z1 ez1 pz1 qz1 => ?_)
  refine lw_aload3_n gz_0_436 rfl ?_
  refine lw_iload gz_0_437 rfl ?_
  refine lw_iconst gz_0_439 (by decide) ?_
  refine lw_iadd gz_0_440 ⟨by omega, by omega⟩ ?_
  refine lw_sl gz_0_441 hL4 hL (by omega) (by omega) (fun z2 ez2 pz2 qz2 => ?_)
  refine lw_aload3_n gz_0_442 rfl ?_
  refine lw_iload gz_0_443 rfl ?_
  refine lw_iconst gz_0_445 (by decide) ?_
  refine lw_iadd gz_0_446 ⟨by omega, by omega⟩ ?_
  refine lw_sl gz_0_447 hL4 hL (by omega) (by omega) (fun z3 ez3 pz3 qz3 => ?_)
  refine lw_ifeq (t := 455) gz_0_448 rfl (fun u4 => ?_) (fun u4 => ?_)
  ·
    refine lw_iconst gz_0_455 (by decide) ?_
    refine lw_inv (kz := 2) (as := [(0, 0), (0, z2), (0, z1)]) (r := []) (x := 0) (ls0 := [(2, 0), (0, z1), (0, z2), (0, 0), (9, 0), (9, 0)]) gz_0_456 gm_31 rfl is_0 rd_9 rfl rfl rfl rfl rfl (c_ThroughWindow_once5 (d := 25) (x1 := z1) (x2 := z2) (x3 := 0) (by omega) (by omega) (I.pSim.2.1.1) (fun h5 w6 w7 w8 => ?_) (fun h9 w10 w11 w12 w13 w14 w15 w16 => ?_))
    ·
      have J_h5 : LBas h5 := ⟨Ln_ag (my_ag.fr w6 rfl) I.pLn, Mw_ag (my_ag.fr w6 rfl) I.pMw, Mw3_ag (my_ag.fr w6 rfl) I.pMw3, Rws_ag (my_ag.fr w6 rfl) I.pRws, Wrd_ag (my_ag.fr w6 rfl) I.pWrd⟩
      show lwp p l e s m below meth c b D tys sg rho 459 [(3, 0), (2, 0), (2, 151), (2, 203), (0, i), (9, 0), (9, 0)] [(0, 0)] h5 kn
      refine lw_pop gz_0_459 rfl ?_
      refine lw_aload_n gz_0_460 rfl ?_
      refine lw_aload3_n gz_0_461 rfl ?_
      refine lw_iload gz_0_462 rfl ?_
      refine lw_iconst gz_0_464 (by decide) ?_
      refine lw_iadd gz_0_465 ⟨by omega, by omega⟩ ?_
      refine lw_sl gz_0_466 hL4 hL (by omega) (by omega) (fun z17 ez17 pz17 qz17 => ?_)
      refine lw_aload3_n gz_0_467 rfl ?_
      refine lw_iload gz_0_468 rfl ?_
      refine lw_iconst gz_0_470 (by decide) ?_
      refine lw_iadd gz_0_471 ⟨by omega, by omega⟩ ?_
      refine lw_sl gz_0_472 hL4 hL (by omega) (by omega) (fun z18 ez18 pz18 qz18 => ?_)
      refine lw_aload3_n gz_0_473 rfl ?_
      refine lw_iload gz_0_474 rfl ?_
      refine lw_iconst gz_0_476 (by decide) ?_
      refine lw_iadd gz_0_477 ⟨by omega, by omega⟩ ?_
      refine lw_sl gz_0_478 hL4 hL (by omega) (by omega) (fun z19 ez19 pz19 qz19 => ?_)
      refine lw_ifeq (t := 486) gz_0_479 rfl (fun u20 => ?_) (fun u20 => ?_)
      ·
        refine lw_iconst gz_0_486 (by decide) ?_
        refine lw_inv (kz := 1) (as := [(0, 0), (0, z18), (0, z17)]) (r := []) (x := 151) (ls0 := [(2, 151), (0, z17), (0, z18), (0, 0), (9, 0)]) gz_0_487 gm_166 rfl is_151 rd_10 rfl rfl rfl rfl rfl (c_Model_once5 (d := 25) (x1 := z17) (x2 := z18) (x3 := 0) (by omega) (by omega) (fun h21 w22 w23 w24 w25 => ?_) (fun h26 w27 w28 w29 w30 w31 w32 w33 w34 => ?_))
        ·
          have q0 : z17 = z1 := ez17.trans ez1.symm
          have q1 : z18 = z2 := ez18.trans ez2.symm
          try simp only [q0, q1] at w24
          have sim_h21 : Sim h21 := Sim_l0 I.pLn (I.pWnq.2.1) ((my_ag.fr w6 rfl).tr (my_ag.fr w22 rfl)) (fun k j y z => (bg26 w22 (by decide +kernel) k j y z).trans (bg26 w6 (by decide +kernel) k j y z)) ((Ot9_e (fun j => my_fr.at w6 qis_162 rfl) (fun j => my_fr.at w6 qis_163 rfl)).tr (Ot9_e (fun j => my_fr.at w22 qis_162 rfl) (fun j => my_fr.at w22 qis_163 rfl))) (fun j => (my_fr.at w22 pis_3 rfl).trans (my_fr.at w6 pis_3 rfl)) (fun j => (my_fr.at w22 pis_4 rfl).trans (my_fr.at w6 pis_4 rfl)) (fun j => (my_fr.at w22 pis_5 rfl).trans (my_fr.at w6 pis_5 rfl)) (fun j => (my_fr.at w22 pis_6 rfl).trans (w8 j)) (fun j => (my_fr.at w22 pis_158 rfl).trans (my_fr.at w6 pis_158 rfl)) (fun j => (my_fr.at w22 pis_159 rfl).trans (my_fr.at w6 pis_159 rfl)) (fun j => (my_fr.at w22 pis_160 rfl).trans (my_fr.at w6 pis_160 rfl)) (fun j => (w25 j).trans (my_fr.at w6 pis_161 rfl)) I.pSim
          have I_h21 : LInv h21 := ⟨Ln_ag (my_ag.fr w22 rfl) J_h5.pLn, Mw_ag (my_ag.fr w22 rfl) J_h5.pMw, Mw3_ag (my_ag.fr w22 rfl) J_h5.pMw3, Rws_ag (my_ag.fr w22 rfl) J_h5.pRws, Wrd_ag (my_ag.fr w22 rfl) J_h5.pWrd, Ceq_ag (my_ag.fr w22 rfl) (Ceq_ag (my_ag.fr w6 rfl) (I.pCeq)), Wd9_ag (my_ag.fr w22 rfl) (Wd9_ag (my_ag.fr w6 rfl) (I.pWd9)), Teq_ag (my_ag.fr w22 rfl) (Teq_ag (my_ag.fr w6 rfl) (I.pTeq)), Wnq_ag (my_ag.fr w22 rfl) (Wnq_ag (my_ag.fr w6 rfl) (I.pWnq)), Hed_ag (my_ag.fr w22 rfl) (Hed_ag (my_ag.fr w6 rfl) (I.pHed)), sim_h21⟩
          show lwp p l e s m below meth c b D tys sg rho 490 [(3, 0), (2, 0), (2, 151), (2, 203), (0, i), (9, 0), (9, 0)] [(0, 0)] h21 kn
          refine lw_pop gz_0_490 rfl ?_
          refine lw_goto (t := 1878) gz_0_491 rfl ?_
          exact K h21 I_h21
        ·
          have q0 : z17 = z1 := ez17.trans ez1.symm
          have q1 : z18 = z2 := ez18.trans ez2.symm
          try simp only [q0, q1] at w28
          try simp only [q0, q1] at w29
          try simp only [q0, q1] at w30
          try simp only [q0, q1] at w31
          try simp only [q0, q1] at w33
          try simp only [q0, q1] at w34
          exact absurd ((Once_iff I.pSim w6 rfl).mpr w33) w7
      ·
        refine lw_iconst gz_0_482 (by decide) ?_
        refine lw_goto (t := 487) gz_0_483 rfl ?_
        refine lw_inv (kz := 1) (as := [(0, 1), (0, z18), (0, z17)]) (r := []) (x := 151) (ls0 := [(2, 151), (0, z17), (0, z18), (0, 1), (9, 0)]) gz_0_487 gm_166 rfl is_151 rd_10 rfl rfl rfl rfl rfl (c_Model_once5 (d := 25) (x1 := z17) (x2 := z18) (x3 := 1) (by omega) (by omega) (fun h35 w36 w37 w38 w39 => ?_) (fun h40 w41 w42 w43 w44 w45 w46 w47 w48 => ?_))
        ·
          have q0 : z17 = z1 := ez17.trans ez1.symm
          have q1 : z18 = z2 := ez18.trans ez2.symm
          exfalso
          subst_vars
          omega
        ·
          have q0 : z17 = z1 := ez17.trans ez1.symm
          have q1 : z18 = z2 := ez18.trans ez2.symm
          exfalso
          subst_vars
          omega
    ·
      have J_h9 : LBas h9 := ⟨Ln_ag (my_ag.fr w10 rfl) I.pLn, Mw_ag (my_ag.fr w10 rfl) I.pMw, Mw3_ag (my_ag.fr w10 rfl) I.pMw3, Rws_ag (my_ag.fr w10 rfl) I.pRws, Wrd_ag (my_ag.fr w10 rfl) I.pWrd⟩
      show lwp p l e s m below meth c b D tys sg rho 459 [(3, 0), (2, 0), (2, 151), (2, 203), (0, i), (9, 0), (9, 0)] [(0, 1)] h9 kn
      refine lw_pop gz_0_459 rfl ?_
      refine lw_aload_n gz_0_460 rfl ?_
      refine lw_aload3_n gz_0_461 rfl ?_
      refine lw_iload gz_0_462 rfl ?_
      refine lw_iconst gz_0_464 (by decide) ?_
      refine lw_iadd gz_0_465 ⟨by omega, by omega⟩ ?_
      refine lw_sl gz_0_466 hL4 hL (by omega) (by omega) (fun z49 ez49 pz49 qz49 => ?_)
      refine lw_aload3_n gz_0_467 rfl ?_
      refine lw_iload gz_0_468 rfl ?_
      refine lw_iconst gz_0_470 (by decide) ?_
      refine lw_iadd gz_0_471 ⟨by omega, by omega⟩ ?_
      refine lw_sl gz_0_472 hL4 hL (by omega) (by omega) (fun z50 ez50 pz50 qz50 => ?_)
      refine lw_aload3_n gz_0_473 rfl ?_
      refine lw_iload gz_0_474 rfl ?_
      refine lw_iconst gz_0_476 (by decide) ?_
      refine lw_iadd gz_0_477 ⟨by omega, by omega⟩ ?_
      refine lw_sl gz_0_478 hL4 hL (by omega) (by omega) (fun z51 ez51 pz51 qz51 => ?_)
      refine lw_ifeq (t := 486) gz_0_479 rfl (fun u52 => ?_) (fun u52 => ?_)
      ·
        refine lw_iconst gz_0_486 (by decide) ?_
        refine lw_inv (kz := 1) (as := [(0, 0), (0, z50), (0, z49)]) (r := []) (x := 151) (ls0 := [(2, 151), (0, z49), (0, z50), (0, 0), (9, 0)]) gz_0_487 gm_166 rfl is_151 rd_10 rfl rfl rfl rfl rfl (c_Model_once5 (d := 25) (x1 := z49) (x2 := z50) (x3 := 0) (by omega) (by omega) (fun h53 w54 w55 w56 w57 => ?_) (fun h58 w59 w60 w61 w62 w63 w64 w65 w66 => ?_))
        ·
          have q0 : z49 = z1 := ez49.trans ez1.symm
          have q1 : z50 = z2 := ez50.trans ez2.symm
          try simp only [q0, q1] at w56
          exact absurd ((Once_iff I.pSim w10 rfl).mp w15) w56
        ·
          have q0 : z49 = z1 := ez49.trans ez1.symm
          have q1 : z50 = z2 := ez50.trans ez2.symm
          try simp only [q0, q1] at w60
          try simp only [q0, q1] at w61
          try simp only [q0, q1] at w62
          try simp only [q0, q1] at w63
          try simp only [q0, q1] at w65
          try simp only [q0, q1] at w66
          have sim_h58 : Sim h58 := Sim_once I.pLn (I.pWnq.2.1) w10 w59 w15 w16 w66 I.pSim
          have I_h58 : LInv h58 := ⟨Ln_ag (my_ag.fr w59 rfl) J_h9.pLn, Mw_ag (my_ag.fr w59 rfl) J_h9.pMw, Mw3_ag (my_ag.fr w59 rfl) J_h9.pMw3, Rws_ag (my_ag.fr w59 rfl) J_h9.pRws, Wrd_ag (my_ag.fr w59 rfl) J_h9.pWrd, Ceq_ag (my_ag.fr w59 rfl) (Ceq_ag (my_ag.fr w10 rfl) (I.pCeq)), Wd9_ag (my_ag.fr w59 rfl) (Wd9_ag (my_ag.fr w10 rfl) (I.pWd9)), Teq_ag (my_ag.fr w59 rfl) (Teq_ag (my_ag.fr w10 rfl) (I.pTeq)), Wnq_ag (my_ag.fr w59 rfl) (Wnq_ag (my_ag.fr w10 rfl) (I.pWnq)), Hed_ag (my_ag.fr w59 rfl) (Hed_ag (my_ag.fr w10 rfl) (I.pHed)), sim_h58⟩
          show lwp p l e s m below meth c b D tys sg rho 490 [(3, 0), (2, 0), (2, 151), (2, 203), (0, i), (9, 0), (9, 0)] [(0, 1)] h58 kn
          refine lw_pop gz_0_490 rfl ?_
          refine lw_goto (t := 1878) gz_0_491 rfl ?_
          exact K h58 I_h58
      ·
        refine lw_iconst gz_0_482 (by decide) ?_
        refine lw_goto (t := 487) gz_0_483 rfl ?_
        refine lw_inv (kz := 1) (as := [(0, 1), (0, z50), (0, z49)]) (r := []) (x := 151) (ls0 := [(2, 151), (0, z49), (0, z50), (0, 1), (9, 0)]) gz_0_487 gm_166 rfl is_151 rd_10 rfl rfl rfl rfl rfl (c_Model_once5 (d := 25) (x1 := z49) (x2 := z50) (x3 := 1) (by omega) (by omega) (fun h67 w68 w69 w70 w71 => ?_) (fun h72 w73 w74 w75 w76 w77 w78 w79 w80 => ?_))
        ·
          have q0 : z49 = z1 := ez49.trans ez1.symm
          have q1 : z50 = z2 := ez50.trans ez2.symm
          exfalso
          subst_vars
          omega
        ·
          have q0 : z49 = z1 := ez49.trans ez1.symm
          have q1 : z50 = z2 := ez50.trans ez2.symm
          exfalso
          subst_vars
          omega
  ·
    refine lw_iconst gz_0_451 (by decide) ?_
    refine lw_goto (t := 456) gz_0_452 rfl ?_
    refine lw_inv (kz := 2) (as := [(0, 1), (0, z2), (0, z1)]) (r := []) (x := 0) (ls0 := [(2, 0), (0, z1), (0, z2), (0, 1), (9, 0), (9, 0)]) gz_0_456 gm_31 rfl is_0 rd_9 rfl rfl rfl rfl rfl (c_ThroughWindow_once5 (d := 25) (x1 := z1) (x2 := z2) (x3 := 1) (by omega) (by omega) (I.pSim.2.1.1) (fun h81 w82 w83 w84 => ?_) (fun h85 w86 w87 w88 w89 w90 w91 w92 => ?_))
    ·
      have J_h81 : LBas h81 := ⟨Ln_ag (my_ag.fr w82 rfl) I.pLn, Mw_ag (my_ag.fr w82 rfl) I.pMw, Mw3_ag (my_ag.fr w82 rfl) I.pMw3, Rws_ag (my_ag.fr w82 rfl) I.pRws, Wrd_ag (my_ag.fr w82 rfl) I.pWrd⟩
      show lwp p l e s m below meth c b D tys sg rho 459 [(3, 0), (2, 0), (2, 151), (2, 203), (0, i), (9, 0), (9, 0)] [(0, 0)] h81 kn
      refine lw_pop gz_0_459 rfl ?_
      refine lw_aload_n gz_0_460 rfl ?_
      refine lw_aload3_n gz_0_461 rfl ?_
      refine lw_iload gz_0_462 rfl ?_
      refine lw_iconst gz_0_464 (by decide) ?_
      refine lw_iadd gz_0_465 ⟨by omega, by omega⟩ ?_
      refine lw_sl gz_0_466 hL4 hL (by omega) (by omega) (fun z93 ez93 pz93 qz93 => ?_)
      refine lw_aload3_n gz_0_467 rfl ?_
      refine lw_iload gz_0_468 rfl ?_
      refine lw_iconst gz_0_470 (by decide) ?_
      refine lw_iadd gz_0_471 ⟨by omega, by omega⟩ ?_
      refine lw_sl gz_0_472 hL4 hL (by omega) (by omega) (fun z94 ez94 pz94 qz94 => ?_)
      refine lw_aload3_n gz_0_473 rfl ?_
      refine lw_iload gz_0_474 rfl ?_
      refine lw_iconst gz_0_476 (by decide) ?_
      refine lw_iadd gz_0_477 ⟨by omega, by omega⟩ ?_
      refine lw_sl gz_0_478 hL4 hL (by omega) (by omega) (fun z95 ez95 pz95 qz95 => ?_)
      refine lw_ifeq (t := 486) gz_0_479 rfl (fun u96 => ?_) (fun u96 => ?_)
      ·
        refine lw_iconst gz_0_486 (by decide) ?_
        refine lw_inv (kz := 1) (as := [(0, 0), (0, z94), (0, z93)]) (r := []) (x := 151) (ls0 := [(2, 151), (0, z93), (0, z94), (0, 0), (9, 0)]) gz_0_487 gm_166 rfl is_151 rd_10 rfl rfl rfl rfl rfl (c_Model_once5 (d := 25) (x1 := z93) (x2 := z94) (x3 := 0) (by omega) (by omega) (fun h97 w98 w99 w100 w101 => ?_) (fun h102 w103 w104 w105 w106 w107 w108 w109 w110 => ?_))
        ·
          have q0 : z93 = z1 := ez93.trans ez1.symm
          have q1 : z94 = z2 := ez94.trans ez2.symm
          exfalso
          subst_vars
          omega
        ·
          have q0 : z93 = z1 := ez93.trans ez1.symm
          have q1 : z94 = z2 := ez94.trans ez2.symm
          exfalso
          subst_vars
          omega
      ·
        refine lw_iconst gz_0_482 (by decide) ?_
        refine lw_goto (t := 487) gz_0_483 rfl ?_
        refine lw_inv (kz := 1) (as := [(0, 1), (0, z94), (0, z93)]) (r := []) (x := 151) (ls0 := [(2, 151), (0, z93), (0, z94), (0, 1), (9, 0)]) gz_0_487 gm_166 rfl is_151 rd_10 rfl rfl rfl rfl rfl (c_Model_once5 (d := 25) (x1 := z93) (x2 := z94) (x3 := 1) (by omega) (by omega) (fun h111 w112 w113 w114 w115 => ?_) (fun h116 w117 w118 w119 w120 w121 w122 w123 w124 => ?_))
        ·
          have q0 : z93 = z1 := ez93.trans ez1.symm
          have q1 : z94 = z2 := ez94.trans ez2.symm
          try simp only [q0, q1] at w114
          have sim_h111 : Sim h111 := Sim_l0 I.pLn (I.pWnq.2.1) ((my_ag.fr w82 rfl).tr (my_ag.fr w112 rfl)) (fun k j y z => (bg26 w112 (by decide +kernel) k j y z).trans (bg26 w82 (by decide +kernel) k j y z)) ((Ot9_e (fun j => my_fr.at w82 qis_162 rfl) (fun j => my_fr.at w82 qis_163 rfl)).tr (Ot9_e (fun j => my_fr.at w112 qis_162 rfl) (fun j => my_fr.at w112 qis_163 rfl))) (fun j => (my_fr.at w112 pis_3 rfl).trans (my_fr.at w82 pis_3 rfl)) (fun j => (my_fr.at w112 pis_4 rfl).trans (my_fr.at w82 pis_4 rfl)) (fun j => (my_fr.at w112 pis_5 rfl).trans (my_fr.at w82 pis_5 rfl)) (fun j => (my_fr.at w112 pis_6 rfl).trans (w84 j)) (fun j => (my_fr.at w112 pis_158 rfl).trans (my_fr.at w82 pis_158 rfl)) (fun j => (my_fr.at w112 pis_159 rfl).trans (my_fr.at w82 pis_159 rfl)) (fun j => (my_fr.at w112 pis_160 rfl).trans (my_fr.at w82 pis_160 rfl)) (fun j => (w115 j).trans (my_fr.at w82 pis_161 rfl)) I.pSim
          have I_h111 : LInv h111 := ⟨Ln_ag (my_ag.fr w112 rfl) J_h81.pLn, Mw_ag (my_ag.fr w112 rfl) J_h81.pMw, Mw3_ag (my_ag.fr w112 rfl) J_h81.pMw3, Rws_ag (my_ag.fr w112 rfl) J_h81.pRws, Wrd_ag (my_ag.fr w112 rfl) J_h81.pWrd, Ceq_ag (my_ag.fr w112 rfl) (Ceq_ag (my_ag.fr w82 rfl) (I.pCeq)), Wd9_ag (my_ag.fr w112 rfl) (Wd9_ag (my_ag.fr w82 rfl) (I.pWd9)), Teq_ag (my_ag.fr w112 rfl) (Teq_ag (my_ag.fr w82 rfl) (I.pTeq)), Wnq_ag (my_ag.fr w112 rfl) (Wnq_ag (my_ag.fr w82 rfl) (I.pWnq)), Hed_ag (my_ag.fr w112 rfl) (Hed_ag (my_ag.fr w82 rfl) (I.pHed)), sim_h111⟩
          show lwp p l e s m below meth c b D tys sg rho 490 [(3, 0), (2, 0), (2, 151), (2, 203), (0, i), (9, 0), (9, 0)] [(0, 0)] h111 kn
          refine lw_pop gz_0_490 rfl ?_
          refine lw_goto (t := 1878) gz_0_491 rfl ?_
          exact K h111 I_h111
        ·
          have q0 : z93 = z1 := ez93.trans ez1.symm
          have q1 : z94 = z2 := ez94.trans ez2.symm
          try simp only [q0, q1] at w118
          try simp only [q0, q1] at w119
          try simp only [q0, q1] at w120
          try simp only [q0, q1] at w121
          try simp only [q0, q1] at w123
          try simp only [q0, q1] at w124
          exact absurd ((Once_iff I.pSim w82 rfl).mpr w123) w83
    ·
      have J_h85 : LBas h85 := ⟨Ln_ag (my_ag.fr w86 rfl) I.pLn, Mw_ag (my_ag.fr w86 rfl) I.pMw, Mw3_ag (my_ag.fr w86 rfl) I.pMw3, Rws_ag (my_ag.fr w86 rfl) I.pRws, Wrd_ag (my_ag.fr w86 rfl) I.pWrd⟩
      show lwp p l e s m below meth c b D tys sg rho 459 [(3, 0), (2, 0), (2, 151), (2, 203), (0, i), (9, 0), (9, 0)] [(0, 1)] h85 kn
      refine lw_pop gz_0_459 rfl ?_
      refine lw_aload_n gz_0_460 rfl ?_
      refine lw_aload3_n gz_0_461 rfl ?_
      refine lw_iload gz_0_462 rfl ?_
      refine lw_iconst gz_0_464 (by decide) ?_
      refine lw_iadd gz_0_465 ⟨by omega, by omega⟩ ?_
      refine lw_sl gz_0_466 hL4 hL (by omega) (by omega) (fun z125 ez125 pz125 qz125 => ?_)
      refine lw_aload3_n gz_0_467 rfl ?_
      refine lw_iload gz_0_468 rfl ?_
      refine lw_iconst gz_0_470 (by decide) ?_
      refine lw_iadd gz_0_471 ⟨by omega, by omega⟩ ?_
      refine lw_sl gz_0_472 hL4 hL (by omega) (by omega) (fun z126 ez126 pz126 qz126 => ?_)
      refine lw_aload3_n gz_0_473 rfl ?_
      refine lw_iload gz_0_474 rfl ?_
      refine lw_iconst gz_0_476 (by decide) ?_
      refine lw_iadd gz_0_477 ⟨by omega, by omega⟩ ?_
      refine lw_sl gz_0_478 hL4 hL (by omega) (by omega) (fun z127 ez127 pz127 qz127 => ?_)
      refine lw_ifeq (t := 486) gz_0_479 rfl (fun u128 => ?_) (fun u128 => ?_)
      ·
        refine lw_iconst gz_0_486 (by decide) ?_
        refine lw_inv (kz := 1) (as := [(0, 0), (0, z126), (0, z125)]) (r := []) (x := 151) (ls0 := [(2, 151), (0, z125), (0, z126), (0, 0), (9, 0)]) gz_0_487 gm_166 rfl is_151 rd_10 rfl rfl rfl rfl rfl (c_Model_once5 (d := 25) (x1 := z125) (x2 := z126) (x3 := 0) (by omega) (by omega) (fun h129 w130 w131 w132 w133 => ?_) (fun h134 w135 w136 w137 w138 w139 w140 w141 w142 => ?_))
        ·
          have q0 : z125 = z1 := ez125.trans ez1.symm
          have q1 : z126 = z2 := ez126.trans ez2.symm
          exfalso
          subst_vars
          omega
        ·
          have q0 : z125 = z1 := ez125.trans ez1.symm
          have q1 : z126 = z2 := ez126.trans ez2.symm
          exfalso
          subst_vars
          omega
      ·
        refine lw_iconst gz_0_482 (by decide) ?_
        refine lw_goto (t := 487) gz_0_483 rfl ?_
        refine lw_inv (kz := 1) (as := [(0, 1), (0, z126), (0, z125)]) (r := []) (x := 151) (ls0 := [(2, 151), (0, z125), (0, z126), (0, 1), (9, 0)]) gz_0_487 gm_166 rfl is_151 rd_10 rfl rfl rfl rfl rfl (c_Model_once5 (d := 25) (x1 := z125) (x2 := z126) (x3 := 1) (by omega) (by omega) (fun h143 w144 w145 w146 w147 => ?_) (fun h148 w149 w150 w151 w152 w153 w154 w155 w156 => ?_))
        ·
          have q0 : z125 = z1 := ez125.trans ez1.symm
          have q1 : z126 = z2 := ez126.trans ez2.symm
          try simp only [q0, q1] at w146
          exact absurd ((Once_iff I.pSim w86 rfl).mp w91) w146
        ·
          have q0 : z125 = z1 := ez125.trans ez1.symm
          have q1 : z126 = z2 := ez126.trans ez2.symm
          try simp only [q0, q1] at w150
          try simp only [q0, q1] at w151
          try simp only [q0, q1] at w152
          try simp only [q0, q1] at w153
          try simp only [q0, q1] at w155
          try simp only [q0, q1] at w156
          have sim_h148 : Sim h148 := Sim_once I.pLn (I.pWnq.2.1) w86 w149 w91 w92 w156 I.pSim
          have I_h148 : LInv h148 := ⟨Ln_ag (my_ag.fr w149 rfl) J_h85.pLn, Mw_ag (my_ag.fr w149 rfl) J_h85.pMw, Mw3_ag (my_ag.fr w149 rfl) J_h85.pMw3, Rws_ag (my_ag.fr w149 rfl) J_h85.pRws, Wrd_ag (my_ag.fr w149 rfl) J_h85.pWrd, Ceq_ag (my_ag.fr w149 rfl) (Ceq_ag (my_ag.fr w86 rfl) (I.pCeq)), Wd9_ag (my_ag.fr w149 rfl) (Wd9_ag (my_ag.fr w86 rfl) (I.pWd9)), Teq_ag (my_ag.fr w149 rfl) (Teq_ag (my_ag.fr w86 rfl) (I.pTeq)), Wnq_ag (my_ag.fr w149 rfl) (Wnq_ag (my_ag.fr w86 rfl) (I.pWnq)), Hed_ag (my_ag.fr w149 rfl) (Hed_ag (my_ag.fr w86 rfl) (I.pHed)), sim_h148⟩
          show lwp p l e s m below meth c b D tys sg rho 490 [(3, 0), (2, 0), (2, 151), (2, 203), (0, i), (9, 0), (9, 0)] [(0, 1)] h148 kn
          refine lw_pop gz_0_490 rfl ?_
          refine lw_goto (t := 1878) gz_0_491 rfl ?_
          exact K h148 I_h148
theorem lcase_6 (hL4 : L4 ≤ 4096) (hL : rho 4096 = Int32.ofNat L4) (I : LInv h) (i0 : 0 ≤ i) (i8 : i + 8 ≤ L4) (K : ∀ h' : my_H, LInv h' → lwp p l e s m below meth c b D tys sg rho 1878 [(3, 0), (2, 0), (2, 151), (2, 203), (0, i), (9, 0), (9, 0)] [] h' kn) : lwp p l e s m below meth c b D tys sg rho 494 [(3, 0), (2, 0), (2, 151), (2, 203), (0, i), (9, 0), (9, 0)] [] h kn := by
  refine lw_aload_n gz_0_494 rfl ?_
  refine lw_aload3_n gz_0_495 rfl ?_
  refine lw_iload gz_0_496 rfl ?_
  refine lw_iconst gz_0_498 (by decide) ?_
  refine lw_iadd gz_0_499 ⟨by omega, by omega⟩ ?_
  refine lw_sl gz_0_500 hL4 hL (by omega) (by omega) (fun z1 ez1 pz1 qz1 => ?_)
  refine lw_i2l gz_0_501 ?_
  refine lw_bipush gz_0_502 (by decide) ?_
  refine lw_jshfE gz_0_504 (fun _ => rfl) rfl (fun z2 ez2 pz2 => ?_)
  refine lw_aload3_n gz_0_505 rfl ?_
  refine lw_iload gz_0_506 rfl ?_
  refine lw_iconst gz_0_508 (by decide) ?_
  refine lw_iadd gz_0_509 ⟨by omega, by omega⟩ ?_
  refine lw_sl gz_0_510 hL4 hL (by omega) (by omega) (fun z3 ez3 pz3 qz3 => ?_)
  refine lw_i2l gz_0_511 ?_
  refine lw_ldc2E gz_0_512 (fun z4 ez4 pz4 => ?_)
  refine lw_jany2E gz_0_515 (fun _ => rfl) rfl (fun z5 ez5 pz5 => ?_)
  refine lw_jany2E gz_0_516 (fun _ => rfl) rfl (fun z6 ez6 pz6 => ?_)
  refine lw_aload3_n gz_0_517 rfl ?_
  refine lw_iload gz_0_518 rfl ?_
  refine lw_iconst gz_0_520 (by decide) ?_
  refine lw_iadd gz_0_521 ⟨by omega, by omega⟩ ?_
  refine lw_sl gz_0_522 hL4 hL (by omega) (by omega) (fun z7 ez7 pz7 qz7 => ?_)
  refine lw_i2l gz_0_523 ?_
  refine lw_bipush gz_0_524 (by decide) ?_
  refine lw_jshfE gz_0_526 (fun _ => rfl) rfl (fun z8 ez8 pz8 => ?_)
  refine lw_aload3_n gz_0_527 rfl ?_
  refine lw_iload gz_0_528 rfl ?_
  refine lw_iconst gz_0_530 (by decide) ?_
  refine lw_iadd gz_0_531 ⟨by omega, by omega⟩ ?_
  refine lw_sl gz_0_532 hL4 hL (by omega) (by omega) (fun z9 ez9 pz9 qz9 => ?_)
  refine lw_i2l gz_0_533 ?_
  refine lw_ldc2E gz_0_534 (fun z10 ez10 pz10 => ?_)
  refine lw_jany2E gz_0_537 (fun _ => rfl) rfl (fun z11 ez11 pz11 => ?_)
  refine lw_jany2E gz_0_538 (fun _ => rfl) rfl (fun z12 ez12 pz12 => ?_)
  refine lw_aload3_n gz_0_539 rfl ?_
  refine lw_iload gz_0_540 rfl ?_
  refine lw_iconst gz_0_542 (by decide) ?_
  refine lw_iadd gz_0_543 ⟨by omega, by omega⟩ ?_
  refine lw_sl gz_0_544 hL4 hL (by omega) (by omega) (fun z13 ez13 pz13 qz13 => ?_)
  refine lw_i2l gz_0_545 ?_
  refine lw_bipush gz_0_546 (by decide) ?_
  refine lw_jshfE gz_0_548 (fun _ => rfl) rfl (fun z14 ez14 pz14 => ?_)
  refine lw_aload3_n gz_0_549 rfl ?_
  refine lw_iload gz_0_550 rfl ?_
  refine lw_bipush gz_0_552 (by decide) ?_
  refine lw_iadd gz_0_554 ⟨by omega, by omega⟩ ?_
  refine lw_sl gz_0_555 hL4 hL (by omega) (by omega) (fun z15 ez15 pz15 qz15 => ?_)
  refine lw_i2l gz_0_556 ?_
  refine lw_ldc2E gz_0_557 (fun z16 ez16 pz16 => ?_)
  refine lw_jany2E gz_0_560 (fun _ => rfl) rfl (fun z17 ez17 pz17 => ?_)
  refine lw_jany2E gz_0_561 (fun _ => rfl) rfl (fun z18 ez18 pz18 => ?_)
  refine lw_inv (kz := 0) (as := [(1, z18), (1, z12), (1, z6)]) (r := []) (x := 0) (ls0 := [(2, 0), (1, z6), (9, 0), (1, z12), (9, 0), (1, z18), (9, 0)]) gz_0_562 gm_32 rfl is_0 rd_9 rfl rfl rfl rfl rfl (c_ThroughWindow_feed9 (d := 28) (x1 := z6) (x2 := z12) (x3 := z18)  (fun h19 y20 w21 w22 w23 => ?_))
  have J_h19 : LBas h19 := ⟨Ln_ag (my_ag.fr w21 rfl) I.pLn, Mw_ag (my_ag.fr w21 rfl) I.pMw, Mw3_ag (my_ag.fr w21 rfl) I.pMw3, Rws_ag (my_ag.fr w21 rfl) I.pRws, Wrd_ag (my_ag.fr w21 rfl) I.pWrd⟩
  show lwp p l e s m below meth c b D tys sg rho 565 [(3, 0), (2, 0), (2, 151), (2, 203), (0, i), (9, 0), (9, 0)] [(0, y20)] h19 kn
  refine lw_pop gz_0_565 rfl ?_
  refine lw_aload_n gz_0_566 rfl ?_
  refine lw_aload3_n gz_0_567 rfl ?_
  refine lw_iload gz_0_568 rfl ?_
  refine lw_iconst gz_0_570 (by decide) ?_
  refine lw_iadd gz_0_571 ⟨by omega, by omega⟩ ?_
  refine lw_sl gz_0_572 hL4 hL (by omega) (by omega) (fun z24 ez24 pz24 qz24 => ?_)
  refine lw_i2l gz_0_573 ?_
  refine lw_bipush gz_0_574 (by decide) ?_
  refine lw_jshfE gz_0_576 (fun _ => rfl) rfl (fun z25 ez25 pz25 => ?_)
  refine lw_aload3_n gz_0_577 rfl ?_
  refine lw_iload gz_0_578 rfl ?_
  refine lw_iconst gz_0_580 (by decide) ?_
  refine lw_iadd gz_0_581 ⟨by omega, by omega⟩ ?_
  refine lw_sl gz_0_582 hL4 hL (by omega) (by omega) (fun z26 ez26 pz26 qz26 => ?_)
  refine lw_i2l gz_0_583 ?_
  refine lw_ldc2E gz_0_584 (fun z27 ez27 pz27 => ?_)
  refine lw_jany2E gz_0_587 (fun _ => rfl) rfl (fun z28 ez28 pz28 => ?_)
  refine lw_jany2E gz_0_588 (fun _ => rfl) rfl (fun z29 ez29 pz29 => ?_)
  refine lw_aload3_n gz_0_589 rfl ?_
  refine lw_iload gz_0_590 rfl ?_
  refine lw_iconst gz_0_592 (by decide) ?_
  refine lw_iadd gz_0_593 ⟨by omega, by omega⟩ ?_
  refine lw_sl gz_0_594 hL4 hL (by omega) (by omega) (fun z30 ez30 pz30 qz30 => ?_)
  refine lw_i2l gz_0_595 ?_
  refine lw_bipush gz_0_596 (by decide) ?_
  refine lw_jshfE gz_0_598 (fun _ => rfl) rfl (fun z31 ez31 pz31 => ?_)
  refine lw_aload3_n gz_0_599 rfl ?_
  refine lw_iload gz_0_600 rfl ?_
  refine lw_iconst gz_0_602 (by decide) ?_
  refine lw_iadd gz_0_603 ⟨by omega, by omega⟩ ?_
  refine lw_sl gz_0_604 hL4 hL (by omega) (by omega) (fun z32 ez32 pz32 qz32 => ?_)
  refine lw_i2l gz_0_605 ?_
  refine lw_ldc2E gz_0_606 (fun z33 ez33 pz33 => ?_)
  refine lw_jany2E gz_0_609 (fun _ => rfl) rfl (fun z34 ez34 pz34 => ?_)
  refine lw_jany2E gz_0_610 (fun _ => rfl) rfl (fun z35 ez35 pz35 => ?_)
  refine lw_aload3_n gz_0_611 rfl ?_
  refine lw_iload gz_0_612 rfl ?_
  refine lw_iconst gz_0_614 (by decide) ?_
  refine lw_iadd gz_0_615 ⟨by omega, by omega⟩ ?_
  refine lw_sl gz_0_616 hL4 hL (by omega) (by omega) (fun z36 ez36 pz36 qz36 => ?_)
  refine lw_i2l gz_0_617 ?_
  refine lw_bipush gz_0_618 (by decide) ?_
  refine lw_jshfE gz_0_620 (fun _ => rfl) rfl (fun z37 ez37 pz37 => ?_)
  refine lw_aload3_n gz_0_621 rfl ?_
  refine lw_iload gz_0_622 rfl ?_
  refine lw_bipush gz_0_624 (by decide) ?_
  refine lw_iadd gz_0_626 ⟨by omega, by omega⟩ ?_
  refine lw_sl gz_0_627 hL4 hL (by omega) (by omega) (fun z38 ez38 pz38 qz38 => ?_)
  refine lw_i2l gz_0_628 ?_
  refine lw_ldc2E gz_0_629 (fun z39 ez39 pz39 => ?_)
  refine lw_jany2E gz_0_632 (fun _ => rfl) rfl (fun z40 ez40 pz40 => ?_)
  refine lw_jany2E gz_0_633 (fun _ => rfl) rfl (fun z41 ez41 pz41 => ?_)
  refine lw_inv (kz := 0) (as := [(1, z41), (1, z35), (1, z29)]) (r := []) (x := 151) (ls0 := [(2, 151), (1, z29), (9, 0), (1, z35), (9, 0), (1, z41), (9, 0)]) gz_0_634 gm_143 rfl is_151 rd_10 rfl rfl rfl rfl rfl (c_Model_feed9 (d := 28) (x1 := z29) (x2 := z35) (x3 := z41)  (fun h42 y43 w44 w45 w46 => ?_))
  have q1 : z29 = z6 := by subst_vars; rfl
  have q2 : z35 = z12 := by subst_vars; rfl
  have q3 : z41 = z18 := by subst_vars; rfl
  have e1 : tm_of h19 = tm_of h := Prod.ext (funext (fun j => my_fr.at w21 is_152 rfl)) (my_fr.at w21 is_151 rfl)
  have e2 : tp_of h42 = tp_of h19 := tp_eq (fun j => my_fr.at w44 is_92 rfl) (my_fr.at w44 is_82 rfl)
  have e3 : Teq h42 := by
    unfold Teq
    rw [e2, w22, w45, e1, q1, q2, q3, show tp_of h = tm_of h from I.pTeq]
  have sim_h42 : Sim h42 := Sim_q J_h19.pLn ((Wnq_ag (my_ag.fr w21 rfl) (I.pWnq)).2.1) (my_ag.fr w44 rfl) (bg26 w44 (by decide +kernel)) (Ot9_e (fun j => my_fr.at w44 qis_162 rfl) (fun j => my_fr.at w44 qis_163 rfl)) (Sim_q I.pLn (I.pWnq.2.1) (my_ag.fr w21 rfl) (bg26 w21 (by decide +kernel)) (Ot9_e (fun j => my_fr.at w21 qis_162 rfl) (fun j => my_fr.at w21 qis_163 rfl)) I.pSim)
  have I_h42 : LInv h42 := ⟨Ln_ag (my_ag.fr w44 rfl) J_h19.pLn, Mw_ag (my_ag.fr w44 rfl) J_h19.pMw, Mw3_ag (my_ag.fr w44 rfl) J_h19.pMw3, Rws_ag (my_ag.fr w44 rfl) J_h19.pRws, Wrd_ag (my_ag.fr w44 rfl) J_h19.pWrd, Ceq_ag (my_ag.fr w44 rfl) (Ceq_ag (my_ag.fr w21 rfl) I.pCeq), Wd9_ag (my_ag.fr w44 rfl) (Wd9_ag (my_ag.fr w21 rfl) I.pWd9), e3, Wnq_ag (my_ag.fr w44 rfl) (Wnq_ag (my_ag.fr w21 rfl) I.pWnq), Hed_ag (my_ag.fr w44 rfl) (Hed_ag (my_ag.fr w21 rfl) (I.pHed)), sim_h42⟩
  show lwp p l e s m below meth c b D tys sg rho 637 [(3, 0), (2, 0), (2, 151), (2, 203), (0, i), (9, 0), (9, 0)] [(0, y43)] h42 kn
  refine lw_pop gz_0_637 rfl ?_
  refine lw_goto (t := 1878) gz_0_638 rfl ?_
  exact K h42 I_h42
theorem lcase_7 (hL4 : L4 ≤ 4096) (hL : rho 4096 = Int32.ofNat L4) (I : LInv h) (i0 : 0 ≤ i) (i8 : i + 8 ≤ L4) (K : ∀ h' : my_H, LInv h' → lwp p l e s m below meth c b D tys sg rho 1878 [(3, 0), (2, 0), (2, 151), (2, 203), (0, i), (9, 0), (9, 0)] [] h' kn) : lwp p l e s m below meth c b D tys sg rho 641 [(3, 0), (2, 0), (2, 151), (2, 203), (0, i), (9, 0), (9, 0)] [] h kn := by
  refine lw_aload_n gz_0_641 rfl ?_
  refine lw_aload3_n gz_0_642 rfl ?_
  refine lw_iload gz_0_643 rfl ?_
  refine lw_iconst gz_0_645 (by decide) ?_
  refine lw_iadd gz_0_646 ⟨by omega, by omega⟩ ?_
  refine lw_sl gz_0_647 hL4 hL (by omega) (by omega) (fun z1 ez1 pz1 qz1 => ?_)
  refine lw_inv (kz := 0) (as := [(0, z1)]) (r := []) (x := 0) (ls0 := [(2, 0), (0, z1)]) gz_0_648 gm_34 rfl is_0 rd_9 rfl rfl rfl rfl rfl (c_ThroughWindow_window7 (d := 20) (x1 := z1) I.pLn (I.pSim.1.1) (fun h2 w3 w4 w5 w6 w7 w8 => ?_) (fun h9 w10 w11 w12 w13 w14 w15 w16 w17 => ?_) (fun h18 y19 w20 w21 w22 w23 w24 w25 w26 w27 w28 w29 w30 => ?_))
  ·
    have J_h2 : LBas h2 := ⟨w8, Mw_ag (my_ag.fr w3 rfl) I.pMw, Mw3_ag (my_ag.fr w3 rfl) I.pMw3, Rws_ag (my_ag.fr w3 rfl) I.pRws, Wrd_ag (my_ag.fr w3 rfl) I.pWrd⟩
    have jW : Wd9 h2 := Wd9_ag (my_ag.fr w3 rfl) I.pWd9
    show lwp p l e s m below meth c b D tys sg rho 651 [(3, 0), (2, 0), (2, 151), (2, 203), (0, i), (9, 0), (9, 0)] [(0, (-1))] h2 kn
    refine lw_pop gz_0_651 rfl ?_
    refine lw_aload_n gz_0_652 rfl ?_
    refine lw_aload3_n gz_0_653 rfl ?_
    refine lw_iload gz_0_654 rfl ?_
    refine lw_iconst gz_0_656 (by decide) ?_
    refine lw_iadd gz_0_657 ⟨by omega, by omega⟩ ?_
    refine lw_sl gz_0_658 hL4 hL (by omega) (by omega) (fun z31 ez31 pz31 qz31 => ?_)
    refine lw_inv (kz := 2) (as := [(0, z31)]) (r := []) (x := 151) (ls0 := [(2, 151), (0, z31), (9, 0), (9, 0)]) gz_0_659 gm_168 rfl is_151 rd_10 rfl rfl rfl rfl rfl (c_Model_window7 (d := 24) (x1 := z31) J_h2.pMw J_h2.pMw3 J_h2.pWrd jW (fun h32 w33 w34 w35 w36 w37 w38 w39 w40 w41 w42 w43 => ?_) (fun h44 y45 w46 w47 w48 w49 w50 w51 w52 w53 w54 w55 w56 w57 w58 w59 w60 w61 w62 w63 => ?_) (fun h64 w65 w66 w67 w68 w69 w70 w71 w72 w73 w74 w75 w76 w77 => ?_))
    ·
      have qz : z31 = z1 := ez31.trans ez1.symm
      have e157 : ∀ j : Int, h2 157 j = h 157 j := fun j => my_fr.at w3 is_157 rfl
      have e164 : ∀ j : Int, h2 164 j = h 164 j := fun j => my_fr.at w3 is_164 rfl
      have e165 : ∀ j : Int, h2 165 j = h 165 j := fun j => my_fr.at w3 is_165 rfl
      have e166 : ∀ j : Int, h2 166 j = h 166 j := fun j => my_fr.at w3 is_166 rfl
      have et : tm_of h2 = tm_of h := Prod.ext (funext (fun j => my_fr.at w3 is_152 rfl)) (my_fr.at w3 is_151 rfl)
      have bL : Ln h32 := Ln_ag (my_ag.fr w33 rfl) J_h2.pLn
      have bC : Ceq h32 := Ceq_ag (my_ag.fr w33 rfl) (Ceq_ag (my_ag.fr w3 rfl) I.pCeq)
      have bW : Wnq h32 := Wnq_ko w37 w38 (my_ag.fr w33 rfl) (Wnq_lo w6 (my_ag.fr w3 rfl) I.pWnq)
      have sim_h32 : Sim h32 := Sim_wnt I.pLn w8 I.pWnq bW bC w3 w33 w38 w7 w37 w39 I.pSim
      have I_h32 : LInv h32 := ⟨bL, w40, w41, Rws_ag (my_ag.fr w33 rfl) J_h2.pRws, w42, bC, w43, Teq_0 I.pTeq (fun j => (my_fr.at w33 is_92 rfl).trans (my_fr.at w3 is_92 rfl)) (fun j => (my_fr.at w33 is_152 rfl).trans (my_fr.at w3 is_152 rfl)) ((my_fr.at w33 is_82 rfl).trans w5) w35, bW, Hed_ag (my_ag.fr w33 rfl) (Hed_ag (my_ag.fr w3 rfl) (I.pHed)), sim_h32⟩
      show lwp p l e s m below meth c b D tys sg rho 662 [(3, 0), (2, 0), (2, 151), (2, 203), (0, i), (9, 0), (9, 0)] [(0, (-1))] h32 kn
      refine lw_pop gz_0_662 rfl ?_
      refine lw_goto (t := 1878) gz_0_663 rfl ?_
      exact K h32 I_h32
    ·
      have qz : z31 = z1 := ez31.trans ez1.symm
      have e157 : ∀ j : Int, h2 157 j = h 157 j := fun j => my_fr.at w3 is_157 rfl
      have e164 : ∀ j : Int, h2 164 j = h 164 j := fun j => my_fr.at w3 is_164 rfl
      have e165 : ∀ j : Int, h2 165 j = h 165 j := fun j => my_fr.at w3 is_165 rfl
      have e166 : ∀ j : Int, h2 166 j = h 166 j := fun j => my_fr.at w3 is_166 rfl
      exfalso
      have nuM := w55
      rw [qz] at nuM
      rcases w4 with q | q
      · omega
      · obtain ⟨k, a, b, c, d, e⟩ := (under_eq (w := z1) I.pWnq e164 e165 e166 (by omega)).mp q
        exact nuM k a b c d e
    ·
      have qz : z31 = z1 := ez31.trans ez1.symm
      have e157 : ∀ j : Int, h2 157 j = h 157 j := fun j => my_fr.at w3 is_157 rfl
      have e164 : ∀ j : Int, h2 164 j = h 164 j := fun j => my_fr.at w3 is_164 rfl
      have e165 : ∀ j : Int, h2 165 j = h 165 j := fun j => my_fr.at w3 is_165 rfl
      have e166 : ∀ j : Int, h2 166 j = h 166 j := fun j => my_fr.at w3 is_166 rfl
      exfalso
      obtain ⟨g9, n9, -, -, -, -, -, -, -, nuM, -⟩ := w71
      rw [qz] at nuM
      rcases w4 with q | q
      · omega
      · obtain ⟨k, a, b, c, d, e⟩ := (under_eq (w := z1) I.pWnq e164 e165 e166 (by omega)).mp q
        exact nuM k a b c d e
  ·
    have J_h9 : LBas h9 := ⟨w17, Mw_ag (my_ag.fr w10 rfl) I.pMw, Mw3_ag (my_ag.fr w10 rfl) I.pMw3, Rws_ag (my_ag.fr w10 rfl) I.pRws, Wrd_ag (my_ag.fr w10 rfl) I.pWrd⟩
    have jW : Wd9 h9 := Wd9_ag (my_ag.fr w10 rfl) I.pWd9
    show lwp p l e s m below meth c b D tys sg rho 651 [(3, 0), (2, 0), (2, 151), (2, 203), (0, i), (9, 0), (9, 0)] [(0, 0)] h9 kn
    refine lw_pop gz_0_651 rfl ?_
    refine lw_aload_n gz_0_652 rfl ?_
    refine lw_aload3_n gz_0_653 rfl ?_
    refine lw_iload gz_0_654 rfl ?_
    refine lw_iconst gz_0_656 (by decide) ?_
    refine lw_iadd gz_0_657 ⟨by omega, by omega⟩ ?_
    refine lw_sl gz_0_658 hL4 hL (by omega) (by omega) (fun z78 ez78 pz78 qz78 => ?_)
    refine lw_inv (kz := 2) (as := [(0, z78)]) (r := []) (x := 151) (ls0 := [(2, 151), (0, z78), (9, 0), (9, 0)]) gz_0_659 gm_168 rfl is_151 rd_10 rfl rfl rfl rfl rfl (c_Model_window7 (d := 24) (x1 := z78) J_h9.pMw J_h9.pMw3 J_h9.pWrd jW (fun h79 w80 w81 w82 w83 w84 w85 w86 w87 w88 w89 w90 => ?_) (fun h91 y92 w93 w94 w95 w96 w97 w98 w99 w100 w101 w102 w103 w104 w105 w106 w107 w108 w109 w110 => ?_) (fun h111 w112 w113 w114 w115 w116 w117 w118 w119 w120 w121 w122 w123 w124 => ?_))
    ·
      have qz : z78 = z1 := ez78.trans ez1.symm
      have e157 : ∀ j : Int, h9 157 j = h 157 j := fun j => my_fr.at w10 is_157 rfl
      have e164 : ∀ j : Int, h9 164 j = h 164 j := fun j => my_fr.at w10 is_164 rfl
      have e165 : ∀ j : Int, h9 165 j = h 165 j := fun j => my_fr.at w10 is_165 rfl
      have e166 : ∀ j : Int, h9 166 j = h 166 j := fun j => my_fr.at w10 is_166 rfl
      exfalso
      rw [qz] at w83
      rcases w83 with q | q
      · omega
      · obtain ⟨v, a, b, c, d⟩ := (under_eq (w := z1) I.pWnq e164 e165 e166 (by omega)).mpr q
        exact w13 v a b c d
    ·
      have qz : z78 = z1 := ez78.trans ez1.symm
      have e157 : ∀ j : Int, h9 157 j = h 157 j := fun j => my_fr.at w10 is_157 rfl
      have e164 : ∀ j : Int, h9 164 j = h 164 j := fun j => my_fr.at w10 is_164 rfl
      have e165 : ∀ j : Int, h9 165 j = h 165 j := fun j => my_fr.at w10 is_165 rfl
      have e166 : ∀ j : Int, h9 166 j = h 166 j := fun j => my_fr.at w10 is_166 rfl
      have et : tm_of h9 = tm_of h := Prod.ext (funext (fun j => my_fr.at w10 is_152 rfl)) (my_fr.at w10 is_151 rfl)
      obtain ⟨m1, m2⟩ := MwW_1 (my_ag.fr w10 rfl) I.pWnq
      obtain ⟨c8, b8, o8, pc, nl⟩ := w14
      obtain ⟨n9, nn9, mt9, rm9⟩ := w103
      obtain ⟨c9, b9, o9, pm⟩ := rm9 _ _ m1 m2
      rw [qz] at pm
      have re := read_eq w12 I.pCeq I.pTeq I.pWnq e157 e164 et mt9 pc pm
      exfalso; omega
    ·
      have qz : z78 = z1 := ez78.trans ez1.symm
      have e157 : ∀ j : Int, h9 157 j = h 157 j := fun j => my_fr.at w10 is_157 rfl
      have e164 : ∀ j : Int, h9 164 j = h 164 j := fun j => my_fr.at w10 is_164 rfl
      have e165 : ∀ j : Int, h9 165 j = h 165 j := fun j => my_fr.at w10 is_165 rfl
      have e166 : ∀ j : Int, h9 166 j = h 166 j := fun j => my_fr.at w10 is_166 rfl
      have et : tm_of h9 = tm_of h := Prod.ext (funext (fun j => my_fr.at w10 is_152 rfl)) (my_fr.at w10 is_151 rfl)
      obtain ⟨m1, m2⟩ := MwW_1 (my_ag.fr w10 rfl) I.pWnq
      obtain ⟨c8, b8, o8, pc, nl⟩ := w14
      obtain ⟨g9, n9, kf9, mq9, ko9, e9, bs9, nn9, mt9, nuM, rm9⟩ := w118
      have pm := rm9 _ _ m1 m2
      rw [qz] at pm
      have re := read_eq w12 I.pCeq I.pTeq I.pWnq e157 e164 et mt9 pc pm
      rw [qz] at kf9 mq9 nuM
      obtain ⟨rc, rb, ro⟩ := re.2.2 rfl
      have bL : Ln h111 := Ln_ag (my_ag.fr w112 rfl) J_h9.pLn
      have bC : Ceq h111 := Ceq_ag (my_ag.fr w112 rfl) (Ceq_ag (my_ag.fr w10 rfl) I.pCeq)
      have bW : Wnq h111 := Wnq_new I.pWnq w17 (by omega) (by omega) nl nuM (my_ag.fr w10 rfl) w119 kf9 mq9 ko9 e9 (my_ag.fr w112 rfl) rc rb ro bs9
      rw [qz] at w120
      have sim_h111 : Sim h111 := Sim_win I.pLn w17 bL I.pCeq bC I.pTeq I.pWnq bW w10 w112 w11 w12 w13 nuM w119 mt9 w16 w120 I.pSim
      have I_h111 : LInv h111 := ⟨bL, w121, w122, Rws_ag (my_ag.fr w112 rfl) J_h9.pRws, w123, bC, w124, Teq_0 I.pTeq (fun j => (my_fr.at w112 is_92 rfl).trans (my_fr.at w10 is_92 rfl)) (fun j => (my_fr.at w112 is_152 rfl).trans (my_fr.at w10 is_152 rfl)) ((my_fr.at w112 is_82 rfl).trans w15) w116, bW, Hed_ag (my_ag.fr w112 rfl) (Hed_ag (my_ag.fr w10 rfl) (I.pHed)), sim_h111⟩
      show lwp p l e s m below meth c b D tys sg rho 662 [(3, 0), (2, 0), (2, 151), (2, 203), (0, i), (9, 0), (9, 0)] [(0, 0)] h111 kn
      refine lw_pop gz_0_662 rfl ?_
      refine lw_goto (t := 1878) gz_0_663 rfl ?_
      exact K h111 I_h111
  ·
    have J_h18 : LBas h18 := ⟨w30, Mw_ag (my_ag.fr w20 rfl) I.pMw, Mw3_ag (my_ag.fr w20 rfl) I.pMw3, Rws_ag (my_ag.fr w20 rfl) I.pRws, Wrd_ag (my_ag.fr w20 rfl) I.pWrd⟩
    have jW : Wd9 h18 := Wd9_ag (my_ag.fr w20 rfl) I.pWd9
    show lwp p l e s m below meth c b D tys sg rho 651 [(3, 0), (2, 0), (2, 151), (2, 203), (0, i), (9, 0), (9, 0)] [(0, y19)] h18 kn
    refine lw_pop gz_0_651 rfl ?_
    refine lw_aload_n gz_0_652 rfl ?_
    refine lw_aload3_n gz_0_653 rfl ?_
    refine lw_iload gz_0_654 rfl ?_
    refine lw_iconst gz_0_656 (by decide) ?_
    refine lw_iadd gz_0_657 ⟨by omega, by omega⟩ ?_
    refine lw_sl gz_0_658 hL4 hL (by omega) (by omega) (fun z125 ez125 pz125 qz125 => ?_)
    refine lw_inv (kz := 2) (as := [(0, z125)]) (r := []) (x := 151) (ls0 := [(2, 151), (0, z125), (9, 0), (9, 0)]) gz_0_659 gm_168 rfl is_151 rd_10 rfl rfl rfl rfl rfl (c_Model_window7 (d := 24) (x1 := z125) J_h18.pMw J_h18.pMw3 J_h18.pWrd jW (fun h126 w127 w128 w129 w130 w131 w132 w133 w134 w135 w136 w137 => ?_) (fun h138 y139 w140 w141 w142 w143 w144 w145 w146 w147 w148 w149 w150 w151 w152 w153 w154 w155 w156 w157 => ?_) (fun h158 w159 w160 w161 w162 w163 w164 w165 w166 w167 w168 w169 w170 w171 => ?_))
    ·
      have qz : z125 = z1 := ez125.trans ez1.symm
      have e157 : ∀ j : Int, h18 157 j = h 157 j := fun j => my_fr.at w20 is_157 rfl
      have e164 : ∀ j : Int, h18 164 j = h 164 j := fun j => my_fr.at w20 is_164 rfl
      have e165 : ∀ j : Int, h18 165 j = h 165 j := fun j => my_fr.at w20 is_165 rfl
      have e166 : ∀ j : Int, h18 166 j = h 166 j := fun j => my_fr.at w20 is_166 rfl
      exfalso
      rw [qz] at w130
      rcases w130 with q | q
      · omega
      · obtain ⟨v, a, b, c, d⟩ := (under_eq (w := z1) I.pWnq e164 e165 e166 (by omega)).mpr q
        exact w25 v a b c d
    ·
      have qz : z125 = z1 := ez125.trans ez1.symm
      have e157 : ∀ j : Int, h18 157 j = h 157 j := fun j => my_fr.at w20 is_157 rfl
      have e164 : ∀ j : Int, h18 164 j = h 164 j := fun j => my_fr.at w20 is_164 rfl
      have e165 : ∀ j : Int, h18 165 j = h 165 j := fun j => my_fr.at w20 is_165 rfl
      have e166 : ∀ j : Int, h18 166 j = h 166 j := fun j => my_fr.at w20 is_166 rfl
      have et : tm_of h18 = tm_of h := Prod.ext (funext (fun j => my_fr.at w20 is_152 rfl)) (my_fr.at w20 is_151 rfl)
      obtain ⟨m1, m2⟩ := MwW_1 (my_ag.fr w20 rfl) I.pWnq
      obtain ⟨c8, b8, o8, pc⟩ := w26
      obtain ⟨n9, nn9, mt9, rm9⟩ := w150
      obtain ⟨c9, b9, o9, pm⟩ := rm9 _ _ m1 m2
      rw [qz] at pm
      have re := read_eq w24 I.pCeq I.pTeq I.pWnq e157 e164 et mt9 pc pm
      have yq := re.1
      have bL : Ln h138 := Ln_ag (my_ag.fr w140 rfl) J_h18.pLn
      have bC : Ceq h138 := Ceq_ag (my_ag.fr w140 rfl) (Ceq_ag (my_ag.fr w20 rfl) I.pCeq)
      have bW : Wnq h138 := Wnq_ko w151 w152 (my_ag.fr w140 rfl) (Wnq_lo w28 (my_ag.fr w20 rfl) I.pWnq)
      have sim_h138 : Sim h138 := Sim_wnt I.pLn w30 I.pWnq bW bC w20 w140 w152 w29 w151 w153 I.pSim
      have I_h138 : LInv h138 := ⟨bL, w154, w155, Rws_ag (my_ag.fr w140 rfl) J_h18.pRws, w156, bC, w157, Teq_0 I.pTeq (fun j => (my_fr.at w140 is_92 rfl).trans (my_fr.at w20 is_92 rfl)) (fun j => (my_fr.at w140 is_152 rfl).trans (my_fr.at w20 is_152 rfl)) ((my_fr.at w140 is_82 rfl).trans w27) w146, bW, Hed_ag (my_ag.fr w140 rfl) (Hed_ag (my_ag.fr w20 rfl) (I.pHed)), sim_h138⟩
      show lwp p l e s m below meth c b D tys sg rho 662 [(3, 0), (2, 0), (2, 151), (2, 203), (0, i), (9, 0), (9, 0)] [(0, y139)] h138 kn
      refine lw_pop gz_0_662 rfl ?_
      refine lw_goto (t := 1878) gz_0_663 rfl ?_
      exact K h138 I_h138
    ·
      have qz : z125 = z1 := ez125.trans ez1.symm
      have e157 : ∀ j : Int, h18 157 j = h 157 j := fun j => my_fr.at w20 is_157 rfl
      have e164 : ∀ j : Int, h18 164 j = h 164 j := fun j => my_fr.at w20 is_164 rfl
      have e165 : ∀ j : Int, h18 165 j = h 165 j := fun j => my_fr.at w20 is_165 rfl
      have e166 : ∀ j : Int, h18 166 j = h 166 j := fun j => my_fr.at w20 is_166 rfl
      have et : tm_of h18 = tm_of h := Prod.ext (funext (fun j => my_fr.at w20 is_152 rfl)) (my_fr.at w20 is_151 rfl)
      obtain ⟨m1, m2⟩ := MwW_1 (my_ag.fr w20 rfl) I.pWnq
      obtain ⟨c8, b8, o8, pc⟩ := w26
      obtain ⟨g9, n9, kf9, mq9, ko9, e9, bs9, nn9, mt9, nuM, rm9⟩ := w165
      have pm := rm9 _ _ m1 m2
      rw [qz] at pm
      have re := read_eq w24 I.pCeq I.pTeq I.pWnq e157 e164 et mt9 pc pm
      exfalso; omega
theorem lcase_9 (hL4 : L4 ≤ 4096) (hL : rho 4096 = Int32.ofNat L4) (I : LInv h) (i0 : 0 ≤ i) (i8 : i + 8 ≤ L4) (K : ∀ h' : my_H, LInv h' → lwp p l e s m below meth c b D tys sg rho 1878 [(3, 0), (2, 0), (2, 151), (2, 203), (0, i), (9, 0), (9, 0)] [] h' kn) : lwp p l e s m below meth c b D tys sg rho 718 [(3, 0), (2, 0), (2, 151), (2, 203), (0, i), (9, 0), (9, 0)] [] h kn := by
  refine lw_aload_n gz_0_718 rfl ?_
  refine lw_aload3_n gz_0_719 rfl ?_
  refine lw_iload gz_0_720 rfl ?_
  refine lw_iconst gz_0_722 (by decide) ?_
  refine lw_iadd gz_0_723 ⟨by omega, by omega⟩ ?_
  refine lw_sl gz_0_724 hL4 hL (by omega) (by omega) (fun z1 ez1 pz1 qz1 => ?_)
  refine lw_aload3_n gz_0_725 rfl ?_
  refine lw_iload gz_0_726 rfl ?_
  refine lw_iconst gz_0_728 (by decide) ?_
  refine lw_iadd gz_0_729 ⟨by omega, by omega⟩ ?_
  refine lw_sl gz_0_730 hL4 hL (by omega) (by omega) (fun z2 ez2 pz2 qz2 => ?_)
  refine lw_aload3_n gz_0_731 rfl ?_
  refine lw_iload gz_0_732 rfl ?_
  refine lw_iconst gz_0_734 (by decide) ?_
  refine lw_iadd gz_0_735 ⟨by omega, by omega⟩ ?_
  refine lw_sl gz_0_736 hL4 hL (by omega) (by omega) (fun z3 ez3 pz3 qz3 => ?_)
  refine lw_inv (kz := 1) (as := [(0, z3), (0, z2), (0, z1)]) (r := []) (x := 0) (ls0 := [(2, 0), (0, z1), (0, z2), (0, z3), (9, 0)]) gz_0_737 gm_64 rfl is_0 rd_9 rfl rfl rfl rfl rfl (c_ThroughWindow_seen (d := 24) (x1 := z1) (x2 := z2) (x3 := z3) I.pLn (fun h4 w5 w6 => ?_) (fun h7 y8 w9 w10 w11 w12 w13 w14 w15 w16 => ?_))
  ·
    have sim_h4 : Sim h4 := Sim_q I.pLn (I.pWnq.2.1) (my_ag.fr w5 rfl) (bg26 w5 (by decide +kernel)) (Ot9_e (fun j => my_fr.at w5 qis_162 rfl) (fun j => my_fr.at w5 qis_163 rfl)) I.pSim
    have I_h4 : LInv h4 := ⟨w6, Mw_ag (my_ag.fr w5 rfl) I.pMw, Mw3_ag (my_ag.fr w5 rfl) I.pMw3, Rws_ag (my_ag.fr w5 rfl) I.pRws, Wrd_ag (my_ag.fr w5 rfl) I.pWrd, Ceq_ag (my_ag.fr w5 rfl) (I.pCeq), Wd9_ag (my_ag.fr w5 rfl) (I.pWd9), Teq_ag (my_ag.fr w5 rfl) (I.pTeq), Wnq_ag (my_ag.fr w5 rfl) (I.pWnq), Hed_ag (my_ag.fr w5 rfl) (I.pHed), sim_h4⟩
    show lwp p l e s m below meth c b D tys sg rho 740 [(3, 0), (2, 0), (2, 151), (2, 203), (0, i), (9, 0), (9, 0)] [(0, (-1))] h4 kn
    refine lw_pop gz_0_740 rfl ?_
    refine lw_aload_n gz_0_741 rfl ?_
    refine lw_aload3_n gz_0_742 rfl ?_
    refine lw_iload gz_0_743 rfl ?_
    refine lw_iconst gz_0_745 (by decide) ?_
    refine lw_iadd gz_0_746 ⟨by omega, by omega⟩ ?_
    refine lw_sl gz_0_747 hL4 hL (by omega) (by omega) (fun z17 ez17 pz17 qz17 => ?_)
    refine lw_aload3_n gz_0_748 rfl ?_
    refine lw_iload gz_0_749 rfl ?_
    refine lw_iconst gz_0_751 (by decide) ?_
    refine lw_iadd gz_0_752 ⟨by omega, by omega⟩ ?_
    refine lw_sl gz_0_753 hL4 hL (by omega) (by omega) (fun z18 ez18 pz18 qz18 => ?_)
    refine lw_aload3_n gz_0_754 rfl ?_
    refine lw_iload gz_0_755 rfl ?_
    refine lw_iconst gz_0_757 (by decide) ?_
    refine lw_iadd gz_0_758 ⟨by omega, by omega⟩ ?_
    refine lw_sl gz_0_759 hL4 hL (by omega) (by omega) (fun z19 ez19 pz19 qz19 => ?_)
    refine lw_inv (kz := 0) (as := [(0, z19), (0, z18), (0, z17)]) (r := []) (x := 151) (ls0 := [(2, 151), (0, z17), (0, z18), (0, z19)]) gz_0_760 gm_192 rfl is_151 rd_10 rfl rfl rfl rfl rfl (c_Model_seen (d := 25) (x1 := z17) (x2 := z18) (x3 := z19) I_h4.pMw I_h4.pMw3 I_h4.pRws (fun h20 w21 w22 => ?_) (fun h23 y24 w25 w26 w27 w28 w29 w30 w31 w32 w33 w34 w35 w36 w37 => ?_))
    ·
      have sim_h20 : Sim h20 := Sim_q I_h4.pLn (I_h4.pWnq.2.1) (my_ag.fr w21 rfl) (bg26 w21 (by decide +kernel)) (Ot9_e (fun j => my_fr.at w21 qis_162 rfl) (fun j => my_fr.at w21 qis_163 rfl)) I_h4.pSim
      have I_h20 : LInv h20 := ⟨Ln_ag (my_ag.fr w21 rfl) I_h4.pLn, Mw_ag (my_ag.fr w21 rfl) I_h4.pMw, Mw3_ag (my_ag.fr w21 rfl) I_h4.pMw3, Rws_ag (my_ag.fr w21 rfl) I_h4.pRws, Wrd_ag (my_ag.fr w21 rfl) I_h4.pWrd, Ceq_ag (my_ag.fr w21 rfl) (I_h4.pCeq), Wd9_ag (my_ag.fr w21 rfl) (I_h4.pWd9), Teq_ag (my_ag.fr w21 rfl) (I_h4.pTeq), Wnq_ag (my_ag.fr w21 rfl) (I_h4.pWnq), Hed_ag (my_ag.fr w21 rfl) (I_h4.pHed), sim_h20⟩
      show lwp p l e s m below meth c b D tys sg rho 763 [(3, 0), (2, 0), (2, 151), (2, 203), (0, i), (9, 0), (9, 0)] [(0, (-1))] h20 kn
      refine lw_pop gz_0_763 rfl ?_
      refine lw_goto (t := 1878) gz_0_764 rfl ?_
      exact K h20 I_h20
    ·
      have sim_h23 : Sim h23 := Sim_q I_h4.pLn (I_h4.pWnq.2.1) (my_ag.fr w25 rfl) (bg26 w25 (by decide +kernel)) (Ot9_e (fun j => my_fr.at w25 qis_162 rfl) (fun j => my_fr.at w25 qis_163 rfl)) I_h4.pSim
      have I_h23 : LInv h23 := ⟨Ln_ag (my_ag.fr w25 rfl) I_h4.pLn, Mw_ag (my_ag.fr w25 rfl) I_h4.pMw, Mw3_ag (my_ag.fr w25 rfl) I_h4.pMw3, Rws_ag (my_ag.fr w25 rfl) I_h4.pRws, Wrd_ag (my_ag.fr w25 rfl) I_h4.pWrd, Ceq_ag (my_ag.fr w25 rfl) (I_h4.pCeq), Wd9_ag (my_ag.fr w25 rfl) (I_h4.pWd9), Teq_ag (my_ag.fr w25 rfl) (I_h4.pTeq), Wnq_ag (my_ag.fr w25 rfl) (I_h4.pWnq), Hed_ag (my_ag.fr w25 rfl) (I_h4.pHed), sim_h23⟩
      show lwp p l e s m below meth c b D tys sg rho 763 [(3, 0), (2, 0), (2, 151), (2, 203), (0, i), (9, 0), (9, 0)] [(0, y24)] h23 kn
      refine lw_pop gz_0_763 rfl ?_
      refine lw_goto (t := 1878) gz_0_764 rfl ?_
      exact K h23 I_h23
  ·
    have sim_h7 : Sim h7 := Sim_q I.pLn (I.pWnq.2.1) (my_ag.fr w9 rfl) (bg26 w9 (by decide +kernel)) (Ot9_e (fun j => my_fr.at w9 qis_162 rfl) (fun j => my_fr.at w9 qis_163 rfl)) I.pSim
    have I_h7 : LInv h7 := ⟨w16, Mw_ag (my_ag.fr w9 rfl) I.pMw, Mw3_ag (my_ag.fr w9 rfl) I.pMw3, Rws_ag (my_ag.fr w9 rfl) I.pRws, Wrd_ag (my_ag.fr w9 rfl) I.pWrd, Ceq_ag (my_ag.fr w9 rfl) (I.pCeq), Wd9_ag (my_ag.fr w9 rfl) (I.pWd9), Teq_ag (my_ag.fr w9 rfl) (I.pTeq), Wnq_ag (my_ag.fr w9 rfl) (I.pWnq), Hed_ag (my_ag.fr w9 rfl) (I.pHed), sim_h7⟩
    show lwp p l e s m below meth c b D tys sg rho 740 [(3, 0), (2, 0), (2, 151), (2, 203), (0, i), (9, 0), (9, 0)] [(0, y8)] h7 kn
    refine lw_pop gz_0_740 rfl ?_
    refine lw_aload_n gz_0_741 rfl ?_
    refine lw_aload3_n gz_0_742 rfl ?_
    refine lw_iload gz_0_743 rfl ?_
    refine lw_iconst gz_0_745 (by decide) ?_
    refine lw_iadd gz_0_746 ⟨by omega, by omega⟩ ?_
    refine lw_sl gz_0_747 hL4 hL (by omega) (by omega) (fun z38 ez38 pz38 qz38 => ?_)
    refine lw_aload3_n gz_0_748 rfl ?_
    refine lw_iload gz_0_749 rfl ?_
    refine lw_iconst gz_0_751 (by decide) ?_
    refine lw_iadd gz_0_752 ⟨by omega, by omega⟩ ?_
    refine lw_sl gz_0_753 hL4 hL (by omega) (by omega) (fun z39 ez39 pz39 qz39 => ?_)
    refine lw_aload3_n gz_0_754 rfl ?_
    refine lw_iload gz_0_755 rfl ?_
    refine lw_iconst gz_0_757 (by decide) ?_
    refine lw_iadd gz_0_758 ⟨by omega, by omega⟩ ?_
    refine lw_sl gz_0_759 hL4 hL (by omega) (by omega) (fun z40 ez40 pz40 qz40 => ?_)
    refine lw_inv (kz := 0) (as := [(0, z40), (0, z39), (0, z38)]) (r := []) (x := 151) (ls0 := [(2, 151), (0, z38), (0, z39), (0, z40)]) gz_0_760 gm_192 rfl is_151 rd_10 rfl rfl rfl rfl rfl (c_Model_seen (d := 25) (x1 := z38) (x2 := z39) (x3 := z40) I_h7.pMw I_h7.pMw3 I_h7.pRws (fun h41 w42 w43 => ?_) (fun h44 y45 w46 w47 w48 w49 w50 w51 w52 w53 w54 w55 w56 w57 w58 => ?_))
    ·
      have sim_h41 : Sim h41 := Sim_q I_h7.pLn (I_h7.pWnq.2.1) (my_ag.fr w42 rfl) (bg26 w42 (by decide +kernel)) (Ot9_e (fun j => my_fr.at w42 qis_162 rfl) (fun j => my_fr.at w42 qis_163 rfl)) I_h7.pSim
      have I_h41 : LInv h41 := ⟨Ln_ag (my_ag.fr w42 rfl) I_h7.pLn, Mw_ag (my_ag.fr w42 rfl) I_h7.pMw, Mw3_ag (my_ag.fr w42 rfl) I_h7.pMw3, Rws_ag (my_ag.fr w42 rfl) I_h7.pRws, Wrd_ag (my_ag.fr w42 rfl) I_h7.pWrd, Ceq_ag (my_ag.fr w42 rfl) (I_h7.pCeq), Wd9_ag (my_ag.fr w42 rfl) (I_h7.pWd9), Teq_ag (my_ag.fr w42 rfl) (I_h7.pTeq), Wnq_ag (my_ag.fr w42 rfl) (I_h7.pWnq), Hed_ag (my_ag.fr w42 rfl) (I_h7.pHed), sim_h41⟩
      show lwp p l e s m below meth c b D tys sg rho 763 [(3, 0), (2, 0), (2, 151), (2, 203), (0, i), (9, 0), (9, 0)] [(0, (-1))] h41 kn
      refine lw_pop gz_0_763 rfl ?_
      refine lw_goto (t := 1878) gz_0_764 rfl ?_
      exact K h41 I_h41
    ·
      have sim_h44 : Sim h44 := Sim_q I_h7.pLn (I_h7.pWnq.2.1) (my_ag.fr w46 rfl) (bg26 w46 (by decide +kernel)) (Ot9_e (fun j => my_fr.at w46 qis_162 rfl) (fun j => my_fr.at w46 qis_163 rfl)) I_h7.pSim
      have I_h44 : LInv h44 := ⟨Ln_ag (my_ag.fr w46 rfl) I_h7.pLn, Mw_ag (my_ag.fr w46 rfl) I_h7.pMw, Mw3_ag (my_ag.fr w46 rfl) I_h7.pMw3, Rws_ag (my_ag.fr w46 rfl) I_h7.pRws, Wrd_ag (my_ag.fr w46 rfl) I_h7.pWrd, Ceq_ag (my_ag.fr w46 rfl) (I_h7.pCeq), Wd9_ag (my_ag.fr w46 rfl) (I_h7.pWd9), Teq_ag (my_ag.fr w46 rfl) (I_h7.pTeq), Wnq_ag (my_ag.fr w46 rfl) (I_h7.pWnq), Hed_ag (my_ag.fr w46 rfl) (I_h7.pHed), sim_h44⟩
      show lwp p l e s m below meth c b D tys sg rho 763 [(3, 0), (2, 0), (2, 151), (2, 203), (0, i), (9, 0), (9, 0)] [(0, y45)] h44 kn
      refine lw_pop gz_0_763 rfl ?_
      refine lw_goto (t := 1878) gz_0_764 rfl ?_
      exact K h44 I_h44
theorem lcase_10 (hL4 : L4 ≤ 4096) (hL : rho 4096 = Int32.ofNat L4) (I : LInv h) (i0 : 0 ≤ i) (i8 : i + 8 ≤ L4) (K : ∀ h' : my_H, LInv h' → lwp p l e s m below meth c b D tys sg rho 1878 [(3, 0), (2, 0), (2, 151), (2, 203), (0, i), (9, 0), (9, 0)] [] h' kn) : lwp p l e s m below meth c b D tys sg rho 767 [(3, 0), (2, 0), (2, 151), (2, 203), (0, i), (9, 0), (9, 0)] [] h kn := by
  refine lw_aload_n gz_0_767 rfl ?_
  refine lw_aload3_n gz_0_768 rfl ?_
  refine lw_iload gz_0_769 rfl ?_
  refine lw_iconst gz_0_771 (by decide) ?_
  refine lw_iadd gz_0_772 ⟨by omega, by omega⟩ ?_
  refine lw_sl gz_0_773 hL4 hL (by omega) (by omega) (fun z1 ez1 pz1 qz1 => ?_)
  refine lw_aload3_n gz_0_774 rfl ?_
  refine lw_iload gz_0_775 rfl ?_
  refine lw_iconst gz_0_777 (by decide) ?_
  refine lw_iadd gz_0_778 ⟨by omega, by omega⟩ ?_
  refine lw_sl gz_0_779 hL4 hL (by omega) (by omega) (fun z2 ez2 pz2 qz2 => ?_)
  refine lw_aload3_n gz_0_780 rfl ?_
  refine lw_iload gz_0_781 rfl ?_
  refine lw_iconst gz_0_783 (by decide) ?_
  refine lw_iadd gz_0_784 ⟨by omega, by omega⟩ ?_
  refine lw_sl gz_0_785 hL4 hL (by omega) (by omega) (fun z3 ez3 pz3 qz3 => ?_)
  refine lw_aload3_n gz_0_786 rfl ?_
  refine lw_iload gz_0_787 rfl ?_
  refine lw_iconst gz_0_789 (by decide) ?_
  refine lw_iadd gz_0_790 ⟨by omega, by omega⟩ ?_
  refine lw_sl gz_0_791 hL4 hL (by omega) (by omega) (fun z4 ez4 pz4 qz4 => ?_)
  refine lw_inv (kz := 2) (as := [(0, z4), (0, z3), (0, z2), (0, z1)]) (r := []) (x := 0) (ls0 := [(2, 0), (0, z1), (0, z2), (0, z3), (0, z4), (9, 0), (9, 0)]) gz_0_792 gm_82 rfl is_0 rd_9 rfl rfl rfl rfl rfl (c_ThroughWindow_source (d := 24) (x1 := z1) (x2 := z2) (x3 := z3) (x4 := z4) I.pLn (fun h5 w6 w7 => ?_) (fun h8 y9 w10 w11 w12 w13 w14 w15 w16 w17 w18 w19 w20 w21 => ?_))
  ·
    have sim_h5 : Sim h5 := Sim_q I.pLn (I.pWnq.2.1) (my_ag.fr w6 rfl) (bg26 w6 (by decide +kernel)) (Ot9_e (fun j => my_fr.at w6 qis_162 rfl) (fun j => my_fr.at w6 qis_163 rfl)) I.pSim
    have I_h5 : LInv h5 := ⟨w7, Mw_ag (my_ag.fr w6 rfl) I.pMw, Mw3_ag (my_ag.fr w6 rfl) I.pMw3, Rws_ag (my_ag.fr w6 rfl) I.pRws, Wrd_ag (my_ag.fr w6 rfl) I.pWrd, Ceq_ag (my_ag.fr w6 rfl) (I.pCeq), Wd9_ag (my_ag.fr w6 rfl) (I.pWd9), Teq_ag (my_ag.fr w6 rfl) (I.pTeq), Wnq_ag (my_ag.fr w6 rfl) (I.pWnq), Hed_ag (my_ag.fr w6 rfl) (I.pHed), sim_h5⟩
    show lwp p l e s m below meth c b D tys sg rho 795 [(3, 0), (2, 0), (2, 151), (2, 203), (0, i), (9, 0), (9, 0)] [(0, (-1))] h5 kn
    refine lw_pop gz_0_795 rfl ?_
    refine lw_aload_n gz_0_796 rfl ?_
    refine lw_aload3_n gz_0_797 rfl ?_
    refine lw_iload gz_0_798 rfl ?_
    refine lw_iconst gz_0_800 (by decide) ?_
    refine lw_iadd gz_0_801 ⟨by omega, by omega⟩ ?_
    refine lw_sl gz_0_802 hL4 hL (by omega) (by omega) (fun z22 ez22 pz22 qz22 => ?_)
    refine lw_aload3_n gz_0_803 rfl ?_
    refine lw_iload gz_0_804 rfl ?_
    refine lw_iconst gz_0_806 (by decide) ?_
    refine lw_iadd gz_0_807 ⟨by omega, by omega⟩ ?_
    refine lw_sl gz_0_808 hL4 hL (by omega) (by omega) (fun z23 ez23 pz23 qz23 => ?_)
    refine lw_aload3_n gz_0_809 rfl ?_
    refine lw_iload gz_0_810 rfl ?_
    refine lw_iconst gz_0_812 (by decide) ?_
    refine lw_iadd gz_0_813 ⟨by omega, by omega⟩ ?_
    refine lw_sl gz_0_814 hL4 hL (by omega) (by omega) (fun z24 ez24 pz24 qz24 => ?_)
    refine lw_aload3_n gz_0_815 rfl ?_
    refine lw_iload gz_0_816 rfl ?_
    refine lw_iconst gz_0_818 (by decide) ?_
    refine lw_iadd gz_0_819 ⟨by omega, by omega⟩ ?_
    refine lw_sl gz_0_820 hL4 hL (by omega) (by omega) (fun z25 ez25 pz25 qz25 => ?_)
    refine lw_inv (kz := 0) (as := [(0, z25), (0, z24), (0, z23), (0, z22)]) (r := []) (x := 151) (ls0 := [(2, 151), (0, z22), (0, z23), (0, z24), (0, z25)]) gz_0_821 gm_202 rfl is_151 rd_10 rfl rfl rfl rfl rfl (c_Model_source (d := 25) (x1 := z22) (x2 := z23) (x3 := z24) (x4 := z25) I_h5.pMw I_h5.pMw3 I_h5.pRws (fun h26 w27 w28 => ?_) (fun h29 y30 w31 w32 w33 w34 w35 w36 w37 w38 w39 w40 w41 w42 w43 w44 w45 w46 => ?_))
    ·
      have sim_h26 : Sim h26 := Sim_q I_h5.pLn (I_h5.pWnq.2.1) (my_ag.fr w27 rfl) (bg26 w27 (by decide +kernel)) (Ot9_e (fun j => my_fr.at w27 qis_162 rfl) (fun j => my_fr.at w27 qis_163 rfl)) I_h5.pSim
      have I_h26 : LInv h26 := ⟨Ln_ag (my_ag.fr w27 rfl) I_h5.pLn, Mw_ag (my_ag.fr w27 rfl) I_h5.pMw, Mw3_ag (my_ag.fr w27 rfl) I_h5.pMw3, Rws_ag (my_ag.fr w27 rfl) I_h5.pRws, Wrd_ag (my_ag.fr w27 rfl) I_h5.pWrd, Ceq_ag (my_ag.fr w27 rfl) (I_h5.pCeq), Wd9_ag (my_ag.fr w27 rfl) (I_h5.pWd9), Teq_ag (my_ag.fr w27 rfl) (I_h5.pTeq), Wnq_ag (my_ag.fr w27 rfl) (I_h5.pWnq), Hed_ag (my_ag.fr w27 rfl) (I_h5.pHed), sim_h26⟩
      show lwp p l e s m below meth c b D tys sg rho 824 [(3, 0), (2, 0), (2, 151), (2, 203), (0, i), (9, 0), (9, 0)] [(0, (-1))] h26 kn
      refine lw_pop gz_0_824 rfl ?_
      refine lw_goto (t := 1878) gz_0_825 rfl ?_
      exact K h26 I_h26
    ·
      have sim_h29 : Sim h29 := Sim_q I_h5.pLn (I_h5.pWnq.2.1) (my_ag.fr w31 rfl) (bg26 w31 (by decide +kernel)) (Ot9_e (fun j => my_fr.at w31 qis_162 rfl) (fun j => my_fr.at w31 qis_163 rfl)) I_h5.pSim
      have I_h29 : LInv h29 := ⟨Ln_ag (my_ag.fr w31 rfl) I_h5.pLn, Mw_ag (my_ag.fr w31 rfl) I_h5.pMw, Mw3_ag (my_ag.fr w31 rfl) I_h5.pMw3, Rws_ag (my_ag.fr w31 rfl) I_h5.pRws, Wrd_ag (my_ag.fr w31 rfl) I_h5.pWrd, Ceq_ag (my_ag.fr w31 rfl) (I_h5.pCeq), Wd9_ag (my_ag.fr w31 rfl) (I_h5.pWd9), Teq_ag (my_ag.fr w31 rfl) (I_h5.pTeq), Wnq_ag (my_ag.fr w31 rfl) (I_h5.pWnq), Hed_ag (my_ag.fr w31 rfl) (I_h5.pHed), sim_h29⟩
      show lwp p l e s m below meth c b D tys sg rho 824 [(3, 0), (2, 0), (2, 151), (2, 203), (0, i), (9, 0), (9, 0)] [(0, y30)] h29 kn
      refine lw_pop gz_0_824 rfl ?_
      refine lw_goto (t := 1878) gz_0_825 rfl ?_
      exact K h29 I_h29
  ·
    have sim_h8 : Sim h8 := Sim_q I.pLn (I.pWnq.2.1) (my_ag.fr w10 rfl) (bg26 w10 (by decide +kernel)) (Ot9_e (fun j => my_fr.at w10 qis_162 rfl) (fun j => my_fr.at w10 qis_163 rfl)) I.pSim
    have I_h8 : LInv h8 := ⟨w21, Mw_ag (my_ag.fr w10 rfl) I.pMw, Mw3_ag (my_ag.fr w10 rfl) I.pMw3, Rws_ag (my_ag.fr w10 rfl) I.pRws, Wrd_ag (my_ag.fr w10 rfl) I.pWrd, Ceq_ag (my_ag.fr w10 rfl) (I.pCeq), Wd9_ag (my_ag.fr w10 rfl) (I.pWd9), Teq_ag (my_ag.fr w10 rfl) (I.pTeq), Wnq_ag (my_ag.fr w10 rfl) (I.pWnq), Hed_ag (my_ag.fr w10 rfl) (I.pHed), sim_h8⟩
    show lwp p l e s m below meth c b D tys sg rho 795 [(3, 0), (2, 0), (2, 151), (2, 203), (0, i), (9, 0), (9, 0)] [(0, y9)] h8 kn
    refine lw_pop gz_0_795 rfl ?_
    refine lw_aload_n gz_0_796 rfl ?_
    refine lw_aload3_n gz_0_797 rfl ?_
    refine lw_iload gz_0_798 rfl ?_
    refine lw_iconst gz_0_800 (by decide) ?_
    refine lw_iadd gz_0_801 ⟨by omega, by omega⟩ ?_
    refine lw_sl gz_0_802 hL4 hL (by omega) (by omega) (fun z47 ez47 pz47 qz47 => ?_)
    refine lw_aload3_n gz_0_803 rfl ?_
    refine lw_iload gz_0_804 rfl ?_
    refine lw_iconst gz_0_806 (by decide) ?_
    refine lw_iadd gz_0_807 ⟨by omega, by omega⟩ ?_
    refine lw_sl gz_0_808 hL4 hL (by omega) (by omega) (fun z48 ez48 pz48 qz48 => ?_)
    refine lw_aload3_n gz_0_809 rfl ?_
    refine lw_iload gz_0_810 rfl ?_
    refine lw_iconst gz_0_812 (by decide) ?_
    refine lw_iadd gz_0_813 ⟨by omega, by omega⟩ ?_
    refine lw_sl gz_0_814 hL4 hL (by omega) (by omega) (fun z49 ez49 pz49 qz49 => ?_)
    refine lw_aload3_n gz_0_815 rfl ?_
    refine lw_iload gz_0_816 rfl ?_
    refine lw_iconst gz_0_818 (by decide) ?_
    refine lw_iadd gz_0_819 ⟨by omega, by omega⟩ ?_
    refine lw_sl gz_0_820 hL4 hL (by omega) (by omega) (fun z50 ez50 pz50 qz50 => ?_)
    refine lw_inv (kz := 0) (as := [(0, z50), (0, z49), (0, z48), (0, z47)]) (r := []) (x := 151) (ls0 := [(2, 151), (0, z47), (0, z48), (0, z49), (0, z50)]) gz_0_821 gm_202 rfl is_151 rd_10 rfl rfl rfl rfl rfl (c_Model_source (d := 25) (x1 := z47) (x2 := z48) (x3 := z49) (x4 := z50) I_h8.pMw I_h8.pMw3 I_h8.pRws (fun h51 w52 w53 => ?_) (fun h54 y55 w56 w57 w58 w59 w60 w61 w62 w63 w64 w65 w66 w67 w68 w69 w70 w71 => ?_))
    ·
      have sim_h51 : Sim h51 := Sim_q I_h8.pLn (I_h8.pWnq.2.1) (my_ag.fr w52 rfl) (bg26 w52 (by decide +kernel)) (Ot9_e (fun j => my_fr.at w52 qis_162 rfl) (fun j => my_fr.at w52 qis_163 rfl)) I_h8.pSim
      have I_h51 : LInv h51 := ⟨Ln_ag (my_ag.fr w52 rfl) I_h8.pLn, Mw_ag (my_ag.fr w52 rfl) I_h8.pMw, Mw3_ag (my_ag.fr w52 rfl) I_h8.pMw3, Rws_ag (my_ag.fr w52 rfl) I_h8.pRws, Wrd_ag (my_ag.fr w52 rfl) I_h8.pWrd, Ceq_ag (my_ag.fr w52 rfl) (I_h8.pCeq), Wd9_ag (my_ag.fr w52 rfl) (I_h8.pWd9), Teq_ag (my_ag.fr w52 rfl) (I_h8.pTeq), Wnq_ag (my_ag.fr w52 rfl) (I_h8.pWnq), Hed_ag (my_ag.fr w52 rfl) (I_h8.pHed), sim_h51⟩
      show lwp p l e s m below meth c b D tys sg rho 824 [(3, 0), (2, 0), (2, 151), (2, 203), (0, i), (9, 0), (9, 0)] [(0, (-1))] h51 kn
      refine lw_pop gz_0_824 rfl ?_
      refine lw_goto (t := 1878) gz_0_825 rfl ?_
      exact K h51 I_h51
    ·
      have sim_h54 : Sim h54 := Sim_q I_h8.pLn (I_h8.pWnq.2.1) (my_ag.fr w56 rfl) (bg26 w56 (by decide +kernel)) (Ot9_e (fun j => my_fr.at w56 qis_162 rfl) (fun j => my_fr.at w56 qis_163 rfl)) I_h8.pSim
      have I_h54 : LInv h54 := ⟨Ln_ag (my_ag.fr w56 rfl) I_h8.pLn, Mw_ag (my_ag.fr w56 rfl) I_h8.pMw, Mw3_ag (my_ag.fr w56 rfl) I_h8.pMw3, Rws_ag (my_ag.fr w56 rfl) I_h8.pRws, Wrd_ag (my_ag.fr w56 rfl) I_h8.pWrd, Ceq_ag (my_ag.fr w56 rfl) (I_h8.pCeq), Wd9_ag (my_ag.fr w56 rfl) (I_h8.pWd9), Teq_ag (my_ag.fr w56 rfl) (I_h8.pTeq), Wnq_ag (my_ag.fr w56 rfl) (I_h8.pWnq), Hed_ag (my_ag.fr w56 rfl) (I_h8.pHed), sim_h54⟩
      show lwp p l e s m below meth c b D tys sg rho 824 [(3, 0), (2, 0), (2, 151), (2, 203), (0, i), (9, 0), (9, 0)] [(0, y55)] h54 kn
      refine lw_pop gz_0_824 rfl ?_
      refine lw_goto (t := 1878) gz_0_825 rfl ?_
      exact K h54 I_h54
theorem lcase_11 (hL4 : L4 ≤ 4096) (hL : rho 4096 = Int32.ofNat L4) (I : LInv h) (i0 : 0 ≤ i) (i8 : i + 8 ≤ L4) (K : ∀ h' : my_H, LInv h' → lwp p l e s m below meth c b D tys sg rho 1878 [(3, 0), (2, 0), (2, 151), (2, 203), (0, i), (9, 0), (9, 0)] [] h' kn) : lwp p l e s m below meth c b D tys sg rho 828 [(3, 0), (2, 0), (2, 151), (2, 203), (0, i), (9, 0), (9, 0)] [] h kn := by
  refine lw_aload_n gz_0_828 rfl ?_
  refine lw_aload3_n gz_0_829 rfl ?_
  refine lw_iload gz_0_830 rfl ?_
  refine lw_iconst gz_0_832 (by decide) ?_
  refine lw_iadd gz_0_833 ⟨by omega, by omega⟩ ?_
  refine lw_sl gz_0_834 hL4 hL (by omega) (by omega) (fun z1 ez1 pz1 qz1 => ?_)
  refine lw_aload3_n gz_0_835 rfl ?_
  refine lw_iload gz_0_836 rfl ?_
  refine lw_iconst gz_0_838 (by decide) ?_
  refine lw_iadd gz_0_839 ⟨by omega, by omega⟩ ?_
  refine lw_sl gz_0_840 hL4 hL (by omega) (by omega) (fun z2 ez2 pz2 qz2 => ?_)
  refine lw_inv (kz := 1) (as := [(0, z2), (0, z1)]) (r := []) (x := 0) (ls0 := [(2, 0), (0, z1), (0, z2), (9, 0)]) gz_0_841 gm_84 rfl is_0 rd_9 rfl rfl rfl rfl rfl (c_ThroughWindow_look (d := 24) (x1 := z1) (x2 := z2) I.pLn (fun h3 w4 w5 => ?_) (fun h6 y7 w8 w9 w10 w11 w12 w13 => ?_))
  ·
    have sim_h3 : Sim h3 := Sim_q I.pLn (I.pWnq.2.1) (my_ag.fr w4 rfl) (bg26 w4 (by decide +kernel)) (Ot9_e (fun j => my_fr.at w4 qis_162 rfl) (fun j => my_fr.at w4 qis_163 rfl)) I.pSim
    have I_h3 : LInv h3 := ⟨w5, Mw_ag (my_ag.fr w4 rfl) I.pMw, Mw3_ag (my_ag.fr w4 rfl) I.pMw3, Rws_ag (my_ag.fr w4 rfl) I.pRws, Wrd_ag (my_ag.fr w4 rfl) I.pWrd, Ceq_ag (my_ag.fr w4 rfl) (I.pCeq), Wd9_ag (my_ag.fr w4 rfl) (I.pWd9), Teq_ag (my_ag.fr w4 rfl) (I.pTeq), Wnq_ag (my_ag.fr w4 rfl) (I.pWnq), Hed_ag (my_ag.fr w4 rfl) (I.pHed), sim_h3⟩
    show lwp p l e s m below meth c b D tys sg rho 844 [(3, 0), (2, 0), (2, 151), (2, 203), (0, i), (9, 0), (9, 0)] [(0, (-1))] h3 kn
    refine lw_pop gz_0_844 rfl ?_
    refine lw_aload_n gz_0_845 rfl ?_
    refine lw_aload3_n gz_0_846 rfl ?_
    refine lw_iload gz_0_847 rfl ?_
    refine lw_iconst gz_0_849 (by decide) ?_
    refine lw_iadd gz_0_850 ⟨by omega, by omega⟩ ?_
    refine lw_sl gz_0_851 hL4 hL (by omega) (by omega) (fun z14 ez14 pz14 qz14 => ?_)
    refine lw_aload3_n gz_0_852 rfl ?_
    refine lw_iload gz_0_853 rfl ?_
    refine lw_iconst gz_0_855 (by decide) ?_
    refine lw_iadd gz_0_856 ⟨by omega, by omega⟩ ?_
    refine lw_sl gz_0_857 hL4 hL (by omega) (by omega) (fun z15 ez15 pz15 qz15 => ?_)
    refine lw_inv (kz := 0) (as := [(0, z15), (0, z14)]) (r := []) (x := 151) (ls0 := [(2, 151), (0, z14), (0, z15)]) gz_0_858 gm_203 rfl is_151 rd_10 rfl rfl rfl rfl rfl (c_Model_look (d := 25) (x1 := z14) (x2 := z15) I_h3.pMw I_h3.pMw3 I_h3.pRws (fun h16 w17 w18 => ?_) (fun h19 y20 w21 w22 w23 w24 w25 w26 => ?_))
    ·
      have sim_h16 : Sim h16 := Sim_q I_h3.pLn (I_h3.pWnq.2.1) (my_ag.fr w17 rfl) (bg26 w17 (by decide +kernel)) (Ot9_e (fun j => my_fr.at w17 qis_162 rfl) (fun j => my_fr.at w17 qis_163 rfl)) I_h3.pSim
      have I_h16 : LInv h16 := ⟨Ln_ag (my_ag.fr w17 rfl) I_h3.pLn, Mw_ag (my_ag.fr w17 rfl) I_h3.pMw, Mw3_ag (my_ag.fr w17 rfl) I_h3.pMw3, Rws_ag (my_ag.fr w17 rfl) I_h3.pRws, Wrd_ag (my_ag.fr w17 rfl) I_h3.pWrd, Ceq_ag (my_ag.fr w17 rfl) (I_h3.pCeq), Wd9_ag (my_ag.fr w17 rfl) (I_h3.pWd9), Teq_ag (my_ag.fr w17 rfl) (I_h3.pTeq), Wnq_ag (my_ag.fr w17 rfl) (I_h3.pWnq), Hed_ag (my_ag.fr w17 rfl) (I_h3.pHed), sim_h16⟩
      show lwp p l e s m below meth c b D tys sg rho 861 [(3, 0), (2, 0), (2, 151), (2, 203), (0, i), (9, 0), (9, 0)] [(0, (-1))] h16 kn
      refine lw_pop gz_0_861 rfl ?_
      refine lw_goto (t := 1878) gz_0_862 rfl ?_
      exact K h16 I_h16
    ·
      have sim_h19 : Sim h19 := Sim_q I_h3.pLn (I_h3.pWnq.2.1) (my_ag.fr w21 rfl) (bg26 w21 (by decide +kernel)) (Ot9_e (fun j => my_fr.at w21 qis_162 rfl) (fun j => my_fr.at w21 qis_163 rfl)) I_h3.pSim
      have I_h19 : LInv h19 := ⟨Ln_ag (my_ag.fr w21 rfl) I_h3.pLn, Mw_ag (my_ag.fr w21 rfl) I_h3.pMw, Mw3_ag (my_ag.fr w21 rfl) I_h3.pMw3, Rws_ag (my_ag.fr w21 rfl) I_h3.pRws, Wrd_ag (my_ag.fr w21 rfl) I_h3.pWrd, Ceq_ag (my_ag.fr w21 rfl) (I_h3.pCeq), Wd9_ag (my_ag.fr w21 rfl) (I_h3.pWd9), Teq_ag (my_ag.fr w21 rfl) (I_h3.pTeq), Wnq_ag (my_ag.fr w21 rfl) (I_h3.pWnq), Hed_ag (my_ag.fr w21 rfl) (I_h3.pHed), sim_h19⟩
      show lwp p l e s m below meth c b D tys sg rho 861 [(3, 0), (2, 0), (2, 151), (2, 203), (0, i), (9, 0), (9, 0)] [(0, y20)] h19 kn
      refine lw_pop gz_0_861 rfl ?_
      refine lw_goto (t := 1878) gz_0_862 rfl ?_
      exact K h19 I_h19
  ·
    have sim_h6 : Sim h6 := Sim_q I.pLn (I.pWnq.2.1) (my_ag.fr w8 rfl) (bg26 w8 (by decide +kernel)) (Ot9_e (fun j => my_fr.at w8 qis_162 rfl) (fun j => my_fr.at w8 qis_163 rfl)) I.pSim
    have I_h6 : LInv h6 := ⟨w13, Mw_ag (my_ag.fr w8 rfl) I.pMw, Mw3_ag (my_ag.fr w8 rfl) I.pMw3, Rws_ag (my_ag.fr w8 rfl) I.pRws, Wrd_ag (my_ag.fr w8 rfl) I.pWrd, Ceq_ag (my_ag.fr w8 rfl) (I.pCeq), Wd9_ag (my_ag.fr w8 rfl) (I.pWd9), Teq_ag (my_ag.fr w8 rfl) (I.pTeq), Wnq_ag (my_ag.fr w8 rfl) (I.pWnq), Hed_ag (my_ag.fr w8 rfl) (I.pHed), sim_h6⟩
    show lwp p l e s m below meth c b D tys sg rho 844 [(3, 0), (2, 0), (2, 151), (2, 203), (0, i), (9, 0), (9, 0)] [(0, y7)] h6 kn
    refine lw_pop gz_0_844 rfl ?_
    refine lw_aload_n gz_0_845 rfl ?_
    refine lw_aload3_n gz_0_846 rfl ?_
    refine lw_iload gz_0_847 rfl ?_
    refine lw_iconst gz_0_849 (by decide) ?_
    refine lw_iadd gz_0_850 ⟨by omega, by omega⟩ ?_
    refine lw_sl gz_0_851 hL4 hL (by omega) (by omega) (fun z27 ez27 pz27 qz27 => ?_)
    refine lw_aload3_n gz_0_852 rfl ?_
    refine lw_iload gz_0_853 rfl ?_
    refine lw_iconst gz_0_855 (by decide) ?_
    refine lw_iadd gz_0_856 ⟨by omega, by omega⟩ ?_
    refine lw_sl gz_0_857 hL4 hL (by omega) (by omega) (fun z28 ez28 pz28 qz28 => ?_)
    refine lw_inv (kz := 0) (as := [(0, z28), (0, z27)]) (r := []) (x := 151) (ls0 := [(2, 151), (0, z27), (0, z28)]) gz_0_858 gm_203 rfl is_151 rd_10 rfl rfl rfl rfl rfl (c_Model_look (d := 25) (x1 := z27) (x2 := z28) I_h6.pMw I_h6.pMw3 I_h6.pRws (fun h29 w30 w31 => ?_) (fun h32 y33 w34 w35 w36 w37 w38 w39 => ?_))
    ·
      have sim_h29 : Sim h29 := Sim_q I_h6.pLn (I_h6.pWnq.2.1) (my_ag.fr w30 rfl) (bg26 w30 (by decide +kernel)) (Ot9_e (fun j => my_fr.at w30 qis_162 rfl) (fun j => my_fr.at w30 qis_163 rfl)) I_h6.pSim
      have I_h29 : LInv h29 := ⟨Ln_ag (my_ag.fr w30 rfl) I_h6.pLn, Mw_ag (my_ag.fr w30 rfl) I_h6.pMw, Mw3_ag (my_ag.fr w30 rfl) I_h6.pMw3, Rws_ag (my_ag.fr w30 rfl) I_h6.pRws, Wrd_ag (my_ag.fr w30 rfl) I_h6.pWrd, Ceq_ag (my_ag.fr w30 rfl) (I_h6.pCeq), Wd9_ag (my_ag.fr w30 rfl) (I_h6.pWd9), Teq_ag (my_ag.fr w30 rfl) (I_h6.pTeq), Wnq_ag (my_ag.fr w30 rfl) (I_h6.pWnq), Hed_ag (my_ag.fr w30 rfl) (I_h6.pHed), sim_h29⟩
      show lwp p l e s m below meth c b D tys sg rho 861 [(3, 0), (2, 0), (2, 151), (2, 203), (0, i), (9, 0), (9, 0)] [(0, (-1))] h29 kn
      refine lw_pop gz_0_861 rfl ?_
      refine lw_goto (t := 1878) gz_0_862 rfl ?_
      exact K h29 I_h29
    ·
      have sim_h32 : Sim h32 := Sim_q I_h6.pLn (I_h6.pWnq.2.1) (my_ag.fr w34 rfl) (bg26 w34 (by decide +kernel)) (Ot9_e (fun j => my_fr.at w34 qis_162 rfl) (fun j => my_fr.at w34 qis_163 rfl)) I_h6.pSim
      have I_h32 : LInv h32 := ⟨Ln_ag (my_ag.fr w34 rfl) I_h6.pLn, Mw_ag (my_ag.fr w34 rfl) I_h6.pMw, Mw3_ag (my_ag.fr w34 rfl) I_h6.pMw3, Rws_ag (my_ag.fr w34 rfl) I_h6.pRws, Wrd_ag (my_ag.fr w34 rfl) I_h6.pWrd, Ceq_ag (my_ag.fr w34 rfl) (I_h6.pCeq), Wd9_ag (my_ag.fr w34 rfl) (I_h6.pWd9), Teq_ag (my_ag.fr w34 rfl) (I_h6.pTeq), Wnq_ag (my_ag.fr w34 rfl) (I_h6.pWnq), Hed_ag (my_ag.fr w34 rfl) (I_h6.pHed), sim_h32⟩
      show lwp p l e s m below meth c b D tys sg rho 861 [(3, 0), (2, 0), (2, 151), (2, 203), (0, i), (9, 0), (9, 0)] [(0, y33)] h32 kn
      refine lw_pop gz_0_861 rfl ?_
      refine lw_goto (t := 1878) gz_0_862 rfl ?_
      exact K h32 I_h32
theorem lcase_12 (hL4 : L4 ≤ 4096) (hL : rho 4096 = Int32.ofNat L4) (I : LInv h) (i0 : 0 ≤ i) (i8 : i + 8 ≤ L4) (K : ∀ h' : my_H, LInv h' → lwp p l e s m below meth c b D tys sg rho 1878 [(3, 0), (2, 0), (2, 151), (2, 203), (0, i), (9, 0), (9, 0)] [] h' kn) : lwp p l e s m below meth c b D tys sg rho 865 [(3, 0), (2, 0), (2, 151), (2, 203), (0, i), (9, 0), (9, 0)] [] h kn := by
  refine lw_aload_n gz_0_865 rfl ?_
  refine lw_aload3_n gz_0_866 rfl ?_
  refine lw_iload gz_0_867 rfl ?_
  refine lw_iconst gz_0_869 (by decide) ?_
  refine lw_iadd gz_0_870 ⟨by omega, by omega⟩ ?_
  refine lw_sl gz_0_871 hL4 hL (by omega) (by omega) (fun z1 ez1 pz1 qz1 => ?_)
  refine lw_aload3_n gz_0_872 rfl ?_
  refine lw_iload gz_0_873 rfl ?_
  refine lw_iconst gz_0_875 (by decide) ?_
  refine lw_iadd gz_0_876 ⟨by omega, by omega⟩ ?_
  refine lw_sl gz_0_877 hL4 hL (by omega) (by omega) (fun z2 ez2 pz2 qz2 => ?_)
  refine lw_inv (kz := 0) (as := [(0, z2), (0, z1)]) (r := []) (x := 0) (ls0 := [(2, 0), (0, z1), (0, z2)]) gz_0_878 gm_85 rfl is_0 rd_9 rfl rfl rfl rfl rfl (c_ThroughWindow_draft5 (d := 29) (x1 := z1) (x2 := z2)  (fun h3 w4 w5 w6 => ?_) (fun h7 w8 w9 w10 w11 w12 w13 w14 => ?_))
  ·
    have J_h3 : LBas h3 := ⟨Ln_ag (my_ag.fr w4 rfl) I.pLn, Mw_ag (my_ag.fr w4 rfl) I.pMw, Mw3_ag (my_ag.fr w4 rfl) I.pMw3, Rws_ag (my_ag.fr w4 rfl) I.pRws, Wrd_ag (my_ag.fr w4 rfl) I.pWrd⟩
    show lwp p l e s m below meth c b D tys sg rho 881 [(3, 0), (2, 0), (2, 151), (2, 203), (0, i), (9, 0), (9, 0)] [(0, 0)] h3 kn
    refine lw_pop gz_0_881 rfl ?_
    refine lw_aload_n gz_0_882 rfl ?_
    refine lw_aload3_n gz_0_883 rfl ?_
    refine lw_iload gz_0_884 rfl ?_
    refine lw_iconst gz_0_886 (by decide) ?_
    refine lw_iadd gz_0_887 ⟨by omega, by omega⟩ ?_
    refine lw_sl gz_0_888 hL4 hL (by omega) (by omega) (fun z15 ez15 pz15 qz15 => ?_)
    refine lw_aload3_n gz_0_889 rfl ?_
    refine lw_iload gz_0_890 rfl ?_
    refine lw_iconst gz_0_892 (by decide) ?_
    refine lw_iadd gz_0_893 ⟨by omega, by omega⟩ ?_
    refine lw_sl gz_0_894 hL4 hL (by omega) (by omega) (fun z16 ez16 pz16 qz16 => ?_)
    refine lw_inv (kz := 0) (as := [(0, z16), (0, z15)]) (r := []) (x := 151) (ls0 := [(2, 151), (0, z15), (0, z16)]) gz_0_895 gm_206 rfl is_151 rd_10 rfl rfl rfl rfl rfl (c_Model_draft5 (d := 28) (x1 := z15) (x2 := z16)  (fun h17 w18 w19 w20 w21 => ?_) (fun h22 w23 w24 w25 w26 w27 w28 w29 w30 => ?_))
    ·
      have q0 : z15 = z1 := ez15.trans ez1.symm
      have q1 : z16 = z2 := ez16.trans ez2.symm
      try simp only [q0, q1] at w20
      have sim_h17 : Sim h17 := Sim_d I.pLn (I.pWnq.2.1) ((my_ag.fr w4 rfl).tr (my_ag.fr w18 rfl)) (fun k j y z => (bg26 w18 (by decide +kernel) k j y z).trans (bg26 w4 (by decide +kernel) k j y z)) ((Ot9_e (fun j => my_fr.at w4 qis_162 rfl) (fun j => my_fr.at w4 qis_163 rfl)).tr (Ot9_e (fun j => my_fr.at w18 qis_162 rfl) (fun j => my_fr.at w18 qis_163 rfl))) (fun j a b => ((my_fr.at w18 pis_93 rfl).trans (w6 j)).trans ((I.pSim.2.2.2.1 j a b).trans ((w21 j).trans (my_fr.at w4 pis_188 rfl)).symm)) I.pSim
      have I_h17 : LInv h17 := ⟨Ln_ag (my_ag.fr w18 rfl) J_h3.pLn, Mw_ag (my_ag.fr w18 rfl) J_h3.pMw, Mw3_ag (my_ag.fr w18 rfl) J_h3.pMw3, Rws_ag (my_ag.fr w18 rfl) J_h3.pRws, Wrd_ag (my_ag.fr w18 rfl) J_h3.pWrd, Ceq_ag (my_ag.fr w18 rfl) (Ceq_ag (my_ag.fr w4 rfl) (I.pCeq)), Wd9_ag (my_ag.fr w18 rfl) (Wd9_ag (my_ag.fr w4 rfl) (I.pWd9)), Teq_ag (my_ag.fr w18 rfl) (Teq_ag (my_ag.fr w4 rfl) (I.pTeq)), Wnq_ag (my_ag.fr w18 rfl) (Wnq_ag (my_ag.fr w4 rfl) (I.pWnq)), Hed_ag (my_ag.fr w18 rfl) (Hed_ag (my_ag.fr w4 rfl) (I.pHed)), sim_h17⟩
      show lwp p l e s m below meth c b D tys sg rho 898 [(3, 0), (2, 0), (2, 151), (2, 203), (0, i), (9, 0), (9, 0)] [(0, 0)] h17 kn
      refine lw_pop gz_0_898 rfl ?_
      refine lw_goto (t := 1878) gz_0_899 rfl ?_
      exact K h17 I_h17
    ·
      have q0 : z15 = z1 := ez15.trans ez1.symm
      have q1 : z16 = z2 := ez16.trans ez2.symm
      try simp only [q0, q1] at w24
      try simp only [q0, q1] at w25
      try simp only [q0, q1] at w26
      try simp only [q0, q1] at w27
      try simp only [q0, q1] at w29
      try simp only [q0, q1] at w30
      exact absurd (Iff.rfl.mpr w29) w5
  ·
    have J_h7 : LBas h7 := ⟨Ln_ag (my_ag.fr w8 rfl) I.pLn, Mw_ag (my_ag.fr w8 rfl) I.pMw, Mw3_ag (my_ag.fr w8 rfl) I.pMw3, Rws_ag (my_ag.fr w8 rfl) I.pRws, Wrd_ag (my_ag.fr w8 rfl) I.pWrd⟩
    show lwp p l e s m below meth c b D tys sg rho 881 [(3, 0), (2, 0), (2, 151), (2, 203), (0, i), (9, 0), (9, 0)] [(0, 1)] h7 kn
    refine lw_pop gz_0_881 rfl ?_
    refine lw_aload_n gz_0_882 rfl ?_
    refine lw_aload3_n gz_0_883 rfl ?_
    refine lw_iload gz_0_884 rfl ?_
    refine lw_iconst gz_0_886 (by decide) ?_
    refine lw_iadd gz_0_887 ⟨by omega, by omega⟩ ?_
    refine lw_sl gz_0_888 hL4 hL (by omega) (by omega) (fun z31 ez31 pz31 qz31 => ?_)
    refine lw_aload3_n gz_0_889 rfl ?_
    refine lw_iload gz_0_890 rfl ?_
    refine lw_iconst gz_0_892 (by decide) ?_
    refine lw_iadd gz_0_893 ⟨by omega, by omega⟩ ?_
    refine lw_sl gz_0_894 hL4 hL (by omega) (by omega) (fun z32 ez32 pz32 qz32 => ?_)
    refine lw_inv (kz := 0) (as := [(0, z32), (0, z31)]) (r := []) (x := 151) (ls0 := [(2, 151), (0, z31), (0, z32)]) gz_0_895 gm_206 rfl is_151 rd_10 rfl rfl rfl rfl rfl (c_Model_draft5 (d := 28) (x1 := z31) (x2 := z32)  (fun h33 w34 w35 w36 w37 => ?_) (fun h38 w39 w40 w41 w42 w43 w44 w45 w46 => ?_))
    ·
      have q0 : z31 = z1 := ez31.trans ez1.symm
      have q1 : z32 = z2 := ez32.trans ez2.symm
      try simp only [q0, q1] at w36
      exact absurd (Iff.rfl.mp w13) w36
    ·
      have q0 : z31 = z1 := ez31.trans ez1.symm
      have q1 : z32 = z2 := ez32.trans ez2.symm
      try simp only [q0, q1] at w40
      try simp only [q0, q1] at w41
      try simp only [q0, q1] at w42
      try simp only [q0, q1] at w43
      try simp only [q0, q1] at w45
      try simp only [q0, q1] at w46
      have sim_h38 : Sim h38 := Sim_d I.pLn (I.pWnq.2.1) ((my_ag.fr w8 rfl).tr (my_ag.fr w39 rfl)) (fun k j y z => (bg26 w39 (by decide +kernel) k j y z).trans (bg26 w8 (by decide +kernel) k j y z)) ((Ot9_e (fun j => my_fr.at w8 qis_162 rfl) (fun j => my_fr.at w8 qis_163 rfl)).tr (Ot9_e (fun j => my_fr.at w39 qis_162 rfl) (fun j => my_fr.at w39 qis_163 rfl))) (SiD_u I.pSim.2.2.2.1 (fun j => (my_fr.at w39 pis_93 rfl).trans (congrFun w14 j)) (fun j => (congrFun w46 j).trans (zyU_e (my_fr.at w8 pis_188 rfl)))) I.pSim
      have I_h38 : LInv h38 := ⟨Ln_ag (my_ag.fr w39 rfl) J_h7.pLn, Mw_ag (my_ag.fr w39 rfl) J_h7.pMw, Mw3_ag (my_ag.fr w39 rfl) J_h7.pMw3, Rws_ag (my_ag.fr w39 rfl) J_h7.pRws, Wrd_ag (my_ag.fr w39 rfl) J_h7.pWrd, Ceq_ag (my_ag.fr w39 rfl) (Ceq_ag (my_ag.fr w8 rfl) (I.pCeq)), Wd9_ag (my_ag.fr w39 rfl) (Wd9_ag (my_ag.fr w8 rfl) (I.pWd9)), Teq_ag (my_ag.fr w39 rfl) (Teq_ag (my_ag.fr w8 rfl) (I.pTeq)), Wnq_ag (my_ag.fr w39 rfl) (Wnq_ag (my_ag.fr w8 rfl) (I.pWnq)), Hed_ag (my_ag.fr w39 rfl) (Hed_ag (my_ag.fr w8 rfl) (I.pHed)), sim_h38⟩
      show lwp p l e s m below meth c b D tys sg rho 898 [(3, 0), (2, 0), (2, 151), (2, 203), (0, i), (9, 0), (9, 0)] [(0, 1)] h38 kn
      refine lw_pop gz_0_898 rfl ?_
      refine lw_goto (t := 1878) gz_0_899 rfl ?_
      exact K h38 I_h38
theorem lcase_13 (hL4 : L4 ≤ 4096) (hL : rho 4096 = Int32.ofNat L4) (I : LInv h) (i0 : 0 ≤ i) (i8 : i + 8 ≤ L4) (K : ∀ h' : my_H, LInv h' → lwp p l e s m below meth c b D tys sg rho 1878 [(3, 0), (2, 0), (2, 151), (2, 203), (0, i), (9, 0), (9, 0)] [] h' kn) : lwp p l e s m below meth c b D tys sg rho 902 [(3, 0), (2, 0), (2, 151), (2, 203), (0, i), (9, 0), (9, 0)] [] h kn := by
  refine lw_aload_n gz_0_902 rfl ?_
  refine lw_aload3_n gz_0_903 rfl ?_
  refine lw_iload gz_0_904 rfl ?_
  refine lw_iconst gz_0_906 (by decide) ?_
  refine lw_iadd gz_0_907 ⟨by omega, by omega⟩ ?_
  refine lw_sl gz_0_908 hL4 hL (by omega) (by omega) (fun z1 ez1 pz1 qz1 => ?_)
  refine lw_aload3_n gz_0_909 rfl ?_
  refine lw_iload gz_0_910 rfl ?_
  refine lw_iconst gz_0_912 (by decide) ?_
  refine lw_iadd gz_0_913 ⟨by omega, by omega⟩ ?_
  refine lw_sl gz_0_914 hL4 hL (by omega) (by omega) (fun z2 ez2 pz2 qz2 => ?_)
  refine lw_aload3_n gz_0_915 rfl ?_
  refine lw_iload gz_0_916 rfl ?_
  refine lw_iconst gz_0_918 (by decide) ?_
  refine lw_iadd gz_0_919 ⟨by omega, by omega⟩ ?_
  refine lw_sl gz_0_920 hL4 hL (by omega) (by omega) (fun z3 ez3 pz3 qz3 => ?_)
  refine lw_aload3_n gz_0_921 rfl ?_
  refine lw_iload gz_0_922 rfl ?_
  refine lw_iconst gz_0_924 (by decide) ?_
  refine lw_iadd gz_0_925 ⟨by omega, by omega⟩ ?_
  refine lw_sl gz_0_926 hL4 hL (by omega) (by omega) (fun z4 ez4 pz4 qz4 => ?_)
  refine lw_aload3_n gz_0_927 rfl ?_
  refine lw_iload gz_0_928 rfl ?_
  refine lw_iconst gz_0_930 (by decide) ?_
  refine lw_iadd gz_0_931 ⟨by omega, by omega⟩ ?_
  refine lw_sl gz_0_932 hL4 hL (by omega) (by omega) (fun z5 ez5 pz5 qz5 => ?_)
  refine lw_inv (kz := 0) (as := [(0, z5), (0, z4), (0, z3), (0, z2), (0, z1)]) (r := []) (x := 0) (ls0 := [(2, 0), (0, z1), (0, z2), (0, z3), (0, z4), (0, z5)]) gz_0_933 gm_86 rfl is_0 rd_9 rfl rfl rfl rfl rfl (c_ThroughWindow_ways5 (d := 23) (x1 := z1) (x2 := z2) (x3 := z3) (x4 := z4) (x5 := z5) I.pLn (I.pSim.1.1) (I.pSim.2.1.1) (fun h6 w7 w8 w9 w10 => ?_) (fun h11 y12 w13 w14 w15 w16 w17 w18 w19 w20 => ?_))
  ·
    have sim_h6 : Sim h6 := Sim_q I.pLn (I.pWnq.2.1) (my_ag.fr w7 rfl) (fun k j a b => w9 k j (by omega) (by omega)) (Ot9_e (fun j => my_fr.at w7 qis_162 rfl) (fun j => my_fr.at w7 qis_163 rfl)) I.pSim
    have I_h6 : LInv h6 := ⟨w10, Mw_ag (my_ag.fr w7 rfl) I.pMw, Mw3_ag (my_ag.fr w7 rfl) I.pMw3, Rws_ag (my_ag.fr w7 rfl) I.pRws, Wrd_ag (my_ag.fr w7 rfl) I.pWrd, Ceq_ag (my_ag.fr w7 rfl) (I.pCeq), Wd9_ag (my_ag.fr w7 rfl) (I.pWd9), Teq_ag (my_ag.fr w7 rfl) (I.pTeq), Wnq_ag (my_ag.fr w7 rfl) (I.pWnq), Hed_ag (my_ag.fr w7 rfl) (I.pHed), sim_h6⟩
    show lwp p l e s m below meth c b D tys sg rho 936 [(3, 0), (2, 0), (2, 151), (2, 203), (0, i), (9, 0), (9, 0)] [(0, (-1))] h6 kn
    refine lw_pop gz_0_936 rfl ?_
    refine lw_aload_n gz_0_937 rfl ?_
    refine lw_aload3_n gz_0_938 rfl ?_
    refine lw_iload gz_0_939 rfl ?_
    refine lw_iconst gz_0_941 (by decide) ?_
    refine lw_iadd gz_0_942 ⟨by omega, by omega⟩ ?_
    refine lw_sl gz_0_943 hL4 hL (by omega) (by omega) (fun z21 ez21 pz21 qz21 => ?_)
    refine lw_aload3_n gz_0_944 rfl ?_
    refine lw_iload gz_0_945 rfl ?_
    refine lw_iconst gz_0_947 (by decide) ?_
    refine lw_iadd gz_0_948 ⟨by omega, by omega⟩ ?_
    refine lw_sl gz_0_949 hL4 hL (by omega) (by omega) (fun z22 ez22 pz22 qz22 => ?_)
    refine lw_aload3_n gz_0_950 rfl ?_
    refine lw_iload gz_0_951 rfl ?_
    refine lw_iconst gz_0_953 (by decide) ?_
    refine lw_iadd gz_0_954 ⟨by omega, by omega⟩ ?_
    refine lw_sl gz_0_955 hL4 hL (by omega) (by omega) (fun z23 ez23 pz23 qz23 => ?_)
    refine lw_aload3_n gz_0_956 rfl ?_
    refine lw_iload gz_0_957 rfl ?_
    refine lw_iconst gz_0_959 (by decide) ?_
    refine lw_iadd gz_0_960 ⟨by omega, by omega⟩ ?_
    refine lw_sl gz_0_961 hL4 hL (by omega) (by omega) (fun z24 ez24 pz24 qz24 => ?_)
    refine lw_aload3_n gz_0_962 rfl ?_
    refine lw_iload gz_0_963 rfl ?_
    refine lw_iconst gz_0_965 (by decide) ?_
    refine lw_iadd gz_0_966 ⟨by omega, by omega⟩ ?_
    refine lw_sl gz_0_967 hL4 hL (by omega) (by omega) (fun z25 ez25 pz25 qz25 => ?_)
    refine lw_inv (kz := 0) (as := [(0, z25), (0, z24), (0, z23), (0, z22), (0, z21)]) (r := []) (x := 151) (ls0 := [(2, 151), (0, z21), (0, z22), (0, z23), (0, z24), (0, z25)]) gz_0_968 gm_207 rfl is_151 rd_10 rfl rfl rfl rfl rfl (c_Model_ways5 (d := 22) (x1 := z21) (x2 := z22) (x3 := z23) (x4 := z24) (x5 := z25) I_h6.pMw I_h6.pMw3 I_h6.pRws (I_h6.pSim.1.2.1) (I_h6.pSim.mwo) (fun h26 w27 w28 w29 w30 w31 => ?_) (fun h32 y33 w34 w35 w36 w37 w38 w39 w40 w41 w42 w43 w44 => ?_))
    ·
      have sim_h26 : Sim h26 := Sim_q I_h6.pLn (I_h6.pWnq.2.1) (my_ag.fr w27 rfl) (bg26 w27 (by decide +kernel)) w30 I_h6.pSim
      have I_h26 : LInv h26 := ⟨Ln_ag (my_ag.fr w27 rfl) I_h6.pLn, Mw_ag (my_ag.fr w27 rfl) I_h6.pMw, Mw3_ag (my_ag.fr w27 rfl) I_h6.pMw3, w31, Wrd_ag (my_ag.fr w27 rfl) I_h6.pWrd, Ceq_ag (my_ag.fr w27 rfl) (I_h6.pCeq), Wd9_ag (my_ag.fr w27 rfl) (I_h6.pWd9), Teq_ag (my_ag.fr w27 rfl) (I_h6.pTeq), Wnq_ag (my_ag.fr w27 rfl) (I_h6.pWnq), Hed_ag (my_ag.fr w27 rfl) (I_h6.pHed), sim_h26⟩
      show lwp p l e s m below meth c b D tys sg rho 971 [(3, 0), (2, 0), (2, 151), (2, 203), (0, i), (9, 0), (9, 0)] [(0, (-1))] h26 kn
      refine lw_pop gz_0_971 rfl ?_
      refine lw_goto (t := 1878) gz_0_972 rfl ?_
      exact K h26 I_h26
    ·
      have sim_h32 : Sim h32 := Sim_q I_h6.pLn (I_h6.pWnq.2.1) (my_ag.fr w34 rfl) (bg26 w34 (by decide +kernel)) w43 I_h6.pSim
      have I_h32 : LInv h32 := ⟨Ln_ag (my_ag.fr w34 rfl) I_h6.pLn, Mw_ag (my_ag.fr w34 rfl) I_h6.pMw, Mw3_ag (my_ag.fr w34 rfl) I_h6.pMw3, w44, Wrd_ag (my_ag.fr w34 rfl) I_h6.pWrd, Ceq_ag (my_ag.fr w34 rfl) (I_h6.pCeq), Wd9_ag (my_ag.fr w34 rfl) (I_h6.pWd9), Teq_ag (my_ag.fr w34 rfl) (I_h6.pTeq), Wnq_ag (my_ag.fr w34 rfl) (I_h6.pWnq), Hed_ag (my_ag.fr w34 rfl) (I_h6.pHed), sim_h32⟩
      show lwp p l e s m below meth c b D tys sg rho 971 [(3, 0), (2, 0), (2, 151), (2, 203), (0, i), (9, 0), (9, 0)] [(0, y33)] h32 kn
      refine lw_pop gz_0_971 rfl ?_
      refine lw_goto (t := 1878) gz_0_972 rfl ?_
      exact K h32 I_h32
  ·
    have sim_h11 : Sim h11 := Sim_q I.pLn (I.pWnq.2.1) (my_ag.fr w13 rfl) (fun k j a b => w19 k j (by omega) (by omega)) (Ot9_e (fun j => my_fr.at w13 qis_162 rfl) (fun j => my_fr.at w13 qis_163 rfl)) I.pSim
    have I_h11 : LInv h11 := ⟨w20, Mw_ag (my_ag.fr w13 rfl) I.pMw, Mw3_ag (my_ag.fr w13 rfl) I.pMw3, Rws_ag (my_ag.fr w13 rfl) I.pRws, Wrd_ag (my_ag.fr w13 rfl) I.pWrd, Ceq_ag (my_ag.fr w13 rfl) (I.pCeq), Wd9_ag (my_ag.fr w13 rfl) (I.pWd9), Teq_ag (my_ag.fr w13 rfl) (I.pTeq), Wnq_ag (my_ag.fr w13 rfl) (I.pWnq), Hed_ag (my_ag.fr w13 rfl) (I.pHed), sim_h11⟩
    show lwp p l e s m below meth c b D tys sg rho 936 [(3, 0), (2, 0), (2, 151), (2, 203), (0, i), (9, 0), (9, 0)] [(0, y12)] h11 kn
    refine lw_pop gz_0_936 rfl ?_
    refine lw_aload_n gz_0_937 rfl ?_
    refine lw_aload3_n gz_0_938 rfl ?_
    refine lw_iload gz_0_939 rfl ?_
    refine lw_iconst gz_0_941 (by decide) ?_
    refine lw_iadd gz_0_942 ⟨by omega, by omega⟩ ?_
    refine lw_sl gz_0_943 hL4 hL (by omega) (by omega) (fun z45 ez45 pz45 qz45 => ?_)
    refine lw_aload3_n gz_0_944 rfl ?_
    refine lw_iload gz_0_945 rfl ?_
    refine lw_iconst gz_0_947 (by decide) ?_
    refine lw_iadd gz_0_948 ⟨by omega, by omega⟩ ?_
    refine lw_sl gz_0_949 hL4 hL (by omega) (by omega) (fun z46 ez46 pz46 qz46 => ?_)
    refine lw_aload3_n gz_0_950 rfl ?_
    refine lw_iload gz_0_951 rfl ?_
    refine lw_iconst gz_0_953 (by decide) ?_
    refine lw_iadd gz_0_954 ⟨by omega, by omega⟩ ?_
    refine lw_sl gz_0_955 hL4 hL (by omega) (by omega) (fun z47 ez47 pz47 qz47 => ?_)
    refine lw_aload3_n gz_0_956 rfl ?_
    refine lw_iload gz_0_957 rfl ?_
    refine lw_iconst gz_0_959 (by decide) ?_
    refine lw_iadd gz_0_960 ⟨by omega, by omega⟩ ?_
    refine lw_sl gz_0_961 hL4 hL (by omega) (by omega) (fun z48 ez48 pz48 qz48 => ?_)
    refine lw_aload3_n gz_0_962 rfl ?_
    refine lw_iload gz_0_963 rfl ?_
    refine lw_iconst gz_0_965 (by decide) ?_
    refine lw_iadd gz_0_966 ⟨by omega, by omega⟩ ?_
    refine lw_sl gz_0_967 hL4 hL (by omega) (by omega) (fun z49 ez49 pz49 qz49 => ?_)
    refine lw_inv (kz := 0) (as := [(0, z49), (0, z48), (0, z47), (0, z46), (0, z45)]) (r := []) (x := 151) (ls0 := [(2, 151), (0, z45), (0, z46), (0, z47), (0, z48), (0, z49)]) gz_0_968 gm_207 rfl is_151 rd_10 rfl rfl rfl rfl rfl (c_Model_ways5 (d := 22) (x1 := z45) (x2 := z46) (x3 := z47) (x4 := z48) (x5 := z49) I_h11.pMw I_h11.pMw3 I_h11.pRws (I_h11.pSim.1.2.1) (I_h11.pSim.mwo) (fun h50 w51 w52 w53 w54 w55 => ?_) (fun h56 y57 w58 w59 w60 w61 w62 w63 w64 w65 w66 w67 w68 => ?_))
    ·
      have sim_h50 : Sim h50 := Sim_q I_h11.pLn (I_h11.pWnq.2.1) (my_ag.fr w51 rfl) (bg26 w51 (by decide +kernel)) w54 I_h11.pSim
      have I_h50 : LInv h50 := ⟨Ln_ag (my_ag.fr w51 rfl) I_h11.pLn, Mw_ag (my_ag.fr w51 rfl) I_h11.pMw, Mw3_ag (my_ag.fr w51 rfl) I_h11.pMw3, w55, Wrd_ag (my_ag.fr w51 rfl) I_h11.pWrd, Ceq_ag (my_ag.fr w51 rfl) (I_h11.pCeq), Wd9_ag (my_ag.fr w51 rfl) (I_h11.pWd9), Teq_ag (my_ag.fr w51 rfl) (I_h11.pTeq), Wnq_ag (my_ag.fr w51 rfl) (I_h11.pWnq), Hed_ag (my_ag.fr w51 rfl) (I_h11.pHed), sim_h50⟩
      show lwp p l e s m below meth c b D tys sg rho 971 [(3, 0), (2, 0), (2, 151), (2, 203), (0, i), (9, 0), (9, 0)] [(0, (-1))] h50 kn
      refine lw_pop gz_0_971 rfl ?_
      refine lw_goto (t := 1878) gz_0_972 rfl ?_
      exact K h50 I_h50
    ·
      have sim_h56 : Sim h56 := Sim_q I_h11.pLn (I_h11.pWnq.2.1) (my_ag.fr w58 rfl) (bg26 w58 (by decide +kernel)) w67 I_h11.pSim
      have I_h56 : LInv h56 := ⟨Ln_ag (my_ag.fr w58 rfl) I_h11.pLn, Mw_ag (my_ag.fr w58 rfl) I_h11.pMw, Mw3_ag (my_ag.fr w58 rfl) I_h11.pMw3, w68, Wrd_ag (my_ag.fr w58 rfl) I_h11.pWrd, Ceq_ag (my_ag.fr w58 rfl) (I_h11.pCeq), Wd9_ag (my_ag.fr w58 rfl) (I_h11.pWd9), Teq_ag (my_ag.fr w58 rfl) (I_h11.pTeq), Wnq_ag (my_ag.fr w58 rfl) (I_h11.pWnq), Hed_ag (my_ag.fr w58 rfl) (I_h11.pHed), sim_h56⟩
      show lwp p l e s m below meth c b D tys sg rho 971 [(3, 0), (2, 0), (2, 151), (2, 203), (0, i), (9, 0), (9, 0)] [(0, y57)] h56 kn
      refine lw_pop gz_0_971 rfl ?_
      refine lw_goto (t := 1878) gz_0_972 rfl ?_
      exact K h56 I_h56
theorem lcase_14 (hL4 : L4 ≤ 4096) (hL : rho 4096 = Int32.ofNat L4) (I : LInv h) (i0 : 0 ≤ i) (i8 : i + 8 ≤ L4) (K : ∀ h' : my_H, LInv h' → lwp p l e s m below meth c b D tys sg rho 1878 [(3, 0), (2, 0), (2, 151), (2, 203), (0, i), (9, 0), (9, 0)] [] h' kn) : lwp p l e s m below meth c b D tys sg rho 975 [(3, 0), (2, 0), (2, 151), (2, 203), (0, i), (9, 0), (9, 0)] [] h kn := by
  refine lw_aload_n gz_0_975 rfl ?_
  refine lw_aload3_n gz_0_976 rfl ?_
  refine lw_iload gz_0_977 rfl ?_
  refine lw_iconst gz_0_979 (by decide) ?_
  refine lw_iadd gz_0_980 ⟨by omega, by omega⟩ ?_
  refine lw_sl gz_0_981 hL4 hL (by omega) (by omega) (fun z1 ez1 pz1 qz1 => ?_)
  refine lw_aload3_n gz_0_982 rfl ?_
  refine lw_iload gz_0_983 rfl ?_
  refine lw_iconst gz_0_985 (by decide) ?_
  refine lw_iadd gz_0_986 ⟨by omega, by omega⟩ ?_
  refine lw_sl gz_0_987 hL4 hL (by omega) (by omega) (fun z2 ez2 pz2 qz2 => ?_)
  refine lw_aload3_n gz_0_988 rfl ?_
  refine lw_iload gz_0_989 rfl ?_
  refine lw_iconst gz_0_991 (by decide) ?_
  refine lw_iadd gz_0_992 ⟨by omega, by omega⟩ ?_
  refine lw_sl gz_0_993 hL4 hL (by omega) (by omega) (fun z3 ez3 pz3 qz3 => ?_)
  refine lw_aload3_n gz_0_994 rfl ?_
  refine lw_iload gz_0_995 rfl ?_
  refine lw_iconst gz_0_997 (by decide) ?_
  refine lw_iadd gz_0_998 ⟨by omega, by omega⟩ ?_
  refine lw_sl gz_0_999 hL4 hL (by omega) (by omega) (fun z4 ez4 pz4 qz4 => ?_)
  refine lw_aload3_n gz_0_1000 rfl ?_
  refine lw_iload gz_0_1001 rfl ?_
  refine lw_iconst gz_0_1003 (by decide) ?_
  refine lw_iadd gz_0_1004 ⟨by omega, by omega⟩ ?_
  refine lw_sl gz_0_1005 hL4 hL (by omega) (by omega) (fun z5 ez5 pz5 qz5 => ?_)
  refine lw_aload3_n gz_0_1006 rfl ?_
  refine lw_iload gz_0_1007 rfl ?_
  refine lw_bipush gz_0_1009 (by decide) ?_
  refine lw_iadd gz_0_1011 ⟨by omega, by omega⟩ ?_
  refine lw_sl gz_0_1012 hL4 hL (by omega) (by omega) (fun z6 ez6 pz6 qz6 => ?_)
  refine lw_aload3_n gz_0_1013 rfl ?_
  refine lw_iload gz_0_1014 rfl ?_
  refine lw_bipush gz_0_1016 (by decide) ?_
  refine lw_iadd gz_0_1018 ⟨by omega, by omega⟩ ?_
  refine lw_sl gz_0_1019 hL4 hL (by omega) (by omega) (fun z7 ez7 pz7 qz7 => ?_)
  refine lw_inv (kz := 1) (as := [(0, z7), (0, z6), (0, z5), (0, z4), (0, z3), (0, z2), (0, z1)]) (r := []) (x := 0) (ls0 := [(2, 0), (0, z1), (0, z2), (0, z3), (0, z4), (0, z5), (0, z6), (0, z7), (9, 0)]) gz_0_1020 gm_108 rfl is_0 rd_9 rfl rfl rfl rfl rfl (c_ThroughWindow_way5 (d := 23) (x1 := z1) (x2 := z2) (x3 := z3) (x4 := z4) (x5 := z5) (x6 := z6) (x7 := z7) I.pLn (I.pSim.1.1) (I.pSim.2.1.1) (fun h8 w9 w10 w11 w12 => ?_) (fun h13 y14 w15 w16 w17 w18 w19 w20 w21 w22 w23 w24 w25 => ?_))
  ·
    have sim_h8 : Sim h8 := Sim_q I.pLn (I.pWnq.2.1) (my_ag.fr w9 rfl) (fun k j a b => w11 k j (by omega) (by omega)) (Ot9_e (fun j => my_fr.at w9 qis_162 rfl) (fun j => my_fr.at w9 qis_163 rfl)) I.pSim
    have I_h8 : LInv h8 := ⟨w12, Mw_ag (my_ag.fr w9 rfl) I.pMw, Mw3_ag (my_ag.fr w9 rfl) I.pMw3, Rws_ag (my_ag.fr w9 rfl) I.pRws, Wrd_ag (my_ag.fr w9 rfl) I.pWrd, Ceq_ag (my_ag.fr w9 rfl) (I.pCeq), Wd9_ag (my_ag.fr w9 rfl) (I.pWd9), Teq_ag (my_ag.fr w9 rfl) (I.pTeq), Wnq_ag (my_ag.fr w9 rfl) (I.pWnq), Hed_ag (my_ag.fr w9 rfl) (I.pHed), sim_h8⟩
    show lwp p l e s m below meth c b D tys sg rho 1023 [(3, 0), (2, 0), (2, 151), (2, 203), (0, i), (9, 0), (9, 0)] [(0, (-1))] h8 kn
    refine lw_pop gz_0_1023 rfl ?_
    refine lw_aload_n gz_0_1024 rfl ?_
    refine lw_aload3_n gz_0_1025 rfl ?_
    refine lw_iload gz_0_1026 rfl ?_
    refine lw_iconst gz_0_1028 (by decide) ?_
    refine lw_iadd gz_0_1029 ⟨by omega, by omega⟩ ?_
    refine lw_sl gz_0_1030 hL4 hL (by omega) (by omega) (fun z26 ez26 pz26 qz26 => ?_)
    refine lw_aload3_n gz_0_1031 rfl ?_
    refine lw_iload gz_0_1032 rfl ?_
    refine lw_iconst gz_0_1034 (by decide) ?_
    refine lw_iadd gz_0_1035 ⟨by omega, by omega⟩ ?_
    refine lw_sl gz_0_1036 hL4 hL (by omega) (by omega) (fun z27 ez27 pz27 qz27 => ?_)
    refine lw_aload3_n gz_0_1037 rfl ?_
    refine lw_iload gz_0_1038 rfl ?_
    refine lw_iconst gz_0_1040 (by decide) ?_
    refine lw_iadd gz_0_1041 ⟨by omega, by omega⟩ ?_
    refine lw_sl gz_0_1042 hL4 hL (by omega) (by omega) (fun z28 ez28 pz28 qz28 => ?_)
    refine lw_aload3_n gz_0_1043 rfl ?_
    refine lw_iload gz_0_1044 rfl ?_
    refine lw_iconst gz_0_1046 (by decide) ?_
    refine lw_iadd gz_0_1047 ⟨by omega, by omega⟩ ?_
    refine lw_sl gz_0_1048 hL4 hL (by omega) (by omega) (fun z29 ez29 pz29 qz29 => ?_)
    refine lw_aload3_n gz_0_1049 rfl ?_
    refine lw_iload gz_0_1050 rfl ?_
    refine lw_iconst gz_0_1052 (by decide) ?_
    refine lw_iadd gz_0_1053 ⟨by omega, by omega⟩ ?_
    refine lw_sl gz_0_1054 hL4 hL (by omega) (by omega) (fun z30 ez30 pz30 qz30 => ?_)
    refine lw_aload3_n gz_0_1055 rfl ?_
    refine lw_iload gz_0_1056 rfl ?_
    refine lw_bipush gz_0_1058 (by decide) ?_
    refine lw_iadd gz_0_1060 ⟨by omega, by omega⟩ ?_
    refine lw_sl gz_0_1061 hL4 hL (by omega) (by omega) (fun z31 ez31 pz31 qz31 => ?_)
    refine lw_aload3_n gz_0_1062 rfl ?_
    refine lw_iload gz_0_1063 rfl ?_
    refine lw_bipush gz_0_1065 (by decide) ?_
    refine lw_iadd gz_0_1067 ⟨by omega, by omega⟩ ?_
    refine lw_sl gz_0_1068 hL4 hL (by omega) (by omega) (fun z32 ez32 pz32 qz32 => ?_)
    refine lw_inv (kz := 1) (as := [(0, z32), (0, z31), (0, z30), (0, z29), (0, z28), (0, z27), (0, z26)]) (r := []) (x := 151) (ls0 := [(2, 151), (0, z26), (0, z27), (0, z28), (0, z29), (0, z30), (0, z31), (0, z32), (9, 0)]) gz_0_1069 gm_219 rfl is_151 rd_10 rfl rfl rfl rfl rfl (c_Model_way4 (d := 22) (x1 := z26) (x2 := z27) (x3 := z28) (x4 := z29) (x5 := z30) (x6 := z31) (x7 := z32) I_h8.pMw I_h8.pMw3 I_h8.pRws (I_h8.pSim.1.2.1) (I_h8.pSim.mwo) (fun h33 w34 w35 w36 w37 => ?_) (fun h38 y39 w40 w41 w42 w43 w44 w45 w46 w47 w48 w49 w50 w51 w52 w53 w54 w55 => ?_))
    ·
      have sim_h33 : Sim h33 := Sim_q I_h8.pLn (I_h8.pWnq.2.1) (my_ag.fr w34 rfl) (bg26 w34 (by decide +kernel)) w36 I_h8.pSim
      have I_h33 : LInv h33 := ⟨Ln_ag (my_ag.fr w34 rfl) I_h8.pLn, Mw_ag (my_ag.fr w34 rfl) I_h8.pMw, Mw3_ag (my_ag.fr w34 rfl) I_h8.pMw3, w37, Wrd_ag (my_ag.fr w34 rfl) I_h8.pWrd, Ceq_ag (my_ag.fr w34 rfl) (I_h8.pCeq), Wd9_ag (my_ag.fr w34 rfl) (I_h8.pWd9), Teq_ag (my_ag.fr w34 rfl) (I_h8.pTeq), Wnq_ag (my_ag.fr w34 rfl) (I_h8.pWnq), Hed_ag (my_ag.fr w34 rfl) (I_h8.pHed), sim_h33⟩
      show lwp p l e s m below meth c b D tys sg rho 1072 [(3, 0), (2, 0), (2, 151), (2, 203), (0, i), (9, 0), (9, 0)] [(0, (-1))] h33 kn
      refine lw_pop gz_0_1072 rfl ?_
      refine lw_goto (t := 1878) gz_0_1073 rfl ?_
      exact K h33 I_h33
    ·
      have sim_h38 : Sim h38 := Sim_q I_h8.pLn (I_h8.pWnq.2.1) (my_ag.fr w40 rfl) (bg26 w40 (by decide +kernel)) w54 I_h8.pSim
      have I_h38 : LInv h38 := ⟨Ln_ag (my_ag.fr w40 rfl) I_h8.pLn, Mw_ag (my_ag.fr w40 rfl) I_h8.pMw, Mw3_ag (my_ag.fr w40 rfl) I_h8.pMw3, w55, Wrd_ag (my_ag.fr w40 rfl) I_h8.pWrd, Ceq_ag (my_ag.fr w40 rfl) (I_h8.pCeq), Wd9_ag (my_ag.fr w40 rfl) (I_h8.pWd9), Teq_ag (my_ag.fr w40 rfl) (I_h8.pTeq), Wnq_ag (my_ag.fr w40 rfl) (I_h8.pWnq), Hed_ag (my_ag.fr w40 rfl) (I_h8.pHed), sim_h38⟩
      show lwp p l e s m below meth c b D tys sg rho 1072 [(3, 0), (2, 0), (2, 151), (2, 203), (0, i), (9, 0), (9, 0)] [(0, y39)] h38 kn
      refine lw_pop gz_0_1072 rfl ?_
      refine lw_goto (t := 1878) gz_0_1073 rfl ?_
      exact K h38 I_h38
  ·
    have sim_h13 : Sim h13 := Sim_q I.pLn (I.pWnq.2.1) (my_ag.fr w15 rfl) (fun k j a b => w24 k j (by omega) (by omega)) (Ot9_e (fun j => my_fr.at w15 qis_162 rfl) (fun j => my_fr.at w15 qis_163 rfl)) I.pSim
    have I_h13 : LInv h13 := ⟨w25, Mw_ag (my_ag.fr w15 rfl) I.pMw, Mw3_ag (my_ag.fr w15 rfl) I.pMw3, Rws_ag (my_ag.fr w15 rfl) I.pRws, Wrd_ag (my_ag.fr w15 rfl) I.pWrd, Ceq_ag (my_ag.fr w15 rfl) (I.pCeq), Wd9_ag (my_ag.fr w15 rfl) (I.pWd9), Teq_ag (my_ag.fr w15 rfl) (I.pTeq), Wnq_ag (my_ag.fr w15 rfl) (I.pWnq), Hed_ag (my_ag.fr w15 rfl) (I.pHed), sim_h13⟩
    show lwp p l e s m below meth c b D tys sg rho 1023 [(3, 0), (2, 0), (2, 151), (2, 203), (0, i), (9, 0), (9, 0)] [(0, y14)] h13 kn
    refine lw_pop gz_0_1023 rfl ?_
    refine lw_aload_n gz_0_1024 rfl ?_
    refine lw_aload3_n gz_0_1025 rfl ?_
    refine lw_iload gz_0_1026 rfl ?_
    refine lw_iconst gz_0_1028 (by decide) ?_
    refine lw_iadd gz_0_1029 ⟨by omega, by omega⟩ ?_
    refine lw_sl gz_0_1030 hL4 hL (by omega) (by omega) (fun z56 ez56 pz56 qz56 => ?_)
    refine lw_aload3_n gz_0_1031 rfl ?_
    refine lw_iload gz_0_1032 rfl ?_
    refine lw_iconst gz_0_1034 (by decide) ?_
    refine lw_iadd gz_0_1035 ⟨by omega, by omega⟩ ?_
    refine lw_sl gz_0_1036 hL4 hL (by omega) (by omega) (fun z57 ez57 pz57 qz57 => ?_)
    refine lw_aload3_n gz_0_1037 rfl ?_
    refine lw_iload gz_0_1038 rfl ?_
    refine lw_iconst gz_0_1040 (by decide) ?_
    refine lw_iadd gz_0_1041 ⟨by omega, by omega⟩ ?_
    refine lw_sl gz_0_1042 hL4 hL (by omega) (by omega) (fun z58 ez58 pz58 qz58 => ?_)
    refine lw_aload3_n gz_0_1043 rfl ?_
    refine lw_iload gz_0_1044 rfl ?_
    refine lw_iconst gz_0_1046 (by decide) ?_
    refine lw_iadd gz_0_1047 ⟨by omega, by omega⟩ ?_
    refine lw_sl gz_0_1048 hL4 hL (by omega) (by omega) (fun z59 ez59 pz59 qz59 => ?_)
    refine lw_aload3_n gz_0_1049 rfl ?_
    refine lw_iload gz_0_1050 rfl ?_
    refine lw_iconst gz_0_1052 (by decide) ?_
    refine lw_iadd gz_0_1053 ⟨by omega, by omega⟩ ?_
    refine lw_sl gz_0_1054 hL4 hL (by omega) (by omega) (fun z60 ez60 pz60 qz60 => ?_)
    refine lw_aload3_n gz_0_1055 rfl ?_
    refine lw_iload gz_0_1056 rfl ?_
    refine lw_bipush gz_0_1058 (by decide) ?_
    refine lw_iadd gz_0_1060 ⟨by omega, by omega⟩ ?_
    refine lw_sl gz_0_1061 hL4 hL (by omega) (by omega) (fun z61 ez61 pz61 qz61 => ?_)
    refine lw_aload3_n gz_0_1062 rfl ?_
    refine lw_iload gz_0_1063 rfl ?_
    refine lw_bipush gz_0_1065 (by decide) ?_
    refine lw_iadd gz_0_1067 ⟨by omega, by omega⟩ ?_
    refine lw_sl gz_0_1068 hL4 hL (by omega) (by omega) (fun z62 ez62 pz62 qz62 => ?_)
    refine lw_inv (kz := 1) (as := [(0, z62), (0, z61), (0, z60), (0, z59), (0, z58), (0, z57), (0, z56)]) (r := []) (x := 151) (ls0 := [(2, 151), (0, z56), (0, z57), (0, z58), (0, z59), (0, z60), (0, z61), (0, z62), (9, 0)]) gz_0_1069 gm_219 rfl is_151 rd_10 rfl rfl rfl rfl rfl (c_Model_way4 (d := 22) (x1 := z56) (x2 := z57) (x3 := z58) (x4 := z59) (x5 := z60) (x6 := z61) (x7 := z62) I_h13.pMw I_h13.pMw3 I_h13.pRws (I_h13.pSim.1.2.1) (I_h13.pSim.mwo) (fun h63 w64 w65 w66 w67 => ?_) (fun h68 y69 w70 w71 w72 w73 w74 w75 w76 w77 w78 w79 w80 w81 w82 w83 w84 w85 => ?_))
    ·
      have sim_h63 : Sim h63 := Sim_q I_h13.pLn (I_h13.pWnq.2.1) (my_ag.fr w64 rfl) (bg26 w64 (by decide +kernel)) w66 I_h13.pSim
      have I_h63 : LInv h63 := ⟨Ln_ag (my_ag.fr w64 rfl) I_h13.pLn, Mw_ag (my_ag.fr w64 rfl) I_h13.pMw, Mw3_ag (my_ag.fr w64 rfl) I_h13.pMw3, w67, Wrd_ag (my_ag.fr w64 rfl) I_h13.pWrd, Ceq_ag (my_ag.fr w64 rfl) (I_h13.pCeq), Wd9_ag (my_ag.fr w64 rfl) (I_h13.pWd9), Teq_ag (my_ag.fr w64 rfl) (I_h13.pTeq), Wnq_ag (my_ag.fr w64 rfl) (I_h13.pWnq), Hed_ag (my_ag.fr w64 rfl) (I_h13.pHed), sim_h63⟩
      show lwp p l e s m below meth c b D tys sg rho 1072 [(3, 0), (2, 0), (2, 151), (2, 203), (0, i), (9, 0), (9, 0)] [(0, (-1))] h63 kn
      refine lw_pop gz_0_1072 rfl ?_
      refine lw_goto (t := 1878) gz_0_1073 rfl ?_
      exact K h63 I_h63
    ·
      have sim_h68 : Sim h68 := Sim_q I_h13.pLn (I_h13.pWnq.2.1) (my_ag.fr w70 rfl) (bg26 w70 (by decide +kernel)) w84 I_h13.pSim
      have I_h68 : LInv h68 := ⟨Ln_ag (my_ag.fr w70 rfl) I_h13.pLn, Mw_ag (my_ag.fr w70 rfl) I_h13.pMw, Mw3_ag (my_ag.fr w70 rfl) I_h13.pMw3, w85, Wrd_ag (my_ag.fr w70 rfl) I_h13.pWrd, Ceq_ag (my_ag.fr w70 rfl) (I_h13.pCeq), Wd9_ag (my_ag.fr w70 rfl) (I_h13.pWd9), Teq_ag (my_ag.fr w70 rfl) (I_h13.pTeq), Wnq_ag (my_ag.fr w70 rfl) (I_h13.pWnq), Hed_ag (my_ag.fr w70 rfl) (I_h13.pHed), sim_h68⟩
      show lwp p l e s m below meth c b D tys sg rho 1072 [(3, 0), (2, 0), (2, 151), (2, 203), (0, i), (9, 0), (9, 0)] [(0, y69)] h68 kn
      refine lw_pop gz_0_1072 rfl ?_
      refine lw_goto (t := 1878) gz_0_1073 rfl ?_
      exact K h68 I_h68
theorem lcase_15 (hL4 : L4 ≤ 4096) (hL : rho 4096 = Int32.ofNat L4) (I : LInv h) (i0 : 0 ≤ i) (i8 : i + 8 ≤ L4) (K : ∀ h' : my_H, LInv h' → lwp p l e s m below meth c b D tys sg rho 1878 [(3, 0), (2, 0), (2, 151), (2, 203), (0, i), (9, 0), (9, 0)] [] h' kn) : lwp p l e s m below meth c b D tys sg rho 1076 [(3, 0), (2, 0), (2, 151), (2, 203), (0, i), (9, 0), (9, 0)] [] h kn := by
  refine lw_aload_n gz_0_1076 rfl ?_
  refine lw_aload3_n gz_0_1077 rfl ?_
  refine lw_iload gz_0_1078 rfl ?_
  refine lw_iconst gz_0_1080 (by decide) ?_
  refine lw_iadd gz_0_1081 ⟨by omega, by omega⟩ ?_
  refine lw_sl gz_0_1082 hL4 hL (by omega) (by omega) (fun z1 ez1 pz1 qz1 => ?_)
  refine lw_aload3_n gz_0_1083 rfl ?_
  refine lw_iload gz_0_1084 rfl ?_
  refine lw_iconst gz_0_1086 (by decide) ?_
  refine lw_iadd gz_0_1087 ⟨by omega, by omega⟩ ?_
  refine lw_sl gz_0_1088 hL4 hL (by omega) (by omega) (fun z2 ez2 pz2 qz2 => ?_)
  refine lw_aload3_n gz_0_1089 rfl ?_
  refine lw_iload gz_0_1090 rfl ?_
  refine lw_iconst gz_0_1092 (by decide) ?_
  refine lw_iadd gz_0_1093 ⟨by omega, by omega⟩ ?_
  refine lw_sl gz_0_1094 hL4 hL (by omega) (by omega) (fun z3 ez3 pz3 qz3 => ?_)
  refine lw_aload3_n gz_0_1095 rfl ?_
  refine lw_iload gz_0_1096 rfl ?_
  refine lw_iconst gz_0_1098 (by decide) ?_
  refine lw_iadd gz_0_1099 ⟨by omega, by omega⟩ ?_
  refine lw_sl gz_0_1100 hL4 hL (by omega) (by omega) (fun z4 ez4 pz4 qz4 => ?_)
  refine lw_aload3_n gz_0_1101 rfl ?_
  refine lw_iload gz_0_1102 rfl ?_
  refine lw_iconst gz_0_1104 (by decide) ?_
  refine lw_iadd gz_0_1105 ⟨by omega, by omega⟩ ?_
  refine lw_sl gz_0_1106 hL4 hL (by omega) (by omega) (fun z5 ez5 pz5 qz5 => ?_)
  refine lw_inv (kz := 0) (as := [(0, z5), (0, z4), (0, z3), (0, z2), (0, z1)]) (r := []) (x := 0) (ls0 := [(2, 0), (0, z1), (0, z2), (0, z3), (0, z4), (0, z5)]) gz_0_1107 gm_109 rfl is_0 rd_9 rfl rfl rfl rfl rfl (c_ThroughWindow_why4 (d := 23) (x1 := z1) (x2 := z2) (x3 := z3) (x4 := z4) (x5 := z5) I.pLn (I.pSim.1.1) (I.pSim.2.1.1) (fun h6 w7 w8 w9 => ?_) (fun h10 w11 w12 w13 w14 w15 w16 w17 => ?_) (fun h18 w19 w20 w21 w22 w23 w24 w25 => ?_) (fun h26 y27 w28 w29 w30 w31 w32 w33 w34 => ?_))
  ·
    have sim_h6 : Sim h6 := Sim_q I.pLn (I.pWnq.2.1) (my_ag.fr w7 rfl) (fun k j a b => w8 k j (by omega) (by omega)) (Ot9_e (fun j => my_fr.at w7 qis_162 rfl) (fun j => my_fr.at w7 qis_163 rfl)) I.pSim
    have I_h6 : LInv h6 := ⟨w9, Mw_ag (my_ag.fr w7 rfl) I.pMw, Mw3_ag (my_ag.fr w7 rfl) I.pMw3, Rws_ag (my_ag.fr w7 rfl) I.pRws, Wrd_ag (my_ag.fr w7 rfl) I.pWrd, Ceq_ag (my_ag.fr w7 rfl) (I.pCeq), Wd9_ag (my_ag.fr w7 rfl) (I.pWd9), Teq_ag (my_ag.fr w7 rfl) (I.pTeq), Wnq_ag (my_ag.fr w7 rfl) (I.pWnq), Hed_ag (my_ag.fr w7 rfl) (I.pHed), sim_h6⟩
    show lwp p l e s m below meth c b D tys sg rho 1110 [(3, 0), (2, 0), (2, 151), (2, 203), (0, i), (9, 0), (9, 0)] [(0, (-1))] h6 kn
    refine lw_pop gz_0_1110 rfl ?_
    refine lw_aload_n gz_0_1111 rfl ?_
    refine lw_aload3_n gz_0_1112 rfl ?_
    refine lw_iload gz_0_1113 rfl ?_
    refine lw_iconst gz_0_1115 (by decide) ?_
    refine lw_iadd gz_0_1116 ⟨by omega, by omega⟩ ?_
    refine lw_sl gz_0_1117 hL4 hL (by omega) (by omega) (fun z35 ez35 pz35 qz35 => ?_)
    refine lw_aload3_n gz_0_1118 rfl ?_
    refine lw_iload gz_0_1119 rfl ?_
    refine lw_iconst gz_0_1121 (by decide) ?_
    refine lw_iadd gz_0_1122 ⟨by omega, by omega⟩ ?_
    refine lw_sl gz_0_1123 hL4 hL (by omega) (by omega) (fun z36 ez36 pz36 qz36 => ?_)
    refine lw_aload3_n gz_0_1124 rfl ?_
    refine lw_iload gz_0_1125 rfl ?_
    refine lw_iconst gz_0_1127 (by decide) ?_
    refine lw_iadd gz_0_1128 ⟨by omega, by omega⟩ ?_
    refine lw_sl gz_0_1129 hL4 hL (by omega) (by omega) (fun z37 ez37 pz37 qz37 => ?_)
    refine lw_aload3_n gz_0_1130 rfl ?_
    refine lw_iload gz_0_1131 rfl ?_
    refine lw_iconst gz_0_1133 (by decide) ?_
    refine lw_iadd gz_0_1134 ⟨by omega, by omega⟩ ?_
    refine lw_sl gz_0_1135 hL4 hL (by omega) (by omega) (fun z38 ez38 pz38 qz38 => ?_)
    refine lw_aload3_n gz_0_1136 rfl ?_
    refine lw_iload gz_0_1137 rfl ?_
    refine lw_iconst gz_0_1139 (by decide) ?_
    refine lw_iadd gz_0_1140 ⟨by omega, by omega⟩ ?_
    refine lw_sl gz_0_1141 hL4 hL (by omega) (by omega) (fun z39 ez39 pz39 qz39 => ?_)
    refine lw_inv (kz := 1) (as := [(0, z39), (0, z38), (0, z37), (0, z36), (0, z35)]) (r := []) (x := 151) (ls0 := [(2, 151), (0, z35), (0, z36), (0, z37), (0, z38), (0, z39), (9, 0)]) gz_0_1142 gm_228 rfl is_151 rd_10 rfl rfl rfl rfl rfl (c_Model_why4 (d := 24) (x1 := z35) (x2 := z36) (x3 := z37) (x4 := z38) (x5 := z39) I_h6.pMw I_h6.pMw3 I_h6.pRws (I_h6.pSim.1.2.1) (fun h40 w41 w42 w43 w44 => ?_) (fun h45 w46 w47 w48 w49 w50 w51 w52 w53 => ?_) (fun h54 w55 w56 w57 w58 w59 w60 w61 w62 => ?_) (fun h63 y64 w65 w66 w67 w68 w69 w70 w71 w72 w73 w74 => ?_))
    ·
      have sim_h40 : Sim h40 := Sim_q I_h6.pLn (I_h6.pWnq.2.1) (my_ag.fr w41 rfl) (bg26 w41 (by decide +kernel)) w43 I_h6.pSim
      have I_h40 : LInv h40 := ⟨Ln_ag (my_ag.fr w41 rfl) I_h6.pLn, Mw_ag (my_ag.fr w41 rfl) I_h6.pMw, Mw3_ag (my_ag.fr w41 rfl) I_h6.pMw3, w44, Wrd_ag (my_ag.fr w41 rfl) I_h6.pWrd, Ceq_ag (my_ag.fr w41 rfl) (I_h6.pCeq), Wd9_ag (my_ag.fr w41 rfl) (I_h6.pWd9), Teq_ag (my_ag.fr w41 rfl) (I_h6.pTeq), Wnq_ag (my_ag.fr w41 rfl) (I_h6.pWnq), Hed_ag (my_ag.fr w41 rfl) (I_h6.pHed), sim_h40⟩
      show lwp p l e s m below meth c b D tys sg rho 1145 [(3, 0), (2, 0), (2, 151), (2, 203), (0, i), (9, 0), (9, 0)] [(0, (-1))] h40 kn
      refine lw_pop gz_0_1145 rfl ?_
      refine lw_goto (t := 1878) gz_0_1146 rfl ?_
      exact K h40 I_h40
    ·
      have sim_h45 : Sim h45 := Sim_q I_h6.pLn (I_h6.pWnq.2.1) (my_ag.fr w46 rfl) (bg26 w46 (by decide +kernel)) w52 I_h6.pSim
      have I_h45 : LInv h45 := ⟨Ln_ag (my_ag.fr w46 rfl) I_h6.pLn, Mw_ag (my_ag.fr w46 rfl) I_h6.pMw, Mw3_ag (my_ag.fr w46 rfl) I_h6.pMw3, w53, Wrd_ag (my_ag.fr w46 rfl) I_h6.pWrd, Ceq_ag (my_ag.fr w46 rfl) (I_h6.pCeq), Wd9_ag (my_ag.fr w46 rfl) (I_h6.pWd9), Teq_ag (my_ag.fr w46 rfl) (I_h6.pTeq), Wnq_ag (my_ag.fr w46 rfl) (I_h6.pWnq), Hed_ag (my_ag.fr w46 rfl) (I_h6.pHed), sim_h45⟩
      show lwp p l e s m below meth c b D tys sg rho 1145 [(3, 0), (2, 0), (2, 151), (2, 203), (0, i), (9, 0), (9, 0)] [(0, 0)] h45 kn
      refine lw_pop gz_0_1145 rfl ?_
      refine lw_goto (t := 1878) gz_0_1146 rfl ?_
      exact K h45 I_h45
    ·
      have sim_h54 : Sim h54 := Sim_q I_h6.pLn (I_h6.pWnq.2.1) (my_ag.fr w55 rfl) (bg26 w55 (by decide +kernel)) w61 I_h6.pSim
      have I_h54 : LInv h54 := ⟨Ln_ag (my_ag.fr w55 rfl) I_h6.pLn, Mw_ag (my_ag.fr w55 rfl) I_h6.pMw, Mw3_ag (my_ag.fr w55 rfl) I_h6.pMw3, w62, Wrd_ag (my_ag.fr w55 rfl) I_h6.pWrd, Ceq_ag (my_ag.fr w55 rfl) (I_h6.pCeq), Wd9_ag (my_ag.fr w55 rfl) (I_h6.pWd9), Teq_ag (my_ag.fr w55 rfl) (I_h6.pTeq), Wnq_ag (my_ag.fr w55 rfl) (I_h6.pWnq), Hed_ag (my_ag.fr w55 rfl) (I_h6.pHed), sim_h54⟩
      show lwp p l e s m below meth c b D tys sg rho 1145 [(3, 0), (2, 0), (2, 151), (2, 203), (0, i), (9, 0), (9, 0)] [(0, 1)] h54 kn
      refine lw_pop gz_0_1145 rfl ?_
      refine lw_goto (t := 1878) gz_0_1146 rfl ?_
      exact K h54 I_h54
    ·
      have sim_h63 : Sim h63 := Sim_q I_h6.pLn (I_h6.pWnq.2.1) (my_ag.fr w65 rfl) (bg26 w65 (by decide +kernel)) w73 I_h6.pSim
      have I_h63 : LInv h63 := ⟨Ln_ag (my_ag.fr w65 rfl) I_h6.pLn, Mw_ag (my_ag.fr w65 rfl) I_h6.pMw, Mw3_ag (my_ag.fr w65 rfl) I_h6.pMw3, w74, Wrd_ag (my_ag.fr w65 rfl) I_h6.pWrd, Ceq_ag (my_ag.fr w65 rfl) (I_h6.pCeq), Wd9_ag (my_ag.fr w65 rfl) (I_h6.pWd9), Teq_ag (my_ag.fr w65 rfl) (I_h6.pTeq), Wnq_ag (my_ag.fr w65 rfl) (I_h6.pWnq), Hed_ag (my_ag.fr w65 rfl) (I_h6.pHed), sim_h63⟩
      show lwp p l e s m below meth c b D tys sg rho 1145 [(3, 0), (2, 0), (2, 151), (2, 203), (0, i), (9, 0), (9, 0)] [(0, y64)] h63 kn
      refine lw_pop gz_0_1145 rfl ?_
      refine lw_goto (t := 1878) gz_0_1146 rfl ?_
      exact K h63 I_h63
  ·
    have sim_h10 : Sim h10 := Sim_q I.pLn (I.pWnq.2.1) (my_ag.fr w11 rfl) (fun k j a b => w16 k j (by omega) (by omega)) (Ot9_e (fun j => my_fr.at w11 qis_162 rfl) (fun j => my_fr.at w11 qis_163 rfl)) I.pSim
    have I_h10 : LInv h10 := ⟨w17, Mw_ag (my_ag.fr w11 rfl) I.pMw, Mw3_ag (my_ag.fr w11 rfl) I.pMw3, Rws_ag (my_ag.fr w11 rfl) I.pRws, Wrd_ag (my_ag.fr w11 rfl) I.pWrd, Ceq_ag (my_ag.fr w11 rfl) (I.pCeq), Wd9_ag (my_ag.fr w11 rfl) (I.pWd9), Teq_ag (my_ag.fr w11 rfl) (I.pTeq), Wnq_ag (my_ag.fr w11 rfl) (I.pWnq), Hed_ag (my_ag.fr w11 rfl) (I.pHed), sim_h10⟩
    show lwp p l e s m below meth c b D tys sg rho 1110 [(3, 0), (2, 0), (2, 151), (2, 203), (0, i), (9, 0), (9, 0)] [(0, 0)] h10 kn
    refine lw_pop gz_0_1110 rfl ?_
    refine lw_aload_n gz_0_1111 rfl ?_
    refine lw_aload3_n gz_0_1112 rfl ?_
    refine lw_iload gz_0_1113 rfl ?_
    refine lw_iconst gz_0_1115 (by decide) ?_
    refine lw_iadd gz_0_1116 ⟨by omega, by omega⟩ ?_
    refine lw_sl gz_0_1117 hL4 hL (by omega) (by omega) (fun z75 ez75 pz75 qz75 => ?_)
    refine lw_aload3_n gz_0_1118 rfl ?_
    refine lw_iload gz_0_1119 rfl ?_
    refine lw_iconst gz_0_1121 (by decide) ?_
    refine lw_iadd gz_0_1122 ⟨by omega, by omega⟩ ?_
    refine lw_sl gz_0_1123 hL4 hL (by omega) (by omega) (fun z76 ez76 pz76 qz76 => ?_)
    refine lw_aload3_n gz_0_1124 rfl ?_
    refine lw_iload gz_0_1125 rfl ?_
    refine lw_iconst gz_0_1127 (by decide) ?_
    refine lw_iadd gz_0_1128 ⟨by omega, by omega⟩ ?_
    refine lw_sl gz_0_1129 hL4 hL (by omega) (by omega) (fun z77 ez77 pz77 qz77 => ?_)
    refine lw_aload3_n gz_0_1130 rfl ?_
    refine lw_iload gz_0_1131 rfl ?_
    refine lw_iconst gz_0_1133 (by decide) ?_
    refine lw_iadd gz_0_1134 ⟨by omega, by omega⟩ ?_
    refine lw_sl gz_0_1135 hL4 hL (by omega) (by omega) (fun z78 ez78 pz78 qz78 => ?_)
    refine lw_aload3_n gz_0_1136 rfl ?_
    refine lw_iload gz_0_1137 rfl ?_
    refine lw_iconst gz_0_1139 (by decide) ?_
    refine lw_iadd gz_0_1140 ⟨by omega, by omega⟩ ?_
    refine lw_sl gz_0_1141 hL4 hL (by omega) (by omega) (fun z79 ez79 pz79 qz79 => ?_)
    refine lw_inv (kz := 1) (as := [(0, z79), (0, z78), (0, z77), (0, z76), (0, z75)]) (r := []) (x := 151) (ls0 := [(2, 151), (0, z75), (0, z76), (0, z77), (0, z78), (0, z79), (9, 0)]) gz_0_1142 gm_228 rfl is_151 rd_10 rfl rfl rfl rfl rfl (c_Model_why4 (d := 24) (x1 := z75) (x2 := z76) (x3 := z77) (x4 := z78) (x5 := z79) I_h10.pMw I_h10.pMw3 I_h10.pRws (I_h10.pSim.1.2.1) (fun h80 w81 w82 w83 w84 => ?_) (fun h85 w86 w87 w88 w89 w90 w91 w92 w93 => ?_) (fun h94 w95 w96 w97 w98 w99 w100 w101 w102 => ?_) (fun h103 y104 w105 w106 w107 w108 w109 w110 w111 w112 w113 w114 => ?_))
    ·
      have sim_h80 : Sim h80 := Sim_q I_h10.pLn (I_h10.pWnq.2.1) (my_ag.fr w81 rfl) (bg26 w81 (by decide +kernel)) w83 I_h10.pSim
      have I_h80 : LInv h80 := ⟨Ln_ag (my_ag.fr w81 rfl) I_h10.pLn, Mw_ag (my_ag.fr w81 rfl) I_h10.pMw, Mw3_ag (my_ag.fr w81 rfl) I_h10.pMw3, w84, Wrd_ag (my_ag.fr w81 rfl) I_h10.pWrd, Ceq_ag (my_ag.fr w81 rfl) (I_h10.pCeq), Wd9_ag (my_ag.fr w81 rfl) (I_h10.pWd9), Teq_ag (my_ag.fr w81 rfl) (I_h10.pTeq), Wnq_ag (my_ag.fr w81 rfl) (I_h10.pWnq), Hed_ag (my_ag.fr w81 rfl) (I_h10.pHed), sim_h80⟩
      show lwp p l e s m below meth c b D tys sg rho 1145 [(3, 0), (2, 0), (2, 151), (2, 203), (0, i), (9, 0), (9, 0)] [(0, (-1))] h80 kn
      refine lw_pop gz_0_1145 rfl ?_
      refine lw_goto (t := 1878) gz_0_1146 rfl ?_
      exact K h80 I_h80
    ·
      have sim_h85 : Sim h85 := Sim_q I_h10.pLn (I_h10.pWnq.2.1) (my_ag.fr w86 rfl) (bg26 w86 (by decide +kernel)) w92 I_h10.pSim
      have I_h85 : LInv h85 := ⟨Ln_ag (my_ag.fr w86 rfl) I_h10.pLn, Mw_ag (my_ag.fr w86 rfl) I_h10.pMw, Mw3_ag (my_ag.fr w86 rfl) I_h10.pMw3, w93, Wrd_ag (my_ag.fr w86 rfl) I_h10.pWrd, Ceq_ag (my_ag.fr w86 rfl) (I_h10.pCeq), Wd9_ag (my_ag.fr w86 rfl) (I_h10.pWd9), Teq_ag (my_ag.fr w86 rfl) (I_h10.pTeq), Wnq_ag (my_ag.fr w86 rfl) (I_h10.pWnq), Hed_ag (my_ag.fr w86 rfl) (I_h10.pHed), sim_h85⟩
      show lwp p l e s m below meth c b D tys sg rho 1145 [(3, 0), (2, 0), (2, 151), (2, 203), (0, i), (9, 0), (9, 0)] [(0, 0)] h85 kn
      refine lw_pop gz_0_1145 rfl ?_
      refine lw_goto (t := 1878) gz_0_1146 rfl ?_
      exact K h85 I_h85
    ·
      have sim_h94 : Sim h94 := Sim_q I_h10.pLn (I_h10.pWnq.2.1) (my_ag.fr w95 rfl) (bg26 w95 (by decide +kernel)) w101 I_h10.pSim
      have I_h94 : LInv h94 := ⟨Ln_ag (my_ag.fr w95 rfl) I_h10.pLn, Mw_ag (my_ag.fr w95 rfl) I_h10.pMw, Mw3_ag (my_ag.fr w95 rfl) I_h10.pMw3, w102, Wrd_ag (my_ag.fr w95 rfl) I_h10.pWrd, Ceq_ag (my_ag.fr w95 rfl) (I_h10.pCeq), Wd9_ag (my_ag.fr w95 rfl) (I_h10.pWd9), Teq_ag (my_ag.fr w95 rfl) (I_h10.pTeq), Wnq_ag (my_ag.fr w95 rfl) (I_h10.pWnq), Hed_ag (my_ag.fr w95 rfl) (I_h10.pHed), sim_h94⟩
      show lwp p l e s m below meth c b D tys sg rho 1145 [(3, 0), (2, 0), (2, 151), (2, 203), (0, i), (9, 0), (9, 0)] [(0, 1)] h94 kn
      refine lw_pop gz_0_1145 rfl ?_
      refine lw_goto (t := 1878) gz_0_1146 rfl ?_
      exact K h94 I_h94
    ·
      have sim_h103 : Sim h103 := Sim_q I_h10.pLn (I_h10.pWnq.2.1) (my_ag.fr w105 rfl) (bg26 w105 (by decide +kernel)) w113 I_h10.pSim
      have I_h103 : LInv h103 := ⟨Ln_ag (my_ag.fr w105 rfl) I_h10.pLn, Mw_ag (my_ag.fr w105 rfl) I_h10.pMw, Mw3_ag (my_ag.fr w105 rfl) I_h10.pMw3, w114, Wrd_ag (my_ag.fr w105 rfl) I_h10.pWrd, Ceq_ag (my_ag.fr w105 rfl) (I_h10.pCeq), Wd9_ag (my_ag.fr w105 rfl) (I_h10.pWd9), Teq_ag (my_ag.fr w105 rfl) (I_h10.pTeq), Wnq_ag (my_ag.fr w105 rfl) (I_h10.pWnq), Hed_ag (my_ag.fr w105 rfl) (I_h10.pHed), sim_h103⟩
      show lwp p l e s m below meth c b D tys sg rho 1145 [(3, 0), (2, 0), (2, 151), (2, 203), (0, i), (9, 0), (9, 0)] [(0, y104)] h103 kn
      refine lw_pop gz_0_1145 rfl ?_
      refine lw_goto (t := 1878) gz_0_1146 rfl ?_
      exact K h103 I_h103
  ·
    have sim_h18 : Sim h18 := Sim_q I.pLn (I.pWnq.2.1) (my_ag.fr w19 rfl) (fun k j a b => w24 k j (by omega) (by omega)) (Ot9_e (fun j => my_fr.at w19 qis_162 rfl) (fun j => my_fr.at w19 qis_163 rfl)) I.pSim
    have I_h18 : LInv h18 := ⟨w25, Mw_ag (my_ag.fr w19 rfl) I.pMw, Mw3_ag (my_ag.fr w19 rfl) I.pMw3, Rws_ag (my_ag.fr w19 rfl) I.pRws, Wrd_ag (my_ag.fr w19 rfl) I.pWrd, Ceq_ag (my_ag.fr w19 rfl) (I.pCeq), Wd9_ag (my_ag.fr w19 rfl) (I.pWd9), Teq_ag (my_ag.fr w19 rfl) (I.pTeq), Wnq_ag (my_ag.fr w19 rfl) (I.pWnq), Hed_ag (my_ag.fr w19 rfl) (I.pHed), sim_h18⟩
    show lwp p l e s m below meth c b D tys sg rho 1110 [(3, 0), (2, 0), (2, 151), (2, 203), (0, i), (9, 0), (9, 0)] [(0, 1)] h18 kn
    refine lw_pop gz_0_1110 rfl ?_
    refine lw_aload_n gz_0_1111 rfl ?_
    refine lw_aload3_n gz_0_1112 rfl ?_
    refine lw_iload gz_0_1113 rfl ?_
    refine lw_iconst gz_0_1115 (by decide) ?_
    refine lw_iadd gz_0_1116 ⟨by omega, by omega⟩ ?_
    refine lw_sl gz_0_1117 hL4 hL (by omega) (by omega) (fun z115 ez115 pz115 qz115 => ?_)
    refine lw_aload3_n gz_0_1118 rfl ?_
    refine lw_iload gz_0_1119 rfl ?_
    refine lw_iconst gz_0_1121 (by decide) ?_
    refine lw_iadd gz_0_1122 ⟨by omega, by omega⟩ ?_
    refine lw_sl gz_0_1123 hL4 hL (by omega) (by omega) (fun z116 ez116 pz116 qz116 => ?_)
    refine lw_aload3_n gz_0_1124 rfl ?_
    refine lw_iload gz_0_1125 rfl ?_
    refine lw_iconst gz_0_1127 (by decide) ?_
    refine lw_iadd gz_0_1128 ⟨by omega, by omega⟩ ?_
    refine lw_sl gz_0_1129 hL4 hL (by omega) (by omega) (fun z117 ez117 pz117 qz117 => ?_)
    refine lw_aload3_n gz_0_1130 rfl ?_
    refine lw_iload gz_0_1131 rfl ?_
    refine lw_iconst gz_0_1133 (by decide) ?_
    refine lw_iadd gz_0_1134 ⟨by omega, by omega⟩ ?_
    refine lw_sl gz_0_1135 hL4 hL (by omega) (by omega) (fun z118 ez118 pz118 qz118 => ?_)
    refine lw_aload3_n gz_0_1136 rfl ?_
    refine lw_iload gz_0_1137 rfl ?_
    refine lw_iconst gz_0_1139 (by decide) ?_
    refine lw_iadd gz_0_1140 ⟨by omega, by omega⟩ ?_
    refine lw_sl gz_0_1141 hL4 hL (by omega) (by omega) (fun z119 ez119 pz119 qz119 => ?_)
    refine lw_inv (kz := 1) (as := [(0, z119), (0, z118), (0, z117), (0, z116), (0, z115)]) (r := []) (x := 151) (ls0 := [(2, 151), (0, z115), (0, z116), (0, z117), (0, z118), (0, z119), (9, 0)]) gz_0_1142 gm_228 rfl is_151 rd_10 rfl rfl rfl rfl rfl (c_Model_why4 (d := 24) (x1 := z115) (x2 := z116) (x3 := z117) (x4 := z118) (x5 := z119) I_h18.pMw I_h18.pMw3 I_h18.pRws (I_h18.pSim.1.2.1) (fun h120 w121 w122 w123 w124 => ?_) (fun h125 w126 w127 w128 w129 w130 w131 w132 w133 => ?_) (fun h134 w135 w136 w137 w138 w139 w140 w141 w142 => ?_) (fun h143 y144 w145 w146 w147 w148 w149 w150 w151 w152 w153 w154 => ?_))
    ·
      have sim_h120 : Sim h120 := Sim_q I_h18.pLn (I_h18.pWnq.2.1) (my_ag.fr w121 rfl) (bg26 w121 (by decide +kernel)) w123 I_h18.pSim
      have I_h120 : LInv h120 := ⟨Ln_ag (my_ag.fr w121 rfl) I_h18.pLn, Mw_ag (my_ag.fr w121 rfl) I_h18.pMw, Mw3_ag (my_ag.fr w121 rfl) I_h18.pMw3, w124, Wrd_ag (my_ag.fr w121 rfl) I_h18.pWrd, Ceq_ag (my_ag.fr w121 rfl) (I_h18.pCeq), Wd9_ag (my_ag.fr w121 rfl) (I_h18.pWd9), Teq_ag (my_ag.fr w121 rfl) (I_h18.pTeq), Wnq_ag (my_ag.fr w121 rfl) (I_h18.pWnq), Hed_ag (my_ag.fr w121 rfl) (I_h18.pHed), sim_h120⟩
      show lwp p l e s m below meth c b D tys sg rho 1145 [(3, 0), (2, 0), (2, 151), (2, 203), (0, i), (9, 0), (9, 0)] [(0, (-1))] h120 kn
      refine lw_pop gz_0_1145 rfl ?_
      refine lw_goto (t := 1878) gz_0_1146 rfl ?_
      exact K h120 I_h120
    ·
      have sim_h125 : Sim h125 := Sim_q I_h18.pLn (I_h18.pWnq.2.1) (my_ag.fr w126 rfl) (bg26 w126 (by decide +kernel)) w132 I_h18.pSim
      have I_h125 : LInv h125 := ⟨Ln_ag (my_ag.fr w126 rfl) I_h18.pLn, Mw_ag (my_ag.fr w126 rfl) I_h18.pMw, Mw3_ag (my_ag.fr w126 rfl) I_h18.pMw3, w133, Wrd_ag (my_ag.fr w126 rfl) I_h18.pWrd, Ceq_ag (my_ag.fr w126 rfl) (I_h18.pCeq), Wd9_ag (my_ag.fr w126 rfl) (I_h18.pWd9), Teq_ag (my_ag.fr w126 rfl) (I_h18.pTeq), Wnq_ag (my_ag.fr w126 rfl) (I_h18.pWnq), Hed_ag (my_ag.fr w126 rfl) (I_h18.pHed), sim_h125⟩
      show lwp p l e s m below meth c b D tys sg rho 1145 [(3, 0), (2, 0), (2, 151), (2, 203), (0, i), (9, 0), (9, 0)] [(0, 0)] h125 kn
      refine lw_pop gz_0_1145 rfl ?_
      refine lw_goto (t := 1878) gz_0_1146 rfl ?_
      exact K h125 I_h125
    ·
      have sim_h134 : Sim h134 := Sim_q I_h18.pLn (I_h18.pWnq.2.1) (my_ag.fr w135 rfl) (bg26 w135 (by decide +kernel)) w141 I_h18.pSim
      have I_h134 : LInv h134 := ⟨Ln_ag (my_ag.fr w135 rfl) I_h18.pLn, Mw_ag (my_ag.fr w135 rfl) I_h18.pMw, Mw3_ag (my_ag.fr w135 rfl) I_h18.pMw3, w142, Wrd_ag (my_ag.fr w135 rfl) I_h18.pWrd, Ceq_ag (my_ag.fr w135 rfl) (I_h18.pCeq), Wd9_ag (my_ag.fr w135 rfl) (I_h18.pWd9), Teq_ag (my_ag.fr w135 rfl) (I_h18.pTeq), Wnq_ag (my_ag.fr w135 rfl) (I_h18.pWnq), Hed_ag (my_ag.fr w135 rfl) (I_h18.pHed), sim_h134⟩
      show lwp p l e s m below meth c b D tys sg rho 1145 [(3, 0), (2, 0), (2, 151), (2, 203), (0, i), (9, 0), (9, 0)] [(0, 1)] h134 kn
      refine lw_pop gz_0_1145 rfl ?_
      refine lw_goto (t := 1878) gz_0_1146 rfl ?_
      exact K h134 I_h134
    ·
      have sim_h143 : Sim h143 := Sim_q I_h18.pLn (I_h18.pWnq.2.1) (my_ag.fr w145 rfl) (bg26 w145 (by decide +kernel)) w153 I_h18.pSim
      have I_h143 : LInv h143 := ⟨Ln_ag (my_ag.fr w145 rfl) I_h18.pLn, Mw_ag (my_ag.fr w145 rfl) I_h18.pMw, Mw3_ag (my_ag.fr w145 rfl) I_h18.pMw3, w154, Wrd_ag (my_ag.fr w145 rfl) I_h18.pWrd, Ceq_ag (my_ag.fr w145 rfl) (I_h18.pCeq), Wd9_ag (my_ag.fr w145 rfl) (I_h18.pWd9), Teq_ag (my_ag.fr w145 rfl) (I_h18.pTeq), Wnq_ag (my_ag.fr w145 rfl) (I_h18.pWnq), Hed_ag (my_ag.fr w145 rfl) (I_h18.pHed), sim_h143⟩
      show lwp p l e s m below meth c b D tys sg rho 1145 [(3, 0), (2, 0), (2, 151), (2, 203), (0, i), (9, 0), (9, 0)] [(0, y144)] h143 kn
      refine lw_pop gz_0_1145 rfl ?_
      refine lw_goto (t := 1878) gz_0_1146 rfl ?_
      exact K h143 I_h143
  ·
    have sim_h26 : Sim h26 := Sim_q I.pLn (I.pWnq.2.1) (my_ag.fr w28 rfl) (fun k j a b => w33 k j (by omega) (by omega)) (Ot9_e (fun j => my_fr.at w28 qis_162 rfl) (fun j => my_fr.at w28 qis_163 rfl)) I.pSim
    have I_h26 : LInv h26 := ⟨w34, Mw_ag (my_ag.fr w28 rfl) I.pMw, Mw3_ag (my_ag.fr w28 rfl) I.pMw3, Rws_ag (my_ag.fr w28 rfl) I.pRws, Wrd_ag (my_ag.fr w28 rfl) I.pWrd, Ceq_ag (my_ag.fr w28 rfl) (I.pCeq), Wd9_ag (my_ag.fr w28 rfl) (I.pWd9), Teq_ag (my_ag.fr w28 rfl) (I.pTeq), Wnq_ag (my_ag.fr w28 rfl) (I.pWnq), Hed_ag (my_ag.fr w28 rfl) (I.pHed), sim_h26⟩
    show lwp p l e s m below meth c b D tys sg rho 1110 [(3, 0), (2, 0), (2, 151), (2, 203), (0, i), (9, 0), (9, 0)] [(0, y27)] h26 kn
    refine lw_pop gz_0_1110 rfl ?_
    refine lw_aload_n gz_0_1111 rfl ?_
    refine lw_aload3_n gz_0_1112 rfl ?_
    refine lw_iload gz_0_1113 rfl ?_
    refine lw_iconst gz_0_1115 (by decide) ?_
    refine lw_iadd gz_0_1116 ⟨by omega, by omega⟩ ?_
    refine lw_sl gz_0_1117 hL4 hL (by omega) (by omega) (fun z155 ez155 pz155 qz155 => ?_)
    refine lw_aload3_n gz_0_1118 rfl ?_
    refine lw_iload gz_0_1119 rfl ?_
    refine lw_iconst gz_0_1121 (by decide) ?_
    refine lw_iadd gz_0_1122 ⟨by omega, by omega⟩ ?_
    refine lw_sl gz_0_1123 hL4 hL (by omega) (by omega) (fun z156 ez156 pz156 qz156 => ?_)
    refine lw_aload3_n gz_0_1124 rfl ?_
    refine lw_iload gz_0_1125 rfl ?_
    refine lw_iconst gz_0_1127 (by decide) ?_
    refine lw_iadd gz_0_1128 ⟨by omega, by omega⟩ ?_
    refine lw_sl gz_0_1129 hL4 hL (by omega) (by omega) (fun z157 ez157 pz157 qz157 => ?_)
    refine lw_aload3_n gz_0_1130 rfl ?_
    refine lw_iload gz_0_1131 rfl ?_
    refine lw_iconst gz_0_1133 (by decide) ?_
    refine lw_iadd gz_0_1134 ⟨by omega, by omega⟩ ?_
    refine lw_sl gz_0_1135 hL4 hL (by omega) (by omega) (fun z158 ez158 pz158 qz158 => ?_)
    refine lw_aload3_n gz_0_1136 rfl ?_
    refine lw_iload gz_0_1137 rfl ?_
    refine lw_iconst gz_0_1139 (by decide) ?_
    refine lw_iadd gz_0_1140 ⟨by omega, by omega⟩ ?_
    refine lw_sl gz_0_1141 hL4 hL (by omega) (by omega) (fun z159 ez159 pz159 qz159 => ?_)
    refine lw_inv (kz := 1) (as := [(0, z159), (0, z158), (0, z157), (0, z156), (0, z155)]) (r := []) (x := 151) (ls0 := [(2, 151), (0, z155), (0, z156), (0, z157), (0, z158), (0, z159), (9, 0)]) gz_0_1142 gm_228 rfl is_151 rd_10 rfl rfl rfl rfl rfl (c_Model_why4 (d := 24) (x1 := z155) (x2 := z156) (x3 := z157) (x4 := z158) (x5 := z159) I_h26.pMw I_h26.pMw3 I_h26.pRws (I_h26.pSim.1.2.1) (fun h160 w161 w162 w163 w164 => ?_) (fun h165 w166 w167 w168 w169 w170 w171 w172 w173 => ?_) (fun h174 w175 w176 w177 w178 w179 w180 w181 w182 => ?_) (fun h183 y184 w185 w186 w187 w188 w189 w190 w191 w192 w193 w194 => ?_))
    ·
      have sim_h160 : Sim h160 := Sim_q I_h26.pLn (I_h26.pWnq.2.1) (my_ag.fr w161 rfl) (bg26 w161 (by decide +kernel)) w163 I_h26.pSim
      have I_h160 : LInv h160 := ⟨Ln_ag (my_ag.fr w161 rfl) I_h26.pLn, Mw_ag (my_ag.fr w161 rfl) I_h26.pMw, Mw3_ag (my_ag.fr w161 rfl) I_h26.pMw3, w164, Wrd_ag (my_ag.fr w161 rfl) I_h26.pWrd, Ceq_ag (my_ag.fr w161 rfl) (I_h26.pCeq), Wd9_ag (my_ag.fr w161 rfl) (I_h26.pWd9), Teq_ag (my_ag.fr w161 rfl) (I_h26.pTeq), Wnq_ag (my_ag.fr w161 rfl) (I_h26.pWnq), Hed_ag (my_ag.fr w161 rfl) (I_h26.pHed), sim_h160⟩
      show lwp p l e s m below meth c b D tys sg rho 1145 [(3, 0), (2, 0), (2, 151), (2, 203), (0, i), (9, 0), (9, 0)] [(0, (-1))] h160 kn
      refine lw_pop gz_0_1145 rfl ?_
      refine lw_goto (t := 1878) gz_0_1146 rfl ?_
      exact K h160 I_h160
    ·
      have sim_h165 : Sim h165 := Sim_q I_h26.pLn (I_h26.pWnq.2.1) (my_ag.fr w166 rfl) (bg26 w166 (by decide +kernel)) w172 I_h26.pSim
      have I_h165 : LInv h165 := ⟨Ln_ag (my_ag.fr w166 rfl) I_h26.pLn, Mw_ag (my_ag.fr w166 rfl) I_h26.pMw, Mw3_ag (my_ag.fr w166 rfl) I_h26.pMw3, w173, Wrd_ag (my_ag.fr w166 rfl) I_h26.pWrd, Ceq_ag (my_ag.fr w166 rfl) (I_h26.pCeq), Wd9_ag (my_ag.fr w166 rfl) (I_h26.pWd9), Teq_ag (my_ag.fr w166 rfl) (I_h26.pTeq), Wnq_ag (my_ag.fr w166 rfl) (I_h26.pWnq), Hed_ag (my_ag.fr w166 rfl) (I_h26.pHed), sim_h165⟩
      show lwp p l e s m below meth c b D tys sg rho 1145 [(3, 0), (2, 0), (2, 151), (2, 203), (0, i), (9, 0), (9, 0)] [(0, 0)] h165 kn
      refine lw_pop gz_0_1145 rfl ?_
      refine lw_goto (t := 1878) gz_0_1146 rfl ?_
      exact K h165 I_h165
    ·
      have sim_h174 : Sim h174 := Sim_q I_h26.pLn (I_h26.pWnq.2.1) (my_ag.fr w175 rfl) (bg26 w175 (by decide +kernel)) w181 I_h26.pSim
      have I_h174 : LInv h174 := ⟨Ln_ag (my_ag.fr w175 rfl) I_h26.pLn, Mw_ag (my_ag.fr w175 rfl) I_h26.pMw, Mw3_ag (my_ag.fr w175 rfl) I_h26.pMw3, w182, Wrd_ag (my_ag.fr w175 rfl) I_h26.pWrd, Ceq_ag (my_ag.fr w175 rfl) (I_h26.pCeq), Wd9_ag (my_ag.fr w175 rfl) (I_h26.pWd9), Teq_ag (my_ag.fr w175 rfl) (I_h26.pTeq), Wnq_ag (my_ag.fr w175 rfl) (I_h26.pWnq), Hed_ag (my_ag.fr w175 rfl) (I_h26.pHed), sim_h174⟩
      show lwp p l e s m below meth c b D tys sg rho 1145 [(3, 0), (2, 0), (2, 151), (2, 203), (0, i), (9, 0), (9, 0)] [(0, 1)] h174 kn
      refine lw_pop gz_0_1145 rfl ?_
      refine lw_goto (t := 1878) gz_0_1146 rfl ?_
      exact K h174 I_h174
    ·
      have sim_h183 : Sim h183 := Sim_q I_h26.pLn (I_h26.pWnq.2.1) (my_ag.fr w185 rfl) (bg26 w185 (by decide +kernel)) w193 I_h26.pSim
      have I_h183 : LInv h183 := ⟨Ln_ag (my_ag.fr w185 rfl) I_h26.pLn, Mw_ag (my_ag.fr w185 rfl) I_h26.pMw, Mw3_ag (my_ag.fr w185 rfl) I_h26.pMw3, w194, Wrd_ag (my_ag.fr w185 rfl) I_h26.pWrd, Ceq_ag (my_ag.fr w185 rfl) (I_h26.pCeq), Wd9_ag (my_ag.fr w185 rfl) (I_h26.pWd9), Teq_ag (my_ag.fr w185 rfl) (I_h26.pTeq), Wnq_ag (my_ag.fr w185 rfl) (I_h26.pWnq), Hed_ag (my_ag.fr w185 rfl) (I_h26.pHed), sim_h183⟩
      show lwp p l e s m below meth c b D tys sg rho 1145 [(3, 0), (2, 0), (2, 151), (2, 203), (0, i), (9, 0), (9, 0)] [(0, y184)] h183 kn
      refine lw_pop gz_0_1145 rfl ?_
      refine lw_goto (t := 1878) gz_0_1146 rfl ?_
      exact K h183 I_h183
theorem lcase_16 (hL4 : L4 ≤ 4096) (hL : rho 4096 = Int32.ofNat L4) (I : LInv h) (i0 : 0 ≤ i) (i8 : i + 8 ≤ L4) (K : ∀ h' : my_H, LInv h' → lwp p l e s m below meth c b D tys sg rho 1878 [(3, 0), (2, 0), (2, 151), (2, 203), (0, i), (9, 0), (9, 0)] [] h' kn) : lwp p l e s m below meth c b D tys sg rho 1149 [(3, 0), (2, 0), (2, 151), (2, 203), (0, i), (9, 0), (9, 0)] [] h kn := by
  refine lw_aload_n gz_0_1149 rfl ?_
  refine lw_aload3_n gz_0_1150 rfl ?_
  refine lw_iload gz_0_1151 rfl ?_
  refine lw_iconst gz_0_1153 (by decide) ?_
  refine lw_iadd gz_0_1154 ⟨by omega, by omega⟩ ?_
  refine lw_sl gz_0_1155 hL4 hL (by omega) (by omega) (fun z1 ez1 pz1 qz1 => ?_)
  refine lw_aload3_n gz_0_1156 rfl ?_
  refine lw_iload gz_0_1157 rfl ?_
  refine lw_iconst gz_0_1159 (by decide) ?_
  refine lw_iadd gz_0_1160 ⟨by omega, by omega⟩ ?_
  refine lw_sl gz_0_1161 hL4 hL (by omega) (by omega) (fun z2 ez2 pz2 qz2 => ?_)
  refine lw_aload3_n gz_0_1162 rfl ?_
  refine lw_iload gz_0_1163 rfl ?_
  refine lw_iconst gz_0_1165 (by decide) ?_
  refine lw_iadd gz_0_1166 ⟨by omega, by omega⟩ ?_
  refine lw_sl gz_0_1167 hL4 hL (by omega) (by omega) (fun z3 ez3 pz3 qz3 => ?_)
  refine lw_aload3_n gz_0_1168 rfl ?_
  refine lw_iload gz_0_1169 rfl ?_
  refine lw_iconst gz_0_1171 (by decide) ?_
  refine lw_iadd gz_0_1172 ⟨by omega, by omega⟩ ?_
  refine lw_sl gz_0_1173 hL4 hL (by omega) (by omega) (fun z4 ez4 pz4 qz4 => ?_)
  refine lw_aload3_n gz_0_1174 rfl ?_
  refine lw_iload gz_0_1175 rfl ?_
  refine lw_iconst gz_0_1177 (by decide) ?_
  refine lw_iadd gz_0_1178 ⟨by omega, by omega⟩ ?_
  refine lw_sl gz_0_1179 hL4 hL (by omega) (by omega) (fun z5 ez5 pz5 qz5 => ?_)
  refine lw_aload3_n gz_0_1180 rfl ?_
  refine lw_iload gz_0_1181 rfl ?_
  refine lw_bipush gz_0_1183 (by decide) ?_
  refine lw_iadd gz_0_1185 ⟨by omega, by omega⟩ ?_
  refine lw_sl gz_0_1186 hL4 hL (by omega) (by omega) (fun z6 ez6 pz6 qz6 => ?_)
  refine lw_inv (kz := 1) (as := [(0, z6), (0, z5), (0, z4), (0, z3), (0, z2), (0, z1)]) (r := []) (x := 0) (ls0 := [(2, 0), (0, z1), (0, z2), (0, z3), (0, z4), (0, z5), (0, z6), (9, 0)]) gz_0_1187 gm_112 rfl is_0 rd_9 rfl rfl rfl rfl rfl (c_ThroughWindow_barred4 (d := 23) (x1 := z1) (x2 := z2) (x3 := z3) (x4 := z4) (x5 := z5) (x6 := z6) I.pLn (I.pSim.1.1) (I.pSim.2.1.1) (fun h7 w8 w9 w10 => ?_) (fun h11 y12 w13 w14 w15 w16 w17 w18 w19 w20 w21 w22 w23 => ?_))
  ·
    have sim_h7 : Sim h7 := Sim_q I.pLn (I.pWnq.2.1) (my_ag.fr w8 rfl) (fun k j a b => w9 k j (by omega) (by omega)) (Ot9_e (fun j => my_fr.at w8 qis_162 rfl) (fun j => my_fr.at w8 qis_163 rfl)) I.pSim
    have I_h7 : LInv h7 := ⟨w10, Mw_ag (my_ag.fr w8 rfl) I.pMw, Mw3_ag (my_ag.fr w8 rfl) I.pMw3, Rws_ag (my_ag.fr w8 rfl) I.pRws, Wrd_ag (my_ag.fr w8 rfl) I.pWrd, Ceq_ag (my_ag.fr w8 rfl) (I.pCeq), Wd9_ag (my_ag.fr w8 rfl) (I.pWd9), Teq_ag (my_ag.fr w8 rfl) (I.pTeq), Wnq_ag (my_ag.fr w8 rfl) (I.pWnq), Hed_ag (my_ag.fr w8 rfl) (I.pHed), sim_h7⟩
    show lwp p l e s m below meth c b D tys sg rho 1190 [(3, 0), (2, 0), (2, 151), (2, 203), (0, i), (9, 0), (9, 0)] [(0, (-1))] h7 kn
    refine lw_pop gz_0_1190 rfl ?_
    refine lw_aload_n gz_0_1191 rfl ?_
    refine lw_aload3_n gz_0_1192 rfl ?_
    refine lw_iload gz_0_1193 rfl ?_
    refine lw_iconst gz_0_1195 (by decide) ?_
    refine lw_iadd gz_0_1196 ⟨by omega, by omega⟩ ?_
    refine lw_sl gz_0_1197 hL4 hL (by omega) (by omega) (fun z24 ez24 pz24 qz24 => ?_)
    refine lw_aload3_n gz_0_1198 rfl ?_
    refine lw_iload gz_0_1199 rfl ?_
    refine lw_iconst gz_0_1201 (by decide) ?_
    refine lw_iadd gz_0_1202 ⟨by omega, by omega⟩ ?_
    refine lw_sl gz_0_1203 hL4 hL (by omega) (by omega) (fun z25 ez25 pz25 qz25 => ?_)
    refine lw_aload3_n gz_0_1204 rfl ?_
    refine lw_iload gz_0_1205 rfl ?_
    refine lw_iconst gz_0_1207 (by decide) ?_
    refine lw_iadd gz_0_1208 ⟨by omega, by omega⟩ ?_
    refine lw_sl gz_0_1209 hL4 hL (by omega) (by omega) (fun z26 ez26 pz26 qz26 => ?_)
    refine lw_aload3_n gz_0_1210 rfl ?_
    refine lw_iload gz_0_1211 rfl ?_
    refine lw_iconst gz_0_1213 (by decide) ?_
    refine lw_iadd gz_0_1214 ⟨by omega, by omega⟩ ?_
    refine lw_sl gz_0_1215 hL4 hL (by omega) (by omega) (fun z27 ez27 pz27 qz27 => ?_)
    refine lw_aload3_n gz_0_1216 rfl ?_
    refine lw_iload gz_0_1217 rfl ?_
    refine lw_iconst gz_0_1219 (by decide) ?_
    refine lw_iadd gz_0_1220 ⟨by omega, by omega⟩ ?_
    refine lw_sl gz_0_1221 hL4 hL (by omega) (by omega) (fun z28 ez28 pz28 qz28 => ?_)
    refine lw_aload3_n gz_0_1222 rfl ?_
    refine lw_iload gz_0_1223 rfl ?_
    refine lw_bipush gz_0_1225 (by decide) ?_
    refine lw_iadd gz_0_1227 ⟨by omega, by omega⟩ ?_
    refine lw_sl gz_0_1228 hL4 hL (by omega) (by omega) (fun z29 ez29 pz29 qz29 => ?_)
    refine lw_inv (kz := 4) (as := [(0, z29), (0, z28), (0, z27), (0, z26), (0, z25), (0, z24)]) (r := []) (x := 151) (ls0 := [(2, 151), (0, z24), (0, z25), (0, z26), (0, z27), (0, z28), (0, z29), (9, 0), (9, 0), (9, 0), (9, 0)]) gz_0_1229 gm_224 rfl is_151 rd_10 rfl rfl rfl rfl rfl (c_Model_barred4 (d := 24) (x1 := z24) (x2 := z25) (x3 := z26) (x4 := z27) (x5 := z28) (x6 := z29) I_h7.pMw I_h7.pMw3 I_h7.pRws (I_h7.pSim.1.2.1) (fun h30 w31 w32 w33 w34 => ?_) (fun h35 y36 w37 w38 w39 w40 w41 w42 w43 w44 w45 w46 w47 w48 => ?_))
    ·
      have sim_h30 : Sim h30 := Sim_q I_h7.pLn (I_h7.pWnq.2.1) (my_ag.fr w31 rfl) (bg26 w31 (by decide +kernel)) w33 I_h7.pSim
      have I_h30 : LInv h30 := ⟨Ln_ag (my_ag.fr w31 rfl) I_h7.pLn, Mw_ag (my_ag.fr w31 rfl) I_h7.pMw, Mw3_ag (my_ag.fr w31 rfl) I_h7.pMw3, w34, Wrd_ag (my_ag.fr w31 rfl) I_h7.pWrd, Ceq_ag (my_ag.fr w31 rfl) (I_h7.pCeq), Wd9_ag (my_ag.fr w31 rfl) (I_h7.pWd9), Teq_ag (my_ag.fr w31 rfl) (I_h7.pTeq), Wnq_ag (my_ag.fr w31 rfl) (I_h7.pWnq), Hed_ag (my_ag.fr w31 rfl) (I_h7.pHed), sim_h30⟩
      show lwp p l e s m below meth c b D tys sg rho 1232 [(3, 0), (2, 0), (2, 151), (2, 203), (0, i), (9, 0), (9, 0)] [(0, (-1))] h30 kn
      refine lw_pop gz_0_1232 rfl ?_
      refine lw_goto (t := 1878) gz_0_1233 rfl ?_
      exact K h30 I_h30
    ·
      have sim_h35 : Sim h35 := Sim_q I_h7.pLn (I_h7.pWnq.2.1) (my_ag.fr w37 rfl) (bg26 w37 (by decide +kernel)) w47 I_h7.pSim
      have I_h35 : LInv h35 := ⟨Ln_ag (my_ag.fr w37 rfl) I_h7.pLn, Mw_ag (my_ag.fr w37 rfl) I_h7.pMw, Mw3_ag (my_ag.fr w37 rfl) I_h7.pMw3, w48, Wrd_ag (my_ag.fr w37 rfl) I_h7.pWrd, Ceq_ag (my_ag.fr w37 rfl) (I_h7.pCeq), Wd9_ag (my_ag.fr w37 rfl) (I_h7.pWd9), Teq_ag (my_ag.fr w37 rfl) (I_h7.pTeq), Wnq_ag (my_ag.fr w37 rfl) (I_h7.pWnq), Hed_ag (my_ag.fr w37 rfl) (I_h7.pHed), sim_h35⟩
      show lwp p l e s m below meth c b D tys sg rho 1232 [(3, 0), (2, 0), (2, 151), (2, 203), (0, i), (9, 0), (9, 0)] [(0, y36)] h35 kn
      refine lw_pop gz_0_1232 rfl ?_
      refine lw_goto (t := 1878) gz_0_1233 rfl ?_
      exact K h35 I_h35
  ·
    have sim_h11 : Sim h11 := Sim_q I.pLn (I.pWnq.2.1) (my_ag.fr w13 rfl) (fun k j a b => w22 k j (by omega) (by omega)) (Ot9_e (fun j => my_fr.at w13 qis_162 rfl) (fun j => my_fr.at w13 qis_163 rfl)) I.pSim
    have I_h11 : LInv h11 := ⟨w23, Mw_ag (my_ag.fr w13 rfl) I.pMw, Mw3_ag (my_ag.fr w13 rfl) I.pMw3, Rws_ag (my_ag.fr w13 rfl) I.pRws, Wrd_ag (my_ag.fr w13 rfl) I.pWrd, Ceq_ag (my_ag.fr w13 rfl) (I.pCeq), Wd9_ag (my_ag.fr w13 rfl) (I.pWd9), Teq_ag (my_ag.fr w13 rfl) (I.pTeq), Wnq_ag (my_ag.fr w13 rfl) (I.pWnq), Hed_ag (my_ag.fr w13 rfl) (I.pHed), sim_h11⟩
    show lwp p l e s m below meth c b D tys sg rho 1190 [(3, 0), (2, 0), (2, 151), (2, 203), (0, i), (9, 0), (9, 0)] [(0, y12)] h11 kn
    refine lw_pop gz_0_1190 rfl ?_
    refine lw_aload_n gz_0_1191 rfl ?_
    refine lw_aload3_n gz_0_1192 rfl ?_
    refine lw_iload gz_0_1193 rfl ?_
    refine lw_iconst gz_0_1195 (by decide) ?_
    refine lw_iadd gz_0_1196 ⟨by omega, by omega⟩ ?_
    refine lw_sl gz_0_1197 hL4 hL (by omega) (by omega) (fun z49 ez49 pz49 qz49 => ?_)
    refine lw_aload3_n gz_0_1198 rfl ?_
    refine lw_iload gz_0_1199 rfl ?_
    refine lw_iconst gz_0_1201 (by decide) ?_
    refine lw_iadd gz_0_1202 ⟨by omega, by omega⟩ ?_
    refine lw_sl gz_0_1203 hL4 hL (by omega) (by omega) (fun z50 ez50 pz50 qz50 => ?_)
    refine lw_aload3_n gz_0_1204 rfl ?_
    refine lw_iload gz_0_1205 rfl ?_
    refine lw_iconst gz_0_1207 (by decide) ?_
    refine lw_iadd gz_0_1208 ⟨by omega, by omega⟩ ?_
    refine lw_sl gz_0_1209 hL4 hL (by omega) (by omega) (fun z51 ez51 pz51 qz51 => ?_)
    refine lw_aload3_n gz_0_1210 rfl ?_
    refine lw_iload gz_0_1211 rfl ?_
    refine lw_iconst gz_0_1213 (by decide) ?_
    refine lw_iadd gz_0_1214 ⟨by omega, by omega⟩ ?_
    refine lw_sl gz_0_1215 hL4 hL (by omega) (by omega) (fun z52 ez52 pz52 qz52 => ?_)
    refine lw_aload3_n gz_0_1216 rfl ?_
    refine lw_iload gz_0_1217 rfl ?_
    refine lw_iconst gz_0_1219 (by decide) ?_
    refine lw_iadd gz_0_1220 ⟨by omega, by omega⟩ ?_
    refine lw_sl gz_0_1221 hL4 hL (by omega) (by omega) (fun z53 ez53 pz53 qz53 => ?_)
    refine lw_aload3_n gz_0_1222 rfl ?_
    refine lw_iload gz_0_1223 rfl ?_
    refine lw_bipush gz_0_1225 (by decide) ?_
    refine lw_iadd gz_0_1227 ⟨by omega, by omega⟩ ?_
    refine lw_sl gz_0_1228 hL4 hL (by omega) (by omega) (fun z54 ez54 pz54 qz54 => ?_)
    refine lw_inv (kz := 4) (as := [(0, z54), (0, z53), (0, z52), (0, z51), (0, z50), (0, z49)]) (r := []) (x := 151) (ls0 := [(2, 151), (0, z49), (0, z50), (0, z51), (0, z52), (0, z53), (0, z54), (9, 0), (9, 0), (9, 0), (9, 0)]) gz_0_1229 gm_224 rfl is_151 rd_10 rfl rfl rfl rfl rfl (c_Model_barred4 (d := 24) (x1 := z49) (x2 := z50) (x3 := z51) (x4 := z52) (x5 := z53) (x6 := z54) I_h11.pMw I_h11.pMw3 I_h11.pRws (I_h11.pSim.1.2.1) (fun h55 w56 w57 w58 w59 => ?_) (fun h60 y61 w62 w63 w64 w65 w66 w67 w68 w69 w70 w71 w72 w73 => ?_))
    ·
      have sim_h55 : Sim h55 := Sim_q I_h11.pLn (I_h11.pWnq.2.1) (my_ag.fr w56 rfl) (bg26 w56 (by decide +kernel)) w58 I_h11.pSim
      have I_h55 : LInv h55 := ⟨Ln_ag (my_ag.fr w56 rfl) I_h11.pLn, Mw_ag (my_ag.fr w56 rfl) I_h11.pMw, Mw3_ag (my_ag.fr w56 rfl) I_h11.pMw3, w59, Wrd_ag (my_ag.fr w56 rfl) I_h11.pWrd, Ceq_ag (my_ag.fr w56 rfl) (I_h11.pCeq), Wd9_ag (my_ag.fr w56 rfl) (I_h11.pWd9), Teq_ag (my_ag.fr w56 rfl) (I_h11.pTeq), Wnq_ag (my_ag.fr w56 rfl) (I_h11.pWnq), Hed_ag (my_ag.fr w56 rfl) (I_h11.pHed), sim_h55⟩
      show lwp p l e s m below meth c b D tys sg rho 1232 [(3, 0), (2, 0), (2, 151), (2, 203), (0, i), (9, 0), (9, 0)] [(0, (-1))] h55 kn
      refine lw_pop gz_0_1232 rfl ?_
      refine lw_goto (t := 1878) gz_0_1233 rfl ?_
      exact K h55 I_h55
    ·
      have sim_h60 : Sim h60 := Sim_q I_h11.pLn (I_h11.pWnq.2.1) (my_ag.fr w62 rfl) (bg26 w62 (by decide +kernel)) w72 I_h11.pSim
      have I_h60 : LInv h60 := ⟨Ln_ag (my_ag.fr w62 rfl) I_h11.pLn, Mw_ag (my_ag.fr w62 rfl) I_h11.pMw, Mw3_ag (my_ag.fr w62 rfl) I_h11.pMw3, w73, Wrd_ag (my_ag.fr w62 rfl) I_h11.pWrd, Ceq_ag (my_ag.fr w62 rfl) (I_h11.pCeq), Wd9_ag (my_ag.fr w62 rfl) (I_h11.pWd9), Teq_ag (my_ag.fr w62 rfl) (I_h11.pTeq), Wnq_ag (my_ag.fr w62 rfl) (I_h11.pWnq), Hed_ag (my_ag.fr w62 rfl) (I_h11.pHed), sim_h60⟩
      show lwp p l e s m below meth c b D tys sg rho 1232 [(3, 0), (2, 0), (2, 151), (2, 203), (0, i), (9, 0), (9, 0)] [(0, y61)] h60 kn
      refine lw_pop gz_0_1232 rfl ?_
      refine lw_goto (t := 1878) gz_0_1233 rfl ?_
      exact K h60 I_h60
theorem lcase_17 (hL4 : L4 ≤ 4096) (hL : rho 4096 = Int32.ofNat L4) (I : LInv h) (i0 : 0 ≤ i) (i8 : i + 8 ≤ L4) (K : ∀ h' : my_H, LInv h' → lwp p l e s m below meth c b D tys sg rho 1878 [(3, 0), (2, 0), (2, 151), (2, 203), (0, i), (9, 0), (9, 0)] [] h' kn) : lwp p l e s m below meth c b D tys sg rho 1236 [(3, 0), (2, 0), (2, 151), (2, 203), (0, i), (9, 0), (9, 0)] [] h kn := by
  refine lw_all qis_163 rd_62 (fun r163 => ?_)
  refine lw_all qis_162 rd_61 (fun r162 => ?_)
  refine lw_all pis_160 rd_59 (fun r160 => ?_)
  refine lw_all mis_157 rd_56 (fun r157 => ?_)
  refine lw_all mis_164 rd_63 (fun r164 => ?_)
  refine lw_all pis_188 rd_87 (fun r188 => ?_)
  refine lw_all pis_173 rd_72 (fun r173 => ?_)
  refine lw_all mis_166 rd_65 (fun r166 => ?_)
  have rT : PuT h := ⟨⟨fun j a b => r163 j a (by omega), fun j a b => r162 j a (by omega), fun j a b => r160 j a (by omega), fun j a b => r157 j a (by omega)⟩, fun j a b => r164 j a (by omega), fun j a b => r188 j a (by omega), fun j a b => (r173 j a (by omega)).2, fun j a b => by have q := r166 j a (by omega); omega⟩
  refine lw_aload_n gz_0_1236 rfl ?_
  refine lw_aload3_n gz_0_1237 rfl ?_
  refine lw_iload gz_0_1238 rfl ?_
  refine lw_iconst gz_0_1240 (by decide) ?_
  refine lw_iadd gz_0_1241 ⟨by omega, by omega⟩ ?_
  refine lw_sl gz_0_1242 hL4 hL (by omega) (by omega) (fun z1 ez1 pz1 qz1 => ?_)
  refine lw_aload3_n gz_0_1243 rfl ?_
  refine lw_iload gz_0_1244 rfl ?_
  refine lw_iconst gz_0_1246 (by decide) ?_
  refine lw_iadd gz_0_1247 ⟨by omega, by omega⟩ ?_
  refine lw_sl gz_0_1248 hL4 hL (by omega) (by omega) (fun z2 ez2 pz2 qz2 => ?_)
  refine lw_aload3_n gz_0_1249 rfl ?_
  refine lw_iload gz_0_1250 rfl ?_
  refine lw_iconst gz_0_1252 (by decide) ?_
  refine lw_iadd gz_0_1253 ⟨by omega, by omega⟩ ?_
  refine lw_sl gz_0_1254 hL4 hL (by omega) (by omega) (fun z3 ez3 pz3 qz3 => ?_)
  refine lw_aload3_n gz_0_1255 rfl ?_
  refine lw_iload gz_0_1256 rfl ?_
  refine lw_iconst gz_0_1258 (by decide) ?_
  refine lw_iadd gz_0_1259 ⟨by omega, by omega⟩ ?_
  refine lw_sl gz_0_1260 hL4 hL (by omega) (by omega) (fun z4 ez4 pz4 qz4 => ?_)
  refine lw_aload3_n gz_0_1261 rfl ?_
  refine lw_iload gz_0_1262 rfl ?_
  refine lw_iconst gz_0_1264 (by decide) ?_
  refine lw_iadd gz_0_1265 ⟨by omega, by omega⟩ ?_
  refine lw_sl gz_0_1266 hL4 hL (by omega) (by omega) (fun z5 ez5 pz5 qz5 => ?_)
  refine lw_inv (kz := 1) (as := [(0, z5), (0, z4), (0, z3), (0, z2), (0, z1)]) (r := []) (x := 0) (ls0 := [(2, 0), (0, z1), (0, z2), (0, z3), (0, z4), (0, z5), (9, 0)]) gz_0_1267 gm_113 rfl is_0 rd_9 rfl rfl rfl rfl rfl (c_ThroughWindow_put5 (d := 22) (x1 := z1) (x2 := z2) (x3 := z3) (x4 := z4) (x5 := z5) I.pLn (I.pSim.1.1) (I.pSim.2.1.1) (fun h6 w7 w8 w9 => ?_) (fun h10 y11 w12 w13 w14 w15 w16 w17 w18 w19 w20 w21 => ?_))
  ·
    have J_h6 : LBas h6 := ⟨w9, Mw_ag (my_ag.fr w7 rfl) I.pMw, Mw3_ag (my_ag.fr w7 rfl) I.pMw3, Rws_ag (my_ag.fr w7 rfl) I.pRws, Wrd_ag (my_ag.fr w7 rfl) I.pWrd⟩
    have jLm_h6 : LmW h6 := LmW_ag (my_ag.fr w7 rfl) I.pSim.1.2.1
    have jWo_h6 : zqWo (zqMA h6) (zqMS h6 0) := hcW w7 rfl I.pSim
    show lwp p l e s m below meth c b D tys sg rho 1270 [(3, 0), (2, 0), (2, 151), (2, 203), (0, i), (9, 0), (9, 0)] [(0, (-1))] h6 kn
    refine lw_pop gz_0_1270 rfl ?_
    refine lw_aload_n gz_0_1271 rfl ?_
    refine lw_aload3_n gz_0_1272 rfl ?_
    refine lw_iload gz_0_1273 rfl ?_
    refine lw_iconst gz_0_1275 (by decide) ?_
    refine lw_iadd gz_0_1276 ⟨by omega, by omega⟩ ?_
    refine lw_sl gz_0_1277 hL4 hL (by omega) (by omega) (fun z22 ez22 pz22 qz22 => ?_)
    refine lw_aload3_n gz_0_1278 rfl ?_
    refine lw_iload gz_0_1279 rfl ?_
    refine lw_iconst gz_0_1281 (by decide) ?_
    refine lw_iadd gz_0_1282 ⟨by omega, by omega⟩ ?_
    refine lw_sl gz_0_1283 hL4 hL (by omega) (by omega) (fun z23 ez23 pz23 qz23 => ?_)
    refine lw_aload3_n gz_0_1284 rfl ?_
    refine lw_iload gz_0_1285 rfl ?_
    refine lw_iconst gz_0_1287 (by decide) ?_
    refine lw_iadd gz_0_1288 ⟨by omega, by omega⟩ ?_
    refine lw_sl gz_0_1289 hL4 hL (by omega) (by omega) (fun z24 ez24 pz24 qz24 => ?_)
    refine lw_aload3_n gz_0_1290 rfl ?_
    refine lw_iload gz_0_1291 rfl ?_
    refine lw_iconst gz_0_1293 (by decide) ?_
    refine lw_iadd gz_0_1294 ⟨by omega, by omega⟩ ?_
    refine lw_sl gz_0_1295 hL4 hL (by omega) (by omega) (fun z25 ez25 pz25 qz25 => ?_)
    refine lw_aload3_n gz_0_1296 rfl ?_
    refine lw_iload gz_0_1297 rfl ?_
    refine lw_iconst gz_0_1299 (by decide) ?_
    refine lw_iadd gz_0_1300 ⟨by omega, by omega⟩ ?_
    refine lw_sl gz_0_1301 hL4 hL (by omega) (by omega) (fun z26 ez26 pz26 qz26 => ?_)
    refine lw_inv (kz := 1) (as := [(0, z26), (0, z25), (0, z24), (0, z23), (0, z22)]) (r := []) (x := 151) (ls0 := [(2, 151), (0, z22), (0, z23), (0, z24), (0, z25), (0, z26), (9, 0)]) gz_0_1302 gm_222 rfl is_151 rd_10 rfl rfl rfl rfl rfl (c_Model_put5 (d := 21) (x1 := z22) (x2 := z23) (x3 := z24) (x4 := z25) (x5 := z26) J_h6.pMw J_h6.pMw3 J_h6.pRws (jLm_h6) (jWo_h6) (fun h27 w28 w29 w30 w31 w32 => ?_) (fun h33 y34 w35 w36 w37 w38 w39 w40 w41 w42 w43 w44 w45 w46 => ?_))
    ·
      have q0 : z22 = z1 := ez22.trans ez1.symm
      have q1 : z23 = z2 := ez23.trans ez2.symm
      have q2 : z24 = z3 := ez24.trans ez3.symm
      have q3 : z25 = z4 := ez25.trans ez4.symm
      have q4 : z26 = z5 := ez26.trans ez5.symm
      try simp only [q0, q1, q2, q3, q4] at w30
      have sim_h27 : Sim h27 := Sim_put0 I.pLn (I.pWnq.2.1) w7 w28 w8.2 w31 I.pSim
      have I_h27 : LInv h27 := ⟨Ln_ag (my_ag.fr w28 rfl) J_h6.pLn, Mw_ag (my_ag.fr w28 rfl) J_h6.pMw, Mw3_ag (my_ag.fr w28 rfl) J_h6.pMw3, w32, Wrd_ag (my_ag.fr w28 rfl) J_h6.pWrd, Ceq_ag (my_ag.fr w28 rfl) (Ceq_ag (my_ag.fr w7 rfl) (I.pCeq)), Wd9_ag (my_ag.fr w28 rfl) (Wd9_ag (my_ag.fr w7 rfl) (I.pWd9)), Teq_ag (my_ag.fr w28 rfl) (Teq_ag (my_ag.fr w7 rfl) (I.pTeq)), Wnq_ag (my_ag.fr w28 rfl) (Wnq_ag (my_ag.fr w7 rfl) (I.pWnq)), Hed_ag (my_ag.fr w28 rfl) (Hed_ag (my_ag.fr w7 rfl) (I.pHed)), sim_h27⟩
      show lwp p l e s m below meth c b D tys sg rho 1305 [(3, 0), (2, 0), (2, 151), (2, 203), (0, i), (9, 0), (9, 0)] [(0, (-1))] h27 kn
      refine lw_pop gz_0_1305 rfl ?_
      refine lw_goto (t := 1878) gz_0_1306 rfl ?_
      exact K h27 I_h27
    ·
      have q0 : z22 = z1 := ez22.trans ez1.symm
      have q1 : z23 = z2 := ez23.trans ez2.symm
      have q2 : z24 = z3 := ez24.trans ez3.symm
      have q3 : z25 = z4 := ez25.trans ez4.symm
      have q4 : z26 = z5 := ez26.trans ez5.symm
      try simp only [q0, q1, q2, q3, q4] at w38
      try simp only [q0, q1, q2, q3, q4] at w39
      try simp only [q0, q1, q2, q3, q4] at w40
      try simp only [q0, q1, q2, q3, q4] at w41
      try simp only [q0, q1, q2, q3, q4] at w44
      exact absurd ((Put_iff (I.pWnq.2.1) I.pCeq rT.2.1 w7 I.pSim).mpr w44.1) w8.1
  ·
    have J_h10 : LBas h10 := ⟨w21, Mw_ag (my_ag.fr w12 rfl) I.pMw, Mw3_ag (my_ag.fr w12 rfl) I.pMw3, Rws_ag (my_ag.fr w12 rfl) I.pRws, Wrd_ag (my_ag.fr w12 rfl) I.pWrd⟩
    have jLm_h10 : LmW h10 := LmW_ag (my_ag.fr w12 rfl) I.pSim.1.2.1
    have jWo_h10 : zqWo (zqMA h10) (zqMS h10 0) := hcW w12 rfl I.pSim
    show lwp p l e s m below meth c b D tys sg rho 1270 [(3, 0), (2, 0), (2, 151), (2, 203), (0, i), (9, 0), (9, 0)] [(0, y11)] h10 kn
    refine lw_pop gz_0_1270 rfl ?_
    refine lw_aload_n gz_0_1271 rfl ?_
    refine lw_aload3_n gz_0_1272 rfl ?_
    refine lw_iload gz_0_1273 rfl ?_
    refine lw_iconst gz_0_1275 (by decide) ?_
    refine lw_iadd gz_0_1276 ⟨by omega, by omega⟩ ?_
    refine lw_sl gz_0_1277 hL4 hL (by omega) (by omega) (fun z47 ez47 pz47 qz47 => ?_)
    refine lw_aload3_n gz_0_1278 rfl ?_
    refine lw_iload gz_0_1279 rfl ?_
    refine lw_iconst gz_0_1281 (by decide) ?_
    refine lw_iadd gz_0_1282 ⟨by omega, by omega⟩ ?_
    refine lw_sl gz_0_1283 hL4 hL (by omega) (by omega) (fun z48 ez48 pz48 qz48 => ?_)
    refine lw_aload3_n gz_0_1284 rfl ?_
    refine lw_iload gz_0_1285 rfl ?_
    refine lw_iconst gz_0_1287 (by decide) ?_
    refine lw_iadd gz_0_1288 ⟨by omega, by omega⟩ ?_
    refine lw_sl gz_0_1289 hL4 hL (by omega) (by omega) (fun z49 ez49 pz49 qz49 => ?_)
    refine lw_aload3_n gz_0_1290 rfl ?_
    refine lw_iload gz_0_1291 rfl ?_
    refine lw_iconst gz_0_1293 (by decide) ?_
    refine lw_iadd gz_0_1294 ⟨by omega, by omega⟩ ?_
    refine lw_sl gz_0_1295 hL4 hL (by omega) (by omega) (fun z50 ez50 pz50 qz50 => ?_)
    refine lw_aload3_n gz_0_1296 rfl ?_
    refine lw_iload gz_0_1297 rfl ?_
    refine lw_iconst gz_0_1299 (by decide) ?_
    refine lw_iadd gz_0_1300 ⟨by omega, by omega⟩ ?_
    refine lw_sl gz_0_1301 hL4 hL (by omega) (by omega) (fun z51 ez51 pz51 qz51 => ?_)
    refine lw_inv (kz := 1) (as := [(0, z51), (0, z50), (0, z49), (0, z48), (0, z47)]) (r := []) (x := 151) (ls0 := [(2, 151), (0, z47), (0, z48), (0, z49), (0, z50), (0, z51), (9, 0)]) gz_0_1302 gm_222 rfl is_151 rd_10 rfl rfl rfl rfl rfl (c_Model_put5 (d := 21) (x1 := z47) (x2 := z48) (x3 := z49) (x4 := z50) (x5 := z51) J_h10.pMw J_h10.pMw3 J_h10.pRws (jLm_h10) (jWo_h10) (fun h52 w53 w54 w55 w56 w57 => ?_) (fun h58 y59 w60 w61 w62 w63 w64 w65 w66 w67 w68 w69 w70 w71 => ?_))
    ·
      have q0 : z47 = z1 := ez47.trans ez1.symm
      have q1 : z48 = z2 := ez48.trans ez2.symm
      have q2 : z49 = z3 := ez49.trans ez3.symm
      have q3 : z50 = z4 := ez50.trans ez4.symm
      have q4 : z51 = z5 := ez51.trans ez5.symm
      try simp only [q0, q1, q2, q3, q4] at w55
      have yq : y11 = -1 := by
        rcases w55 with u9 | ⟨u9, S9, u8⟩
        · exact absurd ((Put_iff (I.pWnq.2.1) I.pCeq rT.2.1 w12 I.pSim).mp w17.1) u9
        · exact (Put_e (I.pWnq.2.1) I.pCeq rT w12 I.pSim w17.1 w17.2 u8).1
      have sim_h52 : Sim h52 := Sim_put1 I.pLn (I.pWnq.2.1) w12 w53 w17 w18 yq w19 w56 I.pSim
      have I_h52 : LInv h52 := ⟨Ln_ag (my_ag.fr w53 rfl) J_h10.pLn, Mw_ag (my_ag.fr w53 rfl) J_h10.pMw, Mw3_ag (my_ag.fr w53 rfl) J_h10.pMw3, w57, Wrd_ag (my_ag.fr w53 rfl) J_h10.pWrd, Ceq_ag (my_ag.fr w53 rfl) (Ceq_ag (my_ag.fr w12 rfl) (I.pCeq)), Wd9_ag (my_ag.fr w53 rfl) (Wd9_ag (my_ag.fr w12 rfl) (I.pWd9)), Teq_ag (my_ag.fr w53 rfl) (Teq_ag (my_ag.fr w12 rfl) (I.pTeq)), Wnq_ag (my_ag.fr w53 rfl) (Wnq_ag (my_ag.fr w12 rfl) (I.pWnq)), Hed_ag (my_ag.fr w53 rfl) (Hed_ag (my_ag.fr w12 rfl) (I.pHed)), sim_h52⟩
      show lwp p l e s m below meth c b D tys sg rho 1305 [(3, 0), (2, 0), (2, 151), (2, 203), (0, i), (9, 0), (9, 0)] [(0, (-1))] h52 kn
      refine lw_pop gz_0_1305 rfl ?_
      refine lw_goto (t := 1878) gz_0_1306 rfl ?_
      exact K h52 I_h52
    ·
      have q0 : z47 = z1 := ez47.trans ez1.symm
      have q1 : z48 = z2 := ez48.trans ez2.symm
      have q2 : z49 = z3 := ez49.trans ez3.symm
      have q3 : z50 = z4 := ez50.trans ez4.symm
      have q4 : z51 = z5 := ez51.trans ez5.symm
      try simp only [q0, q1, q2, q3, q4] at w63
      try simp only [q0, q1, q2, q3, q4] at w64
      try simp only [q0, q1, q2, q3, q4] at w65
      try simp only [q0, q1, q2, q3, q4] at w66
      try simp only [q0, q1, q2, q3, q4] at w69
      have pe := Put_e (I.pWnq.2.1) I.pCeq rT w12 I.pSim w17.1 w17.2 w69.2
      have sim_h58 : Sim h58 := Sim_put2 I.pLn (I.pWnq.2.1) w12 w60 w18 (by have := pe.1; omega) w20 pe.2 (w70).2 I.pSim
      have I_h58 : LInv h58 := ⟨Ln_ag (my_ag.fr w60 rfl) J_h10.pLn, Mw_ag (my_ag.fr w60 rfl) J_h10.pMw, Mw3_ag (my_ag.fr w60 rfl) J_h10.pMw3, w71, Wrd_ag (my_ag.fr w60 rfl) J_h10.pWrd, Ceq_ag (my_ag.fr w60 rfl) (Ceq_ag (my_ag.fr w12 rfl) (I.pCeq)), Wd9_ag (my_ag.fr w60 rfl) (Wd9_ag (my_ag.fr w12 rfl) (I.pWd9)), Teq_ag (my_ag.fr w60 rfl) (Teq_ag (my_ag.fr w12 rfl) (I.pTeq)), Wnq_ag (my_ag.fr w60 rfl) (Wnq_ag (my_ag.fr w12 rfl) (I.pWnq)), Hed_ag (my_ag.fr w60 rfl) (Hed_ag (my_ag.fr w12 rfl) (I.pHed)), sim_h58⟩
      show lwp p l e s m below meth c b D tys sg rho 1305 [(3, 0), (2, 0), (2, 151), (2, 203), (0, i), (9, 0), (9, 0)] [(0, y59)] h58 kn
      refine lw_pop gz_0_1305 rfl ?_
      refine lw_goto (t := 1878) gz_0_1306 rfl ?_
      exact K h58 I_h58
theorem lcase_18 (hL4 : L4 ≤ 4096) (hL : rho 4096 = Int32.ofNat L4) (I : LInv h) (i0 : 0 ≤ i) (i8 : i + 8 ≤ L4) (K : ∀ h' : my_H, LInv h' → lwp p l e s m below meth c b D tys sg rho 1878 [(3, 0), (2, 0), (2, 151), (2, 203), (0, i), (9, 0), (9, 0)] [] h' kn) : lwp p l e s m below meth c b D tys sg rho 1309 [(3, 0), (2, 0), (2, 151), (2, 203), (0, i), (9, 0), (9, 0)] [] h kn := by
  refine lw_aload_n gz_0_1309 rfl ?_
  refine lw_aload3_n gz_0_1310 rfl ?_
  refine lw_iload gz_0_1311 rfl ?_
  refine lw_iconst gz_0_1313 (by decide) ?_
  refine lw_iadd gz_0_1314 ⟨by omega, by omega⟩ ?_
  refine lw_sl gz_0_1315 hL4 hL (by omega) (by omega) (fun z1 ez1 pz1 qz1 => ?_)
  refine lw_aload3_n gz_0_1316 rfl ?_
  refine lw_iload gz_0_1317 rfl ?_
  refine lw_iconst gz_0_1319 (by decide) ?_
  refine lw_iadd gz_0_1320 ⟨by omega, by omega⟩ ?_
  refine lw_sl gz_0_1321 hL4 hL (by omega) (by omega) (fun z2 ez2 pz2 qz2 => ?_)
  refine lw_aload3_n gz_0_1322 rfl ?_
  refine lw_iload gz_0_1323 rfl ?_
  refine lw_iconst gz_0_1325 (by decide) ?_
  refine lw_iadd gz_0_1326 ⟨by omega, by omega⟩ ?_
  refine lw_sl gz_0_1327 hL4 hL (by omega) (by omega) (fun z3 ez3 pz3 qz3 => ?_)
  refine lw_aload3_n gz_0_1328 rfl ?_
  refine lw_iload gz_0_1329 rfl ?_
  refine lw_iconst gz_0_1331 (by decide) ?_
  refine lw_iadd gz_0_1332 ⟨by omega, by omega⟩ ?_
  refine lw_sl gz_0_1333 hL4 hL (by omega) (by omega) (fun z4 ez4 pz4 qz4 => ?_)
  refine lw_aload3_n gz_0_1334 rfl ?_
  refine lw_iload gz_0_1335 rfl ?_
  refine lw_iconst gz_0_1337 (by decide) ?_
  refine lw_iadd gz_0_1338 ⟨by omega, by omega⟩ ?_
  refine lw_sl gz_0_1339 hL4 hL (by omega) (by omega) (fun z5 ez5 pz5 qz5 => ?_)
  refine lw_inv (kz := 1) (as := [(0, z5), (0, z4), (0, z3), (0, z2), (0, z1)]) (r := []) (x := 0) (ls0 := [(2, 0), (0, z1), (0, z2), (0, z3), (0, z4), (0, z5), (9, 0)]) gz_0_1340 gm_115 rfl is_0 rd_9 rfl rfl rfl rfl rfl (c_ThroughWindow_twice4 (d := 22) (x1 := z1) (x2 := z2) (x3 := z3) (x4 := z4) (x5 := z5) I.pLn (I.pSim.1.1) (I.pSim.2.1.1) (fun h6 w7 w8 w9 => ?_) (fun h10 w11 w12 w13 w14 w15 => ?_) (fun h16 w17 w18 w19 w20 w21 => ?_))
  ·
    have sim_h6 : Sim h6 := Sim_q I.pLn (I.pWnq.2.1) (my_ag.fr w7 rfl) (fun k j a b => w8 k j (by omega) (by omega)) (Ot9_e (fun j => my_fr.at w7 qis_162 rfl) (fun j => my_fr.at w7 qis_163 rfl)) I.pSim
    have I_h6 : LInv h6 := ⟨w9, Mw_ag (my_ag.fr w7 rfl) I.pMw, Mw3_ag (my_ag.fr w7 rfl) I.pMw3, Rws_ag (my_ag.fr w7 rfl) I.pRws, Wrd_ag (my_ag.fr w7 rfl) I.pWrd, Ceq_ag (my_ag.fr w7 rfl) (I.pCeq), Wd9_ag (my_ag.fr w7 rfl) (I.pWd9), Teq_ag (my_ag.fr w7 rfl) (I.pTeq), Wnq_ag (my_ag.fr w7 rfl) (I.pWnq), Hed_ag (my_ag.fr w7 rfl) (I.pHed), sim_h6⟩
    show lwp p l e s m below meth c b D tys sg rho 1343 [(3, 0), (2, 0), (2, 151), (2, 203), (0, i), (9, 0), (9, 0)] [(0, (-1))] h6 kn
    refine lw_pop gz_0_1343 rfl ?_
    refine lw_aload_n gz_0_1344 rfl ?_
    refine lw_aload3_n gz_0_1345 rfl ?_
    refine lw_iload gz_0_1346 rfl ?_
    refine lw_iconst gz_0_1348 (by decide) ?_
    refine lw_iadd gz_0_1349 ⟨by omega, by omega⟩ ?_
    refine lw_sl gz_0_1350 hL4 hL (by omega) (by omega) (fun z22 ez22 pz22 qz22 => ?_)
    refine lw_aload3_n gz_0_1351 rfl ?_
    refine lw_iload gz_0_1352 rfl ?_
    refine lw_iconst gz_0_1354 (by decide) ?_
    refine lw_iadd gz_0_1355 ⟨by omega, by omega⟩ ?_
    refine lw_sl gz_0_1356 hL4 hL (by omega) (by omega) (fun z23 ez23 pz23 qz23 => ?_)
    refine lw_aload3_n gz_0_1357 rfl ?_
    refine lw_iload gz_0_1358 rfl ?_
    refine lw_iconst gz_0_1360 (by decide) ?_
    refine lw_iadd gz_0_1361 ⟨by omega, by omega⟩ ?_
    refine lw_sl gz_0_1362 hL4 hL (by omega) (by omega) (fun z24 ez24 pz24 qz24 => ?_)
    refine lw_aload3_n gz_0_1363 rfl ?_
    refine lw_iload gz_0_1364 rfl ?_
    refine lw_iconst gz_0_1366 (by decide) ?_
    refine lw_iadd gz_0_1367 ⟨by omega, by omega⟩ ?_
    refine lw_sl gz_0_1368 hL4 hL (by omega) (by omega) (fun z25 ez25 pz25 qz25 => ?_)
    refine lw_aload3_n gz_0_1369 rfl ?_
    refine lw_iload gz_0_1370 rfl ?_
    refine lw_iconst gz_0_1372 (by decide) ?_
    refine lw_iadd gz_0_1373 ⟨by omega, by omega⟩ ?_
    refine lw_sl gz_0_1374 hL4 hL (by omega) (by omega) (fun z26 ez26 pz26 qz26 => ?_)
    refine lw_inv (kz := 1) (as := [(0, z26), (0, z25), (0, z24), (0, z23), (0, z22)]) (r := []) (x := 151) (ls0 := [(2, 151), (0, z22), (0, z23), (0, z24), (0, z25), (0, z26), (9, 0)]) gz_0_1375 gm_229 rfl is_151 rd_10 rfl rfl rfl rfl rfl (c_Model_twice4 (d := 21) (x1 := z22) (x2 := z23) (x3 := z24) (x4 := z25) (x5 := z26) I_h6.pMw I_h6.pMw3 I_h6.pRws (I_h6.pSim.1.2.1) (I_h6.pSim.mwo) (fun h27 w28 w29 w30 w31 => ?_) (fun h32 w33 w34 w35 w36 w37 w38 => ?_) (fun h39 w40 w41 w42 w43 w44 w45 => ?_))
    ·
      have sim_h27 : Sim h27 := Sim_q I_h6.pLn (I_h6.pWnq.2.1) (my_ag.fr w28 rfl) (bg26 w28 (by decide +kernel)) w30 I_h6.pSim
      have I_h27 : LInv h27 := ⟨Ln_ag (my_ag.fr w28 rfl) I_h6.pLn, Mw_ag (my_ag.fr w28 rfl) I_h6.pMw, Mw3_ag (my_ag.fr w28 rfl) I_h6.pMw3, w31, Wrd_ag (my_ag.fr w28 rfl) I_h6.pWrd, Ceq_ag (my_ag.fr w28 rfl) (I_h6.pCeq), Wd9_ag (my_ag.fr w28 rfl) (I_h6.pWd9), Teq_ag (my_ag.fr w28 rfl) (I_h6.pTeq), Wnq_ag (my_ag.fr w28 rfl) (I_h6.pWnq), Hed_ag (my_ag.fr w28 rfl) (I_h6.pHed), sim_h27⟩
      show lwp p l e s m below meth c b D tys sg rho 1378 [(3, 0), (2, 0), (2, 151), (2, 203), (0, i), (9, 0), (9, 0)] [(0, (-1))] h27 kn
      refine lw_pop gz_0_1378 rfl ?_
      refine lw_goto (t := 1878) gz_0_1379 rfl ?_
      exact K h27 I_h27
    ·
      have sim_h32 : Sim h32 := Sim_q I_h6.pLn (I_h6.pWnq.2.1) (my_ag.fr w33 rfl) (bg26 w33 (by decide +kernel)) w37 I_h6.pSim
      have I_h32 : LInv h32 := ⟨Ln_ag (my_ag.fr w33 rfl) I_h6.pLn, Mw_ag (my_ag.fr w33 rfl) I_h6.pMw, Mw3_ag (my_ag.fr w33 rfl) I_h6.pMw3, w38, Wrd_ag (my_ag.fr w33 rfl) I_h6.pWrd, Ceq_ag (my_ag.fr w33 rfl) (I_h6.pCeq), Wd9_ag (my_ag.fr w33 rfl) (I_h6.pWd9), Teq_ag (my_ag.fr w33 rfl) (I_h6.pTeq), Wnq_ag (my_ag.fr w33 rfl) (I_h6.pWnq), Hed_ag (my_ag.fr w33 rfl) (I_h6.pHed), sim_h32⟩
      show lwp p l e s m below meth c b D tys sg rho 1378 [(3, 0), (2, 0), (2, 151), (2, 203), (0, i), (9, 0), (9, 0)] [(0, 0)] h32 kn
      refine lw_pop gz_0_1378 rfl ?_
      refine lw_goto (t := 1878) gz_0_1379 rfl ?_
      exact K h32 I_h32
    ·
      have sim_h39 : Sim h39 := Sim_q I_h6.pLn (I_h6.pWnq.2.1) (my_ag.fr w40 rfl) (bg26 w40 (by decide +kernel)) w44 I_h6.pSim
      have I_h39 : LInv h39 := ⟨Ln_ag (my_ag.fr w40 rfl) I_h6.pLn, Mw_ag (my_ag.fr w40 rfl) I_h6.pMw, Mw3_ag (my_ag.fr w40 rfl) I_h6.pMw3, w45, Wrd_ag (my_ag.fr w40 rfl) I_h6.pWrd, Ceq_ag (my_ag.fr w40 rfl) (I_h6.pCeq), Wd9_ag (my_ag.fr w40 rfl) (I_h6.pWd9), Teq_ag (my_ag.fr w40 rfl) (I_h6.pTeq), Wnq_ag (my_ag.fr w40 rfl) (I_h6.pWnq), Hed_ag (my_ag.fr w40 rfl) (I_h6.pHed), sim_h39⟩
      show lwp p l e s m below meth c b D tys sg rho 1378 [(3, 0), (2, 0), (2, 151), (2, 203), (0, i), (9, 0), (9, 0)] [(0, 1)] h39 kn
      refine lw_pop gz_0_1378 rfl ?_
      refine lw_goto (t := 1878) gz_0_1379 rfl ?_
      exact K h39 I_h39
  ·
    have sim_h10 : Sim h10 := Sim_q I.pLn (I.pWnq.2.1) (my_ag.fr w11 rfl) (fun k j a b => w14 k j (by omega) (by omega)) (Ot9_e (fun j => my_fr.at w11 qis_162 rfl) (fun j => my_fr.at w11 qis_163 rfl)) I.pSim
    have I_h10 : LInv h10 := ⟨w15, Mw_ag (my_ag.fr w11 rfl) I.pMw, Mw3_ag (my_ag.fr w11 rfl) I.pMw3, Rws_ag (my_ag.fr w11 rfl) I.pRws, Wrd_ag (my_ag.fr w11 rfl) I.pWrd, Ceq_ag (my_ag.fr w11 rfl) (I.pCeq), Wd9_ag (my_ag.fr w11 rfl) (I.pWd9), Teq_ag (my_ag.fr w11 rfl) (I.pTeq), Wnq_ag (my_ag.fr w11 rfl) (I.pWnq), Hed_ag (my_ag.fr w11 rfl) (I.pHed), sim_h10⟩
    show lwp p l e s m below meth c b D tys sg rho 1343 [(3, 0), (2, 0), (2, 151), (2, 203), (0, i), (9, 0), (9, 0)] [(0, 0)] h10 kn
    refine lw_pop gz_0_1343 rfl ?_
    refine lw_aload_n gz_0_1344 rfl ?_
    refine lw_aload3_n gz_0_1345 rfl ?_
    refine lw_iload gz_0_1346 rfl ?_
    refine lw_iconst gz_0_1348 (by decide) ?_
    refine lw_iadd gz_0_1349 ⟨by omega, by omega⟩ ?_
    refine lw_sl gz_0_1350 hL4 hL (by omega) (by omega) (fun z46 ez46 pz46 qz46 => ?_)
    refine lw_aload3_n gz_0_1351 rfl ?_
    refine lw_iload gz_0_1352 rfl ?_
    refine lw_iconst gz_0_1354 (by decide) ?_
    refine lw_iadd gz_0_1355 ⟨by omega, by omega⟩ ?_
    refine lw_sl gz_0_1356 hL4 hL (by omega) (by omega) (fun z47 ez47 pz47 qz47 => ?_)
    refine lw_aload3_n gz_0_1357 rfl ?_
    refine lw_iload gz_0_1358 rfl ?_
    refine lw_iconst gz_0_1360 (by decide) ?_
    refine lw_iadd gz_0_1361 ⟨by omega, by omega⟩ ?_
    refine lw_sl gz_0_1362 hL4 hL (by omega) (by omega) (fun z48 ez48 pz48 qz48 => ?_)
    refine lw_aload3_n gz_0_1363 rfl ?_
    refine lw_iload gz_0_1364 rfl ?_
    refine lw_iconst gz_0_1366 (by decide) ?_
    refine lw_iadd gz_0_1367 ⟨by omega, by omega⟩ ?_
    refine lw_sl gz_0_1368 hL4 hL (by omega) (by omega) (fun z49 ez49 pz49 qz49 => ?_)
    refine lw_aload3_n gz_0_1369 rfl ?_
    refine lw_iload gz_0_1370 rfl ?_
    refine lw_iconst gz_0_1372 (by decide) ?_
    refine lw_iadd gz_0_1373 ⟨by omega, by omega⟩ ?_
    refine lw_sl gz_0_1374 hL4 hL (by omega) (by omega) (fun z50 ez50 pz50 qz50 => ?_)
    refine lw_inv (kz := 1) (as := [(0, z50), (0, z49), (0, z48), (0, z47), (0, z46)]) (r := []) (x := 151) (ls0 := [(2, 151), (0, z46), (0, z47), (0, z48), (0, z49), (0, z50), (9, 0)]) gz_0_1375 gm_229 rfl is_151 rd_10 rfl rfl rfl rfl rfl (c_Model_twice4 (d := 21) (x1 := z46) (x2 := z47) (x3 := z48) (x4 := z49) (x5 := z50) I_h10.pMw I_h10.pMw3 I_h10.pRws (I_h10.pSim.1.2.1) (I_h10.pSim.mwo) (fun h51 w52 w53 w54 w55 => ?_) (fun h56 w57 w58 w59 w60 w61 w62 => ?_) (fun h63 w64 w65 w66 w67 w68 w69 => ?_))
    ·
      have sim_h51 : Sim h51 := Sim_q I_h10.pLn (I_h10.pWnq.2.1) (my_ag.fr w52 rfl) (bg26 w52 (by decide +kernel)) w54 I_h10.pSim
      have I_h51 : LInv h51 := ⟨Ln_ag (my_ag.fr w52 rfl) I_h10.pLn, Mw_ag (my_ag.fr w52 rfl) I_h10.pMw, Mw3_ag (my_ag.fr w52 rfl) I_h10.pMw3, w55, Wrd_ag (my_ag.fr w52 rfl) I_h10.pWrd, Ceq_ag (my_ag.fr w52 rfl) (I_h10.pCeq), Wd9_ag (my_ag.fr w52 rfl) (I_h10.pWd9), Teq_ag (my_ag.fr w52 rfl) (I_h10.pTeq), Wnq_ag (my_ag.fr w52 rfl) (I_h10.pWnq), Hed_ag (my_ag.fr w52 rfl) (I_h10.pHed), sim_h51⟩
      show lwp p l e s m below meth c b D tys sg rho 1378 [(3, 0), (2, 0), (2, 151), (2, 203), (0, i), (9, 0), (9, 0)] [(0, (-1))] h51 kn
      refine lw_pop gz_0_1378 rfl ?_
      refine lw_goto (t := 1878) gz_0_1379 rfl ?_
      exact K h51 I_h51
    ·
      have sim_h56 : Sim h56 := Sim_q I_h10.pLn (I_h10.pWnq.2.1) (my_ag.fr w57 rfl) (bg26 w57 (by decide +kernel)) w61 I_h10.pSim
      have I_h56 : LInv h56 := ⟨Ln_ag (my_ag.fr w57 rfl) I_h10.pLn, Mw_ag (my_ag.fr w57 rfl) I_h10.pMw, Mw3_ag (my_ag.fr w57 rfl) I_h10.pMw3, w62, Wrd_ag (my_ag.fr w57 rfl) I_h10.pWrd, Ceq_ag (my_ag.fr w57 rfl) (I_h10.pCeq), Wd9_ag (my_ag.fr w57 rfl) (I_h10.pWd9), Teq_ag (my_ag.fr w57 rfl) (I_h10.pTeq), Wnq_ag (my_ag.fr w57 rfl) (I_h10.pWnq), Hed_ag (my_ag.fr w57 rfl) (I_h10.pHed), sim_h56⟩
      show lwp p l e s m below meth c b D tys sg rho 1378 [(3, 0), (2, 0), (2, 151), (2, 203), (0, i), (9, 0), (9, 0)] [(0, 0)] h56 kn
      refine lw_pop gz_0_1378 rfl ?_
      refine lw_goto (t := 1878) gz_0_1379 rfl ?_
      exact K h56 I_h56
    ·
      have sim_h63 : Sim h63 := Sim_q I_h10.pLn (I_h10.pWnq.2.1) (my_ag.fr w64 rfl) (bg26 w64 (by decide +kernel)) w68 I_h10.pSim
      have I_h63 : LInv h63 := ⟨Ln_ag (my_ag.fr w64 rfl) I_h10.pLn, Mw_ag (my_ag.fr w64 rfl) I_h10.pMw, Mw3_ag (my_ag.fr w64 rfl) I_h10.pMw3, w69, Wrd_ag (my_ag.fr w64 rfl) I_h10.pWrd, Ceq_ag (my_ag.fr w64 rfl) (I_h10.pCeq), Wd9_ag (my_ag.fr w64 rfl) (I_h10.pWd9), Teq_ag (my_ag.fr w64 rfl) (I_h10.pTeq), Wnq_ag (my_ag.fr w64 rfl) (I_h10.pWnq), Hed_ag (my_ag.fr w64 rfl) (I_h10.pHed), sim_h63⟩
      show lwp p l e s m below meth c b D tys sg rho 1378 [(3, 0), (2, 0), (2, 151), (2, 203), (0, i), (9, 0), (9, 0)] [(0, 1)] h63 kn
      refine lw_pop gz_0_1378 rfl ?_
      refine lw_goto (t := 1878) gz_0_1379 rfl ?_
      exact K h63 I_h63
  ·
    have sim_h16 : Sim h16 := Sim_q I.pLn (I.pWnq.2.1) (my_ag.fr w17 rfl) (fun k j a b => w20 k j (by omega) (by omega)) (Ot9_e (fun j => my_fr.at w17 qis_162 rfl) (fun j => my_fr.at w17 qis_163 rfl)) I.pSim
    have I_h16 : LInv h16 := ⟨w21, Mw_ag (my_ag.fr w17 rfl) I.pMw, Mw3_ag (my_ag.fr w17 rfl) I.pMw3, Rws_ag (my_ag.fr w17 rfl) I.pRws, Wrd_ag (my_ag.fr w17 rfl) I.pWrd, Ceq_ag (my_ag.fr w17 rfl) (I.pCeq), Wd9_ag (my_ag.fr w17 rfl) (I.pWd9), Teq_ag (my_ag.fr w17 rfl) (I.pTeq), Wnq_ag (my_ag.fr w17 rfl) (I.pWnq), Hed_ag (my_ag.fr w17 rfl) (I.pHed), sim_h16⟩
    show lwp p l e s m below meth c b D tys sg rho 1343 [(3, 0), (2, 0), (2, 151), (2, 203), (0, i), (9, 0), (9, 0)] [(0, 1)] h16 kn
    refine lw_pop gz_0_1343 rfl ?_
    refine lw_aload_n gz_0_1344 rfl ?_
    refine lw_aload3_n gz_0_1345 rfl ?_
    refine lw_iload gz_0_1346 rfl ?_
    refine lw_iconst gz_0_1348 (by decide) ?_
    refine lw_iadd gz_0_1349 ⟨by omega, by omega⟩ ?_
    refine lw_sl gz_0_1350 hL4 hL (by omega) (by omega) (fun z70 ez70 pz70 qz70 => ?_)
    refine lw_aload3_n gz_0_1351 rfl ?_
    refine lw_iload gz_0_1352 rfl ?_
    refine lw_iconst gz_0_1354 (by decide) ?_
    refine lw_iadd gz_0_1355 ⟨by omega, by omega⟩ ?_
    refine lw_sl gz_0_1356 hL4 hL (by omega) (by omega) (fun z71 ez71 pz71 qz71 => ?_)
    refine lw_aload3_n gz_0_1357 rfl ?_
    refine lw_iload gz_0_1358 rfl ?_
    refine lw_iconst gz_0_1360 (by decide) ?_
    refine lw_iadd gz_0_1361 ⟨by omega, by omega⟩ ?_
    refine lw_sl gz_0_1362 hL4 hL (by omega) (by omega) (fun z72 ez72 pz72 qz72 => ?_)
    refine lw_aload3_n gz_0_1363 rfl ?_
    refine lw_iload gz_0_1364 rfl ?_
    refine lw_iconst gz_0_1366 (by decide) ?_
    refine lw_iadd gz_0_1367 ⟨by omega, by omega⟩ ?_
    refine lw_sl gz_0_1368 hL4 hL (by omega) (by omega) (fun z73 ez73 pz73 qz73 => ?_)
    refine lw_aload3_n gz_0_1369 rfl ?_
    refine lw_iload gz_0_1370 rfl ?_
    refine lw_iconst gz_0_1372 (by decide) ?_
    refine lw_iadd gz_0_1373 ⟨by omega, by omega⟩ ?_
    refine lw_sl gz_0_1374 hL4 hL (by omega) (by omega) (fun z74 ez74 pz74 qz74 => ?_)
    refine lw_inv (kz := 1) (as := [(0, z74), (0, z73), (0, z72), (0, z71), (0, z70)]) (r := []) (x := 151) (ls0 := [(2, 151), (0, z70), (0, z71), (0, z72), (0, z73), (0, z74), (9, 0)]) gz_0_1375 gm_229 rfl is_151 rd_10 rfl rfl rfl rfl rfl (c_Model_twice4 (d := 21) (x1 := z70) (x2 := z71) (x3 := z72) (x4 := z73) (x5 := z74) I_h16.pMw I_h16.pMw3 I_h16.pRws (I_h16.pSim.1.2.1) (I_h16.pSim.mwo) (fun h75 w76 w77 w78 w79 => ?_) (fun h80 w81 w82 w83 w84 w85 w86 => ?_) (fun h87 w88 w89 w90 w91 w92 w93 => ?_))
    ·
      have sim_h75 : Sim h75 := Sim_q I_h16.pLn (I_h16.pWnq.2.1) (my_ag.fr w76 rfl) (bg26 w76 (by decide +kernel)) w78 I_h16.pSim
      have I_h75 : LInv h75 := ⟨Ln_ag (my_ag.fr w76 rfl) I_h16.pLn, Mw_ag (my_ag.fr w76 rfl) I_h16.pMw, Mw3_ag (my_ag.fr w76 rfl) I_h16.pMw3, w79, Wrd_ag (my_ag.fr w76 rfl) I_h16.pWrd, Ceq_ag (my_ag.fr w76 rfl) (I_h16.pCeq), Wd9_ag (my_ag.fr w76 rfl) (I_h16.pWd9), Teq_ag (my_ag.fr w76 rfl) (I_h16.pTeq), Wnq_ag (my_ag.fr w76 rfl) (I_h16.pWnq), Hed_ag (my_ag.fr w76 rfl) (I_h16.pHed), sim_h75⟩
      show lwp p l e s m below meth c b D tys sg rho 1378 [(3, 0), (2, 0), (2, 151), (2, 203), (0, i), (9, 0), (9, 0)] [(0, (-1))] h75 kn
      refine lw_pop gz_0_1378 rfl ?_
      refine lw_goto (t := 1878) gz_0_1379 rfl ?_
      exact K h75 I_h75
    ·
      have sim_h80 : Sim h80 := Sim_q I_h16.pLn (I_h16.pWnq.2.1) (my_ag.fr w81 rfl) (bg26 w81 (by decide +kernel)) w85 I_h16.pSim
      have I_h80 : LInv h80 := ⟨Ln_ag (my_ag.fr w81 rfl) I_h16.pLn, Mw_ag (my_ag.fr w81 rfl) I_h16.pMw, Mw3_ag (my_ag.fr w81 rfl) I_h16.pMw3, w86, Wrd_ag (my_ag.fr w81 rfl) I_h16.pWrd, Ceq_ag (my_ag.fr w81 rfl) (I_h16.pCeq), Wd9_ag (my_ag.fr w81 rfl) (I_h16.pWd9), Teq_ag (my_ag.fr w81 rfl) (I_h16.pTeq), Wnq_ag (my_ag.fr w81 rfl) (I_h16.pWnq), Hed_ag (my_ag.fr w81 rfl) (I_h16.pHed), sim_h80⟩
      show lwp p l e s m below meth c b D tys sg rho 1378 [(3, 0), (2, 0), (2, 151), (2, 203), (0, i), (9, 0), (9, 0)] [(0, 0)] h80 kn
      refine lw_pop gz_0_1378 rfl ?_
      refine lw_goto (t := 1878) gz_0_1379 rfl ?_
      exact K h80 I_h80
    ·
      have sim_h87 : Sim h87 := Sim_q I_h16.pLn (I_h16.pWnq.2.1) (my_ag.fr w88 rfl) (bg26 w88 (by decide +kernel)) w92 I_h16.pSim
      have I_h87 : LInv h87 := ⟨Ln_ag (my_ag.fr w88 rfl) I_h16.pLn, Mw_ag (my_ag.fr w88 rfl) I_h16.pMw, Mw3_ag (my_ag.fr w88 rfl) I_h16.pMw3, w93, Wrd_ag (my_ag.fr w88 rfl) I_h16.pWrd, Ceq_ag (my_ag.fr w88 rfl) (I_h16.pCeq), Wd9_ag (my_ag.fr w88 rfl) (I_h16.pWd9), Teq_ag (my_ag.fr w88 rfl) (I_h16.pTeq), Wnq_ag (my_ag.fr w88 rfl) (I_h16.pWnq), Hed_ag (my_ag.fr w88 rfl) (I_h16.pHed), sim_h87⟩
      show lwp p l e s m below meth c b D tys sg rho 1378 [(3, 0), (2, 0), (2, 151), (2, 203), (0, i), (9, 0), (9, 0)] [(0, 1)] h87 kn
      refine lw_pop gz_0_1378 rfl ?_
      refine lw_goto (t := 1878) gz_0_1379 rfl ?_
      exact K h87 I_h87
theorem lcase_19 (hL4 : L4 ≤ 4096) (hL : rho 4096 = Int32.ofNat L4) (I : LInv h) (i0 : 0 ≤ i) (i8 : i + 8 ≤ L4) (K : ∀ h' : my_H, LInv h' → lwp p l e s m below meth c b D tys sg rho 1878 [(3, 0), (2, 0), (2, 151), (2, 203), (0, i), (9, 0), (9, 0)] [] h' kn) : lwp p l e s m below meth c b D tys sg rho 1382 [(3, 0), (2, 0), (2, 151), (2, 203), (0, i), (9, 0), (9, 0)] [] h kn := by
  refine lw_aload_n gz_0_1382 rfl ?_
  refine lw_aload3_n gz_0_1383 rfl ?_
  refine lw_iload gz_0_1384 rfl ?_
  refine lw_iconst gz_0_1386 (by decide) ?_
  refine lw_iadd gz_0_1387 ⟨by omega, by omega⟩ ?_
  refine lw_sl gz_0_1388 hL4 hL (by omega) (by omega) (fun z1 ez1 pz1 qz1 => ?_)
  refine lw_aload3_n gz_0_1389 rfl ?_
  refine lw_iload gz_0_1390 rfl ?_
  refine lw_iconst gz_0_1392 (by decide) ?_
  refine lw_iadd gz_0_1393 ⟨by omega, by omega⟩ ?_
  refine lw_sl gz_0_1394 hL4 hL (by omega) (by omega) (fun z2 ez2 pz2 qz2 => ?_)
  refine lw_aload3_n gz_0_1395 rfl ?_
  refine lw_iload gz_0_1396 rfl ?_
  refine lw_iconst gz_0_1398 (by decide) ?_
  refine lw_iadd gz_0_1399 ⟨by omega, by omega⟩ ?_
  refine lw_sl gz_0_1400 hL4 hL (by omega) (by omega) (fun z3 ez3 pz3 qz3 => ?_)
  refine lw_aload3_n gz_0_1401 rfl ?_
  refine lw_iload gz_0_1402 rfl ?_
  refine lw_iconst gz_0_1404 (by decide) ?_
  refine lw_iadd gz_0_1405 ⟨by omega, by omega⟩ ?_
  refine lw_sl gz_0_1406 hL4 hL (by omega) (by omega) (fun z4 ez4 pz4 qz4 => ?_)
  refine lw_inv (kz := 2) (as := [(0, z4), (0, z3), (0, z2), (0, z1)]) (r := []) (x := 0) (ls0 := [(2, 0), (0, z1), (0, z2), (0, z3), (0, z4), (9, 0), (9, 0)]) gz_0_1407 gm_117 rfl is_0 rd_9 rfl rfl rfl rfl rfl (c_ThroughWindow_back4 (d := 22) (x1 := z1) (x2 := z2) (x3 := z3) (x4 := z4) I.pLn (I.pSim.1.1) (I.pSim.2.1.1) (fun h5 w6 w7 w8 => ?_) (fun h9 w10 w11 w12 w13 w14 w15 w16 w17 w18 => ?_) (fun h19 w20 w21 w22 w23 w24 w25 w26 w27 w28 => ?_))
  ·
    have sim_h5 : Sim h5 := Sim_q I.pLn (I.pWnq.2.1) (my_ag.fr w6 rfl) (fun k j a b => w7 k j (by omega) (by omega)) (Ot9_e (fun j => my_fr.at w6 qis_162 rfl) (fun j => my_fr.at w6 qis_163 rfl)) I.pSim
    have I_h5 : LInv h5 := ⟨w8, Mw_ag (my_ag.fr w6 rfl) I.pMw, Mw3_ag (my_ag.fr w6 rfl) I.pMw3, Rws_ag (my_ag.fr w6 rfl) I.pRws, Wrd_ag (my_ag.fr w6 rfl) I.pWrd, Ceq_ag (my_ag.fr w6 rfl) (I.pCeq), Wd9_ag (my_ag.fr w6 rfl) (I.pWd9), Teq_ag (my_ag.fr w6 rfl) (I.pTeq), Wnq_ag (my_ag.fr w6 rfl) (I.pWnq), Hed_ag (my_ag.fr w6 rfl) (I.pHed), sim_h5⟩
    show lwp p l e s m below meth c b D tys sg rho 1410 [(3, 0), (2, 0), (2, 151), (2, 203), (0, i), (9, 0), (9, 0)] [(0, (-1))] h5 kn
    refine lw_pop gz_0_1410 rfl ?_
    refine lw_aload_n gz_0_1411 rfl ?_
    refine lw_aload3_n gz_0_1412 rfl ?_
    refine lw_iload gz_0_1413 rfl ?_
    refine lw_iconst gz_0_1415 (by decide) ?_
    refine lw_iadd gz_0_1416 ⟨by omega, by omega⟩ ?_
    refine lw_sl gz_0_1417 hL4 hL (by omega) (by omega) (fun z29 ez29 pz29 qz29 => ?_)
    refine lw_aload3_n gz_0_1418 rfl ?_
    refine lw_iload gz_0_1419 rfl ?_
    refine lw_iconst gz_0_1421 (by decide) ?_
    refine lw_iadd gz_0_1422 ⟨by omega, by omega⟩ ?_
    refine lw_sl gz_0_1423 hL4 hL (by omega) (by omega) (fun z30 ez30 pz30 qz30 => ?_)
    refine lw_aload3_n gz_0_1424 rfl ?_
    refine lw_iload gz_0_1425 rfl ?_
    refine lw_iconst gz_0_1427 (by decide) ?_
    refine lw_iadd gz_0_1428 ⟨by omega, by omega⟩ ?_
    refine lw_sl gz_0_1429 hL4 hL (by omega) (by omega) (fun z31 ez31 pz31 qz31 => ?_)
    refine lw_aload3_n gz_0_1430 rfl ?_
    refine lw_iload gz_0_1431 rfl ?_
    refine lw_iconst gz_0_1433 (by decide) ?_
    refine lw_iadd gz_0_1434 ⟨by omega, by omega⟩ ?_
    refine lw_sl gz_0_1435 hL4 hL (by omega) (by omega) (fun z32 ez32 pz32 qz32 => ?_)
    refine lw_inv (kz := 2) (as := [(0, z32), (0, z31), (0, z30), (0, z29)]) (r := []) (x := 151) (ls0 := [(2, 151), (0, z29), (0, z30), (0, z31), (0, z32), (9, 0), (9, 0)]) gz_0_1436 gm_231 rfl is_151 rd_10 rfl rfl rfl rfl rfl (c_Model_back4 (d := 21) (x1 := z29) (x2 := z30) (x3 := z31) (x4 := z32) I_h5.pMw I_h5.pMw3 I_h5.pRws (I_h5.pSim.1.2.1) (I_h5.pSim.mwo) (fun h33 w34 w35 w36 w37 => ?_) (fun h38 w39 w40 w41 w42 w43 w44 w45 w46 w47 w48 => ?_) (fun h49 w50 w51 w52 w53 w54 w55 w56 w57 w58 w59 => ?_))
    ·
      have sim_h33 : Sim h33 := Sim_q I_h5.pLn (I_h5.pWnq.2.1) (my_ag.fr w34 rfl) (bg26 w34 (by decide +kernel)) w36 I_h5.pSim
      have I_h33 : LInv h33 := ⟨Ln_ag (my_ag.fr w34 rfl) I_h5.pLn, Mw_ag (my_ag.fr w34 rfl) I_h5.pMw, Mw3_ag (my_ag.fr w34 rfl) I_h5.pMw3, w37, Wrd_ag (my_ag.fr w34 rfl) I_h5.pWrd, Ceq_ag (my_ag.fr w34 rfl) (I_h5.pCeq), Wd9_ag (my_ag.fr w34 rfl) (I_h5.pWd9), Teq_ag (my_ag.fr w34 rfl) (I_h5.pTeq), Wnq_ag (my_ag.fr w34 rfl) (I_h5.pWnq), Hed_ag (my_ag.fr w34 rfl) (I_h5.pHed), sim_h33⟩
      show lwp p l e s m below meth c b D tys sg rho 1439 [(3, 0), (2, 0), (2, 151), (2, 203), (0, i), (9, 0), (9, 0)] [(0, (-1))] h33 kn
      refine lw_pop gz_0_1439 rfl ?_
      refine lw_goto (t := 1878) gz_0_1440 rfl ?_
      exact K h33 I_h33
    ·
      have sim_h38 : Sim h38 := Sim_q I_h5.pLn (I_h5.pWnq.2.1) (my_ag.fr w39 rfl) (bg26 w39 (by decide +kernel)) w47 I_h5.pSim
      have I_h38 : LInv h38 := ⟨Ln_ag (my_ag.fr w39 rfl) I_h5.pLn, Mw_ag (my_ag.fr w39 rfl) I_h5.pMw, Mw3_ag (my_ag.fr w39 rfl) I_h5.pMw3, w48, Wrd_ag (my_ag.fr w39 rfl) I_h5.pWrd, Ceq_ag (my_ag.fr w39 rfl) (I_h5.pCeq), Wd9_ag (my_ag.fr w39 rfl) (I_h5.pWd9), Teq_ag (my_ag.fr w39 rfl) (I_h5.pTeq), Wnq_ag (my_ag.fr w39 rfl) (I_h5.pWnq), Hed_ag (my_ag.fr w39 rfl) (I_h5.pHed), sim_h38⟩
      show lwp p l e s m below meth c b D tys sg rho 1439 [(3, 0), (2, 0), (2, 151), (2, 203), (0, i), (9, 0), (9, 0)] [(0, 0)] h38 kn
      refine lw_pop gz_0_1439 rfl ?_
      refine lw_goto (t := 1878) gz_0_1440 rfl ?_
      exact K h38 I_h38
    ·
      have sim_h49 : Sim h49 := Sim_q I_h5.pLn (I_h5.pWnq.2.1) (my_ag.fr w50 rfl) (bg26 w50 (by decide +kernel)) w58 I_h5.pSim
      have I_h49 : LInv h49 := ⟨Ln_ag (my_ag.fr w50 rfl) I_h5.pLn, Mw_ag (my_ag.fr w50 rfl) I_h5.pMw, Mw3_ag (my_ag.fr w50 rfl) I_h5.pMw3, w59, Wrd_ag (my_ag.fr w50 rfl) I_h5.pWrd, Ceq_ag (my_ag.fr w50 rfl) (I_h5.pCeq), Wd9_ag (my_ag.fr w50 rfl) (I_h5.pWd9), Teq_ag (my_ag.fr w50 rfl) (I_h5.pTeq), Wnq_ag (my_ag.fr w50 rfl) (I_h5.pWnq), Hed_ag (my_ag.fr w50 rfl) (I_h5.pHed), sim_h49⟩
      show lwp p l e s m below meth c b D tys sg rho 1439 [(3, 0), (2, 0), (2, 151), (2, 203), (0, i), (9, 0), (9, 0)] [(0, 1)] h49 kn
      refine lw_pop gz_0_1439 rfl ?_
      refine lw_goto (t := 1878) gz_0_1440 rfl ?_
      exact K h49 I_h49
  ·
    have sim_h9 : Sim h9 := Sim_q I.pLn (I.pWnq.2.1) (my_ag.fr w10 rfl) (fun k j a b => w17 k j (by omega) (by omega)) (Ot9_e (fun j => my_fr.at w10 qis_162 rfl) (fun j => my_fr.at w10 qis_163 rfl)) I.pSim
    have I_h9 : LInv h9 := ⟨w18, Mw_ag (my_ag.fr w10 rfl) I.pMw, Mw3_ag (my_ag.fr w10 rfl) I.pMw3, Rws_ag (my_ag.fr w10 rfl) I.pRws, Wrd_ag (my_ag.fr w10 rfl) I.pWrd, Ceq_ag (my_ag.fr w10 rfl) (I.pCeq), Wd9_ag (my_ag.fr w10 rfl) (I.pWd9), Teq_ag (my_ag.fr w10 rfl) (I.pTeq), Wnq_ag (my_ag.fr w10 rfl) (I.pWnq), Hed_ag (my_ag.fr w10 rfl) (I.pHed), sim_h9⟩
    show lwp p l e s m below meth c b D tys sg rho 1410 [(3, 0), (2, 0), (2, 151), (2, 203), (0, i), (9, 0), (9, 0)] [(0, 0)] h9 kn
    refine lw_pop gz_0_1410 rfl ?_
    refine lw_aload_n gz_0_1411 rfl ?_
    refine lw_aload3_n gz_0_1412 rfl ?_
    refine lw_iload gz_0_1413 rfl ?_
    refine lw_iconst gz_0_1415 (by decide) ?_
    refine lw_iadd gz_0_1416 ⟨by omega, by omega⟩ ?_
    refine lw_sl gz_0_1417 hL4 hL (by omega) (by omega) (fun z60 ez60 pz60 qz60 => ?_)
    refine lw_aload3_n gz_0_1418 rfl ?_
    refine lw_iload gz_0_1419 rfl ?_
    refine lw_iconst gz_0_1421 (by decide) ?_
    refine lw_iadd gz_0_1422 ⟨by omega, by omega⟩ ?_
    refine lw_sl gz_0_1423 hL4 hL (by omega) (by omega) (fun z61 ez61 pz61 qz61 => ?_)
    refine lw_aload3_n gz_0_1424 rfl ?_
    refine lw_iload gz_0_1425 rfl ?_
    refine lw_iconst gz_0_1427 (by decide) ?_
    refine lw_iadd gz_0_1428 ⟨by omega, by omega⟩ ?_
    refine lw_sl gz_0_1429 hL4 hL (by omega) (by omega) (fun z62 ez62 pz62 qz62 => ?_)
    refine lw_aload3_n gz_0_1430 rfl ?_
    refine lw_iload gz_0_1431 rfl ?_
    refine lw_iconst gz_0_1433 (by decide) ?_
    refine lw_iadd gz_0_1434 ⟨by omega, by omega⟩ ?_
    refine lw_sl gz_0_1435 hL4 hL (by omega) (by omega) (fun z63 ez63 pz63 qz63 => ?_)
    refine lw_inv (kz := 2) (as := [(0, z63), (0, z62), (0, z61), (0, z60)]) (r := []) (x := 151) (ls0 := [(2, 151), (0, z60), (0, z61), (0, z62), (0, z63), (9, 0), (9, 0)]) gz_0_1436 gm_231 rfl is_151 rd_10 rfl rfl rfl rfl rfl (c_Model_back4 (d := 21) (x1 := z60) (x2 := z61) (x3 := z62) (x4 := z63) I_h9.pMw I_h9.pMw3 I_h9.pRws (I_h9.pSim.1.2.1) (I_h9.pSim.mwo) (fun h64 w65 w66 w67 w68 => ?_) (fun h69 w70 w71 w72 w73 w74 w75 w76 w77 w78 w79 => ?_) (fun h80 w81 w82 w83 w84 w85 w86 w87 w88 w89 w90 => ?_))
    ·
      have sim_h64 : Sim h64 := Sim_q I_h9.pLn (I_h9.pWnq.2.1) (my_ag.fr w65 rfl) (bg26 w65 (by decide +kernel)) w67 I_h9.pSim
      have I_h64 : LInv h64 := ⟨Ln_ag (my_ag.fr w65 rfl) I_h9.pLn, Mw_ag (my_ag.fr w65 rfl) I_h9.pMw, Mw3_ag (my_ag.fr w65 rfl) I_h9.pMw3, w68, Wrd_ag (my_ag.fr w65 rfl) I_h9.pWrd, Ceq_ag (my_ag.fr w65 rfl) (I_h9.pCeq), Wd9_ag (my_ag.fr w65 rfl) (I_h9.pWd9), Teq_ag (my_ag.fr w65 rfl) (I_h9.pTeq), Wnq_ag (my_ag.fr w65 rfl) (I_h9.pWnq), Hed_ag (my_ag.fr w65 rfl) (I_h9.pHed), sim_h64⟩
      show lwp p l e s m below meth c b D tys sg rho 1439 [(3, 0), (2, 0), (2, 151), (2, 203), (0, i), (9, 0), (9, 0)] [(0, (-1))] h64 kn
      refine lw_pop gz_0_1439 rfl ?_
      refine lw_goto (t := 1878) gz_0_1440 rfl ?_
      exact K h64 I_h64
    ·
      have sim_h69 : Sim h69 := Sim_q I_h9.pLn (I_h9.pWnq.2.1) (my_ag.fr w70 rfl) (bg26 w70 (by decide +kernel)) w78 I_h9.pSim
      have I_h69 : LInv h69 := ⟨Ln_ag (my_ag.fr w70 rfl) I_h9.pLn, Mw_ag (my_ag.fr w70 rfl) I_h9.pMw, Mw3_ag (my_ag.fr w70 rfl) I_h9.pMw3, w79, Wrd_ag (my_ag.fr w70 rfl) I_h9.pWrd, Ceq_ag (my_ag.fr w70 rfl) (I_h9.pCeq), Wd9_ag (my_ag.fr w70 rfl) (I_h9.pWd9), Teq_ag (my_ag.fr w70 rfl) (I_h9.pTeq), Wnq_ag (my_ag.fr w70 rfl) (I_h9.pWnq), Hed_ag (my_ag.fr w70 rfl) (I_h9.pHed), sim_h69⟩
      show lwp p l e s m below meth c b D tys sg rho 1439 [(3, 0), (2, 0), (2, 151), (2, 203), (0, i), (9, 0), (9, 0)] [(0, 0)] h69 kn
      refine lw_pop gz_0_1439 rfl ?_
      refine lw_goto (t := 1878) gz_0_1440 rfl ?_
      exact K h69 I_h69
    ·
      have sim_h80 : Sim h80 := Sim_q I_h9.pLn (I_h9.pWnq.2.1) (my_ag.fr w81 rfl) (bg26 w81 (by decide +kernel)) w89 I_h9.pSim
      have I_h80 : LInv h80 := ⟨Ln_ag (my_ag.fr w81 rfl) I_h9.pLn, Mw_ag (my_ag.fr w81 rfl) I_h9.pMw, Mw3_ag (my_ag.fr w81 rfl) I_h9.pMw3, w90, Wrd_ag (my_ag.fr w81 rfl) I_h9.pWrd, Ceq_ag (my_ag.fr w81 rfl) (I_h9.pCeq), Wd9_ag (my_ag.fr w81 rfl) (I_h9.pWd9), Teq_ag (my_ag.fr w81 rfl) (I_h9.pTeq), Wnq_ag (my_ag.fr w81 rfl) (I_h9.pWnq), Hed_ag (my_ag.fr w81 rfl) (I_h9.pHed), sim_h80⟩
      show lwp p l e s m below meth c b D tys sg rho 1439 [(3, 0), (2, 0), (2, 151), (2, 203), (0, i), (9, 0), (9, 0)] [(0, 1)] h80 kn
      refine lw_pop gz_0_1439 rfl ?_
      refine lw_goto (t := 1878) gz_0_1440 rfl ?_
      exact K h80 I_h80
  ·
    have sim_h19 : Sim h19 := Sim_q I.pLn (I.pWnq.2.1) (my_ag.fr w20 rfl) (fun k j a b => w27 k j (by omega) (by omega)) (Ot9_e (fun j => my_fr.at w20 qis_162 rfl) (fun j => my_fr.at w20 qis_163 rfl)) I.pSim
    have I_h19 : LInv h19 := ⟨w28, Mw_ag (my_ag.fr w20 rfl) I.pMw, Mw3_ag (my_ag.fr w20 rfl) I.pMw3, Rws_ag (my_ag.fr w20 rfl) I.pRws, Wrd_ag (my_ag.fr w20 rfl) I.pWrd, Ceq_ag (my_ag.fr w20 rfl) (I.pCeq), Wd9_ag (my_ag.fr w20 rfl) (I.pWd9), Teq_ag (my_ag.fr w20 rfl) (I.pTeq), Wnq_ag (my_ag.fr w20 rfl) (I.pWnq), Hed_ag (my_ag.fr w20 rfl) (I.pHed), sim_h19⟩
    show lwp p l e s m below meth c b D tys sg rho 1410 [(3, 0), (2, 0), (2, 151), (2, 203), (0, i), (9, 0), (9, 0)] [(0, 1)] h19 kn
    refine lw_pop gz_0_1410 rfl ?_
    refine lw_aload_n gz_0_1411 rfl ?_
    refine lw_aload3_n gz_0_1412 rfl ?_
    refine lw_iload gz_0_1413 rfl ?_
    refine lw_iconst gz_0_1415 (by decide) ?_
    refine lw_iadd gz_0_1416 ⟨by omega, by omega⟩ ?_
    refine lw_sl gz_0_1417 hL4 hL (by omega) (by omega) (fun z91 ez91 pz91 qz91 => ?_)
    refine lw_aload3_n gz_0_1418 rfl ?_
    refine lw_iload gz_0_1419 rfl ?_
    refine lw_iconst gz_0_1421 (by decide) ?_
    refine lw_iadd gz_0_1422 ⟨by omega, by omega⟩ ?_
    refine lw_sl gz_0_1423 hL4 hL (by omega) (by omega) (fun z92 ez92 pz92 qz92 => ?_)
    refine lw_aload3_n gz_0_1424 rfl ?_
    refine lw_iload gz_0_1425 rfl ?_
    refine lw_iconst gz_0_1427 (by decide) ?_
    refine lw_iadd gz_0_1428 ⟨by omega, by omega⟩ ?_
    refine lw_sl gz_0_1429 hL4 hL (by omega) (by omega) (fun z93 ez93 pz93 qz93 => ?_)
    refine lw_aload3_n gz_0_1430 rfl ?_
    refine lw_iload gz_0_1431 rfl ?_
    refine lw_iconst gz_0_1433 (by decide) ?_
    refine lw_iadd gz_0_1434 ⟨by omega, by omega⟩ ?_
    refine lw_sl gz_0_1435 hL4 hL (by omega) (by omega) (fun z94 ez94 pz94 qz94 => ?_)
    refine lw_inv (kz := 2) (as := [(0, z94), (0, z93), (0, z92), (0, z91)]) (r := []) (x := 151) (ls0 := [(2, 151), (0, z91), (0, z92), (0, z93), (0, z94), (9, 0), (9, 0)]) gz_0_1436 gm_231 rfl is_151 rd_10 rfl rfl rfl rfl rfl (c_Model_back4 (d := 21) (x1 := z91) (x2 := z92) (x3 := z93) (x4 := z94) I_h19.pMw I_h19.pMw3 I_h19.pRws (I_h19.pSim.1.2.1) (I_h19.pSim.mwo) (fun h95 w96 w97 w98 w99 => ?_) (fun h100 w101 w102 w103 w104 w105 w106 w107 w108 w109 w110 => ?_) (fun h111 w112 w113 w114 w115 w116 w117 w118 w119 w120 w121 => ?_))
    ·
      have sim_h95 : Sim h95 := Sim_q I_h19.pLn (I_h19.pWnq.2.1) (my_ag.fr w96 rfl) (bg26 w96 (by decide +kernel)) w98 I_h19.pSim
      have I_h95 : LInv h95 := ⟨Ln_ag (my_ag.fr w96 rfl) I_h19.pLn, Mw_ag (my_ag.fr w96 rfl) I_h19.pMw, Mw3_ag (my_ag.fr w96 rfl) I_h19.pMw3, w99, Wrd_ag (my_ag.fr w96 rfl) I_h19.pWrd, Ceq_ag (my_ag.fr w96 rfl) (I_h19.pCeq), Wd9_ag (my_ag.fr w96 rfl) (I_h19.pWd9), Teq_ag (my_ag.fr w96 rfl) (I_h19.pTeq), Wnq_ag (my_ag.fr w96 rfl) (I_h19.pWnq), Hed_ag (my_ag.fr w96 rfl) (I_h19.pHed), sim_h95⟩
      show lwp p l e s m below meth c b D tys sg rho 1439 [(3, 0), (2, 0), (2, 151), (2, 203), (0, i), (9, 0), (9, 0)] [(0, (-1))] h95 kn
      refine lw_pop gz_0_1439 rfl ?_
      refine lw_goto (t := 1878) gz_0_1440 rfl ?_
      exact K h95 I_h95
    ·
      have sim_h100 : Sim h100 := Sim_q I_h19.pLn (I_h19.pWnq.2.1) (my_ag.fr w101 rfl) (bg26 w101 (by decide +kernel)) w109 I_h19.pSim
      have I_h100 : LInv h100 := ⟨Ln_ag (my_ag.fr w101 rfl) I_h19.pLn, Mw_ag (my_ag.fr w101 rfl) I_h19.pMw, Mw3_ag (my_ag.fr w101 rfl) I_h19.pMw3, w110, Wrd_ag (my_ag.fr w101 rfl) I_h19.pWrd, Ceq_ag (my_ag.fr w101 rfl) (I_h19.pCeq), Wd9_ag (my_ag.fr w101 rfl) (I_h19.pWd9), Teq_ag (my_ag.fr w101 rfl) (I_h19.pTeq), Wnq_ag (my_ag.fr w101 rfl) (I_h19.pWnq), Hed_ag (my_ag.fr w101 rfl) (I_h19.pHed), sim_h100⟩
      show lwp p l e s m below meth c b D tys sg rho 1439 [(3, 0), (2, 0), (2, 151), (2, 203), (0, i), (9, 0), (9, 0)] [(0, 0)] h100 kn
      refine lw_pop gz_0_1439 rfl ?_
      refine lw_goto (t := 1878) gz_0_1440 rfl ?_
      exact K h100 I_h100
    ·
      have sim_h111 : Sim h111 := Sim_q I_h19.pLn (I_h19.pWnq.2.1) (my_ag.fr w112 rfl) (bg26 w112 (by decide +kernel)) w120 I_h19.pSim
      have I_h111 : LInv h111 := ⟨Ln_ag (my_ag.fr w112 rfl) I_h19.pLn, Mw_ag (my_ag.fr w112 rfl) I_h19.pMw, Mw3_ag (my_ag.fr w112 rfl) I_h19.pMw3, w121, Wrd_ag (my_ag.fr w112 rfl) I_h19.pWrd, Ceq_ag (my_ag.fr w112 rfl) (I_h19.pCeq), Wd9_ag (my_ag.fr w112 rfl) (I_h19.pWd9), Teq_ag (my_ag.fr w112 rfl) (I_h19.pTeq), Wnq_ag (my_ag.fr w112 rfl) (I_h19.pWnq), Hed_ag (my_ag.fr w112 rfl) (I_h19.pHed), sim_h111⟩
      show lwp p l e s m below meth c b D tys sg rho 1439 [(3, 0), (2, 0), (2, 151), (2, 203), (0, i), (9, 0), (9, 0)] [(0, 1)] h111 kn
      refine lw_pop gz_0_1439 rfl ?_
      refine lw_goto (t := 1878) gz_0_1440 rfl ?_
      exact K h111 I_h111
theorem lcase_20 (hL4 : L4 ≤ 4096) (hL : rho 4096 = Int32.ofNat L4) (I : LInv h) (i0 : 0 ≤ i) (i8 : i + 8 ≤ L4) (K : ∀ h' : my_H, LInv h' → lwp p l e s m below meth c b D tys sg rho 1878 [(3, 0), (2, 0), (2, 151), (2, 203), (0, i), (9, 0), (9, 0)] [] h' kn) : lwp p l e s m below meth c b D tys sg rho 1443 [(3, 0), (2, 0), (2, 151), (2, 203), (0, i), (9, 0), (9, 0)] [] h kn := by
  refine lw_aload_n gz_0_1443 rfl ?_
  refine lw_aload3_n gz_0_1444 rfl ?_
  refine lw_iload gz_0_1445 rfl ?_
  refine lw_iconst gz_0_1447 (by decide) ?_
  refine lw_iadd gz_0_1448 ⟨by omega, by omega⟩ ?_
  refine lw_sl gz_0_1449 hL4 hL (by omega) (by omega) (fun z1 ez1 pz1 qz1 => ?_)
  refine lw_aload3_n gz_0_1450 rfl ?_
  refine lw_iload gz_0_1451 rfl ?_
  refine lw_iconst gz_0_1453 (by decide) ?_
  refine lw_iadd gz_0_1454 ⟨by omega, by omega⟩ ?_
  refine lw_sl gz_0_1455 hL4 hL (by omega) (by omega) (fun z2 ez2 pz2 qz2 => ?_)
  refine lw_aload3_n gz_0_1456 rfl ?_
  refine lw_iload gz_0_1457 rfl ?_
  refine lw_iconst gz_0_1459 (by decide) ?_
  refine lw_iadd gz_0_1460 ⟨by omega, by omega⟩ ?_
  refine lw_sl gz_0_1461 hL4 hL (by omega) (by omega) (fun z3 ez3 pz3 qz3 => ?_)
  refine lw_aload3_n gz_0_1462 rfl ?_
  refine lw_iload gz_0_1463 rfl ?_
  refine lw_iconst gz_0_1465 (by decide) ?_
  refine lw_iadd gz_0_1466 ⟨by omega, by omega⟩ ?_
  refine lw_sl gz_0_1467 hL4 hL (by omega) (by omega) (fun z4 ez4 pz4 qz4 => ?_)
  refine lw_aload3_n gz_0_1468 rfl ?_
  refine lw_iload gz_0_1469 rfl ?_
  refine lw_iconst gz_0_1471 (by decide) ?_
  refine lw_iadd gz_0_1472 ⟨by omega, by omega⟩ ?_
  refine lw_sl gz_0_1473 hL4 hL (by omega) (by omega) (fun z5 ez5 pz5 qz5 => ?_)
  refine lw_aload3_n gz_0_1474 rfl ?_
  refine lw_iload gz_0_1475 rfl ?_
  refine lw_bipush gz_0_1477 (by decide) ?_
  refine lw_iadd gz_0_1479 ⟨by omega, by omega⟩ ?_
  refine lw_sl gz_0_1480 hL4 hL (by omega) (by omega) (fun z6 ez6 pz6 qz6 => ?_)
  refine lw_inv (kz := 6) (as := [(0, z6), (0, z5), (0, z4), (0, z3), (0, z2), (0, z1)]) (r := []) (x := 0) (ls0 := [(2, 0), (0, z1), (0, z2), (0, z3), (0, z4), (0, z5), (0, z6), (9, 0), (9, 0), (9, 0), (9, 0), (9, 0), (9, 0)]) gz_0_1481 gm_118 rfl is_0 rd_9 rfl rfl rfl rfl rfl (c_ThroughWindow_clash4 (d := 22) (x1 := z1) (x2 := z2) (x3 := z3) (x4 := z4) (x5 := z5) (x6 := z6) I.pLn (I.pSim.1.1) (I.pSim.2.1.1) (fun h7 w8 w9 w10 => ?_) (fun h11 w12 w13 w14 w15 w16 w17 w18 w19 w20 => ?_) (fun h21 w22 w23 w24 w25 w26 w27 w28 w29 w30 => ?_) (fun h31 y32 w33 w34 w35 w36 w37 w38 w39 w40 w41 w42 w43 => ?_))
  ·
    have sim_h7 : Sim h7 := Sim_q I.pLn (I.pWnq.2.1) (my_ag.fr w8 rfl) (fun k j a b => w9 k j (by omega) (by omega)) (Ot9_e (fun j => my_fr.at w8 qis_162 rfl) (fun j => my_fr.at w8 qis_163 rfl)) I.pSim
    have I_h7 : LInv h7 := ⟨w10, Mw_ag (my_ag.fr w8 rfl) I.pMw, Mw3_ag (my_ag.fr w8 rfl) I.pMw3, Rws_ag (my_ag.fr w8 rfl) I.pRws, Wrd_ag (my_ag.fr w8 rfl) I.pWrd, Ceq_ag (my_ag.fr w8 rfl) (I.pCeq), Wd9_ag (my_ag.fr w8 rfl) (I.pWd9), Teq_ag (my_ag.fr w8 rfl) (I.pTeq), Wnq_ag (my_ag.fr w8 rfl) (I.pWnq), Hed_ag (my_ag.fr w8 rfl) (I.pHed), sim_h7⟩
    show lwp p l e s m below meth c b D tys sg rho 1484 [(3, 0), (2, 0), (2, 151), (2, 203), (0, i), (9, 0), (9, 0)] [(0, (-1))] h7 kn
    refine lw_pop gz_0_1484 rfl ?_
    refine lw_aload_n gz_0_1485 rfl ?_
    refine lw_aload3_n gz_0_1486 rfl ?_
    refine lw_iload gz_0_1487 rfl ?_
    refine lw_iconst gz_0_1489 (by decide) ?_
    refine lw_iadd gz_0_1490 ⟨by omega, by omega⟩ ?_
    refine lw_sl gz_0_1491 hL4 hL (by omega) (by omega) (fun z44 ez44 pz44 qz44 => ?_)
    refine lw_aload3_n gz_0_1492 rfl ?_
    refine lw_iload gz_0_1493 rfl ?_
    refine lw_iconst gz_0_1495 (by decide) ?_
    refine lw_iadd gz_0_1496 ⟨by omega, by omega⟩ ?_
    refine lw_sl gz_0_1497 hL4 hL (by omega) (by omega) (fun z45 ez45 pz45 qz45 => ?_)
    refine lw_aload3_n gz_0_1498 rfl ?_
    refine lw_iload gz_0_1499 rfl ?_
    refine lw_iconst gz_0_1501 (by decide) ?_
    refine lw_iadd gz_0_1502 ⟨by omega, by omega⟩ ?_
    refine lw_sl gz_0_1503 hL4 hL (by omega) (by omega) (fun z46 ez46 pz46 qz46 => ?_)
    refine lw_aload3_n gz_0_1504 rfl ?_
    refine lw_iload gz_0_1505 rfl ?_
    refine lw_iconst gz_0_1507 (by decide) ?_
    refine lw_iadd gz_0_1508 ⟨by omega, by omega⟩ ?_
    refine lw_sl gz_0_1509 hL4 hL (by omega) (by omega) (fun z47 ez47 pz47 qz47 => ?_)
    refine lw_aload3_n gz_0_1510 rfl ?_
    refine lw_iload gz_0_1511 rfl ?_
    refine lw_iconst gz_0_1513 (by decide) ?_
    refine lw_iadd gz_0_1514 ⟨by omega, by omega⟩ ?_
    refine lw_sl gz_0_1515 hL4 hL (by omega) (by omega) (fun z48 ez48 pz48 qz48 => ?_)
    refine lw_aload3_n gz_0_1516 rfl ?_
    refine lw_iload gz_0_1517 rfl ?_
    refine lw_bipush gz_0_1519 (by decide) ?_
    refine lw_iadd gz_0_1521 ⟨by omega, by omega⟩ ?_
    refine lw_sl gz_0_1522 hL4 hL (by omega) (by omega) (fun z49 ez49 pz49 qz49 => ?_)
    refine lw_inv (kz := 2) (as := [(0, z49), (0, z48), (0, z47), (0, z46), (0, z45), (0, z44)]) (r := []) (x := 151) (ls0 := [(2, 151), (0, z44), (0, z45), (0, z46), (0, z47), (0, z48), (0, z49), (9, 0), (9, 0)]) gz_0_1523 gm_232 rfl is_151 rd_10 rfl rfl rfl rfl rfl (c_Model_clash4 (d := 20) (x1 := z44) (x2 := z45) (x3 := z46) (x4 := z47) (x5 := z48) (x6 := z49) I_h7.pMw I_h7.pMw3 I_h7.pRws (I_h7.pSim.1.2.1) (I_h7.pSim.mwo) (fun h50 w51 w52 w53 w54 => ?_) (fun h55 w56 w57 w58 w59 w60 w61 w62 w63 w64 w65 => ?_) (fun h66 w67 w68 w69 w70 w71 w72 w73 w74 w75 w76 => ?_) (fun h77 y78 w79 w80 w81 w82 w83 w84 w85 w86 w87 w88 w89 w90 => ?_))
    ·
      have sim_h50 : Sim h50 := Sim_q I_h7.pLn (I_h7.pWnq.2.1) (my_ag.fr w51 rfl) (bg26 w51 (by decide +kernel)) w53 I_h7.pSim
      have I_h50 : LInv h50 := ⟨Ln_ag (my_ag.fr w51 rfl) I_h7.pLn, Mw_ag (my_ag.fr w51 rfl) I_h7.pMw, Mw3_ag (my_ag.fr w51 rfl) I_h7.pMw3, w54, Wrd_ag (my_ag.fr w51 rfl) I_h7.pWrd, Ceq_ag (my_ag.fr w51 rfl) (I_h7.pCeq), Wd9_ag (my_ag.fr w51 rfl) (I_h7.pWd9), Teq_ag (my_ag.fr w51 rfl) (I_h7.pTeq), Wnq_ag (my_ag.fr w51 rfl) (I_h7.pWnq), Hed_ag (my_ag.fr w51 rfl) (I_h7.pHed), sim_h50⟩
      show lwp p l e s m below meth c b D tys sg rho 1526 [(3, 0), (2, 0), (2, 151), (2, 203), (0, i), (9, 0), (9, 0)] [(0, (-1))] h50 kn
      refine lw_pop gz_0_1526 rfl ?_
      refine lw_goto (t := 1878) gz_0_1527 rfl ?_
      exact K h50 I_h50
    ·
      have sim_h55 : Sim h55 := Sim_q I_h7.pLn (I_h7.pWnq.2.1) (my_ag.fr w56 rfl) (bg26 w56 (by decide +kernel)) w64 I_h7.pSim
      have I_h55 : LInv h55 := ⟨Ln_ag (my_ag.fr w56 rfl) I_h7.pLn, Mw_ag (my_ag.fr w56 rfl) I_h7.pMw, Mw3_ag (my_ag.fr w56 rfl) I_h7.pMw3, w65, Wrd_ag (my_ag.fr w56 rfl) I_h7.pWrd, Ceq_ag (my_ag.fr w56 rfl) (I_h7.pCeq), Wd9_ag (my_ag.fr w56 rfl) (I_h7.pWd9), Teq_ag (my_ag.fr w56 rfl) (I_h7.pTeq), Wnq_ag (my_ag.fr w56 rfl) (I_h7.pWnq), Hed_ag (my_ag.fr w56 rfl) (I_h7.pHed), sim_h55⟩
      show lwp p l e s m below meth c b D tys sg rho 1526 [(3, 0), (2, 0), (2, 151), (2, 203), (0, i), (9, 0), (9, 0)] [(0, 0)] h55 kn
      refine lw_pop gz_0_1526 rfl ?_
      refine lw_goto (t := 1878) gz_0_1527 rfl ?_
      exact K h55 I_h55
    ·
      have sim_h66 : Sim h66 := Sim_q I_h7.pLn (I_h7.pWnq.2.1) (my_ag.fr w67 rfl) (bg26 w67 (by decide +kernel)) w75 I_h7.pSim
      have I_h66 : LInv h66 := ⟨Ln_ag (my_ag.fr w67 rfl) I_h7.pLn, Mw_ag (my_ag.fr w67 rfl) I_h7.pMw, Mw3_ag (my_ag.fr w67 rfl) I_h7.pMw3, w76, Wrd_ag (my_ag.fr w67 rfl) I_h7.pWrd, Ceq_ag (my_ag.fr w67 rfl) (I_h7.pCeq), Wd9_ag (my_ag.fr w67 rfl) (I_h7.pWd9), Teq_ag (my_ag.fr w67 rfl) (I_h7.pTeq), Wnq_ag (my_ag.fr w67 rfl) (I_h7.pWnq), Hed_ag (my_ag.fr w67 rfl) (I_h7.pHed), sim_h66⟩
      show lwp p l e s m below meth c b D tys sg rho 1526 [(3, 0), (2, 0), (2, 151), (2, 203), (0, i), (9, 0), (9, 0)] [(0, 1)] h66 kn
      refine lw_pop gz_0_1526 rfl ?_
      refine lw_goto (t := 1878) gz_0_1527 rfl ?_
      exact K h66 I_h66
    ·
      have sim_h77 : Sim h77 := Sim_q I_h7.pLn (I_h7.pWnq.2.1) (my_ag.fr w79 rfl) (bg26 w79 (by decide +kernel)) w89 I_h7.pSim
      have I_h77 : LInv h77 := ⟨Ln_ag (my_ag.fr w79 rfl) I_h7.pLn, Mw_ag (my_ag.fr w79 rfl) I_h7.pMw, Mw3_ag (my_ag.fr w79 rfl) I_h7.pMw3, w90, Wrd_ag (my_ag.fr w79 rfl) I_h7.pWrd, Ceq_ag (my_ag.fr w79 rfl) (I_h7.pCeq), Wd9_ag (my_ag.fr w79 rfl) (I_h7.pWd9), Teq_ag (my_ag.fr w79 rfl) (I_h7.pTeq), Wnq_ag (my_ag.fr w79 rfl) (I_h7.pWnq), Hed_ag (my_ag.fr w79 rfl) (I_h7.pHed), sim_h77⟩
      show lwp p l e s m below meth c b D tys sg rho 1526 [(3, 0), (2, 0), (2, 151), (2, 203), (0, i), (9, 0), (9, 0)] [(0, y78)] h77 kn
      refine lw_pop gz_0_1526 rfl ?_
      refine lw_goto (t := 1878) gz_0_1527 rfl ?_
      exact K h77 I_h77
  ·
    have sim_h11 : Sim h11 := Sim_q I.pLn (I.pWnq.2.1) (my_ag.fr w12 rfl) (fun k j a b => w19 k j (by omega) (by omega)) (Ot9_e (fun j => my_fr.at w12 qis_162 rfl) (fun j => my_fr.at w12 qis_163 rfl)) I.pSim
    have I_h11 : LInv h11 := ⟨w20, Mw_ag (my_ag.fr w12 rfl) I.pMw, Mw3_ag (my_ag.fr w12 rfl) I.pMw3, Rws_ag (my_ag.fr w12 rfl) I.pRws, Wrd_ag (my_ag.fr w12 rfl) I.pWrd, Ceq_ag (my_ag.fr w12 rfl) (I.pCeq), Wd9_ag (my_ag.fr w12 rfl) (I.pWd9), Teq_ag (my_ag.fr w12 rfl) (I.pTeq), Wnq_ag (my_ag.fr w12 rfl) (I.pWnq), Hed_ag (my_ag.fr w12 rfl) (I.pHed), sim_h11⟩
    show lwp p l e s m below meth c b D tys sg rho 1484 [(3, 0), (2, 0), (2, 151), (2, 203), (0, i), (9, 0), (9, 0)] [(0, 0)] h11 kn
    refine lw_pop gz_0_1484 rfl ?_
    refine lw_aload_n gz_0_1485 rfl ?_
    refine lw_aload3_n gz_0_1486 rfl ?_
    refine lw_iload gz_0_1487 rfl ?_
    refine lw_iconst gz_0_1489 (by decide) ?_
    refine lw_iadd gz_0_1490 ⟨by omega, by omega⟩ ?_
    refine lw_sl gz_0_1491 hL4 hL (by omega) (by omega) (fun z91 ez91 pz91 qz91 => ?_)
    refine lw_aload3_n gz_0_1492 rfl ?_
    refine lw_iload gz_0_1493 rfl ?_
    refine lw_iconst gz_0_1495 (by decide) ?_
    refine lw_iadd gz_0_1496 ⟨by omega, by omega⟩ ?_
    refine lw_sl gz_0_1497 hL4 hL (by omega) (by omega) (fun z92 ez92 pz92 qz92 => ?_)
    refine lw_aload3_n gz_0_1498 rfl ?_
    refine lw_iload gz_0_1499 rfl ?_
    refine lw_iconst gz_0_1501 (by decide) ?_
    refine lw_iadd gz_0_1502 ⟨by omega, by omega⟩ ?_
    refine lw_sl gz_0_1503 hL4 hL (by omega) (by omega) (fun z93 ez93 pz93 qz93 => ?_)
    refine lw_aload3_n gz_0_1504 rfl ?_
    refine lw_iload gz_0_1505 rfl ?_
    refine lw_iconst gz_0_1507 (by decide) ?_
    refine lw_iadd gz_0_1508 ⟨by omega, by omega⟩ ?_
    refine lw_sl gz_0_1509 hL4 hL (by omega) (by omega) (fun z94 ez94 pz94 qz94 => ?_)
    refine lw_aload3_n gz_0_1510 rfl ?_
    refine lw_iload gz_0_1511 rfl ?_
    refine lw_iconst gz_0_1513 (by decide) ?_
    refine lw_iadd gz_0_1514 ⟨by omega, by omega⟩ ?_
    refine lw_sl gz_0_1515 hL4 hL (by omega) (by omega) (fun z95 ez95 pz95 qz95 => ?_)
    refine lw_aload3_n gz_0_1516 rfl ?_
    refine lw_iload gz_0_1517 rfl ?_
    refine lw_bipush gz_0_1519 (by decide) ?_
    refine lw_iadd gz_0_1521 ⟨by omega, by omega⟩ ?_
    refine lw_sl gz_0_1522 hL4 hL (by omega) (by omega) (fun z96 ez96 pz96 qz96 => ?_)
    refine lw_inv (kz := 2) (as := [(0, z96), (0, z95), (0, z94), (0, z93), (0, z92), (0, z91)]) (r := []) (x := 151) (ls0 := [(2, 151), (0, z91), (0, z92), (0, z93), (0, z94), (0, z95), (0, z96), (9, 0), (9, 0)]) gz_0_1523 gm_232 rfl is_151 rd_10 rfl rfl rfl rfl rfl (c_Model_clash4 (d := 20) (x1 := z91) (x2 := z92) (x3 := z93) (x4 := z94) (x5 := z95) (x6 := z96) I_h11.pMw I_h11.pMw3 I_h11.pRws (I_h11.pSim.1.2.1) (I_h11.pSim.mwo) (fun h97 w98 w99 w100 w101 => ?_) (fun h102 w103 w104 w105 w106 w107 w108 w109 w110 w111 w112 => ?_) (fun h113 w114 w115 w116 w117 w118 w119 w120 w121 w122 w123 => ?_) (fun h124 y125 w126 w127 w128 w129 w130 w131 w132 w133 w134 w135 w136 w137 => ?_))
    ·
      have sim_h97 : Sim h97 := Sim_q I_h11.pLn (I_h11.pWnq.2.1) (my_ag.fr w98 rfl) (bg26 w98 (by decide +kernel)) w100 I_h11.pSim
      have I_h97 : LInv h97 := ⟨Ln_ag (my_ag.fr w98 rfl) I_h11.pLn, Mw_ag (my_ag.fr w98 rfl) I_h11.pMw, Mw3_ag (my_ag.fr w98 rfl) I_h11.pMw3, w101, Wrd_ag (my_ag.fr w98 rfl) I_h11.pWrd, Ceq_ag (my_ag.fr w98 rfl) (I_h11.pCeq), Wd9_ag (my_ag.fr w98 rfl) (I_h11.pWd9), Teq_ag (my_ag.fr w98 rfl) (I_h11.pTeq), Wnq_ag (my_ag.fr w98 rfl) (I_h11.pWnq), Hed_ag (my_ag.fr w98 rfl) (I_h11.pHed), sim_h97⟩
      show lwp p l e s m below meth c b D tys sg rho 1526 [(3, 0), (2, 0), (2, 151), (2, 203), (0, i), (9, 0), (9, 0)] [(0, (-1))] h97 kn
      refine lw_pop gz_0_1526 rfl ?_
      refine lw_goto (t := 1878) gz_0_1527 rfl ?_
      exact K h97 I_h97
    ·
      have sim_h102 : Sim h102 := Sim_q I_h11.pLn (I_h11.pWnq.2.1) (my_ag.fr w103 rfl) (bg26 w103 (by decide +kernel)) w111 I_h11.pSim
      have I_h102 : LInv h102 := ⟨Ln_ag (my_ag.fr w103 rfl) I_h11.pLn, Mw_ag (my_ag.fr w103 rfl) I_h11.pMw, Mw3_ag (my_ag.fr w103 rfl) I_h11.pMw3, w112, Wrd_ag (my_ag.fr w103 rfl) I_h11.pWrd, Ceq_ag (my_ag.fr w103 rfl) (I_h11.pCeq), Wd9_ag (my_ag.fr w103 rfl) (I_h11.pWd9), Teq_ag (my_ag.fr w103 rfl) (I_h11.pTeq), Wnq_ag (my_ag.fr w103 rfl) (I_h11.pWnq), Hed_ag (my_ag.fr w103 rfl) (I_h11.pHed), sim_h102⟩
      show lwp p l e s m below meth c b D tys sg rho 1526 [(3, 0), (2, 0), (2, 151), (2, 203), (0, i), (9, 0), (9, 0)] [(0, 0)] h102 kn
      refine lw_pop gz_0_1526 rfl ?_
      refine lw_goto (t := 1878) gz_0_1527 rfl ?_
      exact K h102 I_h102
    ·
      have sim_h113 : Sim h113 := Sim_q I_h11.pLn (I_h11.pWnq.2.1) (my_ag.fr w114 rfl) (bg26 w114 (by decide +kernel)) w122 I_h11.pSim
      have I_h113 : LInv h113 := ⟨Ln_ag (my_ag.fr w114 rfl) I_h11.pLn, Mw_ag (my_ag.fr w114 rfl) I_h11.pMw, Mw3_ag (my_ag.fr w114 rfl) I_h11.pMw3, w123, Wrd_ag (my_ag.fr w114 rfl) I_h11.pWrd, Ceq_ag (my_ag.fr w114 rfl) (I_h11.pCeq), Wd9_ag (my_ag.fr w114 rfl) (I_h11.pWd9), Teq_ag (my_ag.fr w114 rfl) (I_h11.pTeq), Wnq_ag (my_ag.fr w114 rfl) (I_h11.pWnq), Hed_ag (my_ag.fr w114 rfl) (I_h11.pHed), sim_h113⟩
      show lwp p l e s m below meth c b D tys sg rho 1526 [(3, 0), (2, 0), (2, 151), (2, 203), (0, i), (9, 0), (9, 0)] [(0, 1)] h113 kn
      refine lw_pop gz_0_1526 rfl ?_
      refine lw_goto (t := 1878) gz_0_1527 rfl ?_
      exact K h113 I_h113
    ·
      have sim_h124 : Sim h124 := Sim_q I_h11.pLn (I_h11.pWnq.2.1) (my_ag.fr w126 rfl) (bg26 w126 (by decide +kernel)) w136 I_h11.pSim
      have I_h124 : LInv h124 := ⟨Ln_ag (my_ag.fr w126 rfl) I_h11.pLn, Mw_ag (my_ag.fr w126 rfl) I_h11.pMw, Mw3_ag (my_ag.fr w126 rfl) I_h11.pMw3, w137, Wrd_ag (my_ag.fr w126 rfl) I_h11.pWrd, Ceq_ag (my_ag.fr w126 rfl) (I_h11.pCeq), Wd9_ag (my_ag.fr w126 rfl) (I_h11.pWd9), Teq_ag (my_ag.fr w126 rfl) (I_h11.pTeq), Wnq_ag (my_ag.fr w126 rfl) (I_h11.pWnq), Hed_ag (my_ag.fr w126 rfl) (I_h11.pHed), sim_h124⟩
      show lwp p l e s m below meth c b D tys sg rho 1526 [(3, 0), (2, 0), (2, 151), (2, 203), (0, i), (9, 0), (9, 0)] [(0, y125)] h124 kn
      refine lw_pop gz_0_1526 rfl ?_
      refine lw_goto (t := 1878) gz_0_1527 rfl ?_
      exact K h124 I_h124
  ·
    have sim_h21 : Sim h21 := Sim_q I.pLn (I.pWnq.2.1) (my_ag.fr w22 rfl) (fun k j a b => w29 k j (by omega) (by omega)) (Ot9_e (fun j => my_fr.at w22 qis_162 rfl) (fun j => my_fr.at w22 qis_163 rfl)) I.pSim
    have I_h21 : LInv h21 := ⟨w30, Mw_ag (my_ag.fr w22 rfl) I.pMw, Mw3_ag (my_ag.fr w22 rfl) I.pMw3, Rws_ag (my_ag.fr w22 rfl) I.pRws, Wrd_ag (my_ag.fr w22 rfl) I.pWrd, Ceq_ag (my_ag.fr w22 rfl) (I.pCeq), Wd9_ag (my_ag.fr w22 rfl) (I.pWd9), Teq_ag (my_ag.fr w22 rfl) (I.pTeq), Wnq_ag (my_ag.fr w22 rfl) (I.pWnq), Hed_ag (my_ag.fr w22 rfl) (I.pHed), sim_h21⟩
    show lwp p l e s m below meth c b D tys sg rho 1484 [(3, 0), (2, 0), (2, 151), (2, 203), (0, i), (9, 0), (9, 0)] [(0, 1)] h21 kn
    refine lw_pop gz_0_1484 rfl ?_
    refine lw_aload_n gz_0_1485 rfl ?_
    refine lw_aload3_n gz_0_1486 rfl ?_
    refine lw_iload gz_0_1487 rfl ?_
    refine lw_iconst gz_0_1489 (by decide) ?_
    refine lw_iadd gz_0_1490 ⟨by omega, by omega⟩ ?_
    refine lw_sl gz_0_1491 hL4 hL (by omega) (by omega) (fun z138 ez138 pz138 qz138 => ?_)
    refine lw_aload3_n gz_0_1492 rfl ?_
    refine lw_iload gz_0_1493 rfl ?_
    refine lw_iconst gz_0_1495 (by decide) ?_
    refine lw_iadd gz_0_1496 ⟨by omega, by omega⟩ ?_
    refine lw_sl gz_0_1497 hL4 hL (by omega) (by omega) (fun z139 ez139 pz139 qz139 => ?_)
    refine lw_aload3_n gz_0_1498 rfl ?_
    refine lw_iload gz_0_1499 rfl ?_
    refine lw_iconst gz_0_1501 (by decide) ?_
    refine lw_iadd gz_0_1502 ⟨by omega, by omega⟩ ?_
    refine lw_sl gz_0_1503 hL4 hL (by omega) (by omega) (fun z140 ez140 pz140 qz140 => ?_)
    refine lw_aload3_n gz_0_1504 rfl ?_
    refine lw_iload gz_0_1505 rfl ?_
    refine lw_iconst gz_0_1507 (by decide) ?_
    refine lw_iadd gz_0_1508 ⟨by omega, by omega⟩ ?_
    refine lw_sl gz_0_1509 hL4 hL (by omega) (by omega) (fun z141 ez141 pz141 qz141 => ?_)
    refine lw_aload3_n gz_0_1510 rfl ?_
    refine lw_iload gz_0_1511 rfl ?_
    refine lw_iconst gz_0_1513 (by decide) ?_
    refine lw_iadd gz_0_1514 ⟨by omega, by omega⟩ ?_
    refine lw_sl gz_0_1515 hL4 hL (by omega) (by omega) (fun z142 ez142 pz142 qz142 => ?_)
    refine lw_aload3_n gz_0_1516 rfl ?_
    refine lw_iload gz_0_1517 rfl ?_
    refine lw_bipush gz_0_1519 (by decide) ?_
    refine lw_iadd gz_0_1521 ⟨by omega, by omega⟩ ?_
    refine lw_sl gz_0_1522 hL4 hL (by omega) (by omega) (fun z143 ez143 pz143 qz143 => ?_)
    refine lw_inv (kz := 2) (as := [(0, z143), (0, z142), (0, z141), (0, z140), (0, z139), (0, z138)]) (r := []) (x := 151) (ls0 := [(2, 151), (0, z138), (0, z139), (0, z140), (0, z141), (0, z142), (0, z143), (9, 0), (9, 0)]) gz_0_1523 gm_232 rfl is_151 rd_10 rfl rfl rfl rfl rfl (c_Model_clash4 (d := 20) (x1 := z138) (x2 := z139) (x3 := z140) (x4 := z141) (x5 := z142) (x6 := z143) I_h21.pMw I_h21.pMw3 I_h21.pRws (I_h21.pSim.1.2.1) (I_h21.pSim.mwo) (fun h144 w145 w146 w147 w148 => ?_) (fun h149 w150 w151 w152 w153 w154 w155 w156 w157 w158 w159 => ?_) (fun h160 w161 w162 w163 w164 w165 w166 w167 w168 w169 w170 => ?_) (fun h171 y172 w173 w174 w175 w176 w177 w178 w179 w180 w181 w182 w183 w184 => ?_))
    ·
      have sim_h144 : Sim h144 := Sim_q I_h21.pLn (I_h21.pWnq.2.1) (my_ag.fr w145 rfl) (bg26 w145 (by decide +kernel)) w147 I_h21.pSim
      have I_h144 : LInv h144 := ⟨Ln_ag (my_ag.fr w145 rfl) I_h21.pLn, Mw_ag (my_ag.fr w145 rfl) I_h21.pMw, Mw3_ag (my_ag.fr w145 rfl) I_h21.pMw3, w148, Wrd_ag (my_ag.fr w145 rfl) I_h21.pWrd, Ceq_ag (my_ag.fr w145 rfl) (I_h21.pCeq), Wd9_ag (my_ag.fr w145 rfl) (I_h21.pWd9), Teq_ag (my_ag.fr w145 rfl) (I_h21.pTeq), Wnq_ag (my_ag.fr w145 rfl) (I_h21.pWnq), Hed_ag (my_ag.fr w145 rfl) (I_h21.pHed), sim_h144⟩
      show lwp p l e s m below meth c b D tys sg rho 1526 [(3, 0), (2, 0), (2, 151), (2, 203), (0, i), (9, 0), (9, 0)] [(0, (-1))] h144 kn
      refine lw_pop gz_0_1526 rfl ?_
      refine lw_goto (t := 1878) gz_0_1527 rfl ?_
      exact K h144 I_h144
    ·
      have sim_h149 : Sim h149 := Sim_q I_h21.pLn (I_h21.pWnq.2.1) (my_ag.fr w150 rfl) (bg26 w150 (by decide +kernel)) w158 I_h21.pSim
      have I_h149 : LInv h149 := ⟨Ln_ag (my_ag.fr w150 rfl) I_h21.pLn, Mw_ag (my_ag.fr w150 rfl) I_h21.pMw, Mw3_ag (my_ag.fr w150 rfl) I_h21.pMw3, w159, Wrd_ag (my_ag.fr w150 rfl) I_h21.pWrd, Ceq_ag (my_ag.fr w150 rfl) (I_h21.pCeq), Wd9_ag (my_ag.fr w150 rfl) (I_h21.pWd9), Teq_ag (my_ag.fr w150 rfl) (I_h21.pTeq), Wnq_ag (my_ag.fr w150 rfl) (I_h21.pWnq), Hed_ag (my_ag.fr w150 rfl) (I_h21.pHed), sim_h149⟩
      show lwp p l e s m below meth c b D tys sg rho 1526 [(3, 0), (2, 0), (2, 151), (2, 203), (0, i), (9, 0), (9, 0)] [(0, 0)] h149 kn
      refine lw_pop gz_0_1526 rfl ?_
      refine lw_goto (t := 1878) gz_0_1527 rfl ?_
      exact K h149 I_h149
    ·
      have sim_h160 : Sim h160 := Sim_q I_h21.pLn (I_h21.pWnq.2.1) (my_ag.fr w161 rfl) (bg26 w161 (by decide +kernel)) w169 I_h21.pSim
      have I_h160 : LInv h160 := ⟨Ln_ag (my_ag.fr w161 rfl) I_h21.pLn, Mw_ag (my_ag.fr w161 rfl) I_h21.pMw, Mw3_ag (my_ag.fr w161 rfl) I_h21.pMw3, w170, Wrd_ag (my_ag.fr w161 rfl) I_h21.pWrd, Ceq_ag (my_ag.fr w161 rfl) (I_h21.pCeq), Wd9_ag (my_ag.fr w161 rfl) (I_h21.pWd9), Teq_ag (my_ag.fr w161 rfl) (I_h21.pTeq), Wnq_ag (my_ag.fr w161 rfl) (I_h21.pWnq), Hed_ag (my_ag.fr w161 rfl) (I_h21.pHed), sim_h160⟩
      show lwp p l e s m below meth c b D tys sg rho 1526 [(3, 0), (2, 0), (2, 151), (2, 203), (0, i), (9, 0), (9, 0)] [(0, 1)] h160 kn
      refine lw_pop gz_0_1526 rfl ?_
      refine lw_goto (t := 1878) gz_0_1527 rfl ?_
      exact K h160 I_h160
    ·
      have sim_h171 : Sim h171 := Sim_q I_h21.pLn (I_h21.pWnq.2.1) (my_ag.fr w173 rfl) (bg26 w173 (by decide +kernel)) w183 I_h21.pSim
      have I_h171 : LInv h171 := ⟨Ln_ag (my_ag.fr w173 rfl) I_h21.pLn, Mw_ag (my_ag.fr w173 rfl) I_h21.pMw, Mw3_ag (my_ag.fr w173 rfl) I_h21.pMw3, w184, Wrd_ag (my_ag.fr w173 rfl) I_h21.pWrd, Ceq_ag (my_ag.fr w173 rfl) (I_h21.pCeq), Wd9_ag (my_ag.fr w173 rfl) (I_h21.pWd9), Teq_ag (my_ag.fr w173 rfl) (I_h21.pTeq), Wnq_ag (my_ag.fr w173 rfl) (I_h21.pWnq), Hed_ag (my_ag.fr w173 rfl) (I_h21.pHed), sim_h171⟩
      show lwp p l e s m below meth c b D tys sg rho 1526 [(3, 0), (2, 0), (2, 151), (2, 203), (0, i), (9, 0), (9, 0)] [(0, y172)] h171 kn
      refine lw_pop gz_0_1526 rfl ?_
      refine lw_goto (t := 1878) gz_0_1527 rfl ?_
      exact K h171 I_h171
  ·
    have sim_h31 : Sim h31 := Sim_q I.pLn (I.pWnq.2.1) (my_ag.fr w33 rfl) (fun k j a b => w42 k j (by omega) (by omega)) (Ot9_e (fun j => my_fr.at w33 qis_162 rfl) (fun j => my_fr.at w33 qis_163 rfl)) I.pSim
    have I_h31 : LInv h31 := ⟨w43, Mw_ag (my_ag.fr w33 rfl) I.pMw, Mw3_ag (my_ag.fr w33 rfl) I.pMw3, Rws_ag (my_ag.fr w33 rfl) I.pRws, Wrd_ag (my_ag.fr w33 rfl) I.pWrd, Ceq_ag (my_ag.fr w33 rfl) (I.pCeq), Wd9_ag (my_ag.fr w33 rfl) (I.pWd9), Teq_ag (my_ag.fr w33 rfl) (I.pTeq), Wnq_ag (my_ag.fr w33 rfl) (I.pWnq), Hed_ag (my_ag.fr w33 rfl) (I.pHed), sim_h31⟩
    show lwp p l e s m below meth c b D tys sg rho 1484 [(3, 0), (2, 0), (2, 151), (2, 203), (0, i), (9, 0), (9, 0)] [(0, y32)] h31 kn
    refine lw_pop gz_0_1484 rfl ?_
    refine lw_aload_n gz_0_1485 rfl ?_
    refine lw_aload3_n gz_0_1486 rfl ?_
    refine lw_iload gz_0_1487 rfl ?_
    refine lw_iconst gz_0_1489 (by decide) ?_
    refine lw_iadd gz_0_1490 ⟨by omega, by omega⟩ ?_
    refine lw_sl gz_0_1491 hL4 hL (by omega) (by omega) (fun z185 ez185 pz185 qz185 => ?_)
    refine lw_aload3_n gz_0_1492 rfl ?_
    refine lw_iload gz_0_1493 rfl ?_
    refine lw_iconst gz_0_1495 (by decide) ?_
    refine lw_iadd gz_0_1496 ⟨by omega, by omega⟩ ?_
    refine lw_sl gz_0_1497 hL4 hL (by omega) (by omega) (fun z186 ez186 pz186 qz186 => ?_)
    refine lw_aload3_n gz_0_1498 rfl ?_
    refine lw_iload gz_0_1499 rfl ?_
    refine lw_iconst gz_0_1501 (by decide) ?_
    refine lw_iadd gz_0_1502 ⟨by omega, by omega⟩ ?_
    refine lw_sl gz_0_1503 hL4 hL (by omega) (by omega) (fun z187 ez187 pz187 qz187 => ?_)
    refine lw_aload3_n gz_0_1504 rfl ?_
    refine lw_iload gz_0_1505 rfl ?_
    refine lw_iconst gz_0_1507 (by decide) ?_
    refine lw_iadd gz_0_1508 ⟨by omega, by omega⟩ ?_
    refine lw_sl gz_0_1509 hL4 hL (by omega) (by omega) (fun z188 ez188 pz188 qz188 => ?_)
    refine lw_aload3_n gz_0_1510 rfl ?_
    refine lw_iload gz_0_1511 rfl ?_
    refine lw_iconst gz_0_1513 (by decide) ?_
    refine lw_iadd gz_0_1514 ⟨by omega, by omega⟩ ?_
    refine lw_sl gz_0_1515 hL4 hL (by omega) (by omega) (fun z189 ez189 pz189 qz189 => ?_)
    refine lw_aload3_n gz_0_1516 rfl ?_
    refine lw_iload gz_0_1517 rfl ?_
    refine lw_bipush gz_0_1519 (by decide) ?_
    refine lw_iadd gz_0_1521 ⟨by omega, by omega⟩ ?_
    refine lw_sl gz_0_1522 hL4 hL (by omega) (by omega) (fun z190 ez190 pz190 qz190 => ?_)
    refine lw_inv (kz := 2) (as := [(0, z190), (0, z189), (0, z188), (0, z187), (0, z186), (0, z185)]) (r := []) (x := 151) (ls0 := [(2, 151), (0, z185), (0, z186), (0, z187), (0, z188), (0, z189), (0, z190), (9, 0), (9, 0)]) gz_0_1523 gm_232 rfl is_151 rd_10 rfl rfl rfl rfl rfl (c_Model_clash4 (d := 20) (x1 := z185) (x2 := z186) (x3 := z187) (x4 := z188) (x5 := z189) (x6 := z190) I_h31.pMw I_h31.pMw3 I_h31.pRws (I_h31.pSim.1.2.1) (I_h31.pSim.mwo) (fun h191 w192 w193 w194 w195 => ?_) (fun h196 w197 w198 w199 w200 w201 w202 w203 w204 w205 w206 => ?_) (fun h207 w208 w209 w210 w211 w212 w213 w214 w215 w216 w217 => ?_) (fun h218 y219 w220 w221 w222 w223 w224 w225 w226 w227 w228 w229 w230 w231 => ?_))
    ·
      have sim_h191 : Sim h191 := Sim_q I_h31.pLn (I_h31.pWnq.2.1) (my_ag.fr w192 rfl) (bg26 w192 (by decide +kernel)) w194 I_h31.pSim
      have I_h191 : LInv h191 := ⟨Ln_ag (my_ag.fr w192 rfl) I_h31.pLn, Mw_ag (my_ag.fr w192 rfl) I_h31.pMw, Mw3_ag (my_ag.fr w192 rfl) I_h31.pMw3, w195, Wrd_ag (my_ag.fr w192 rfl) I_h31.pWrd, Ceq_ag (my_ag.fr w192 rfl) (I_h31.pCeq), Wd9_ag (my_ag.fr w192 rfl) (I_h31.pWd9), Teq_ag (my_ag.fr w192 rfl) (I_h31.pTeq), Wnq_ag (my_ag.fr w192 rfl) (I_h31.pWnq), Hed_ag (my_ag.fr w192 rfl) (I_h31.pHed), sim_h191⟩
      show lwp p l e s m below meth c b D tys sg rho 1526 [(3, 0), (2, 0), (2, 151), (2, 203), (0, i), (9, 0), (9, 0)] [(0, (-1))] h191 kn
      refine lw_pop gz_0_1526 rfl ?_
      refine lw_goto (t := 1878) gz_0_1527 rfl ?_
      exact K h191 I_h191
    ·
      have sim_h196 : Sim h196 := Sim_q I_h31.pLn (I_h31.pWnq.2.1) (my_ag.fr w197 rfl) (bg26 w197 (by decide +kernel)) w205 I_h31.pSim
      have I_h196 : LInv h196 := ⟨Ln_ag (my_ag.fr w197 rfl) I_h31.pLn, Mw_ag (my_ag.fr w197 rfl) I_h31.pMw, Mw3_ag (my_ag.fr w197 rfl) I_h31.pMw3, w206, Wrd_ag (my_ag.fr w197 rfl) I_h31.pWrd, Ceq_ag (my_ag.fr w197 rfl) (I_h31.pCeq), Wd9_ag (my_ag.fr w197 rfl) (I_h31.pWd9), Teq_ag (my_ag.fr w197 rfl) (I_h31.pTeq), Wnq_ag (my_ag.fr w197 rfl) (I_h31.pWnq), Hed_ag (my_ag.fr w197 rfl) (I_h31.pHed), sim_h196⟩
      show lwp p l e s m below meth c b D tys sg rho 1526 [(3, 0), (2, 0), (2, 151), (2, 203), (0, i), (9, 0), (9, 0)] [(0, 0)] h196 kn
      refine lw_pop gz_0_1526 rfl ?_
      refine lw_goto (t := 1878) gz_0_1527 rfl ?_
      exact K h196 I_h196
    ·
      have sim_h207 : Sim h207 := Sim_q I_h31.pLn (I_h31.pWnq.2.1) (my_ag.fr w208 rfl) (bg26 w208 (by decide +kernel)) w216 I_h31.pSim
      have I_h207 : LInv h207 := ⟨Ln_ag (my_ag.fr w208 rfl) I_h31.pLn, Mw_ag (my_ag.fr w208 rfl) I_h31.pMw, Mw3_ag (my_ag.fr w208 rfl) I_h31.pMw3, w217, Wrd_ag (my_ag.fr w208 rfl) I_h31.pWrd, Ceq_ag (my_ag.fr w208 rfl) (I_h31.pCeq), Wd9_ag (my_ag.fr w208 rfl) (I_h31.pWd9), Teq_ag (my_ag.fr w208 rfl) (I_h31.pTeq), Wnq_ag (my_ag.fr w208 rfl) (I_h31.pWnq), Hed_ag (my_ag.fr w208 rfl) (I_h31.pHed), sim_h207⟩
      show lwp p l e s m below meth c b D tys sg rho 1526 [(3, 0), (2, 0), (2, 151), (2, 203), (0, i), (9, 0), (9, 0)] [(0, 1)] h207 kn
      refine lw_pop gz_0_1526 rfl ?_
      refine lw_goto (t := 1878) gz_0_1527 rfl ?_
      exact K h207 I_h207
    ·
      have sim_h218 : Sim h218 := Sim_q I_h31.pLn (I_h31.pWnq.2.1) (my_ag.fr w220 rfl) (bg26 w220 (by decide +kernel)) w230 I_h31.pSim
      have I_h218 : LInv h218 := ⟨Ln_ag (my_ag.fr w220 rfl) I_h31.pLn, Mw_ag (my_ag.fr w220 rfl) I_h31.pMw, Mw3_ag (my_ag.fr w220 rfl) I_h31.pMw3, w231, Wrd_ag (my_ag.fr w220 rfl) I_h31.pWrd, Ceq_ag (my_ag.fr w220 rfl) (I_h31.pCeq), Wd9_ag (my_ag.fr w220 rfl) (I_h31.pWd9), Teq_ag (my_ag.fr w220 rfl) (I_h31.pTeq), Wnq_ag (my_ag.fr w220 rfl) (I_h31.pWnq), Hed_ag (my_ag.fr w220 rfl) (I_h31.pHed), sim_h218⟩
      show lwp p l e s m below meth c b D tys sg rho 1526 [(3, 0), (2, 0), (2, 151), (2, 203), (0, i), (9, 0), (9, 0)] [(0, y219)] h218 kn
      refine lw_pop gz_0_1526 rfl ?_
      refine lw_goto (t := 1878) gz_0_1527 rfl ?_
      exact K h218 I_h218
theorem lcase_21 (hL4 : L4 ≤ 4096) (hL : rho 4096 = Int32.ofNat L4) (I : LInv h) (i0 : 0 ≤ i) (i8 : i + 8 ≤ L4) (K : ∀ h' : my_H, LInv h' → lwp p l e s m below meth c b D tys sg rho 1878 [(3, 0), (2, 0), (2, 151), (2, 203), (0, i), (9, 0), (9, 0)] [] h' kn) : lwp p l e s m below meth c b D tys sg rho 1530 [(3, 0), (2, 0), (2, 151), (2, 203), (0, i), (9, 0), (9, 0)] [] h kn := by
  refine lw_aload_n gz_0_1530 rfl ?_
  refine lw_aload3_n gz_0_1531 rfl ?_
  refine lw_iload gz_0_1532 rfl ?_
  refine lw_iconst gz_0_1534 (by decide) ?_
  refine lw_iadd gz_0_1535 ⟨by omega, by omega⟩ ?_
  refine lw_sl gz_0_1536 hL4 hL (by omega) (by omega) (fun z1 ez1 pz1 qz1 => ?_)
  refine lw_aload3_n gz_0_1537 rfl ?_
  refine lw_iload gz_0_1538 rfl ?_
  refine lw_iconst gz_0_1540 (by decide) ?_
  refine lw_iadd gz_0_1541 ⟨by omega, by omega⟩ ?_
  refine lw_sl gz_0_1542 hL4 hL (by omega) (by omega) (fun z2 ez2 pz2 qz2 => ?_)
  refine lw_inv (kz := 0) (as := [(0, z2), (0, z1)]) (r := []) (x := 0) (ls0 := [(2, 0), (0, z1), (0, z2)]) gz_0_1543 gm_119 rfl is_0 rd_9 rfl rfl rfl rfl rfl (c_ThroughWindow_fits (d := 24) (x1 := z1) (x2 := z2) I.pLn (fun h3 w4 w5 => ?_) (fun h6 w7 w8 w9 w10 w11 w12 => ?_) (fun h13 y14 w15 w16 w17 w18 w19 w20 => ?_))
  ·
    have sim_h3 : Sim h3 := Sim_q I.pLn (I.pWnq.2.1) (my_ag.fr w4 rfl) (bg26 w4 (by decide +kernel)) (Ot9_e (fun j => my_fr.at w4 qis_162 rfl) (fun j => my_fr.at w4 qis_163 rfl)) I.pSim
    have I_h3 : LInv h3 := ⟨w5, Mw_ag (my_ag.fr w4 rfl) I.pMw, Mw3_ag (my_ag.fr w4 rfl) I.pMw3, Rws_ag (my_ag.fr w4 rfl) I.pRws, Wrd_ag (my_ag.fr w4 rfl) I.pWrd, Ceq_ag (my_ag.fr w4 rfl) (I.pCeq), Wd9_ag (my_ag.fr w4 rfl) (I.pWd9), Teq_ag (my_ag.fr w4 rfl) (I.pTeq), Wnq_ag (my_ag.fr w4 rfl) (I.pWnq), Hed_ag (my_ag.fr w4 rfl) (I.pHed), sim_h3⟩
    show lwp p l e s m below meth c b D tys sg rho 1546 [(3, 0), (2, 0), (2, 151), (2, 203), (0, i), (9, 0), (9, 0)] [(0, (-1))] h3 kn
    refine lw_pop gz_0_1546 rfl ?_
    refine lw_aload_n gz_0_1547 rfl ?_
    refine lw_aload3_n gz_0_1548 rfl ?_
    refine lw_iload gz_0_1549 rfl ?_
    refine lw_iconst gz_0_1551 (by decide) ?_
    refine lw_iadd gz_0_1552 ⟨by omega, by omega⟩ ?_
    refine lw_sl gz_0_1553 hL4 hL (by omega) (by omega) (fun z21 ez21 pz21 qz21 => ?_)
    refine lw_aload3_n gz_0_1554 rfl ?_
    refine lw_iload gz_0_1555 rfl ?_
    refine lw_iconst gz_0_1557 (by decide) ?_
    refine lw_iadd gz_0_1558 ⟨by omega, by omega⟩ ?_
    refine lw_sl gz_0_1559 hL4 hL (by omega) (by omega) (fun z22 ez22 pz22 qz22 => ?_)
    refine lw_inv (kz := 2) (as := [(0, z22), (0, z21)]) (r := []) (x := 151) (ls0 := [(2, 151), (0, z21), (0, z22), (9, 0), (9, 0)]) gz_0_1560 gm_236 rfl is_151 rd_10 rfl rfl rfl rfl rfl (c_Model_fits (d := 19) (x1 := z21) (x2 := z22) I_h3.pMw I_h3.pMw3 I_h3.pRws (fun h23 w24 w25 => ?_) (fun h26 w27 w28 w29 w30 w31 w32 w33 w34 => ?_) (fun h35 y36 w37 w38 w39 w40 w41 w42 w43 w44 => ?_))
    ·
      have sim_h23 : Sim h23 := Sim_q I_h3.pLn (I_h3.pWnq.2.1) (my_ag.fr w24 rfl) (bg26 w24 (by decide +kernel)) (Ot9_e (fun j => my_fr.at w24 qis_162 rfl) (fun j => my_fr.at w24 qis_163 rfl)) I_h3.pSim
      have I_h23 : LInv h23 := ⟨Ln_ag (my_ag.fr w24 rfl) I_h3.pLn, Mw_ag (my_ag.fr w24 rfl) I_h3.pMw, Mw3_ag (my_ag.fr w24 rfl) I_h3.pMw3, Rws_ag (my_ag.fr w24 rfl) I_h3.pRws, Wrd_ag (my_ag.fr w24 rfl) I_h3.pWrd, Ceq_ag (my_ag.fr w24 rfl) (I_h3.pCeq), Wd9_ag (my_ag.fr w24 rfl) (I_h3.pWd9), Teq_ag (my_ag.fr w24 rfl) (I_h3.pTeq), Wnq_ag (my_ag.fr w24 rfl) (I_h3.pWnq), Hed_ag (my_ag.fr w24 rfl) (I_h3.pHed), sim_h23⟩
      show lwp p l e s m below meth c b D tys sg rho 1563 [(3, 0), (2, 0), (2, 151), (2, 203), (0, i), (9, 0), (9, 0)] [(0, (-1))] h23 kn
      refine lw_pop gz_0_1563 rfl ?_
      refine lw_goto (t := 1878) gz_0_1564 rfl ?_
      exact K h23 I_h23
    ·
      have sim_h26 : Sim h26 := Sim_q I_h3.pLn (I_h3.pWnq.2.1) (my_ag.fr w27 rfl) (bg26 w27 (by decide +kernel)) (Ot9_e (fun j => my_fr.at w27 qis_162 rfl) (fun j => my_fr.at w27 qis_163 rfl)) I_h3.pSim
      have I_h26 : LInv h26 := ⟨Ln_ag (my_ag.fr w27 rfl) I_h3.pLn, Mw_ag (my_ag.fr w27 rfl) I_h3.pMw, Mw3_ag (my_ag.fr w27 rfl) I_h3.pMw3, Rws_ag (my_ag.fr w27 rfl) I_h3.pRws, Wrd_ag (my_ag.fr w27 rfl) I_h3.pWrd, Ceq_ag (my_ag.fr w27 rfl) (I_h3.pCeq), Wd9_ag (my_ag.fr w27 rfl) (I_h3.pWd9), Teq_ag (my_ag.fr w27 rfl) (I_h3.pTeq), Wnq_ag (my_ag.fr w27 rfl) (I_h3.pWnq), Hed_ag (my_ag.fr w27 rfl) (I_h3.pHed), sim_h26⟩
      show lwp p l e s m below meth c b D tys sg rho 1563 [(3, 0), (2, 0), (2, 151), (2, 203), (0, i), (9, 0), (9, 0)] [(0, 0)] h26 kn
      refine lw_pop gz_0_1563 rfl ?_
      refine lw_goto (t := 1878) gz_0_1564 rfl ?_
      exact K h26 I_h26
    ·
      have sim_h35 : Sim h35 := Sim_q I_h3.pLn (I_h3.pWnq.2.1) (my_ag.fr w37 rfl) (bg26 w37 (by decide +kernel)) (Ot9_e (fun j => my_fr.at w37 qis_162 rfl) (fun j => my_fr.at w37 qis_163 rfl)) I_h3.pSim
      have I_h35 : LInv h35 := ⟨Ln_ag (my_ag.fr w37 rfl) I_h3.pLn, Mw_ag (my_ag.fr w37 rfl) I_h3.pMw, Mw3_ag (my_ag.fr w37 rfl) I_h3.pMw3, Rws_ag (my_ag.fr w37 rfl) I_h3.pRws, Wrd_ag (my_ag.fr w37 rfl) I_h3.pWrd, Ceq_ag (my_ag.fr w37 rfl) (I_h3.pCeq), Wd9_ag (my_ag.fr w37 rfl) (I_h3.pWd9), Teq_ag (my_ag.fr w37 rfl) (I_h3.pTeq), Wnq_ag (my_ag.fr w37 rfl) (I_h3.pWnq), Hed_ag (my_ag.fr w37 rfl) (I_h3.pHed), sim_h35⟩
      show lwp p l e s m below meth c b D tys sg rho 1563 [(3, 0), (2, 0), (2, 151), (2, 203), (0, i), (9, 0), (9, 0)] [(0, y36)] h35 kn
      refine lw_pop gz_0_1563 rfl ?_
      refine lw_goto (t := 1878) gz_0_1564 rfl ?_
      exact K h35 I_h35
  ·
    have sim_h6 : Sim h6 := Sim_q I.pLn (I.pWnq.2.1) (my_ag.fr w7 rfl) (bg26 w7 (by decide +kernel)) (Ot9_e (fun j => my_fr.at w7 qis_162 rfl) (fun j => my_fr.at w7 qis_163 rfl)) I.pSim
    have I_h6 : LInv h6 := ⟨w12, Mw_ag (my_ag.fr w7 rfl) I.pMw, Mw3_ag (my_ag.fr w7 rfl) I.pMw3, Rws_ag (my_ag.fr w7 rfl) I.pRws, Wrd_ag (my_ag.fr w7 rfl) I.pWrd, Ceq_ag (my_ag.fr w7 rfl) (I.pCeq), Wd9_ag (my_ag.fr w7 rfl) (I.pWd9), Teq_ag (my_ag.fr w7 rfl) (I.pTeq), Wnq_ag (my_ag.fr w7 rfl) (I.pWnq), Hed_ag (my_ag.fr w7 rfl) (I.pHed), sim_h6⟩
    show lwp p l e s m below meth c b D tys sg rho 1546 [(3, 0), (2, 0), (2, 151), (2, 203), (0, i), (9, 0), (9, 0)] [(0, 0)] h6 kn
    refine lw_pop gz_0_1546 rfl ?_
    refine lw_aload_n gz_0_1547 rfl ?_
    refine lw_aload3_n gz_0_1548 rfl ?_
    refine lw_iload gz_0_1549 rfl ?_
    refine lw_iconst gz_0_1551 (by decide) ?_
    refine lw_iadd gz_0_1552 ⟨by omega, by omega⟩ ?_
    refine lw_sl gz_0_1553 hL4 hL (by omega) (by omega) (fun z45 ez45 pz45 qz45 => ?_)
    refine lw_aload3_n gz_0_1554 rfl ?_
    refine lw_iload gz_0_1555 rfl ?_
    refine lw_iconst gz_0_1557 (by decide) ?_
    refine lw_iadd gz_0_1558 ⟨by omega, by omega⟩ ?_
    refine lw_sl gz_0_1559 hL4 hL (by omega) (by omega) (fun z46 ez46 pz46 qz46 => ?_)
    refine lw_inv (kz := 2) (as := [(0, z46), (0, z45)]) (r := []) (x := 151) (ls0 := [(2, 151), (0, z45), (0, z46), (9, 0), (9, 0)]) gz_0_1560 gm_236 rfl is_151 rd_10 rfl rfl rfl rfl rfl (c_Model_fits (d := 19) (x1 := z45) (x2 := z46) I_h6.pMw I_h6.pMw3 I_h6.pRws (fun h47 w48 w49 => ?_) (fun h50 w51 w52 w53 w54 w55 w56 w57 w58 => ?_) (fun h59 y60 w61 w62 w63 w64 w65 w66 w67 w68 => ?_))
    ·
      have sim_h47 : Sim h47 := Sim_q I_h6.pLn (I_h6.pWnq.2.1) (my_ag.fr w48 rfl) (bg26 w48 (by decide +kernel)) (Ot9_e (fun j => my_fr.at w48 qis_162 rfl) (fun j => my_fr.at w48 qis_163 rfl)) I_h6.pSim
      have I_h47 : LInv h47 := ⟨Ln_ag (my_ag.fr w48 rfl) I_h6.pLn, Mw_ag (my_ag.fr w48 rfl) I_h6.pMw, Mw3_ag (my_ag.fr w48 rfl) I_h6.pMw3, Rws_ag (my_ag.fr w48 rfl) I_h6.pRws, Wrd_ag (my_ag.fr w48 rfl) I_h6.pWrd, Ceq_ag (my_ag.fr w48 rfl) (I_h6.pCeq), Wd9_ag (my_ag.fr w48 rfl) (I_h6.pWd9), Teq_ag (my_ag.fr w48 rfl) (I_h6.pTeq), Wnq_ag (my_ag.fr w48 rfl) (I_h6.pWnq), Hed_ag (my_ag.fr w48 rfl) (I_h6.pHed), sim_h47⟩
      show lwp p l e s m below meth c b D tys sg rho 1563 [(3, 0), (2, 0), (2, 151), (2, 203), (0, i), (9, 0), (9, 0)] [(0, (-1))] h47 kn
      refine lw_pop gz_0_1563 rfl ?_
      refine lw_goto (t := 1878) gz_0_1564 rfl ?_
      exact K h47 I_h47
    ·
      have sim_h50 : Sim h50 := Sim_q I_h6.pLn (I_h6.pWnq.2.1) (my_ag.fr w51 rfl) (bg26 w51 (by decide +kernel)) (Ot9_e (fun j => my_fr.at w51 qis_162 rfl) (fun j => my_fr.at w51 qis_163 rfl)) I_h6.pSim
      have I_h50 : LInv h50 := ⟨Ln_ag (my_ag.fr w51 rfl) I_h6.pLn, Mw_ag (my_ag.fr w51 rfl) I_h6.pMw, Mw3_ag (my_ag.fr w51 rfl) I_h6.pMw3, Rws_ag (my_ag.fr w51 rfl) I_h6.pRws, Wrd_ag (my_ag.fr w51 rfl) I_h6.pWrd, Ceq_ag (my_ag.fr w51 rfl) (I_h6.pCeq), Wd9_ag (my_ag.fr w51 rfl) (I_h6.pWd9), Teq_ag (my_ag.fr w51 rfl) (I_h6.pTeq), Wnq_ag (my_ag.fr w51 rfl) (I_h6.pWnq), Hed_ag (my_ag.fr w51 rfl) (I_h6.pHed), sim_h50⟩
      show lwp p l e s m below meth c b D tys sg rho 1563 [(3, 0), (2, 0), (2, 151), (2, 203), (0, i), (9, 0), (9, 0)] [(0, 0)] h50 kn
      refine lw_pop gz_0_1563 rfl ?_
      refine lw_goto (t := 1878) gz_0_1564 rfl ?_
      exact K h50 I_h50
    ·
      have sim_h59 : Sim h59 := Sim_q I_h6.pLn (I_h6.pWnq.2.1) (my_ag.fr w61 rfl) (bg26 w61 (by decide +kernel)) (Ot9_e (fun j => my_fr.at w61 qis_162 rfl) (fun j => my_fr.at w61 qis_163 rfl)) I_h6.pSim
      have I_h59 : LInv h59 := ⟨Ln_ag (my_ag.fr w61 rfl) I_h6.pLn, Mw_ag (my_ag.fr w61 rfl) I_h6.pMw, Mw3_ag (my_ag.fr w61 rfl) I_h6.pMw3, Rws_ag (my_ag.fr w61 rfl) I_h6.pRws, Wrd_ag (my_ag.fr w61 rfl) I_h6.pWrd, Ceq_ag (my_ag.fr w61 rfl) (I_h6.pCeq), Wd9_ag (my_ag.fr w61 rfl) (I_h6.pWd9), Teq_ag (my_ag.fr w61 rfl) (I_h6.pTeq), Wnq_ag (my_ag.fr w61 rfl) (I_h6.pWnq), Hed_ag (my_ag.fr w61 rfl) (I_h6.pHed), sim_h59⟩
      show lwp p l e s m below meth c b D tys sg rho 1563 [(3, 0), (2, 0), (2, 151), (2, 203), (0, i), (9, 0), (9, 0)] [(0, y60)] h59 kn
      refine lw_pop gz_0_1563 rfl ?_
      refine lw_goto (t := 1878) gz_0_1564 rfl ?_
      exact K h59 I_h59
  ·
    have sim_h13 : Sim h13 := Sim_q I.pLn (I.pWnq.2.1) (my_ag.fr w15 rfl) (bg26 w15 (by decide +kernel)) (Ot9_e (fun j => my_fr.at w15 qis_162 rfl) (fun j => my_fr.at w15 qis_163 rfl)) I.pSim
    have I_h13 : LInv h13 := ⟨w20, Mw_ag (my_ag.fr w15 rfl) I.pMw, Mw3_ag (my_ag.fr w15 rfl) I.pMw3, Rws_ag (my_ag.fr w15 rfl) I.pRws, Wrd_ag (my_ag.fr w15 rfl) I.pWrd, Ceq_ag (my_ag.fr w15 rfl) (I.pCeq), Wd9_ag (my_ag.fr w15 rfl) (I.pWd9), Teq_ag (my_ag.fr w15 rfl) (I.pTeq), Wnq_ag (my_ag.fr w15 rfl) (I.pWnq), Hed_ag (my_ag.fr w15 rfl) (I.pHed), sim_h13⟩
    show lwp p l e s m below meth c b D tys sg rho 1546 [(3, 0), (2, 0), (2, 151), (2, 203), (0, i), (9, 0), (9, 0)] [(0, y14)] h13 kn
    refine lw_pop gz_0_1546 rfl ?_
    refine lw_aload_n gz_0_1547 rfl ?_
    refine lw_aload3_n gz_0_1548 rfl ?_
    refine lw_iload gz_0_1549 rfl ?_
    refine lw_iconst gz_0_1551 (by decide) ?_
    refine lw_iadd gz_0_1552 ⟨by omega, by omega⟩ ?_
    refine lw_sl gz_0_1553 hL4 hL (by omega) (by omega) (fun z69 ez69 pz69 qz69 => ?_)
    refine lw_aload3_n gz_0_1554 rfl ?_
    refine lw_iload gz_0_1555 rfl ?_
    refine lw_iconst gz_0_1557 (by decide) ?_
    refine lw_iadd gz_0_1558 ⟨by omega, by omega⟩ ?_
    refine lw_sl gz_0_1559 hL4 hL (by omega) (by omega) (fun z70 ez70 pz70 qz70 => ?_)
    refine lw_inv (kz := 2) (as := [(0, z70), (0, z69)]) (r := []) (x := 151) (ls0 := [(2, 151), (0, z69), (0, z70), (9, 0), (9, 0)]) gz_0_1560 gm_236 rfl is_151 rd_10 rfl rfl rfl rfl rfl (c_Model_fits (d := 19) (x1 := z69) (x2 := z70) I_h13.pMw I_h13.pMw3 I_h13.pRws (fun h71 w72 w73 => ?_) (fun h74 w75 w76 w77 w78 w79 w80 w81 w82 => ?_) (fun h83 y84 w85 w86 w87 w88 w89 w90 w91 w92 => ?_))
    ·
      have sim_h71 : Sim h71 := Sim_q I_h13.pLn (I_h13.pWnq.2.1) (my_ag.fr w72 rfl) (bg26 w72 (by decide +kernel)) (Ot9_e (fun j => my_fr.at w72 qis_162 rfl) (fun j => my_fr.at w72 qis_163 rfl)) I_h13.pSim
      have I_h71 : LInv h71 := ⟨Ln_ag (my_ag.fr w72 rfl) I_h13.pLn, Mw_ag (my_ag.fr w72 rfl) I_h13.pMw, Mw3_ag (my_ag.fr w72 rfl) I_h13.pMw3, Rws_ag (my_ag.fr w72 rfl) I_h13.pRws, Wrd_ag (my_ag.fr w72 rfl) I_h13.pWrd, Ceq_ag (my_ag.fr w72 rfl) (I_h13.pCeq), Wd9_ag (my_ag.fr w72 rfl) (I_h13.pWd9), Teq_ag (my_ag.fr w72 rfl) (I_h13.pTeq), Wnq_ag (my_ag.fr w72 rfl) (I_h13.pWnq), Hed_ag (my_ag.fr w72 rfl) (I_h13.pHed), sim_h71⟩
      show lwp p l e s m below meth c b D tys sg rho 1563 [(3, 0), (2, 0), (2, 151), (2, 203), (0, i), (9, 0), (9, 0)] [(0, (-1))] h71 kn
      refine lw_pop gz_0_1563 rfl ?_
      refine lw_goto (t := 1878) gz_0_1564 rfl ?_
      exact K h71 I_h71
    ·
      have sim_h74 : Sim h74 := Sim_q I_h13.pLn (I_h13.pWnq.2.1) (my_ag.fr w75 rfl) (bg26 w75 (by decide +kernel)) (Ot9_e (fun j => my_fr.at w75 qis_162 rfl) (fun j => my_fr.at w75 qis_163 rfl)) I_h13.pSim
      have I_h74 : LInv h74 := ⟨Ln_ag (my_ag.fr w75 rfl) I_h13.pLn, Mw_ag (my_ag.fr w75 rfl) I_h13.pMw, Mw3_ag (my_ag.fr w75 rfl) I_h13.pMw3, Rws_ag (my_ag.fr w75 rfl) I_h13.pRws, Wrd_ag (my_ag.fr w75 rfl) I_h13.pWrd, Ceq_ag (my_ag.fr w75 rfl) (I_h13.pCeq), Wd9_ag (my_ag.fr w75 rfl) (I_h13.pWd9), Teq_ag (my_ag.fr w75 rfl) (I_h13.pTeq), Wnq_ag (my_ag.fr w75 rfl) (I_h13.pWnq), Hed_ag (my_ag.fr w75 rfl) (I_h13.pHed), sim_h74⟩
      show lwp p l e s m below meth c b D tys sg rho 1563 [(3, 0), (2, 0), (2, 151), (2, 203), (0, i), (9, 0), (9, 0)] [(0, 0)] h74 kn
      refine lw_pop gz_0_1563 rfl ?_
      refine lw_goto (t := 1878) gz_0_1564 rfl ?_
      exact K h74 I_h74
    ·
      have sim_h83 : Sim h83 := Sim_q I_h13.pLn (I_h13.pWnq.2.1) (my_ag.fr w85 rfl) (bg26 w85 (by decide +kernel)) (Ot9_e (fun j => my_fr.at w85 qis_162 rfl) (fun j => my_fr.at w85 qis_163 rfl)) I_h13.pSim
      have I_h83 : LInv h83 := ⟨Ln_ag (my_ag.fr w85 rfl) I_h13.pLn, Mw_ag (my_ag.fr w85 rfl) I_h13.pMw, Mw3_ag (my_ag.fr w85 rfl) I_h13.pMw3, Rws_ag (my_ag.fr w85 rfl) I_h13.pRws, Wrd_ag (my_ag.fr w85 rfl) I_h13.pWrd, Ceq_ag (my_ag.fr w85 rfl) (I_h13.pCeq), Wd9_ag (my_ag.fr w85 rfl) (I_h13.pWd9), Teq_ag (my_ag.fr w85 rfl) (I_h13.pTeq), Wnq_ag (my_ag.fr w85 rfl) (I_h13.pWnq), Hed_ag (my_ag.fr w85 rfl) (I_h13.pHed), sim_h83⟩
      show lwp p l e s m below meth c b D tys sg rho 1563 [(3, 0), (2, 0), (2, 151), (2, 203), (0, i), (9, 0), (9, 0)] [(0, y84)] h83 kn
      refine lw_pop gz_0_1563 rfl ?_
      refine lw_goto (t := 1878) gz_0_1564 rfl ?_
      exact K h83 I_h83
theorem lcase_22 (hL4 : L4 ≤ 4096) (hL : rho 4096 = Int32.ofNat L4) (I : LInv h) (i0 : 0 ≤ i) (i8 : i + 8 ≤ L4) (K : ∀ h' : my_H, LInv h' → lwp p l e s m below meth c b D tys sg rho 1878 [(3, 0), (2, 0), (2, 151), (2, 203), (0, i), (9, 0), (9, 0)] [] h' kn) : lwp p l e s m below meth c b D tys sg rho 1567 [(3, 0), (2, 0), (2, 151), (2, 203), (0, i), (9, 0), (9, 0)] [] h kn := by
  refine lw_aload_n gz_0_1567 rfl ?_
  refine lw_aload3_n gz_0_1568 rfl ?_
  refine lw_iload gz_0_1569 rfl ?_
  refine lw_iconst gz_0_1571 (by decide) ?_
  refine lw_iadd gz_0_1572 ⟨by omega, by omega⟩ ?_
  refine lw_sl gz_0_1573 hL4 hL (by omega) (by omega) (fun z1 ez1 pz1 qz1 => ?_)
  refine lw_aload3_n gz_0_1574 rfl ?_
  refine lw_iload gz_0_1575 rfl ?_
  refine lw_iconst gz_0_1577 (by decide) ?_
  refine lw_iadd gz_0_1578 ⟨by omega, by omega⟩ ?_
  refine lw_sl gz_0_1579 hL4 hL (by omega) (by omega) (fun z2 ez2 pz2 qz2 => ?_)
  refine lw_aload3_n gz_0_1580 rfl ?_
  refine lw_iload gz_0_1581 rfl ?_
  refine lw_iconst gz_0_1583 (by decide) ?_
  refine lw_iadd gz_0_1584 ⟨by omega, by omega⟩ ?_
  refine lw_sl gz_0_1585 hL4 hL (by omega) (by omega) (fun z3 ez3 pz3 qz3 => ?_)
  refine lw_aload3_n gz_0_1586 rfl ?_
  refine lw_iload gz_0_1587 rfl ?_
  refine lw_iconst gz_0_1589 (by decide) ?_
  refine lw_iadd gz_0_1590 ⟨by omega, by omega⟩ ?_
  refine lw_sl gz_0_1591 hL4 hL (by omega) (by omega) (fun z4 ez4 pz4 qz4 => ?_)
  refine lw_inv (kz := 0) (as := [(0, z4), (0, z3), (0, z2), (0, z1)]) (r := []) (x := 0) (ls0 := [(2, 0), (0, z1), (0, z2), (0, z3), (0, z4)]) gz_0_1592 gm_127 rfl is_0 rd_9 rfl rfl rfl rfl rfl (c_ThroughWindow_clerk (d := 28) (x1 := z1) (x2 := z2) (x3 := z3) (x4 := z4)  (fun h5 w6 => ?_) (fun h7 w8 w9 w10 w11 w12 => ?_))
  ·
    have sim_h5 : Sim h5 := Sim_q I.pLn (I.pWnq.2.1) (my_ag.fr w6 rfl) (bg26 w6 (by decide +kernel)) (Ot9_e (fun j => my_fr.at w6 qis_162 rfl) (fun j => my_fr.at w6 qis_163 rfl)) I.pSim
    have I_h5 : LInv h5 := ⟨Ln_ag (my_ag.fr w6 rfl) I.pLn, Mw_ag (my_ag.fr w6 rfl) I.pMw, Mw3_ag (my_ag.fr w6 rfl) I.pMw3, Rws_ag (my_ag.fr w6 rfl) I.pRws, Wrd_ag (my_ag.fr w6 rfl) I.pWrd, Ceq_ag (my_ag.fr w6 rfl) (I.pCeq), Wd9_ag (my_ag.fr w6 rfl) (I.pWd9), Teq_ag (my_ag.fr w6 rfl) (I.pTeq), Wnq_ag (my_ag.fr w6 rfl) (I.pWnq), Hed_ag (my_ag.fr w6 rfl) (I.pHed), sim_h5⟩
    show lwp p l e s m below meth c b D tys sg rho 1595 [(3, 0), (2, 0), (2, 151), (2, 203), (0, i), (9, 0), (9, 0)] [(0, 0)] h5 kn
    refine lw_pop gz_0_1595 rfl ?_
    refine lw_aload_n gz_0_1596 rfl ?_
    refine lw_aload3_n gz_0_1597 rfl ?_
    refine lw_iload gz_0_1598 rfl ?_
    refine lw_iconst gz_0_1600 (by decide) ?_
    refine lw_iadd gz_0_1601 ⟨by omega, by omega⟩ ?_
    refine lw_sl gz_0_1602 hL4 hL (by omega) (by omega) (fun z13 ez13 pz13 qz13 => ?_)
    refine lw_aload3_n gz_0_1603 rfl ?_
    refine lw_iload gz_0_1604 rfl ?_
    refine lw_iconst gz_0_1606 (by decide) ?_
    refine lw_iadd gz_0_1607 ⟨by omega, by omega⟩ ?_
    refine lw_sl gz_0_1608 hL4 hL (by omega) (by omega) (fun z14 ez14 pz14 qz14 => ?_)
    refine lw_aload3_n gz_0_1609 rfl ?_
    refine lw_iload gz_0_1610 rfl ?_
    refine lw_iconst gz_0_1612 (by decide) ?_
    refine lw_iadd gz_0_1613 ⟨by omega, by omega⟩ ?_
    refine lw_sl gz_0_1614 hL4 hL (by omega) (by omega) (fun z15 ez15 pz15 qz15 => ?_)
    refine lw_aload3_n gz_0_1615 rfl ?_
    refine lw_iload gz_0_1616 rfl ?_
    refine lw_iconst gz_0_1618 (by decide) ?_
    refine lw_iadd gz_0_1619 ⟨by omega, by omega⟩ ?_
    refine lw_sl gz_0_1620 hL4 hL (by omega) (by omega) (fun z16 ez16 pz16 qz16 => ?_)
    refine lw_inv (kz := 0) (as := [(0, z16), (0, z15), (0, z14), (0, z13)]) (r := []) (x := 151) (ls0 := [(2, 151), (0, z13), (0, z14), (0, z15), (0, z16)]) gz_0_1621 gm_241 rfl is_151 rd_10 rfl rfl rfl rfl rfl (c_Model_clerk (d := 28) (x1 := z13) (x2 := z14) (x3 := z15) (x4 := z16)  (fun h17 w18 w19 => ?_) (fun h20 w21 w22 w23 w24 w25 w26 => ?_))
    ·
      have sim_h17 : Sim h17 := Sim_q I_h5.pLn (I_h5.pWnq.2.1) (my_ag.fr w18 rfl) (bg26 w18 (by decide +kernel)) (Ot9_e (fun j => my_fr.at w18 qis_162 rfl) (fun j => my_fr.at w18 qis_163 rfl)) I_h5.pSim
      have I_h17 : LInv h17 := ⟨Ln_ag (my_ag.fr w18 rfl) I_h5.pLn, Mw_ag (my_ag.fr w18 rfl) I_h5.pMw, Mw3_ag (my_ag.fr w18 rfl) I_h5.pMw3, Rws_ag (my_ag.fr w18 rfl) I_h5.pRws, Wrd_ag (my_ag.fr w18 rfl) I_h5.pWrd, Ceq_ag (my_ag.fr w18 rfl) (I_h5.pCeq), Wd9_ag (my_ag.fr w18 rfl) (I_h5.pWd9), Teq_ag (my_ag.fr w18 rfl) (I_h5.pTeq), Wnq_ag (my_ag.fr w18 rfl) (I_h5.pWnq), Hed_ag (my_ag.fr w18 rfl) (I_h5.pHed), sim_h17⟩
      show lwp p l e s m below meth c b D tys sg rho 1624 [(3, 0), (2, 0), (2, 151), (2, 203), (0, i), (9, 0), (9, 0)] [(0, 0)] h17 kn
      refine lw_pop gz_0_1624 rfl ?_
      refine lw_goto (t := 1878) gz_0_1625 rfl ?_
      exact K h17 I_h17
    ·
      have sim_h20 : Sim h20 := Sim_q I_h5.pLn (I_h5.pWnq.2.1) (my_ag.fr w21 rfl) (bg26 w21 (by decide +kernel)) (Ot9_e (fun j => my_fr.at w21 qis_162 rfl) (fun j => my_fr.at w21 qis_163 rfl)) I_h5.pSim
      have I_h20 : LInv h20 := ⟨Ln_ag (my_ag.fr w21 rfl) I_h5.pLn, Mw_ag (my_ag.fr w21 rfl) I_h5.pMw, Mw3_ag (my_ag.fr w21 rfl) I_h5.pMw3, Rws_ag (my_ag.fr w21 rfl) I_h5.pRws, Wrd_ag (my_ag.fr w21 rfl) I_h5.pWrd, Ceq_ag (my_ag.fr w21 rfl) (I_h5.pCeq), Wd9_ag (my_ag.fr w21 rfl) (I_h5.pWd9), Teq_ag (my_ag.fr w21 rfl) (I_h5.pTeq), Wnq_ag (my_ag.fr w21 rfl) (I_h5.pWnq), Hed_ag (my_ag.fr w21 rfl) (I_h5.pHed), sim_h20⟩
      show lwp p l e s m below meth c b D tys sg rho 1624 [(3, 0), (2, 0), (2, 151), (2, 203), (0, i), (9, 0), (9, 0)] [(0, 1)] h20 kn
      refine lw_pop gz_0_1624 rfl ?_
      refine lw_goto (t := 1878) gz_0_1625 rfl ?_
      exact K h20 I_h20
  ·
    have sim_h7 : Sim h7 := Sim_q I.pLn (I.pWnq.2.1) (my_ag.fr w8 rfl) (bg26 w8 (by decide +kernel)) (Ot9_e (fun j => my_fr.at w8 qis_162 rfl) (fun j => my_fr.at w8 qis_163 rfl)) I.pSim
    have I_h7 : LInv h7 := ⟨Ln_ag (my_ag.fr w8 rfl) I.pLn, Mw_ag (my_ag.fr w8 rfl) I.pMw, Mw3_ag (my_ag.fr w8 rfl) I.pMw3, Rws_ag (my_ag.fr w8 rfl) I.pRws, Wrd_ag (my_ag.fr w8 rfl) I.pWrd, Ceq_ag (my_ag.fr w8 rfl) (I.pCeq), Wd9_ag (my_ag.fr w8 rfl) (I.pWd9), Teq_ag (my_ag.fr w8 rfl) (I.pTeq), Wnq_ag (my_ag.fr w8 rfl) (I.pWnq), Hed_ag (my_ag.fr w8 rfl) (I.pHed), sim_h7⟩
    show lwp p l e s m below meth c b D tys sg rho 1595 [(3, 0), (2, 0), (2, 151), (2, 203), (0, i), (9, 0), (9, 0)] [(0, 1)] h7 kn
    refine lw_pop gz_0_1595 rfl ?_
    refine lw_aload_n gz_0_1596 rfl ?_
    refine lw_aload3_n gz_0_1597 rfl ?_
    refine lw_iload gz_0_1598 rfl ?_
    refine lw_iconst gz_0_1600 (by decide) ?_
    refine lw_iadd gz_0_1601 ⟨by omega, by omega⟩ ?_
    refine lw_sl gz_0_1602 hL4 hL (by omega) (by omega) (fun z27 ez27 pz27 qz27 => ?_)
    refine lw_aload3_n gz_0_1603 rfl ?_
    refine lw_iload gz_0_1604 rfl ?_
    refine lw_iconst gz_0_1606 (by decide) ?_
    refine lw_iadd gz_0_1607 ⟨by omega, by omega⟩ ?_
    refine lw_sl gz_0_1608 hL4 hL (by omega) (by omega) (fun z28 ez28 pz28 qz28 => ?_)
    refine lw_aload3_n gz_0_1609 rfl ?_
    refine lw_iload gz_0_1610 rfl ?_
    refine lw_iconst gz_0_1612 (by decide) ?_
    refine lw_iadd gz_0_1613 ⟨by omega, by omega⟩ ?_
    refine lw_sl gz_0_1614 hL4 hL (by omega) (by omega) (fun z29 ez29 pz29 qz29 => ?_)
    refine lw_aload3_n gz_0_1615 rfl ?_
    refine lw_iload gz_0_1616 rfl ?_
    refine lw_iconst gz_0_1618 (by decide) ?_
    refine lw_iadd gz_0_1619 ⟨by omega, by omega⟩ ?_
    refine lw_sl gz_0_1620 hL4 hL (by omega) (by omega) (fun z30 ez30 pz30 qz30 => ?_)
    refine lw_inv (kz := 0) (as := [(0, z30), (0, z29), (0, z28), (0, z27)]) (r := []) (x := 151) (ls0 := [(2, 151), (0, z27), (0, z28), (0, z29), (0, z30)]) gz_0_1621 gm_241 rfl is_151 rd_10 rfl rfl rfl rfl rfl (c_Model_clerk (d := 28) (x1 := z27) (x2 := z28) (x3 := z29) (x4 := z30)  (fun h31 w32 w33 => ?_) (fun h34 w35 w36 w37 w38 w39 w40 => ?_))
    ·
      have sim_h31 : Sim h31 := Sim_q I_h7.pLn (I_h7.pWnq.2.1) (my_ag.fr w32 rfl) (bg26 w32 (by decide +kernel)) (Ot9_e (fun j => my_fr.at w32 qis_162 rfl) (fun j => my_fr.at w32 qis_163 rfl)) I_h7.pSim
      have I_h31 : LInv h31 := ⟨Ln_ag (my_ag.fr w32 rfl) I_h7.pLn, Mw_ag (my_ag.fr w32 rfl) I_h7.pMw, Mw3_ag (my_ag.fr w32 rfl) I_h7.pMw3, Rws_ag (my_ag.fr w32 rfl) I_h7.pRws, Wrd_ag (my_ag.fr w32 rfl) I_h7.pWrd, Ceq_ag (my_ag.fr w32 rfl) (I_h7.pCeq), Wd9_ag (my_ag.fr w32 rfl) (I_h7.pWd9), Teq_ag (my_ag.fr w32 rfl) (I_h7.pTeq), Wnq_ag (my_ag.fr w32 rfl) (I_h7.pWnq), Hed_ag (my_ag.fr w32 rfl) (I_h7.pHed), sim_h31⟩
      show lwp p l e s m below meth c b D tys sg rho 1624 [(3, 0), (2, 0), (2, 151), (2, 203), (0, i), (9, 0), (9, 0)] [(0, 0)] h31 kn
      refine lw_pop gz_0_1624 rfl ?_
      refine lw_goto (t := 1878) gz_0_1625 rfl ?_
      exact K h31 I_h31
    ·
      have sim_h34 : Sim h34 := Sim_q I_h7.pLn (I_h7.pWnq.2.1) (my_ag.fr w35 rfl) (bg26 w35 (by decide +kernel)) (Ot9_e (fun j => my_fr.at w35 qis_162 rfl) (fun j => my_fr.at w35 qis_163 rfl)) I_h7.pSim
      have I_h34 : LInv h34 := ⟨Ln_ag (my_ag.fr w35 rfl) I_h7.pLn, Mw_ag (my_ag.fr w35 rfl) I_h7.pMw, Mw3_ag (my_ag.fr w35 rfl) I_h7.pMw3, Rws_ag (my_ag.fr w35 rfl) I_h7.pRws, Wrd_ag (my_ag.fr w35 rfl) I_h7.pWrd, Ceq_ag (my_ag.fr w35 rfl) (I_h7.pCeq), Wd9_ag (my_ag.fr w35 rfl) (I_h7.pWd9), Teq_ag (my_ag.fr w35 rfl) (I_h7.pTeq), Wnq_ag (my_ag.fr w35 rfl) (I_h7.pWnq), Hed_ag (my_ag.fr w35 rfl) (I_h7.pHed), sim_h34⟩
      show lwp p l e s m below meth c b D tys sg rho 1624 [(3, 0), (2, 0), (2, 151), (2, 203), (0, i), (9, 0), (9, 0)] [(0, 1)] h34 kn
      refine lw_pop gz_0_1624 rfl ?_
      refine lw_goto (t := 1878) gz_0_1625 rfl ?_
      exact K h34 I_h34
theorem lcase_23 (hL4 : L4 ≤ 4096) (hL : rho 4096 = Int32.ofNat L4) (I : LInv h) (i0 : 0 ≤ i) (i8 : i + 8 ≤ L4) (K : ∀ h' : my_H, LInv h' → lwp p l e s m below meth c b D tys sg rho 1878 [(3, 0), (2, 0), (2, 151), (2, 203), (0, i), (9, 0), (9, 0)] [] h' kn) : lwp p l e s m below meth c b D tys sg rho 1628 [(3, 0), (2, 0), (2, 151), (2, 203), (0, i), (9, 0), (9, 0)] [] h kn := by
  refine lw_aload_n gz_0_1628 rfl ?_
  refine lw_aload3_n gz_0_1629 rfl ?_
  refine lw_iload gz_0_1630 rfl ?_
  refine lw_iconst gz_0_1632 (by decide) ?_
  refine lw_iadd gz_0_1633 ⟨by omega, by omega⟩ ?_
  refine lw_sl gz_0_1634 hL4 hL (by omega) (by omega) (fun z1 ez1 pz1 qz1 => ?_)
  refine lw_inv (kz := 6) (as := [(0, z1)]) (r := []) (x := 0) (ls0 := [(2, 0), (0, z1), (9, 0), (9, 0), (9, 0), (9, 0), (9, 0), (9, 0)]) gz_0_1635 gm_128 rfl is_0 rd_9 rfl rfl rfl rfl rfl (c_ThroughWindow_night4 (d := 22) (x1 := z1) I.pLn (I.pSim.1.1) (I.pSim.2.1.1) (I.pHed) (fun h2 w3 w4 w5 => ?_) (fun h6 y7 w8 w9 w10 w11 w12 => ?_))
  ·
    have sim_h2 : Sim h2 := Sim_q I.pLn (I.pWnq.2.1) (my_ag.fr w3 rfl) (fun k j a b => w4 k j (by omega) (by omega)) (Ot9_e (fun j => my_fr.at w3 qis_162 rfl) (fun j => my_fr.at w3 qis_163 rfl)) I.pSim
    have I_h2 : LInv h2 := ⟨w5, Mw_ag (my_ag.fr w3 rfl) I.pMw, Mw3_ag (my_ag.fr w3 rfl) I.pMw3, Rws_ag (my_ag.fr w3 rfl) I.pRws, Wrd_ag (my_ag.fr w3 rfl) I.pWrd, Ceq_ag (my_ag.fr w3 rfl) (I.pCeq), Wd9_ag (my_ag.fr w3 rfl) (I.pWd9), Teq_ag (my_ag.fr w3 rfl) (I.pTeq), Wnq_ag (my_ag.fr w3 rfl) (I.pWnq), Hed_ag (my_ag.fr w3 rfl) (I.pHed), sim_h2⟩
    show lwp p l e s m below meth c b D tys sg rho 1638 [(3, 0), (2, 0), (2, 151), (2, 203), (0, i), (9, 0), (9, 0)] [(0, (-1))] h2 kn
    refine lw_pop gz_0_1638 rfl ?_
    refine lw_aload_n gz_0_1639 rfl ?_
    refine lw_aload3_n gz_0_1640 rfl ?_
    refine lw_iload gz_0_1641 rfl ?_
    refine lw_iconst gz_0_1643 (by decide) ?_
    refine lw_iadd gz_0_1644 ⟨by omega, by omega⟩ ?_
    refine lw_sl gz_0_1645 hL4 hL (by omega) (by omega) (fun z13 ez13 pz13 qz13 => ?_)
    refine lw_inv (kz := 4) (as := [(0, z13)]) (r := []) (x := 151) (ls0 := [(2, 151), (0, z13), (9, 0), (9, 0), (9, 0), (9, 0)]) gz_0_1646 gm_242 rfl is_151 rd_10 rfl rfl rfl rfl rfl (c_Model_night4 (d := 20) (x1 := z13) I_h2.pMw I_h2.pMw3 I_h2.pRws (I_h2.pSim.1.2.1) (I_h2.pSim.mwo) (fun h14 w15 w16 w17 w18 => ?_) (fun h19 w20 w21 w22 w23 w24 w25 w26 w27 w28 w29 => ?_) (fun h30 y31 w32 w33 w34 w35 w36 w37 w38 => ?_))
    ·
      have sim_h14 : Sim h14 := Sim_q I_h2.pLn (I_h2.pWnq.2.1) (my_ag.fr w15 rfl) (bg26 w15 (by decide +kernel)) w17 I_h2.pSim
      have I_h14 : LInv h14 := ⟨Ln_ag (my_ag.fr w15 rfl) I_h2.pLn, Mw_ag (my_ag.fr w15 rfl) I_h2.pMw, Mw3_ag (my_ag.fr w15 rfl) I_h2.pMw3, w18, Wrd_ag (my_ag.fr w15 rfl) I_h2.pWrd, Ceq_ag (my_ag.fr w15 rfl) (I_h2.pCeq), Wd9_ag (my_ag.fr w15 rfl) (I_h2.pWd9), Teq_ag (my_ag.fr w15 rfl) (I_h2.pTeq), Wnq_ag (my_ag.fr w15 rfl) (I_h2.pWnq), Hed_ag (my_ag.fr w15 rfl) (I_h2.pHed), sim_h14⟩
      show lwp p l e s m below meth c b D tys sg rho 1649 [(3, 0), (2, 0), (2, 151), (2, 203), (0, i), (9, 0), (9, 0)] [(0, (-1))] h14 kn
      refine lw_pop gz_0_1649 rfl ?_
      refine lw_goto (t := 1878) gz_0_1650 rfl ?_
      exact K h14 I_h14
    ·
      have sim_h19 : Sim h19 := Sim_q I_h2.pLn (I_h2.pWnq.2.1) (my_ag.fr w20 rfl) (bg26 w20 (by decide +kernel)) w28 I_h2.pSim
      have I_h19 : LInv h19 := ⟨Ln_ag (my_ag.fr w20 rfl) I_h2.pLn, Mw_ag (my_ag.fr w20 rfl) I_h2.pMw, Mw3_ag (my_ag.fr w20 rfl) I_h2.pMw3, w29, Wrd_ag (my_ag.fr w20 rfl) I_h2.pWrd, Ceq_ag (my_ag.fr w20 rfl) (I_h2.pCeq), Wd9_ag (my_ag.fr w20 rfl) (I_h2.pWd9), Teq_ag (my_ag.fr w20 rfl) (I_h2.pTeq), Wnq_ag (my_ag.fr w20 rfl) (I_h2.pWnq), Hed_ag (my_ag.fr w20 rfl) (I_h2.pHed), sim_h19⟩
      show lwp p l e s m below meth c b D tys sg rho 1649 [(3, 0), (2, 0), (2, 151), (2, 203), (0, i), (9, 0), (9, 0)] [(0, 0)] h19 kn
      refine lw_pop gz_0_1649 rfl ?_
      refine lw_goto (t := 1878) gz_0_1650 rfl ?_
      exact K h19 I_h19
    ·
      have sim_h30 : Sim h30 := Sim_q I_h2.pLn (I_h2.pWnq.2.1) (my_ag.fr w32 rfl) (bg26 w32 (by decide +kernel)) w37 I_h2.pSim
      have I_h30 : LInv h30 := ⟨Ln_ag (my_ag.fr w32 rfl) I_h2.pLn, Mw_ag (my_ag.fr w32 rfl) I_h2.pMw, Mw3_ag (my_ag.fr w32 rfl) I_h2.pMw3, w38, Wrd_ag (my_ag.fr w32 rfl) I_h2.pWrd, Ceq_ag (my_ag.fr w32 rfl) (I_h2.pCeq), Wd9_ag (my_ag.fr w32 rfl) (I_h2.pWd9), Teq_ag (my_ag.fr w32 rfl) (I_h2.pTeq), Wnq_ag (my_ag.fr w32 rfl) (I_h2.pWnq), Hed_ag (my_ag.fr w32 rfl) (I_h2.pHed), sim_h30⟩
      show lwp p l e s m below meth c b D tys sg rho 1649 [(3, 0), (2, 0), (2, 151), (2, 203), (0, i), (9, 0), (9, 0)] [(0, y31)] h30 kn
      refine lw_pop gz_0_1649 rfl ?_
      refine lw_goto (t := 1878) gz_0_1650 rfl ?_
      exact K h30 I_h30
  ·
    have sim_h6 : Sim h6 := Sim_q I.pLn (I.pWnq.2.1) (my_ag.fr w8 rfl) (fun k j a b => w11 k j (by omega) (by omega)) (Ot9_e (fun j => my_fr.at w8 qis_162 rfl) (fun j => my_fr.at w8 qis_163 rfl)) I.pSim
    have I_h6 : LInv h6 := ⟨w12, Mw_ag (my_ag.fr w8 rfl) I.pMw, Mw3_ag (my_ag.fr w8 rfl) I.pMw3, Rws_ag (my_ag.fr w8 rfl) I.pRws, Wrd_ag (my_ag.fr w8 rfl) I.pWrd, Ceq_ag (my_ag.fr w8 rfl) (I.pCeq), Wd9_ag (my_ag.fr w8 rfl) (I.pWd9), Teq_ag (my_ag.fr w8 rfl) (I.pTeq), Wnq_ag (my_ag.fr w8 rfl) (I.pWnq), Hed_ag (my_ag.fr w8 rfl) (I.pHed), sim_h6⟩
    show lwp p l e s m below meth c b D tys sg rho 1638 [(3, 0), (2, 0), (2, 151), (2, 203), (0, i), (9, 0), (9, 0)] [(0, y7)] h6 kn
    refine lw_pop gz_0_1638 rfl ?_
    refine lw_aload_n gz_0_1639 rfl ?_
    refine lw_aload3_n gz_0_1640 rfl ?_
    refine lw_iload gz_0_1641 rfl ?_
    refine lw_iconst gz_0_1643 (by decide) ?_
    refine lw_iadd gz_0_1644 ⟨by omega, by omega⟩ ?_
    refine lw_sl gz_0_1645 hL4 hL (by omega) (by omega) (fun z39 ez39 pz39 qz39 => ?_)
    refine lw_inv (kz := 4) (as := [(0, z39)]) (r := []) (x := 151) (ls0 := [(2, 151), (0, z39), (9, 0), (9, 0), (9, 0), (9, 0)]) gz_0_1646 gm_242 rfl is_151 rd_10 rfl rfl rfl rfl rfl (c_Model_night4 (d := 20) (x1 := z39) I_h6.pMw I_h6.pMw3 I_h6.pRws (I_h6.pSim.1.2.1) (I_h6.pSim.mwo) (fun h40 w41 w42 w43 w44 => ?_) (fun h45 w46 w47 w48 w49 w50 w51 w52 w53 w54 w55 => ?_) (fun h56 y57 w58 w59 w60 w61 w62 w63 w64 => ?_))
    ·
      have sim_h40 : Sim h40 := Sim_q I_h6.pLn (I_h6.pWnq.2.1) (my_ag.fr w41 rfl) (bg26 w41 (by decide +kernel)) w43 I_h6.pSim
      have I_h40 : LInv h40 := ⟨Ln_ag (my_ag.fr w41 rfl) I_h6.pLn, Mw_ag (my_ag.fr w41 rfl) I_h6.pMw, Mw3_ag (my_ag.fr w41 rfl) I_h6.pMw3, w44, Wrd_ag (my_ag.fr w41 rfl) I_h6.pWrd, Ceq_ag (my_ag.fr w41 rfl) (I_h6.pCeq), Wd9_ag (my_ag.fr w41 rfl) (I_h6.pWd9), Teq_ag (my_ag.fr w41 rfl) (I_h6.pTeq), Wnq_ag (my_ag.fr w41 rfl) (I_h6.pWnq), Hed_ag (my_ag.fr w41 rfl) (I_h6.pHed), sim_h40⟩
      show lwp p l e s m below meth c b D tys sg rho 1649 [(3, 0), (2, 0), (2, 151), (2, 203), (0, i), (9, 0), (9, 0)] [(0, (-1))] h40 kn
      refine lw_pop gz_0_1649 rfl ?_
      refine lw_goto (t := 1878) gz_0_1650 rfl ?_
      exact K h40 I_h40
    ·
      have sim_h45 : Sim h45 := Sim_q I_h6.pLn (I_h6.pWnq.2.1) (my_ag.fr w46 rfl) (bg26 w46 (by decide +kernel)) w54 I_h6.pSim
      have I_h45 : LInv h45 := ⟨Ln_ag (my_ag.fr w46 rfl) I_h6.pLn, Mw_ag (my_ag.fr w46 rfl) I_h6.pMw, Mw3_ag (my_ag.fr w46 rfl) I_h6.pMw3, w55, Wrd_ag (my_ag.fr w46 rfl) I_h6.pWrd, Ceq_ag (my_ag.fr w46 rfl) (I_h6.pCeq), Wd9_ag (my_ag.fr w46 rfl) (I_h6.pWd9), Teq_ag (my_ag.fr w46 rfl) (I_h6.pTeq), Wnq_ag (my_ag.fr w46 rfl) (I_h6.pWnq), Hed_ag (my_ag.fr w46 rfl) (I_h6.pHed), sim_h45⟩
      show lwp p l e s m below meth c b D tys sg rho 1649 [(3, 0), (2, 0), (2, 151), (2, 203), (0, i), (9, 0), (9, 0)] [(0, 0)] h45 kn
      refine lw_pop gz_0_1649 rfl ?_
      refine lw_goto (t := 1878) gz_0_1650 rfl ?_
      exact K h45 I_h45
    ·
      have sim_h56 : Sim h56 := Sim_q I_h6.pLn (I_h6.pWnq.2.1) (my_ag.fr w58 rfl) (bg26 w58 (by decide +kernel)) w63 I_h6.pSim
      have I_h56 : LInv h56 := ⟨Ln_ag (my_ag.fr w58 rfl) I_h6.pLn, Mw_ag (my_ag.fr w58 rfl) I_h6.pMw, Mw3_ag (my_ag.fr w58 rfl) I_h6.pMw3, w64, Wrd_ag (my_ag.fr w58 rfl) I_h6.pWrd, Ceq_ag (my_ag.fr w58 rfl) (I_h6.pCeq), Wd9_ag (my_ag.fr w58 rfl) (I_h6.pWd9), Teq_ag (my_ag.fr w58 rfl) (I_h6.pTeq), Wnq_ag (my_ag.fr w58 rfl) (I_h6.pWnq), Hed_ag (my_ag.fr w58 rfl) (I_h6.pHed), sim_h56⟩
      show lwp p l e s m below meth c b D tys sg rho 1649 [(3, 0), (2, 0), (2, 151), (2, 203), (0, i), (9, 0), (9, 0)] [(0, y57)] h56 kn
      refine lw_pop gz_0_1649 rfl ?_
      refine lw_goto (t := 1878) gz_0_1650 rfl ?_
      exact K h56 I_h56
theorem lcase_24 (hL4 : L4 ≤ 4096) (hL : rho 4096 = Int32.ofNat L4) (I : LInv h) (i0 : 0 ≤ i) (i8 : i + 8 ≤ L4) (K : ∀ h' : my_H, LInv h' → lwp p l e s m below meth c b D tys sg rho 1878 [(3, 0), (2, 0), (2, 151), (2, 203), (0, i), (9, 0), (9, 0)] [] h' kn) : lwp p l e s m below meth c b D tys sg rho 1653 [(3, 0), (2, 0), (2, 151), (2, 203), (0, i), (9, 0), (9, 0)] [] h kn := by
  refine lw_aload_n gz_0_1653 rfl ?_
  refine lw_aload3_n gz_0_1654 rfl ?_
  refine lw_iload gz_0_1655 rfl ?_
  refine lw_iconst gz_0_1657 (by decide) ?_
  refine lw_iadd gz_0_1658 ⟨by omega, by omega⟩ ?_
  refine lw_sl gz_0_1659 hL4 hL (by omega) (by omega) (fun z1 ez1 pz1 qz1 => ?_)
  refine lw_aload3_n gz_0_1660 rfl ?_
  refine lw_iload gz_0_1661 rfl ?_
  refine lw_iconst gz_0_1663 (by decide) ?_
  refine lw_iadd gz_0_1664 ⟨by omega, by omega⟩ ?_
  refine lw_sl gz_0_1665 hL4 hL (by omega) (by omega) (fun z2 ez2 pz2 qz2 => ?_)
  refine lw_inv (kz := 2) (as := [(0, z2), (0, z1)]) (r := []) (x := 0) (ls0 := [(2, 0), (0, z1), (0, z2), (9, 0), (9, 0)]) gz_0_1666 gm_133 rfl is_0 rd_9 rfl rfl rfl rfl rfl (c_ThroughWindow_carried (d := 24) (x1 := z1) (x2 := z2) I.pLn (fun h3 w4 w5 => ?_) (fun h6 w7 w8 w9 w10 w11 w12 w13 => ?_) (fun h14 y15 w16 w17 w18 w19 w20 w21 w22 w23 w24 => ?_))
  ·
    have sim_h3 : Sim h3 := Sim_q I.pLn (I.pWnq.2.1) (my_ag.fr w4 rfl) (bg26 w4 (by decide +kernel)) (Ot9_e (fun j => my_fr.at w4 qis_162 rfl) (fun j => my_fr.at w4 qis_163 rfl)) I.pSim
    have I_h3 : LInv h3 := ⟨w5, Mw_ag (my_ag.fr w4 rfl) I.pMw, Mw3_ag (my_ag.fr w4 rfl) I.pMw3, Rws_ag (my_ag.fr w4 rfl) I.pRws, Wrd_ag (my_ag.fr w4 rfl) I.pWrd, Ceq_ag (my_ag.fr w4 rfl) (I.pCeq), Wd9_ag (my_ag.fr w4 rfl) (I.pWd9), Teq_ag (my_ag.fr w4 rfl) (I.pTeq), Wnq_ag (my_ag.fr w4 rfl) (I.pWnq), Hed_ag (my_ag.fr w4 rfl) (I.pHed), sim_h3⟩
    show lwp p l e s m below meth c b D tys sg rho 1669 [(3, 0), (2, 0), (2, 151), (2, 203), (0, i), (9, 0), (9, 0)] [(0, (-1))] h3 kn
    refine lw_pop gz_0_1669 rfl ?_
    refine lw_aload_n gz_0_1670 rfl ?_
    refine lw_aload3_n gz_0_1671 rfl ?_
    refine lw_iload gz_0_1672 rfl ?_
    refine lw_iconst gz_0_1674 (by decide) ?_
    refine lw_iadd gz_0_1675 ⟨by omega, by omega⟩ ?_
    refine lw_sl gz_0_1676 hL4 hL (by omega) (by omega) (fun z25 ez25 pz25 qz25 => ?_)
    refine lw_aload3_n gz_0_1677 rfl ?_
    refine lw_iload gz_0_1678 rfl ?_
    refine lw_iconst gz_0_1680 (by decide) ?_
    refine lw_iadd gz_0_1681 ⟨by omega, by omega⟩ ?_
    refine lw_sl gz_0_1682 hL4 hL (by omega) (by omega) (fun z26 ez26 pz26 qz26 => ?_)
    refine lw_inv (kz := 0) (as := [(0, z26), (0, z25)]) (r := []) (x := 151) (ls0 := [(2, 151), (0, z25), (0, z26)]) gz_0_1683 gm_246 rfl is_151 rd_10 rfl rfl rfl rfl rfl (c_Model_carried (d := 24) (x1 := z25) (x2 := z26) I_h3.pMw I_h3.pMw3 I_h3.pRws (fun h27 w28 w29 => ?_) (fun h30 y31 w32 w33 w34 w35 w36 w37 w38 w39 w40 => ?_))
    ·
      have sim_h27 : Sim h27 := Sim_q I_h3.pLn (I_h3.pWnq.2.1) (my_ag.fr w28 rfl) (bg26 w28 (by decide +kernel)) (Ot9_e (fun j => my_fr.at w28 qis_162 rfl) (fun j => my_fr.at w28 qis_163 rfl)) I_h3.pSim
      have I_h27 : LInv h27 := ⟨Ln_ag (my_ag.fr w28 rfl) I_h3.pLn, Mw_ag (my_ag.fr w28 rfl) I_h3.pMw, Mw3_ag (my_ag.fr w28 rfl) I_h3.pMw3, Rws_ag (my_ag.fr w28 rfl) I_h3.pRws, Wrd_ag (my_ag.fr w28 rfl) I_h3.pWrd, Ceq_ag (my_ag.fr w28 rfl) (I_h3.pCeq), Wd9_ag (my_ag.fr w28 rfl) (I_h3.pWd9), Teq_ag (my_ag.fr w28 rfl) (I_h3.pTeq), Wnq_ag (my_ag.fr w28 rfl) (I_h3.pWnq), Hed_ag (my_ag.fr w28 rfl) (I_h3.pHed), sim_h27⟩
      show lwp p l e s m below meth c b D tys sg rho 1686 [(3, 0), (2, 0), (2, 151), (2, 203), (0, i), (9, 0), (9, 0)] [(0, (-1))] h27 kn
      refine lw_pop gz_0_1686 rfl ?_
      refine lw_goto (t := 1878) gz_0_1687 rfl ?_
      exact K h27 I_h27
    ·
      have sim_h30 : Sim h30 := Sim_q I_h3.pLn (I_h3.pWnq.2.1) (my_ag.fr w32 rfl) (bg26 w32 (by decide +kernel)) (Ot9_e (fun j => my_fr.at w32 qis_162 rfl) (fun j => my_fr.at w32 qis_163 rfl)) I_h3.pSim
      have I_h30 : LInv h30 := ⟨Ln_ag (my_ag.fr w32 rfl) I_h3.pLn, Mw_ag (my_ag.fr w32 rfl) I_h3.pMw, Mw3_ag (my_ag.fr w32 rfl) I_h3.pMw3, Rws_ag (my_ag.fr w32 rfl) I_h3.pRws, Wrd_ag (my_ag.fr w32 rfl) I_h3.pWrd, Ceq_ag (my_ag.fr w32 rfl) (I_h3.pCeq), Wd9_ag (my_ag.fr w32 rfl) (I_h3.pWd9), Teq_ag (my_ag.fr w32 rfl) (I_h3.pTeq), Wnq_ag (my_ag.fr w32 rfl) (I_h3.pWnq), Hed_ag (my_ag.fr w32 rfl) (I_h3.pHed), sim_h30⟩
      show lwp p l e s m below meth c b D tys sg rho 1686 [(3, 0), (2, 0), (2, 151), (2, 203), (0, i), (9, 0), (9, 0)] [(0, y31)] h30 kn
      refine lw_pop gz_0_1686 rfl ?_
      refine lw_goto (t := 1878) gz_0_1687 rfl ?_
      exact K h30 I_h30
  ·
    have sim_h6 : Sim h6 := Sim_q I.pLn (I.pWnq.2.1) (my_ag.fr w7 rfl) (bg26 w7 (by decide +kernel)) (Ot9_e (fun j => my_fr.at w7 qis_162 rfl) (fun j => my_fr.at w7 qis_163 rfl)) I.pSim
    have I_h6 : LInv h6 := ⟨w13, Mw_ag (my_ag.fr w7 rfl) I.pMw, Mw3_ag (my_ag.fr w7 rfl) I.pMw3, Rws_ag (my_ag.fr w7 rfl) I.pRws, Wrd_ag (my_ag.fr w7 rfl) I.pWrd, Ceq_ag (my_ag.fr w7 rfl) (I.pCeq), Wd9_ag (my_ag.fr w7 rfl) (I.pWd9), Teq_ag (my_ag.fr w7 rfl) (I.pTeq), Wnq_ag (my_ag.fr w7 rfl) (I.pWnq), Hed_ag (my_ag.fr w7 rfl) (I.pHed), sim_h6⟩
    show lwp p l e s m below meth c b D tys sg rho 1669 [(3, 0), (2, 0), (2, 151), (2, 203), (0, i), (9, 0), (9, 0)] [(0, 0)] h6 kn
    refine lw_pop gz_0_1669 rfl ?_
    refine lw_aload_n gz_0_1670 rfl ?_
    refine lw_aload3_n gz_0_1671 rfl ?_
    refine lw_iload gz_0_1672 rfl ?_
    refine lw_iconst gz_0_1674 (by decide) ?_
    refine lw_iadd gz_0_1675 ⟨by omega, by omega⟩ ?_
    refine lw_sl gz_0_1676 hL4 hL (by omega) (by omega) (fun z41 ez41 pz41 qz41 => ?_)
    refine lw_aload3_n gz_0_1677 rfl ?_
    refine lw_iload gz_0_1678 rfl ?_
    refine lw_iconst gz_0_1680 (by decide) ?_
    refine lw_iadd gz_0_1681 ⟨by omega, by omega⟩ ?_
    refine lw_sl gz_0_1682 hL4 hL (by omega) (by omega) (fun z42 ez42 pz42 qz42 => ?_)
    refine lw_inv (kz := 0) (as := [(0, z42), (0, z41)]) (r := []) (x := 151) (ls0 := [(2, 151), (0, z41), (0, z42)]) gz_0_1683 gm_246 rfl is_151 rd_10 rfl rfl rfl rfl rfl (c_Model_carried (d := 24) (x1 := z41) (x2 := z42) I_h6.pMw I_h6.pMw3 I_h6.pRws (fun h43 w44 w45 => ?_) (fun h46 y47 w48 w49 w50 w51 w52 w53 w54 w55 w56 => ?_))
    ·
      have sim_h43 : Sim h43 := Sim_q I_h6.pLn (I_h6.pWnq.2.1) (my_ag.fr w44 rfl) (bg26 w44 (by decide +kernel)) (Ot9_e (fun j => my_fr.at w44 qis_162 rfl) (fun j => my_fr.at w44 qis_163 rfl)) I_h6.pSim
      have I_h43 : LInv h43 := ⟨Ln_ag (my_ag.fr w44 rfl) I_h6.pLn, Mw_ag (my_ag.fr w44 rfl) I_h6.pMw, Mw3_ag (my_ag.fr w44 rfl) I_h6.pMw3, Rws_ag (my_ag.fr w44 rfl) I_h6.pRws, Wrd_ag (my_ag.fr w44 rfl) I_h6.pWrd, Ceq_ag (my_ag.fr w44 rfl) (I_h6.pCeq), Wd9_ag (my_ag.fr w44 rfl) (I_h6.pWd9), Teq_ag (my_ag.fr w44 rfl) (I_h6.pTeq), Wnq_ag (my_ag.fr w44 rfl) (I_h6.pWnq), Hed_ag (my_ag.fr w44 rfl) (I_h6.pHed), sim_h43⟩
      show lwp p l e s m below meth c b D tys sg rho 1686 [(3, 0), (2, 0), (2, 151), (2, 203), (0, i), (9, 0), (9, 0)] [(0, (-1))] h43 kn
      refine lw_pop gz_0_1686 rfl ?_
      refine lw_goto (t := 1878) gz_0_1687 rfl ?_
      exact K h43 I_h43
    ·
      have sim_h46 : Sim h46 := Sim_q I_h6.pLn (I_h6.pWnq.2.1) (my_ag.fr w48 rfl) (bg26 w48 (by decide +kernel)) (Ot9_e (fun j => my_fr.at w48 qis_162 rfl) (fun j => my_fr.at w48 qis_163 rfl)) I_h6.pSim
      have I_h46 : LInv h46 := ⟨Ln_ag (my_ag.fr w48 rfl) I_h6.pLn, Mw_ag (my_ag.fr w48 rfl) I_h6.pMw, Mw3_ag (my_ag.fr w48 rfl) I_h6.pMw3, Rws_ag (my_ag.fr w48 rfl) I_h6.pRws, Wrd_ag (my_ag.fr w48 rfl) I_h6.pWrd, Ceq_ag (my_ag.fr w48 rfl) (I_h6.pCeq), Wd9_ag (my_ag.fr w48 rfl) (I_h6.pWd9), Teq_ag (my_ag.fr w48 rfl) (I_h6.pTeq), Wnq_ag (my_ag.fr w48 rfl) (I_h6.pWnq), Hed_ag (my_ag.fr w48 rfl) (I_h6.pHed), sim_h46⟩
      show lwp p l e s m below meth c b D tys sg rho 1686 [(3, 0), (2, 0), (2, 151), (2, 203), (0, i), (9, 0), (9, 0)] [(0, y47)] h46 kn
      refine lw_pop gz_0_1686 rfl ?_
      refine lw_goto (t := 1878) gz_0_1687 rfl ?_
      exact K h46 I_h46
  ·
    have sim_h14 : Sim h14 := Sim_q I.pLn (I.pWnq.2.1) (my_ag.fr w16 rfl) (bg26 w16 (by decide +kernel)) (Ot9_e (fun j => my_fr.at w16 qis_162 rfl) (fun j => my_fr.at w16 qis_163 rfl)) I.pSim
    have I_h14 : LInv h14 := ⟨w24, Mw_ag (my_ag.fr w16 rfl) I.pMw, Mw3_ag (my_ag.fr w16 rfl) I.pMw3, Rws_ag (my_ag.fr w16 rfl) I.pRws, Wrd_ag (my_ag.fr w16 rfl) I.pWrd, Ceq_ag (my_ag.fr w16 rfl) (I.pCeq), Wd9_ag (my_ag.fr w16 rfl) (I.pWd9), Teq_ag (my_ag.fr w16 rfl) (I.pTeq), Wnq_ag (my_ag.fr w16 rfl) (I.pWnq), Hed_ag (my_ag.fr w16 rfl) (I.pHed), sim_h14⟩
    show lwp p l e s m below meth c b D tys sg rho 1669 [(3, 0), (2, 0), (2, 151), (2, 203), (0, i), (9, 0), (9, 0)] [(0, y15)] h14 kn
    refine lw_pop gz_0_1669 rfl ?_
    refine lw_aload_n gz_0_1670 rfl ?_
    refine lw_aload3_n gz_0_1671 rfl ?_
    refine lw_iload gz_0_1672 rfl ?_
    refine lw_iconst gz_0_1674 (by decide) ?_
    refine lw_iadd gz_0_1675 ⟨by omega, by omega⟩ ?_
    refine lw_sl gz_0_1676 hL4 hL (by omega) (by omega) (fun z57 ez57 pz57 qz57 => ?_)
    refine lw_aload3_n gz_0_1677 rfl ?_
    refine lw_iload gz_0_1678 rfl ?_
    refine lw_iconst gz_0_1680 (by decide) ?_
    refine lw_iadd gz_0_1681 ⟨by omega, by omega⟩ ?_
    refine lw_sl gz_0_1682 hL4 hL (by omega) (by omega) (fun z58 ez58 pz58 qz58 => ?_)
    refine lw_inv (kz := 0) (as := [(0, z58), (0, z57)]) (r := []) (x := 151) (ls0 := [(2, 151), (0, z57), (0, z58)]) gz_0_1683 gm_246 rfl is_151 rd_10 rfl rfl rfl rfl rfl (c_Model_carried (d := 24) (x1 := z57) (x2 := z58) I_h14.pMw I_h14.pMw3 I_h14.pRws (fun h59 w60 w61 => ?_) (fun h62 y63 w64 w65 w66 w67 w68 w69 w70 w71 w72 => ?_))
    ·
      have sim_h59 : Sim h59 := Sim_q I_h14.pLn (I_h14.pWnq.2.1) (my_ag.fr w60 rfl) (bg26 w60 (by decide +kernel)) (Ot9_e (fun j => my_fr.at w60 qis_162 rfl) (fun j => my_fr.at w60 qis_163 rfl)) I_h14.pSim
      have I_h59 : LInv h59 := ⟨Ln_ag (my_ag.fr w60 rfl) I_h14.pLn, Mw_ag (my_ag.fr w60 rfl) I_h14.pMw, Mw3_ag (my_ag.fr w60 rfl) I_h14.pMw3, Rws_ag (my_ag.fr w60 rfl) I_h14.pRws, Wrd_ag (my_ag.fr w60 rfl) I_h14.pWrd, Ceq_ag (my_ag.fr w60 rfl) (I_h14.pCeq), Wd9_ag (my_ag.fr w60 rfl) (I_h14.pWd9), Teq_ag (my_ag.fr w60 rfl) (I_h14.pTeq), Wnq_ag (my_ag.fr w60 rfl) (I_h14.pWnq), Hed_ag (my_ag.fr w60 rfl) (I_h14.pHed), sim_h59⟩
      show lwp p l e s m below meth c b D tys sg rho 1686 [(3, 0), (2, 0), (2, 151), (2, 203), (0, i), (9, 0), (9, 0)] [(0, (-1))] h59 kn
      refine lw_pop gz_0_1686 rfl ?_
      refine lw_goto (t := 1878) gz_0_1687 rfl ?_
      exact K h59 I_h59
    ·
      have sim_h62 : Sim h62 := Sim_q I_h14.pLn (I_h14.pWnq.2.1) (my_ag.fr w64 rfl) (bg26 w64 (by decide +kernel)) (Ot9_e (fun j => my_fr.at w64 qis_162 rfl) (fun j => my_fr.at w64 qis_163 rfl)) I_h14.pSim
      have I_h62 : LInv h62 := ⟨Ln_ag (my_ag.fr w64 rfl) I_h14.pLn, Mw_ag (my_ag.fr w64 rfl) I_h14.pMw, Mw3_ag (my_ag.fr w64 rfl) I_h14.pMw3, Rws_ag (my_ag.fr w64 rfl) I_h14.pRws, Wrd_ag (my_ag.fr w64 rfl) I_h14.pWrd, Ceq_ag (my_ag.fr w64 rfl) (I_h14.pCeq), Wd9_ag (my_ag.fr w64 rfl) (I_h14.pWd9), Teq_ag (my_ag.fr w64 rfl) (I_h14.pTeq), Wnq_ag (my_ag.fr w64 rfl) (I_h14.pWnq), Hed_ag (my_ag.fr w64 rfl) (I_h14.pHed), sim_h62⟩
      show lwp p l e s m below meth c b D tys sg rho 1686 [(3, 0), (2, 0), (2, 151), (2, 203), (0, i), (9, 0), (9, 0)] [(0, y63)] h62 kn
      refine lw_pop gz_0_1686 rfl ?_
      refine lw_goto (t := 1878) gz_0_1687 rfl ?_
      exact K h62 I_h62
theorem lcase_25 (hL4 : L4 ≤ 4096) (hL : rho 4096 = Int32.ofNat L4) (I : LInv h) (i0 : 0 ≤ i) (i8 : i + 8 ≤ L4) (K : ∀ h' : my_H, LInv h' → lwp p l e s m below meth c b D tys sg rho 1878 [(3, 0), (2, 0), (2, 151), (2, 203), (0, i), (9, 0), (9, 0)] [] h' kn) : lwp p l e s m below meth c b D tys sg rho 1690 [(3, 0), (2, 0), (2, 151), (2, 203), (0, i), (9, 0), (9, 0)] [] h kn := by
  refine lw_aload_n gz_0_1690 rfl ?_
  refine lw_aload3_n gz_0_1691 rfl ?_
  refine lw_iload gz_0_1692 rfl ?_
  refine lw_iconst gz_0_1694 (by decide) ?_
  refine lw_iadd gz_0_1695 ⟨by omega, by omega⟩ ?_
  refine lw_sl gz_0_1696 hL4 hL (by omega) (by omega) (fun z1 ez1 pz1 qz1 => ?_)
  refine lw_aload3_n gz_0_1697 rfl ?_
  refine lw_iload gz_0_1698 rfl ?_
  refine lw_iconst gz_0_1700 (by decide) ?_
  refine lw_iadd gz_0_1701 ⟨by omega, by omega⟩ ?_
  refine lw_sl gz_0_1702 hL4 hL (by omega) (by omega) (fun z2 ez2 pz2 qz2 => ?_)
  refine lw_aload3_n gz_0_1703 rfl ?_
  refine lw_iload gz_0_1704 rfl ?_
  refine lw_iconst gz_0_1706 (by decide) ?_
  refine lw_iadd gz_0_1707 ⟨by omega, by omega⟩ ?_
  refine lw_sl gz_0_1708 hL4 hL (by omega) (by omega) (fun z3 ez3 pz3 qz3 => ?_)
  refine lw_inv (kz := 0) (as := [(0, z3), (0, z2), (0, z1)]) (r := []) (x := 0) (ls0 := [(2, 0), (0, z1), (0, z2), (0, z3)]) gz_0_1709 gm_135 rfl is_0 rd_9 rfl rfl rfl rfl rfl (c_ThroughWindow_cuts (d := 26) (x1 := z1) (x2 := z2) (x3 := z3)  (fun h4 w5 => ?_) (fun h6 w7 w8 w9 w10 w11 w12 w13 => ?_) (fun h14 y15 w16 w17 w18 w19 w20 w21 w22 => ?_))
  ·
    have sim_h4 : Sim h4 := Sim_q I.pLn (I.pWnq.2.1) (my_ag.fr w5 rfl) (bg26 w5 (by decide +kernel)) (Ot9_e (fun j => my_fr.at w5 qis_162 rfl) (fun j => my_fr.at w5 qis_163 rfl)) I.pSim
    have I_h4 : LInv h4 := ⟨Ln_ag (my_ag.fr w5 rfl) I.pLn, Mw_ag (my_ag.fr w5 rfl) I.pMw, Mw3_ag (my_ag.fr w5 rfl) I.pMw3, Rws_ag (my_ag.fr w5 rfl) I.pRws, Wrd_ag (my_ag.fr w5 rfl) I.pWrd, Ceq_ag (my_ag.fr w5 rfl) (I.pCeq), Wd9_ag (my_ag.fr w5 rfl) (I.pWd9), Teq_ag (my_ag.fr w5 rfl) (I.pTeq), Wnq_ag (my_ag.fr w5 rfl) (I.pWnq), Hed_ag (my_ag.fr w5 rfl) (I.pHed), sim_h4⟩
    show lwp p l e s m below meth c b D tys sg rho 1712 [(3, 0), (2, 0), (2, 151), (2, 203), (0, i), (9, 0), (9, 0)] [(0, (-1))] h4 kn
    refine lw_pop gz_0_1712 rfl ?_
    refine lw_aload_n gz_0_1713 rfl ?_
    refine lw_aload3_n gz_0_1714 rfl ?_
    refine lw_iload gz_0_1715 rfl ?_
    refine lw_iconst gz_0_1717 (by decide) ?_
    refine lw_iadd gz_0_1718 ⟨by omega, by omega⟩ ?_
    refine lw_sl gz_0_1719 hL4 hL (by omega) (by omega) (fun z23 ez23 pz23 qz23 => ?_)
    refine lw_aload3_n gz_0_1720 rfl ?_
    refine lw_iload gz_0_1721 rfl ?_
    refine lw_iconst gz_0_1723 (by decide) ?_
    refine lw_iadd gz_0_1724 ⟨by omega, by omega⟩ ?_
    refine lw_sl gz_0_1725 hL4 hL (by omega) (by omega) (fun z24 ez24 pz24 qz24 => ?_)
    refine lw_aload3_n gz_0_1726 rfl ?_
    refine lw_iload gz_0_1727 rfl ?_
    refine lw_iconst gz_0_1729 (by decide) ?_
    refine lw_iadd gz_0_1730 ⟨by omega, by omega⟩ ?_
    refine lw_sl gz_0_1731 hL4 hL (by omega) (by omega) (fun z25 ez25 pz25 qz25 => ?_)
    refine lw_inv (kz := 3) (as := [(0, z25), (0, z24), (0, z23)]) (r := []) (x := 151) (ls0 := [(2, 151), (0, z23), (0, z24), (0, z25), (9, 0), (9, 0), (9, 0)]) gz_0_1732 gm_234 rfl is_151 rd_10 rfl rfl rfl rfl rfl (c_Model_cuts (d := 26) (x1 := z23) (x2 := z24) (x3 := z25)  (fun h26 w27 w28 => ?_) (fun h29 w30 w31 w32 w33 w34 w35 w36 w37 => ?_) (fun h38 y39 w40 w41 w42 w43 w44 w45 w46 w47 => ?_))
    ·
      have sim_h26 : Sim h26 := Sim_q I_h4.pLn (I_h4.pWnq.2.1) (my_ag.fr w27 rfl) (bg26 w27 (by decide +kernel)) (Ot9_e (fun j => my_fr.at w27 qis_162 rfl) (fun j => my_fr.at w27 qis_163 rfl)) I_h4.pSim
      have I_h26 : LInv h26 := ⟨Ln_ag (my_ag.fr w27 rfl) I_h4.pLn, Mw_ag (my_ag.fr w27 rfl) I_h4.pMw, Mw3_ag (my_ag.fr w27 rfl) I_h4.pMw3, Rws_ag (my_ag.fr w27 rfl) I_h4.pRws, Wrd_ag (my_ag.fr w27 rfl) I_h4.pWrd, Ceq_ag (my_ag.fr w27 rfl) (I_h4.pCeq), Wd9_ag (my_ag.fr w27 rfl) (I_h4.pWd9), Teq_ag (my_ag.fr w27 rfl) (I_h4.pTeq), Wnq_ag (my_ag.fr w27 rfl) (I_h4.pWnq), Hed_ag (my_ag.fr w27 rfl) (I_h4.pHed), sim_h26⟩
      show lwp p l e s m below meth c b D tys sg rho 1735 [(3, 0), (2, 0), (2, 151), (2, 203), (0, i), (9, 0), (9, 0)] [(0, (-1))] h26 kn
      refine lw_pop gz_0_1735 rfl ?_
      refine lw_goto (t := 1878) gz_0_1736 rfl ?_
      exact K h26 I_h26
    ·
      have sim_h29 : Sim h29 := Sim_q I_h4.pLn (I_h4.pWnq.2.1) (my_ag.fr w30 rfl) (bg26 w30 (by decide +kernel)) (Ot9_e (fun j => my_fr.at w30 qis_162 rfl) (fun j => my_fr.at w30 qis_163 rfl)) I_h4.pSim
      have I_h29 : LInv h29 := ⟨Ln_ag (my_ag.fr w30 rfl) I_h4.pLn, Mw_ag (my_ag.fr w30 rfl) I_h4.pMw, Mw3_ag (my_ag.fr w30 rfl) I_h4.pMw3, Rws_ag (my_ag.fr w30 rfl) I_h4.pRws, Wrd_ag (my_ag.fr w30 rfl) I_h4.pWrd, Ceq_ag (my_ag.fr w30 rfl) (I_h4.pCeq), Wd9_ag (my_ag.fr w30 rfl) (I_h4.pWd9), Teq_ag (my_ag.fr w30 rfl) (I_h4.pTeq), Wnq_ag (my_ag.fr w30 rfl) (I_h4.pWnq), Hed_ag (my_ag.fr w30 rfl) (I_h4.pHed), sim_h29⟩
      show lwp p l e s m below meth c b D tys sg rho 1735 [(3, 0), (2, 0), (2, 151), (2, 203), (0, i), (9, 0), (9, 0)] [(0, 0)] h29 kn
      refine lw_pop gz_0_1735 rfl ?_
      refine lw_goto (t := 1878) gz_0_1736 rfl ?_
      exact K h29 I_h29
    ·
      have sim_h38 : Sim h38 := Sim_q I_h4.pLn (I_h4.pWnq.2.1) (my_ag.fr w40 rfl) (bg26 w40 (by decide +kernel)) (Ot9_e (fun j => my_fr.at w40 qis_162 rfl) (fun j => my_fr.at w40 qis_163 rfl)) I_h4.pSim
      have I_h38 : LInv h38 := ⟨Ln_ag (my_ag.fr w40 rfl) I_h4.pLn, Mw_ag (my_ag.fr w40 rfl) I_h4.pMw, Mw3_ag (my_ag.fr w40 rfl) I_h4.pMw3, Rws_ag (my_ag.fr w40 rfl) I_h4.pRws, Wrd_ag (my_ag.fr w40 rfl) I_h4.pWrd, Ceq_ag (my_ag.fr w40 rfl) (I_h4.pCeq), Wd9_ag (my_ag.fr w40 rfl) (I_h4.pWd9), Teq_ag (my_ag.fr w40 rfl) (I_h4.pTeq), Wnq_ag (my_ag.fr w40 rfl) (I_h4.pWnq), Hed_ag (my_ag.fr w40 rfl) (I_h4.pHed), sim_h38⟩
      show lwp p l e s m below meth c b D tys sg rho 1735 [(3, 0), (2, 0), (2, 151), (2, 203), (0, i), (9, 0), (9, 0)] [(0, y39)] h38 kn
      refine lw_pop gz_0_1735 rfl ?_
      refine lw_goto (t := 1878) gz_0_1736 rfl ?_
      exact K h38 I_h38
  ·
    have sim_h6 : Sim h6 := Sim_q I.pLn (I.pWnq.2.1) (my_ag.fr w7 rfl) (bg26 w7 (by decide +kernel)) (Ot9_e (fun j => my_fr.at w7 qis_162 rfl) (fun j => my_fr.at w7 qis_163 rfl)) I.pSim
    have I_h6 : LInv h6 := ⟨Ln_ag (my_ag.fr w7 rfl) I.pLn, Mw_ag (my_ag.fr w7 rfl) I.pMw, Mw3_ag (my_ag.fr w7 rfl) I.pMw3, Rws_ag (my_ag.fr w7 rfl) I.pRws, Wrd_ag (my_ag.fr w7 rfl) I.pWrd, Ceq_ag (my_ag.fr w7 rfl) (I.pCeq), Wd9_ag (my_ag.fr w7 rfl) (I.pWd9), Teq_ag (my_ag.fr w7 rfl) (I.pTeq), Wnq_ag (my_ag.fr w7 rfl) (I.pWnq), Hed_ag (my_ag.fr w7 rfl) (I.pHed), sim_h6⟩
    show lwp p l e s m below meth c b D tys sg rho 1712 [(3, 0), (2, 0), (2, 151), (2, 203), (0, i), (9, 0), (9, 0)] [(0, 0)] h6 kn
    refine lw_pop gz_0_1712 rfl ?_
    refine lw_aload_n gz_0_1713 rfl ?_
    refine lw_aload3_n gz_0_1714 rfl ?_
    refine lw_iload gz_0_1715 rfl ?_
    refine lw_iconst gz_0_1717 (by decide) ?_
    refine lw_iadd gz_0_1718 ⟨by omega, by omega⟩ ?_
    refine lw_sl gz_0_1719 hL4 hL (by omega) (by omega) (fun z48 ez48 pz48 qz48 => ?_)
    refine lw_aload3_n gz_0_1720 rfl ?_
    refine lw_iload gz_0_1721 rfl ?_
    refine lw_iconst gz_0_1723 (by decide) ?_
    refine lw_iadd gz_0_1724 ⟨by omega, by omega⟩ ?_
    refine lw_sl gz_0_1725 hL4 hL (by omega) (by omega) (fun z49 ez49 pz49 qz49 => ?_)
    refine lw_aload3_n gz_0_1726 rfl ?_
    refine lw_iload gz_0_1727 rfl ?_
    refine lw_iconst gz_0_1729 (by decide) ?_
    refine lw_iadd gz_0_1730 ⟨by omega, by omega⟩ ?_
    refine lw_sl gz_0_1731 hL4 hL (by omega) (by omega) (fun z50 ez50 pz50 qz50 => ?_)
    refine lw_inv (kz := 3) (as := [(0, z50), (0, z49), (0, z48)]) (r := []) (x := 151) (ls0 := [(2, 151), (0, z48), (0, z49), (0, z50), (9, 0), (9, 0), (9, 0)]) gz_0_1732 gm_234 rfl is_151 rd_10 rfl rfl rfl rfl rfl (c_Model_cuts (d := 26) (x1 := z48) (x2 := z49) (x3 := z50)  (fun h51 w52 w53 => ?_) (fun h54 w55 w56 w57 w58 w59 w60 w61 w62 => ?_) (fun h63 y64 w65 w66 w67 w68 w69 w70 w71 w72 => ?_))
    ·
      have sim_h51 : Sim h51 := Sim_q I_h6.pLn (I_h6.pWnq.2.1) (my_ag.fr w52 rfl) (bg26 w52 (by decide +kernel)) (Ot9_e (fun j => my_fr.at w52 qis_162 rfl) (fun j => my_fr.at w52 qis_163 rfl)) I_h6.pSim
      have I_h51 : LInv h51 := ⟨Ln_ag (my_ag.fr w52 rfl) I_h6.pLn, Mw_ag (my_ag.fr w52 rfl) I_h6.pMw, Mw3_ag (my_ag.fr w52 rfl) I_h6.pMw3, Rws_ag (my_ag.fr w52 rfl) I_h6.pRws, Wrd_ag (my_ag.fr w52 rfl) I_h6.pWrd, Ceq_ag (my_ag.fr w52 rfl) (I_h6.pCeq), Wd9_ag (my_ag.fr w52 rfl) (I_h6.pWd9), Teq_ag (my_ag.fr w52 rfl) (I_h6.pTeq), Wnq_ag (my_ag.fr w52 rfl) (I_h6.pWnq), Hed_ag (my_ag.fr w52 rfl) (I_h6.pHed), sim_h51⟩
      show lwp p l e s m below meth c b D tys sg rho 1735 [(3, 0), (2, 0), (2, 151), (2, 203), (0, i), (9, 0), (9, 0)] [(0, (-1))] h51 kn
      refine lw_pop gz_0_1735 rfl ?_
      refine lw_goto (t := 1878) gz_0_1736 rfl ?_
      exact K h51 I_h51
    ·
      have sim_h54 : Sim h54 := Sim_q I_h6.pLn (I_h6.pWnq.2.1) (my_ag.fr w55 rfl) (bg26 w55 (by decide +kernel)) (Ot9_e (fun j => my_fr.at w55 qis_162 rfl) (fun j => my_fr.at w55 qis_163 rfl)) I_h6.pSim
      have I_h54 : LInv h54 := ⟨Ln_ag (my_ag.fr w55 rfl) I_h6.pLn, Mw_ag (my_ag.fr w55 rfl) I_h6.pMw, Mw3_ag (my_ag.fr w55 rfl) I_h6.pMw3, Rws_ag (my_ag.fr w55 rfl) I_h6.pRws, Wrd_ag (my_ag.fr w55 rfl) I_h6.pWrd, Ceq_ag (my_ag.fr w55 rfl) (I_h6.pCeq), Wd9_ag (my_ag.fr w55 rfl) (I_h6.pWd9), Teq_ag (my_ag.fr w55 rfl) (I_h6.pTeq), Wnq_ag (my_ag.fr w55 rfl) (I_h6.pWnq), Hed_ag (my_ag.fr w55 rfl) (I_h6.pHed), sim_h54⟩
      show lwp p l e s m below meth c b D tys sg rho 1735 [(3, 0), (2, 0), (2, 151), (2, 203), (0, i), (9, 0), (9, 0)] [(0, 0)] h54 kn
      refine lw_pop gz_0_1735 rfl ?_
      refine lw_goto (t := 1878) gz_0_1736 rfl ?_
      exact K h54 I_h54
    ·
      have sim_h63 : Sim h63 := Sim_q I_h6.pLn (I_h6.pWnq.2.1) (my_ag.fr w65 rfl) (bg26 w65 (by decide +kernel)) (Ot9_e (fun j => my_fr.at w65 qis_162 rfl) (fun j => my_fr.at w65 qis_163 rfl)) I_h6.pSim
      have I_h63 : LInv h63 := ⟨Ln_ag (my_ag.fr w65 rfl) I_h6.pLn, Mw_ag (my_ag.fr w65 rfl) I_h6.pMw, Mw3_ag (my_ag.fr w65 rfl) I_h6.pMw3, Rws_ag (my_ag.fr w65 rfl) I_h6.pRws, Wrd_ag (my_ag.fr w65 rfl) I_h6.pWrd, Ceq_ag (my_ag.fr w65 rfl) (I_h6.pCeq), Wd9_ag (my_ag.fr w65 rfl) (I_h6.pWd9), Teq_ag (my_ag.fr w65 rfl) (I_h6.pTeq), Wnq_ag (my_ag.fr w65 rfl) (I_h6.pWnq), Hed_ag (my_ag.fr w65 rfl) (I_h6.pHed), sim_h63⟩
      show lwp p l e s m below meth c b D tys sg rho 1735 [(3, 0), (2, 0), (2, 151), (2, 203), (0, i), (9, 0), (9, 0)] [(0, y64)] h63 kn
      refine lw_pop gz_0_1735 rfl ?_
      refine lw_goto (t := 1878) gz_0_1736 rfl ?_
      exact K h63 I_h63
  ·
    have sim_h14 : Sim h14 := Sim_q I.pLn (I.pWnq.2.1) (my_ag.fr w16 rfl) (bg26 w16 (by decide +kernel)) (Ot9_e (fun j => my_fr.at w16 qis_162 rfl) (fun j => my_fr.at w16 qis_163 rfl)) I.pSim
    have I_h14 : LInv h14 := ⟨Ln_ag (my_ag.fr w16 rfl) I.pLn, Mw_ag (my_ag.fr w16 rfl) I.pMw, Mw3_ag (my_ag.fr w16 rfl) I.pMw3, Rws_ag (my_ag.fr w16 rfl) I.pRws, Wrd_ag (my_ag.fr w16 rfl) I.pWrd, Ceq_ag (my_ag.fr w16 rfl) (I.pCeq), Wd9_ag (my_ag.fr w16 rfl) (I.pWd9), Teq_ag (my_ag.fr w16 rfl) (I.pTeq), Wnq_ag (my_ag.fr w16 rfl) (I.pWnq), Hed_ag (my_ag.fr w16 rfl) (I.pHed), sim_h14⟩
    show lwp p l e s m below meth c b D tys sg rho 1712 [(3, 0), (2, 0), (2, 151), (2, 203), (0, i), (9, 0), (9, 0)] [(0, y15)] h14 kn
    refine lw_pop gz_0_1712 rfl ?_
    refine lw_aload_n gz_0_1713 rfl ?_
    refine lw_aload3_n gz_0_1714 rfl ?_
    refine lw_iload gz_0_1715 rfl ?_
    refine lw_iconst gz_0_1717 (by decide) ?_
    refine lw_iadd gz_0_1718 ⟨by omega, by omega⟩ ?_
    refine lw_sl gz_0_1719 hL4 hL (by omega) (by omega) (fun z73 ez73 pz73 qz73 => ?_)
    refine lw_aload3_n gz_0_1720 rfl ?_
    refine lw_iload gz_0_1721 rfl ?_
    refine lw_iconst gz_0_1723 (by decide) ?_
    refine lw_iadd gz_0_1724 ⟨by omega, by omega⟩ ?_
    refine lw_sl gz_0_1725 hL4 hL (by omega) (by omega) (fun z74 ez74 pz74 qz74 => ?_)
    refine lw_aload3_n gz_0_1726 rfl ?_
    refine lw_iload gz_0_1727 rfl ?_
    refine lw_iconst gz_0_1729 (by decide) ?_
    refine lw_iadd gz_0_1730 ⟨by omega, by omega⟩ ?_
    refine lw_sl gz_0_1731 hL4 hL (by omega) (by omega) (fun z75 ez75 pz75 qz75 => ?_)
    refine lw_inv (kz := 3) (as := [(0, z75), (0, z74), (0, z73)]) (r := []) (x := 151) (ls0 := [(2, 151), (0, z73), (0, z74), (0, z75), (9, 0), (9, 0), (9, 0)]) gz_0_1732 gm_234 rfl is_151 rd_10 rfl rfl rfl rfl rfl (c_Model_cuts (d := 26) (x1 := z73) (x2 := z74) (x3 := z75)  (fun h76 w77 w78 => ?_) (fun h79 w80 w81 w82 w83 w84 w85 w86 w87 => ?_) (fun h88 y89 w90 w91 w92 w93 w94 w95 w96 w97 => ?_))
    ·
      have sim_h76 : Sim h76 := Sim_q I_h14.pLn (I_h14.pWnq.2.1) (my_ag.fr w77 rfl) (bg26 w77 (by decide +kernel)) (Ot9_e (fun j => my_fr.at w77 qis_162 rfl) (fun j => my_fr.at w77 qis_163 rfl)) I_h14.pSim
      have I_h76 : LInv h76 := ⟨Ln_ag (my_ag.fr w77 rfl) I_h14.pLn, Mw_ag (my_ag.fr w77 rfl) I_h14.pMw, Mw3_ag (my_ag.fr w77 rfl) I_h14.pMw3, Rws_ag (my_ag.fr w77 rfl) I_h14.pRws, Wrd_ag (my_ag.fr w77 rfl) I_h14.pWrd, Ceq_ag (my_ag.fr w77 rfl) (I_h14.pCeq), Wd9_ag (my_ag.fr w77 rfl) (I_h14.pWd9), Teq_ag (my_ag.fr w77 rfl) (I_h14.pTeq), Wnq_ag (my_ag.fr w77 rfl) (I_h14.pWnq), Hed_ag (my_ag.fr w77 rfl) (I_h14.pHed), sim_h76⟩
      show lwp p l e s m below meth c b D tys sg rho 1735 [(3, 0), (2, 0), (2, 151), (2, 203), (0, i), (9, 0), (9, 0)] [(0, (-1))] h76 kn
      refine lw_pop gz_0_1735 rfl ?_
      refine lw_goto (t := 1878) gz_0_1736 rfl ?_
      exact K h76 I_h76
    ·
      have sim_h79 : Sim h79 := Sim_q I_h14.pLn (I_h14.pWnq.2.1) (my_ag.fr w80 rfl) (bg26 w80 (by decide +kernel)) (Ot9_e (fun j => my_fr.at w80 qis_162 rfl) (fun j => my_fr.at w80 qis_163 rfl)) I_h14.pSim
      have I_h79 : LInv h79 := ⟨Ln_ag (my_ag.fr w80 rfl) I_h14.pLn, Mw_ag (my_ag.fr w80 rfl) I_h14.pMw, Mw3_ag (my_ag.fr w80 rfl) I_h14.pMw3, Rws_ag (my_ag.fr w80 rfl) I_h14.pRws, Wrd_ag (my_ag.fr w80 rfl) I_h14.pWrd, Ceq_ag (my_ag.fr w80 rfl) (I_h14.pCeq), Wd9_ag (my_ag.fr w80 rfl) (I_h14.pWd9), Teq_ag (my_ag.fr w80 rfl) (I_h14.pTeq), Wnq_ag (my_ag.fr w80 rfl) (I_h14.pWnq), Hed_ag (my_ag.fr w80 rfl) (I_h14.pHed), sim_h79⟩
      show lwp p l e s m below meth c b D tys sg rho 1735 [(3, 0), (2, 0), (2, 151), (2, 203), (0, i), (9, 0), (9, 0)] [(0, 0)] h79 kn
      refine lw_pop gz_0_1735 rfl ?_
      refine lw_goto (t := 1878) gz_0_1736 rfl ?_
      exact K h79 I_h79
    ·
      have sim_h88 : Sim h88 := Sim_q I_h14.pLn (I_h14.pWnq.2.1) (my_ag.fr w90 rfl) (bg26 w90 (by decide +kernel)) (Ot9_e (fun j => my_fr.at w90 qis_162 rfl) (fun j => my_fr.at w90 qis_163 rfl)) I_h14.pSim
      have I_h88 : LInv h88 := ⟨Ln_ag (my_ag.fr w90 rfl) I_h14.pLn, Mw_ag (my_ag.fr w90 rfl) I_h14.pMw, Mw3_ag (my_ag.fr w90 rfl) I_h14.pMw3, Rws_ag (my_ag.fr w90 rfl) I_h14.pRws, Wrd_ag (my_ag.fr w90 rfl) I_h14.pWrd, Ceq_ag (my_ag.fr w90 rfl) (I_h14.pCeq), Wd9_ag (my_ag.fr w90 rfl) (I_h14.pWd9), Teq_ag (my_ag.fr w90 rfl) (I_h14.pTeq), Wnq_ag (my_ag.fr w90 rfl) (I_h14.pWnq), Hed_ag (my_ag.fr w90 rfl) (I_h14.pHed), sim_h88⟩
      show lwp p l e s m below meth c b D tys sg rho 1735 [(3, 0), (2, 0), (2, 151), (2, 203), (0, i), (9, 0), (9, 0)] [(0, y89)] h88 kn
      refine lw_pop gz_0_1735 rfl ?_
      refine lw_goto (t := 1878) gz_0_1736 rfl ?_
      exact K h88 I_h88
theorem lcase_26 (hL4 : L4 ≤ 4096) (hL : rho 4096 = Int32.ofNat L4) (I : LInv h) (i0 : 0 ≤ i) (i8 : i + 8 ≤ L4) (K : ∀ h' : my_H, LInv h' → lwp p l e s m below meth c b D tys sg rho 1878 [(3, 0), (2, 0), (2, 151), (2, 203), (0, i), (9, 0), (9, 0)] [] h' kn) : lwp p l e s m below meth c b D tys sg rho 1739 [(3, 0), (2, 0), (2, 151), (2, 203), (0, i), (9, 0), (9, 0)] [] h kn := by
  refine lw_aload_n gz_0_1739 rfl ?_
  refine lw_aload3_n gz_0_1740 rfl ?_
  refine lw_iload gz_0_1741 rfl ?_
  refine lw_iconst gz_0_1743 (by decide) ?_
  refine lw_iadd gz_0_1744 ⟨by omega, by omega⟩ ?_
  refine lw_sl gz_0_1745 hL4 hL (by omega) (by omega) (fun z1 ez1 pz1 qz1 => ?_)
  refine lw_aload3_n gz_0_1746 rfl ?_
  refine lw_iload gz_0_1747 rfl ?_
  refine lw_iconst gz_0_1749 (by decide) ?_
  refine lw_iadd gz_0_1750 ⟨by omega, by omega⟩ ?_
  refine lw_sl gz_0_1751 hL4 hL (by omega) (by omega) (fun z2 ez2 pz2 qz2 => ?_)
  refine lw_aload3_n gz_0_1752 rfl ?_
  refine lw_iload gz_0_1753 rfl ?_
  refine lw_iconst gz_0_1755 (by decide) ?_
  refine lw_iadd gz_0_1756 ⟨by omega, by omega⟩ ?_
  refine lw_sl gz_0_1757 hL4 hL (by omega) (by omega) (fun z3 ez3 pz3 qz3 => ?_)
  refine lw_aload3_n gz_0_1758 rfl ?_
  refine lw_iload gz_0_1759 rfl ?_
  refine lw_iconst gz_0_1761 (by decide) ?_
  refine lw_iadd gz_0_1762 ⟨by omega, by omega⟩ ?_
  refine lw_sl gz_0_1763 hL4 hL (by omega) (by omega) (fun z4 ez4 pz4 qz4 => ?_)
  refine lw_inv (kz := 0) (as := [(0, z4), (0, z3), (0, z2), (0, z1)]) (r := []) (x := 0) (ls0 := [(2, 0), (0, z1), (0, z2), (0, z3), (0, z4)]) gz_0_1764 gm_137 rfl is_0 rd_9 rfl rfl rfl rfl rfl (c_ThroughWindow_moves5 (d := 27) (x1 := z1) (x2 := z2) (x3 := z3) (x4 := z4)  (fun w5 => ?_) (fun y6 w7 w8 w9 w10 w11 w12 w13 w14 w15 w16 w17 => ?_))
  ·
    show lwp p l e s m below meth c b D tys sg rho 1767 [(3, 0), (2, 0), (2, 151), (2, 203), (0, i), (9, 0), (9, 0)] [(0, (-1))] h kn
    refine lw_pop gz_0_1767 rfl ?_
    refine lw_aload_n gz_0_1768 rfl ?_
    refine lw_aload3_n gz_0_1769 rfl ?_
    refine lw_iload gz_0_1770 rfl ?_
    refine lw_iconst gz_0_1772 (by decide) ?_
    refine lw_iadd gz_0_1773 ⟨by omega, by omega⟩ ?_
    refine lw_sl gz_0_1774 hL4 hL (by omega) (by omega) (fun z18 ez18 pz18 qz18 => ?_)
    refine lw_aload3_n gz_0_1775 rfl ?_
    refine lw_iload gz_0_1776 rfl ?_
    refine lw_iconst gz_0_1778 (by decide) ?_
    refine lw_iadd gz_0_1779 ⟨by omega, by omega⟩ ?_
    refine lw_sl gz_0_1780 hL4 hL (by omega) (by omega) (fun z19 ez19 pz19 qz19 => ?_)
    refine lw_aload3_n gz_0_1781 rfl ?_
    refine lw_iload gz_0_1782 rfl ?_
    refine lw_iconst gz_0_1784 (by decide) ?_
    refine lw_iadd gz_0_1785 ⟨by omega, by omega⟩ ?_
    refine lw_sl gz_0_1786 hL4 hL (by omega) (by omega) (fun z20 ez20 pz20 qz20 => ?_)
    refine lw_aload3_n gz_0_1787 rfl ?_
    refine lw_iload gz_0_1788 rfl ?_
    refine lw_iconst gz_0_1790 (by decide) ?_
    refine lw_iadd gz_0_1791 ⟨by omega, by omega⟩ ?_
    refine lw_sl gz_0_1792 hL4 hL (by omega) (by omega) (fun z21 ez21 pz21 qz21 => ?_)
    refine lw_inv (kz := 0) (as := [(0, z21), (0, z20), (0, z19), (0, z18)]) (r := []) (x := 151) (ls0 := [(2, 151), (0, z18), (0, z19), (0, z20), (0, z21)]) gz_0_1793 gm_164 rfl is_151 rd_10 rfl rfl rfl rfl rfl (c_Model_moves5 (d := 26) (x1 := z18) (x2 := z19) (x3 := z20) (x4 := z21)  (fun h22 w23 w24 w25 => ?_) (fun h26 y27 w28 w29 w30 w31 w32 w33 w34 w35 w36 w37 w38 w39 w40 => ?_))
    ·
      have sim_h22 : Sim h22 := Sim_q I.pLn (I.pWnq.2.1) (my_ag.fr w23 rfl) (bg26 w23 (by decide +kernel)) (Ot9_e (fun j => my_fr.at w23 qis_162 rfl) (fun j => my_fr.at w23 qis_163 rfl)) I.pSim
      have I_h22 : LInv h22 := ⟨Ln_ag (my_ag.fr w23 rfl) I.pLn, Mw_ag (my_ag.fr w23 rfl) I.pMw, Mw3_ag (my_ag.fr w23 rfl) I.pMw3, Rws_ag (my_ag.fr w23 rfl) I.pRws, Wrd_ag (my_ag.fr w23 rfl) I.pWrd, Ceq_ag (my_ag.fr w23 rfl) (I.pCeq), Wd9_ag (my_ag.fr w23 rfl) (I.pWd9), Teq_ag (my_ag.fr w23 rfl) (I.pTeq), Wnq_ag (my_ag.fr w23 rfl) (I.pWnq), Hed_ag (my_ag.fr w23 rfl) (I.pHed), sim_h22⟩
      show lwp p l e s m below meth c b D tys sg rho 1796 [(3, 0), (2, 0), (2, 151), (2, 203), (0, i), (9, 0), (9, 0)] [(0, (-1))] h22 kn
      refine lw_pop gz_0_1796 rfl ?_
      refine lw_goto (t := 1878) gz_0_1797 rfl ?_
      exact K h22 I_h22
    ·
      have sim_h26 : Sim h26 := Sim_q I.pLn (I.pWnq.2.1) (my_ag.fr w28 rfl) (bg26 w28 (by decide +kernel)) (Ot9_e (fun j => my_fr.at w28 qis_162 rfl) (fun j => my_fr.at w28 qis_163 rfl)) I.pSim
      have I_h26 : LInv h26 := ⟨Ln_ag (my_ag.fr w28 rfl) I.pLn, Mw_ag (my_ag.fr w28 rfl) I.pMw, Mw3_ag (my_ag.fr w28 rfl) I.pMw3, Rws_ag (my_ag.fr w28 rfl) I.pRws, Wrd_ag (my_ag.fr w28 rfl) I.pWrd, Ceq_ag (my_ag.fr w28 rfl) (I.pCeq), Wd9_ag (my_ag.fr w28 rfl) (I.pWd9), Teq_ag (my_ag.fr w28 rfl) (I.pTeq), Wnq_ag (my_ag.fr w28 rfl) (I.pWnq), Hed_ag (my_ag.fr w28 rfl) (I.pHed), sim_h26⟩
      show lwp p l e s m below meth c b D tys sg rho 1796 [(3, 0), (2, 0), (2, 151), (2, 203), (0, i), (9, 0), (9, 0)] [(0, y27)] h26 kn
      refine lw_pop gz_0_1796 rfl ?_
      refine lw_goto (t := 1878) gz_0_1797 rfl ?_
      exact K h26 I_h26
  ·
    show lwp p l e s m below meth c b D tys sg rho 1767 [(3, 0), (2, 0), (2, 151), (2, 203), (0, i), (9, 0), (9, 0)] [(0, y6)] h kn
    refine lw_pop gz_0_1767 rfl ?_
    refine lw_aload_n gz_0_1768 rfl ?_
    refine lw_aload3_n gz_0_1769 rfl ?_
    refine lw_iload gz_0_1770 rfl ?_
    refine lw_iconst gz_0_1772 (by decide) ?_
    refine lw_iadd gz_0_1773 ⟨by omega, by omega⟩ ?_
    refine lw_sl gz_0_1774 hL4 hL (by omega) (by omega) (fun z41 ez41 pz41 qz41 => ?_)
    refine lw_aload3_n gz_0_1775 rfl ?_
    refine lw_iload gz_0_1776 rfl ?_
    refine lw_iconst gz_0_1778 (by decide) ?_
    refine lw_iadd gz_0_1779 ⟨by omega, by omega⟩ ?_
    refine lw_sl gz_0_1780 hL4 hL (by omega) (by omega) (fun z42 ez42 pz42 qz42 => ?_)
    refine lw_aload3_n gz_0_1781 rfl ?_
    refine lw_iload gz_0_1782 rfl ?_
    refine lw_iconst gz_0_1784 (by decide) ?_
    refine lw_iadd gz_0_1785 ⟨by omega, by omega⟩ ?_
    refine lw_sl gz_0_1786 hL4 hL (by omega) (by omega) (fun z43 ez43 pz43 qz43 => ?_)
    refine lw_aload3_n gz_0_1787 rfl ?_
    refine lw_iload gz_0_1788 rfl ?_
    refine lw_iconst gz_0_1790 (by decide) ?_
    refine lw_iadd gz_0_1791 ⟨by omega, by omega⟩ ?_
    refine lw_sl gz_0_1792 hL4 hL (by omega) (by omega) (fun z44 ez44 pz44 qz44 => ?_)
    refine lw_inv (kz := 0) (as := [(0, z44), (0, z43), (0, z42), (0, z41)]) (r := []) (x := 151) (ls0 := [(2, 151), (0, z41), (0, z42), (0, z43), (0, z44)]) gz_0_1793 gm_164 rfl is_151 rd_10 rfl rfl rfl rfl rfl (c_Model_moves5 (d := 26) (x1 := z41) (x2 := z42) (x3 := z43) (x4 := z44)  (fun h45 w46 w47 w48 => ?_) (fun h49 y50 w51 w52 w53 w54 w55 w56 w57 w58 w59 w60 w61 w62 w63 => ?_))
    ·
      have sim_h45 : Sim h45 := Sim_q I.pLn (I.pWnq.2.1) (my_ag.fr w46 rfl) (bg26 w46 (by decide +kernel)) (Ot9_e (fun j => my_fr.at w46 qis_162 rfl) (fun j => my_fr.at w46 qis_163 rfl)) I.pSim
      have I_h45 : LInv h45 := ⟨Ln_ag (my_ag.fr w46 rfl) I.pLn, Mw_ag (my_ag.fr w46 rfl) I.pMw, Mw3_ag (my_ag.fr w46 rfl) I.pMw3, Rws_ag (my_ag.fr w46 rfl) I.pRws, Wrd_ag (my_ag.fr w46 rfl) I.pWrd, Ceq_ag (my_ag.fr w46 rfl) (I.pCeq), Wd9_ag (my_ag.fr w46 rfl) (I.pWd9), Teq_ag (my_ag.fr w46 rfl) (I.pTeq), Wnq_ag (my_ag.fr w46 rfl) (I.pWnq), Hed_ag (my_ag.fr w46 rfl) (I.pHed), sim_h45⟩
      show lwp p l e s m below meth c b D tys sg rho 1796 [(3, 0), (2, 0), (2, 151), (2, 203), (0, i), (9, 0), (9, 0)] [(0, (-1))] h45 kn
      refine lw_pop gz_0_1796 rfl ?_
      refine lw_goto (t := 1878) gz_0_1797 rfl ?_
      exact K h45 I_h45
    ·
      have sim_h49 : Sim h49 := Sim_q I.pLn (I.pWnq.2.1) (my_ag.fr w51 rfl) (bg26 w51 (by decide +kernel)) (Ot9_e (fun j => my_fr.at w51 qis_162 rfl) (fun j => my_fr.at w51 qis_163 rfl)) I.pSim
      have I_h49 : LInv h49 := ⟨Ln_ag (my_ag.fr w51 rfl) I.pLn, Mw_ag (my_ag.fr w51 rfl) I.pMw, Mw3_ag (my_ag.fr w51 rfl) I.pMw3, Rws_ag (my_ag.fr w51 rfl) I.pRws, Wrd_ag (my_ag.fr w51 rfl) I.pWrd, Ceq_ag (my_ag.fr w51 rfl) (I.pCeq), Wd9_ag (my_ag.fr w51 rfl) (I.pWd9), Teq_ag (my_ag.fr w51 rfl) (I.pTeq), Wnq_ag (my_ag.fr w51 rfl) (I.pWnq), Hed_ag (my_ag.fr w51 rfl) (I.pHed), sim_h49⟩
      show lwp p l e s m below meth c b D tys sg rho 1796 [(3, 0), (2, 0), (2, 151), (2, 203), (0, i), (9, 0), (9, 0)] [(0, y50)] h49 kn
      refine lw_pop gz_0_1796 rfl ?_
      refine lw_goto (t := 1878) gz_0_1797 rfl ?_
      exact K h49 I_h49
theorem lcase_27 (hL4 : L4 ≤ 4096) (hL : rho 4096 = Int32.ofNat L4) (I : LInv h) (i0 : 0 ≤ i) (i8 : i + 8 ≤ L4) (K : ∀ h' : my_H, LInv h' → lwp p l e s m below meth c b D tys sg rho 1878 [(3, 0), (2, 0), (2, 151), (2, 203), (0, i), (9, 0), (9, 0)] [] h' kn) : lwp p l e s m below meth c b D tys sg rho 1800 [(3, 0), (2, 0), (2, 151), (2, 203), (0, i), (9, 0), (9, 0)] [] h kn := by
  refine lw_aload_n gz_0_1800 rfl ?_
  refine lw_aload3_n gz_0_1801 rfl ?_
  refine lw_iload gz_0_1802 rfl ?_
  refine lw_iconst gz_0_1804 (by decide) ?_
  refine lw_iadd gz_0_1805 ⟨by omega, by omega⟩ ?_
  refine lw_sl gz_0_1806 hL4 hL (by omega) (by omega) (fun z1 ez1 pz1 qz1 => ?_)
  refine lw_aload3_n gz_0_1807 rfl ?_
  refine lw_iload gz_0_1808 rfl ?_
  refine lw_iconst gz_0_1810 (by decide) ?_
  refine lw_iadd gz_0_1811 ⟨by omega, by omega⟩ ?_
  refine lw_sl gz_0_1812 hL4 hL (by omega) (by omega) (fun z2 ez2 pz2 qz2 => ?_)
  refine lw_ifeq (t := 1820) gz_0_1813 rfl (fun u3 => ?_) (fun u3 => ?_)
  ·
    refine lw_iconst gz_0_1820 (by decide) ?_
    refine lw_inv (kz := 0) (as := [(0, 0), (0, z1)]) (r := []) (x := 0) (ls0 := [(2, 0), (0, z1), (0, 0)]) gz_0_1821 gm_138 rfl is_0 rd_9 rfl rfl rfl rfl rfl (c_ThroughWindow_mark5 (d := 25) (x1 := z1) (x2 := 0) (by omega) (by omega) (I.pSim.2.1.1) (I.pSim.hmk) (I.pSim.hms) (fun h4 w5 w6 w7 => ?_) (fun h8 w9 w10 w11 w12 w13 w14 => ?_))
    ·
      have J_h4 : LBas h4 := ⟨Ln_ag (my_ag.fr w5 rfl) I.pLn, Mw_ag (my_ag.fr w5 rfl) I.pMw, Mw3_ag (my_ag.fr w5 rfl) I.pMw3, Rws_ag (my_ag.fr w5 rfl) I.pRws, Wrd_ag (my_ag.fr w5 rfl) I.pWrd⟩
      show lwp p l e s m below meth c b D tys sg rho 1824 [(3, 0), (2, 0), (2, 151), (2, 203), (0, i), (9, 0), (9, 0)] [(0, 0)] h4 kn
      refine lw_pop gz_0_1824 rfl ?_
      refine lw_aload_n gz_0_1825 rfl ?_
      refine lw_aload3_n gz_0_1826 rfl ?_
      refine lw_iload gz_0_1827 rfl ?_
      refine lw_iconst gz_0_1829 (by decide) ?_
      refine lw_iadd gz_0_1830 ⟨by omega, by omega⟩ ?_
      refine lw_sl gz_0_1831 hL4 hL (by omega) (by omega) (fun z15 ez15 pz15 qz15 => ?_)
      refine lw_aload3_n gz_0_1832 rfl ?_
      refine lw_iload gz_0_1833 rfl ?_
      refine lw_iconst gz_0_1835 (by decide) ?_
      refine lw_iadd gz_0_1836 ⟨by omega, by omega⟩ ?_
      refine lw_sl gz_0_1837 hL4 hL (by omega) (by omega) (fun z16 ez16 pz16 qz16 => ?_)
      refine lw_ifeq (t := 1845) gz_0_1838 rfl (fun u17 => ?_) (fun u17 => ?_)
      ·
        refine lw_iconst gz_0_1845 (by decide) ?_
        refine lw_inv (kz := 0) (as := [(0, 0), (0, z15)]) (r := []) (x := 151) (ls0 := [(2, 151), (0, z15), (0, 0)]) gz_0_1846 gm_248 rfl is_151 rd_10 rfl rfl rfl rfl rfl (c_Model_mark5 (d := 25) (x1 := z15) (x2 := 0) (by omega) (by omega) J_h4.pRws (fun h18 w19 w20 w21 w22 w23 w24 => ?_) (fun h25 w26 w27 w28 w29 w30 w31 w32 w33 => ?_))
        ·
          have q0 : z15 = z1 := ez15.trans ez1.symm
          try rw [q0] at w21
          have sim_h18 : Sim h18 := Sim_markn I.pLn (I.pWnq.2.1) w5 w19 w7 w22 w23 I.pSim
          have I_h18 : LInv h18 := ⟨Ln_ag (my_ag.fr w19 rfl) J_h4.pLn, Mw_ag (my_ag.fr w19 rfl) J_h4.pMw, Mw3_ag (my_ag.fr w19 rfl) J_h4.pMw3, w24, Wrd_ag (my_ag.fr w19 rfl) J_h4.pWrd, Ceq_ag (my_ag.fr w19 rfl) (Ceq_ag (my_ag.fr w5 rfl) (I.pCeq)), Wd9_ag (my_ag.fr w19 rfl) (Wd9_ag (my_ag.fr w5 rfl) (I.pWd9)), Teq_ag (my_ag.fr w19 rfl) (Teq_ag (my_ag.fr w5 rfl) (I.pTeq)), Wnq_ag (my_ag.fr w19 rfl) (Wnq_ag (my_ag.fr w5 rfl) (I.pWnq)), Hed_ag (my_ag.fr w19 rfl) (Hed_ag (my_ag.fr w5 rfl) (I.pHed)), sim_h18⟩
          show lwp p l e s m below meth c b D tys sg rho 1849 [(3, 0), (2, 0), (2, 151), (2, 203), (0, i), (9, 0), (9, 0)] [(0, 0)] h18 kn
          refine lw_pop gz_0_1849 rfl ?_
          refine lw_goto (t := 1878) gz_0_1850 rfl ?_
          exact K h18 I_h18
        ·
          have q0 : z15 = z1 := ez15.trans ez1.symm
          try rw [q0] at w27
          try rw [q0] at w28
          try rw [q0] at w30
          try rw [q0] at w31
          try rw [q0] at w32
          exact absurd ((Mark_iff I.pSim w5 rfl).mpr w30) w6
      ·
        refine lw_iconst gz_0_1841 (by decide) ?_
        refine lw_goto (t := 1846) gz_0_1842 rfl ?_
        refine lw_inv (kz := 0) (as := [(0, 1), (0, z15)]) (r := []) (x := 151) (ls0 := [(2, 151), (0, z15), (0, 1)]) gz_0_1846 gm_248 rfl is_151 rd_10 rfl rfl rfl rfl rfl (c_Model_mark5 (d := 25) (x1 := z15) (x2 := 1) (by omega) (by omega) J_h4.pRws (fun h34 w35 w36 w37 w38 w39 w40 => ?_) (fun h41 w42 w43 w44 w45 w46 w47 w48 w49 => ?_))
        ·
          have q0 : z15 = z1 := ez15.trans ez1.symm
          exfalso
          subst_vars
          omega
        ·
          have q0 : z15 = z1 := ez15.trans ez1.symm
          exfalso
          subst_vars
          omega
    ·
      have J_h8 : LBas h8 := ⟨Ln_ag (my_ag.fr w9 rfl) I.pLn, Mw_ag (my_ag.fr w9 rfl) I.pMw, Mw3_ag (my_ag.fr w9 rfl) I.pMw3, Rws_ag (my_ag.fr w9 rfl) I.pRws, Wrd_ag (my_ag.fr w9 rfl) I.pWrd⟩
      show lwp p l e s m below meth c b D tys sg rho 1824 [(3, 0), (2, 0), (2, 151), (2, 203), (0, i), (9, 0), (9, 0)] [(0, 1)] h8 kn
      refine lw_pop gz_0_1824 rfl ?_
      refine lw_aload_n gz_0_1825 rfl ?_
      refine lw_aload3_n gz_0_1826 rfl ?_
      refine lw_iload gz_0_1827 rfl ?_
      refine lw_iconst gz_0_1829 (by decide) ?_
      refine lw_iadd gz_0_1830 ⟨by omega, by omega⟩ ?_
      refine lw_sl gz_0_1831 hL4 hL (by omega) (by omega) (fun z50 ez50 pz50 qz50 => ?_)
      refine lw_aload3_n gz_0_1832 rfl ?_
      refine lw_iload gz_0_1833 rfl ?_
      refine lw_iconst gz_0_1835 (by decide) ?_
      refine lw_iadd gz_0_1836 ⟨by omega, by omega⟩ ?_
      refine lw_sl gz_0_1837 hL4 hL (by omega) (by omega) (fun z51 ez51 pz51 qz51 => ?_)
      refine lw_ifeq (t := 1845) gz_0_1838 rfl (fun u52 => ?_) (fun u52 => ?_)
      ·
        refine lw_iconst gz_0_1845 (by decide) ?_
        refine lw_inv (kz := 0) (as := [(0, 0), (0, z50)]) (r := []) (x := 151) (ls0 := [(2, 151), (0, z50), (0, 0)]) gz_0_1846 gm_248 rfl is_151 rd_10 rfl rfl rfl rfl rfl (c_Model_mark5 (d := 25) (x1 := z50) (x2 := 0) (by omega) (by omega) J_h8.pRws (fun h53 w54 w55 w56 w57 w58 w59 => ?_) (fun h60 w61 w62 w63 w64 w65 w66 w67 w68 => ?_))
        ·
          have q0 : z50 = z1 := ez50.trans ez1.symm
          try rw [q0] at w56
          exact absurd ((Mark_iff I.pSim w9 rfl).mp w12) w56
        ·
          have q0 : z50 = z1 := ez50.trans ez1.symm
          try rw [q0] at w62
          try rw [q0] at w63
          try rw [q0] at w65
          try rw [q0] at w66
          try rw [q0] at w67
          have sim_h60 : Sim h60 := Sim_mark0 I.pLn (I.pWnq.2.1) w9 w61 w12.1.1 w12.1.2 (w13 rfl) (w66.1 rfl) w67 I.pSim
          have I_h60 : LInv h60 := ⟨Ln_ag (my_ag.fr w61 rfl) J_h8.pLn, Mw_ag (my_ag.fr w61 rfl) J_h8.pMw, Mw3_ag (my_ag.fr w61 rfl) J_h8.pMw3, w68, Wrd_ag (my_ag.fr w61 rfl) J_h8.pWrd, Ceq_ag (my_ag.fr w61 rfl) (Ceq_ag (my_ag.fr w9 rfl) (I.pCeq)), Wd9_ag (my_ag.fr w61 rfl) (Wd9_ag (my_ag.fr w9 rfl) (I.pWd9)), Teq_ag (my_ag.fr w61 rfl) (Teq_ag (my_ag.fr w9 rfl) (I.pTeq)), Wnq_ag (my_ag.fr w61 rfl) (Wnq_ag (my_ag.fr w9 rfl) (I.pWnq)), Hed_ag (my_ag.fr w61 rfl) (Hed_ag (my_ag.fr w9 rfl) (I.pHed)), sim_h60⟩
          show lwp p l e s m below meth c b D tys sg rho 1849 [(3, 0), (2, 0), (2, 151), (2, 203), (0, i), (9, 0), (9, 0)] [(0, 1)] h60 kn
          refine lw_pop gz_0_1849 rfl ?_
          refine lw_goto (t := 1878) gz_0_1850 rfl ?_
          exact K h60 I_h60
      ·
        refine lw_iconst gz_0_1841 (by decide) ?_
        refine lw_goto (t := 1846) gz_0_1842 rfl ?_
        refine lw_inv (kz := 0) (as := [(0, 1), (0, z50)]) (r := []) (x := 151) (ls0 := [(2, 151), (0, z50), (0, 1)]) gz_0_1846 gm_248 rfl is_151 rd_10 rfl rfl rfl rfl rfl (c_Model_mark5 (d := 25) (x1 := z50) (x2 := 1) (by omega) (by omega) J_h8.pRws (fun h69 w70 w71 w72 w73 w74 w75 => ?_) (fun h76 w77 w78 w79 w80 w81 w82 w83 w84 => ?_))
        ·
          have q0 : z50 = z1 := ez50.trans ez1.symm
          exfalso
          subst_vars
          omega
        ·
          have q0 : z50 = z1 := ez50.trans ez1.symm
          exfalso
          subst_vars
          omega
  ·
    refine lw_iconst gz_0_1816 (by decide) ?_
    refine lw_goto (t := 1821) gz_0_1817 rfl ?_
    refine lw_inv (kz := 0) (as := [(0, 1), (0, z1)]) (r := []) (x := 0) (ls0 := [(2, 0), (0, z1), (0, 1)]) gz_0_1821 gm_138 rfl is_0 rd_9 rfl rfl rfl rfl rfl (c_ThroughWindow_mark5 (d := 25) (x1 := z1) (x2 := 1) (by omega) (by omega) (I.pSim.2.1.1) (I.pSim.hmk) (I.pSim.hms) (fun h85 w86 w87 w88 => ?_) (fun h89 w90 w91 w92 w93 w94 w95 => ?_))
    ·
      have J_h85 : LBas h85 := ⟨Ln_ag (my_ag.fr w86 rfl) I.pLn, Mw_ag (my_ag.fr w86 rfl) I.pMw, Mw3_ag (my_ag.fr w86 rfl) I.pMw3, Rws_ag (my_ag.fr w86 rfl) I.pRws, Wrd_ag (my_ag.fr w86 rfl) I.pWrd⟩
      show lwp p l e s m below meth c b D tys sg rho 1824 [(3, 0), (2, 0), (2, 151), (2, 203), (0, i), (9, 0), (9, 0)] [(0, 0)] h85 kn
      refine lw_pop gz_0_1824 rfl ?_
      refine lw_aload_n gz_0_1825 rfl ?_
      refine lw_aload3_n gz_0_1826 rfl ?_
      refine lw_iload gz_0_1827 rfl ?_
      refine lw_iconst gz_0_1829 (by decide) ?_
      refine lw_iadd gz_0_1830 ⟨by omega, by omega⟩ ?_
      refine lw_sl gz_0_1831 hL4 hL (by omega) (by omega) (fun z96 ez96 pz96 qz96 => ?_)
      refine lw_aload3_n gz_0_1832 rfl ?_
      refine lw_iload gz_0_1833 rfl ?_
      refine lw_iconst gz_0_1835 (by decide) ?_
      refine lw_iadd gz_0_1836 ⟨by omega, by omega⟩ ?_
      refine lw_sl gz_0_1837 hL4 hL (by omega) (by omega) (fun z97 ez97 pz97 qz97 => ?_)
      refine lw_ifeq (t := 1845) gz_0_1838 rfl (fun u98 => ?_) (fun u98 => ?_)
      ·
        refine lw_iconst gz_0_1845 (by decide) ?_
        refine lw_inv (kz := 0) (as := [(0, 0), (0, z96)]) (r := []) (x := 151) (ls0 := [(2, 151), (0, z96), (0, 0)]) gz_0_1846 gm_248 rfl is_151 rd_10 rfl rfl rfl rfl rfl (c_Model_mark5 (d := 25) (x1 := z96) (x2 := 0) (by omega) (by omega) J_h85.pRws (fun h99 w100 w101 w102 w103 w104 w105 => ?_) (fun h106 w107 w108 w109 w110 w111 w112 w113 w114 => ?_))
        ·
          have q0 : z96 = z1 := ez96.trans ez1.symm
          exfalso
          subst_vars
          omega
        ·
          have q0 : z96 = z1 := ez96.trans ez1.symm
          exfalso
          subst_vars
          omega
      ·
        refine lw_iconst gz_0_1841 (by decide) ?_
        refine lw_goto (t := 1846) gz_0_1842 rfl ?_
        refine lw_inv (kz := 0) (as := [(0, 1), (0, z96)]) (r := []) (x := 151) (ls0 := [(2, 151), (0, z96), (0, 1)]) gz_0_1846 gm_248 rfl is_151 rd_10 rfl rfl rfl rfl rfl (c_Model_mark5 (d := 25) (x1 := z96) (x2 := 1) (by omega) (by omega) J_h85.pRws (fun h115 w116 w117 w118 w119 w120 w121 => ?_) (fun h122 w123 w124 w125 w126 w127 w128 w129 w130 => ?_))
        ·
          have q0 : z96 = z1 := ez96.trans ez1.symm
          try rw [q0] at w118
          have sim_h115 : Sim h115 := Sim_markn I.pLn (I.pWnq.2.1) w86 w116 w88 w119 w120 I.pSim
          have I_h115 : LInv h115 := ⟨Ln_ag (my_ag.fr w116 rfl) J_h85.pLn, Mw_ag (my_ag.fr w116 rfl) J_h85.pMw, Mw3_ag (my_ag.fr w116 rfl) J_h85.pMw3, w121, Wrd_ag (my_ag.fr w116 rfl) J_h85.pWrd, Ceq_ag (my_ag.fr w116 rfl) (Ceq_ag (my_ag.fr w86 rfl) (I.pCeq)), Wd9_ag (my_ag.fr w116 rfl) (Wd9_ag (my_ag.fr w86 rfl) (I.pWd9)), Teq_ag (my_ag.fr w116 rfl) (Teq_ag (my_ag.fr w86 rfl) (I.pTeq)), Wnq_ag (my_ag.fr w116 rfl) (Wnq_ag (my_ag.fr w86 rfl) (I.pWnq)), Hed_ag (my_ag.fr w116 rfl) (Hed_ag (my_ag.fr w86 rfl) (I.pHed)), sim_h115⟩
          show lwp p l e s m below meth c b D tys sg rho 1849 [(3, 0), (2, 0), (2, 151), (2, 203), (0, i), (9, 0), (9, 0)] [(0, 0)] h115 kn
          refine lw_pop gz_0_1849 rfl ?_
          refine lw_goto (t := 1878) gz_0_1850 rfl ?_
          exact K h115 I_h115
        ·
          have q0 : z96 = z1 := ez96.trans ez1.symm
          try rw [q0] at w124
          try rw [q0] at w125
          try rw [q0] at w127
          try rw [q0] at w128
          try rw [q0] at w129
          exact absurd ((Mark_iff I.pSim w86 rfl).mpr w127) w87
    ·
      have J_h89 : LBas h89 := ⟨Ln_ag (my_ag.fr w90 rfl) I.pLn, Mw_ag (my_ag.fr w90 rfl) I.pMw, Mw3_ag (my_ag.fr w90 rfl) I.pMw3, Rws_ag (my_ag.fr w90 rfl) I.pRws, Wrd_ag (my_ag.fr w90 rfl) I.pWrd⟩
      show lwp p l e s m below meth c b D tys sg rho 1824 [(3, 0), (2, 0), (2, 151), (2, 203), (0, i), (9, 0), (9, 0)] [(0, 1)] h89 kn
      refine lw_pop gz_0_1824 rfl ?_
      refine lw_aload_n gz_0_1825 rfl ?_
      refine lw_aload3_n gz_0_1826 rfl ?_
      refine lw_iload gz_0_1827 rfl ?_
      refine lw_iconst gz_0_1829 (by decide) ?_
      refine lw_iadd gz_0_1830 ⟨by omega, by omega⟩ ?_
      refine lw_sl gz_0_1831 hL4 hL (by omega) (by omega) (fun z131 ez131 pz131 qz131 => ?_)
      refine lw_aload3_n gz_0_1832 rfl ?_
      refine lw_iload gz_0_1833 rfl ?_
      refine lw_iconst gz_0_1835 (by decide) ?_
      refine lw_iadd gz_0_1836 ⟨by omega, by omega⟩ ?_
      refine lw_sl gz_0_1837 hL4 hL (by omega) (by omega) (fun z132 ez132 pz132 qz132 => ?_)
      refine lw_ifeq (t := 1845) gz_0_1838 rfl (fun u133 => ?_) (fun u133 => ?_)
      ·
        refine lw_iconst gz_0_1845 (by decide) ?_
        refine lw_inv (kz := 0) (as := [(0, 0), (0, z131)]) (r := []) (x := 151) (ls0 := [(2, 151), (0, z131), (0, 0)]) gz_0_1846 gm_248 rfl is_151 rd_10 rfl rfl rfl rfl rfl (c_Model_mark5 (d := 25) (x1 := z131) (x2 := 0) (by omega) (by omega) J_h89.pRws (fun h134 w135 w136 w137 w138 w139 w140 => ?_) (fun h141 w142 w143 w144 w145 w146 w147 w148 w149 => ?_))
        ·
          have q0 : z131 = z1 := ez131.trans ez1.symm
          exfalso
          subst_vars
          omega
        ·
          have q0 : z131 = z1 := ez131.trans ez1.symm
          exfalso
          subst_vars
          omega
      ·
        refine lw_iconst gz_0_1841 (by decide) ?_
        refine lw_goto (t := 1846) gz_0_1842 rfl ?_
        refine lw_inv (kz := 0) (as := [(0, 1), (0, z131)]) (r := []) (x := 151) (ls0 := [(2, 151), (0, z131), (0, 1)]) gz_0_1846 gm_248 rfl is_151 rd_10 rfl rfl rfl rfl rfl (c_Model_mark5 (d := 25) (x1 := z131) (x2 := 1) (by omega) (by omega) J_h89.pRws (fun h150 w151 w152 w153 w154 w155 w156 => ?_) (fun h157 w158 w159 w160 w161 w162 w163 w164 w165 => ?_))
        ·
          have q0 : z131 = z1 := ez131.trans ez1.symm
          try rw [q0] at w153
          exact absurd ((Mark_iff I.pSim w90 rfl).mp w93) w153
        ·
          have q0 : z131 = z1 := ez131.trans ez1.symm
          try rw [q0] at w159
          try rw [q0] at w160
          try rw [q0] at w162
          try rw [q0] at w163
          try rw [q0] at w164
          have sim_h157 : Sim h157 := Sim_mark1 I.pLn (I.pWnq.2.1) w90 w158 w93.1.1 w93.1.2 (w93.2 (by decide)).1 (w95 (by decide)) (w163.2 (by decide)) w164 I.pSim
          have I_h157 : LInv h157 := ⟨Ln_ag (my_ag.fr w158 rfl) J_h89.pLn, Mw_ag (my_ag.fr w158 rfl) J_h89.pMw, Mw3_ag (my_ag.fr w158 rfl) J_h89.pMw3, w165, Wrd_ag (my_ag.fr w158 rfl) J_h89.pWrd, Ceq_ag (my_ag.fr w158 rfl) (Ceq_ag (my_ag.fr w90 rfl) (I.pCeq)), Wd9_ag (my_ag.fr w158 rfl) (Wd9_ag (my_ag.fr w90 rfl) (I.pWd9)), Teq_ag (my_ag.fr w158 rfl) (Teq_ag (my_ag.fr w90 rfl) (I.pTeq)), Wnq_ag (my_ag.fr w158 rfl) (Wnq_ag (my_ag.fr w90 rfl) (I.pWnq)), Hed_ag (my_ag.fr w158 rfl) (Hed_ag (my_ag.fr w90 rfl) (I.pHed)), sim_h157⟩
          show lwp p l e s m below meth c b D tys sg rho 1849 [(3, 0), (2, 0), (2, 151), (2, 203), (0, i), (9, 0), (9, 0)] [(0, 1)] h157 kn
          refine lw_pop gz_0_1849 rfl ?_
          refine lw_goto (t := 1878) gz_0_1850 rfl ?_
          exact K h157 I_h157
theorem lcase_28 (hL4 : L4 ≤ 4096) (hL : rho 4096 = Int32.ofNat L4) (I : LInv h) (i0 : 0 ≤ i) (i8 : i + 8 ≤ L4) (K : ∀ h' : my_H, LInv h' → lwp p l e s m below meth c b D tys sg rho 1878 [(3, 0), (2, 0), (2, 151), (2, 203), (0, i), (9, 0), (9, 0)] [] h' kn) : lwp p l e s m below meth c b D tys sg rho 1853 [(3, 0), (2, 0), (2, 151), (2, 203), (0, i), (9, 0), (9, 0)] [] h kn := by
  refine lw_aload_n gz_0_1853 rfl ?_
  refine lw_aload3_n gz_0_1854 rfl ?_
  refine lw_iload gz_0_1855 rfl ?_
  refine lw_iconst gz_0_1857 (by decide) ?_
  refine lw_iadd gz_0_1858 ⟨by omega, by omega⟩ ?_
  refine lw_sl gz_0_1859 hL4 hL (by omega) (by omega) (fun z1 ez1 pz1 qz1 => ?_)
  refine lw_inv (kz := 0) (as := [(0, z1)]) (r := []) (x := 0) (ls0 := [(2, 0), (0, z1)]) gz_0_1860 gm_139 rfl is_0 rd_9 rfl rfl rfl rfl rfl (c_ThroughWindow_count (d := 28) (x1 := z1)  ?_ (fun y2 w3 w4 => ?_))
  ·
    show lwp p l e s m below meth c b D tys sg rho 1863 [(3, 0), (2, 0), (2, 151), (2, 203), (0, i), (9, 0), (9, 0)] [(0, (-1))] h kn
    refine lw_pop gz_0_1863 rfl ?_
    refine lw_aload_n gz_0_1864 rfl ?_
    refine lw_aload3_n gz_0_1865 rfl ?_
    refine lw_iload gz_0_1866 rfl ?_
    refine lw_iconst gz_0_1868 (by decide) ?_
    refine lw_iadd gz_0_1869 ⟨by omega, by omega⟩ ?_
    refine lw_sl gz_0_1870 hL4 hL (by omega) (by omega) (fun z5 ez5 pz5 qz5 => ?_)
    refine lw_inv (kz := 3) (as := [(0, z5)]) (r := []) (x := 151) (ls0 := [(2, 151), (0, z5), (9, 0), (9, 0), (9, 0)]) gz_0_1871 gm_249 rfl is_151 rd_10 rfl rfl rfl rfl rfl (c_Model_count (d := 27) (x1 := z5)  (fun h6 w7 w8 => ?_) (fun h9 y10 w11 w12 w13 w14 => ?_))
    ·
      have sim_h6 : Sim h6 := Sim_q I.pLn (I.pWnq.2.1) (my_ag.fr w7 rfl) (bg26 w7 (by decide +kernel)) (Ot9_e (fun j => my_fr.at w7 qis_162 rfl) (fun j => my_fr.at w7 qis_163 rfl)) I.pSim
      have I_h6 : LInv h6 := ⟨Ln_ag (my_ag.fr w7 rfl) I.pLn, Mw_ag (my_ag.fr w7 rfl) I.pMw, Mw3_ag (my_ag.fr w7 rfl) I.pMw3, Rws_ag (my_ag.fr w7 rfl) I.pRws, Wrd_ag (my_ag.fr w7 rfl) I.pWrd, Ceq_ag (my_ag.fr w7 rfl) (I.pCeq), Wd9_ag (my_ag.fr w7 rfl) (I.pWd9), Teq_ag (my_ag.fr w7 rfl) (I.pTeq), Wnq_ag (my_ag.fr w7 rfl) (I.pWnq), Hed_ag (my_ag.fr w7 rfl) (I.pHed), sim_h6⟩
      show lwp p l e s m below meth c b D tys sg rho 1874 [(3, 0), (2, 0), (2, 151), (2, 203), (0, i), (9, 0), (9, 0)] [(0, (-1))] h6 kn
      refine lw_pop gz_0_1874 rfl ?_
      refine lw_goto (t := 1878) gz_0_1875 rfl ?_
      exact K h6 I_h6
    ·
      have sim_h9 : Sim h9 := Sim_q I.pLn (I.pWnq.2.1) (my_ag.fr w11 rfl) (bg26 w11 (by decide +kernel)) (Ot9_e (fun j => my_fr.at w11 qis_162 rfl) (fun j => my_fr.at w11 qis_163 rfl)) I.pSim
      have I_h9 : LInv h9 := ⟨Ln_ag (my_ag.fr w11 rfl) I.pLn, Mw_ag (my_ag.fr w11 rfl) I.pMw, Mw3_ag (my_ag.fr w11 rfl) I.pMw3, Rws_ag (my_ag.fr w11 rfl) I.pRws, Wrd_ag (my_ag.fr w11 rfl) I.pWrd, Ceq_ag (my_ag.fr w11 rfl) (I.pCeq), Wd9_ag (my_ag.fr w11 rfl) (I.pWd9), Teq_ag (my_ag.fr w11 rfl) (I.pTeq), Wnq_ag (my_ag.fr w11 rfl) (I.pWnq), Hed_ag (my_ag.fr w11 rfl) (I.pHed), sim_h9⟩
      show lwp p l e s m below meth c b D tys sg rho 1874 [(3, 0), (2, 0), (2, 151), (2, 203), (0, i), (9, 0), (9, 0)] [(0, y10)] h9 kn
      refine lw_pop gz_0_1874 rfl ?_
      refine lw_goto (t := 1878) gz_0_1875 rfl ?_
      exact K h9 I_h9
  ·
    show lwp p l e s m below meth c b D tys sg rho 1863 [(3, 0), (2, 0), (2, 151), (2, 203), (0, i), (9, 0), (9, 0)] [(0, y2)] h kn
    refine lw_pop gz_0_1863 rfl ?_
    refine lw_aload_n gz_0_1864 rfl ?_
    refine lw_aload3_n gz_0_1865 rfl ?_
    refine lw_iload gz_0_1866 rfl ?_
    refine lw_iconst gz_0_1868 (by decide) ?_
    refine lw_iadd gz_0_1869 ⟨by omega, by omega⟩ ?_
    refine lw_sl gz_0_1870 hL4 hL (by omega) (by omega) (fun z15 ez15 pz15 qz15 => ?_)
    refine lw_inv (kz := 3) (as := [(0, z15)]) (r := []) (x := 151) (ls0 := [(2, 151), (0, z15), (9, 0), (9, 0), (9, 0)]) gz_0_1871 gm_249 rfl is_151 rd_10 rfl rfl rfl rfl rfl (c_Model_count (d := 27) (x1 := z15)  (fun h16 w17 w18 => ?_) (fun h19 y20 w21 w22 w23 w24 => ?_))
    ·
      have sim_h16 : Sim h16 := Sim_q I.pLn (I.pWnq.2.1) (my_ag.fr w17 rfl) (bg26 w17 (by decide +kernel)) (Ot9_e (fun j => my_fr.at w17 qis_162 rfl) (fun j => my_fr.at w17 qis_163 rfl)) I.pSim
      have I_h16 : LInv h16 := ⟨Ln_ag (my_ag.fr w17 rfl) I.pLn, Mw_ag (my_ag.fr w17 rfl) I.pMw, Mw3_ag (my_ag.fr w17 rfl) I.pMw3, Rws_ag (my_ag.fr w17 rfl) I.pRws, Wrd_ag (my_ag.fr w17 rfl) I.pWrd, Ceq_ag (my_ag.fr w17 rfl) (I.pCeq), Wd9_ag (my_ag.fr w17 rfl) (I.pWd9), Teq_ag (my_ag.fr w17 rfl) (I.pTeq), Wnq_ag (my_ag.fr w17 rfl) (I.pWnq), Hed_ag (my_ag.fr w17 rfl) (I.pHed), sim_h16⟩
      show lwp p l e s m below meth c b D tys sg rho 1874 [(3, 0), (2, 0), (2, 151), (2, 203), (0, i), (9, 0), (9, 0)] [(0, (-1))] h16 kn
      refine lw_pop gz_0_1874 rfl ?_
      refine lw_goto (t := 1878) gz_0_1875 rfl ?_
      exact K h16 I_h16
    ·
      have sim_h19 : Sim h19 := Sim_q I.pLn (I.pWnq.2.1) (my_ag.fr w21 rfl) (bg26 w21 (by decide +kernel)) (Ot9_e (fun j => my_fr.at w21 qis_162 rfl) (fun j => my_fr.at w21 qis_163 rfl)) I.pSim
      have I_h19 : LInv h19 := ⟨Ln_ag (my_ag.fr w21 rfl) I.pLn, Mw_ag (my_ag.fr w21 rfl) I.pMw, Mw3_ag (my_ag.fr w21 rfl) I.pMw3, Rws_ag (my_ag.fr w21 rfl) I.pRws, Wrd_ag (my_ag.fr w21 rfl) I.pWrd, Ceq_ag (my_ag.fr w21 rfl) (I.pCeq), Wd9_ag (my_ag.fr w21 rfl) (I.pWd9), Teq_ag (my_ag.fr w21 rfl) (I.pTeq), Wnq_ag (my_ag.fr w21 rfl) (I.pWnq), Hed_ag (my_ag.fr w21 rfl) (I.pHed), sim_h19⟩
      show lwp p l e s m below meth c b D tys sg rho 1874 [(3, 0), (2, 0), (2, 151), (2, 203), (0, i), (9, 0), (9, 0)] [(0, y20)] h19 kn
      refine lw_pop gz_0_1874 rfl ?_
      refine lw_goto (t := 1878) gz_0_1875 rfl ?_
      exact K h19 I_h19
end MRB
