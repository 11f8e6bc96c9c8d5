/-! the law's cases (printed by wip/gen/mk61.py) -/
section MRB
variable {p : Program} {l : Launch} {e : Env} {s : State} {m : MethodId} {below : List Frame} {meth : Method} {c : Code} {b : Nat} {D : va_G} {tys : List (ClassId × FieldType)} {sg : Nat → Nat} {rho : Nat → Int32} {h : my_H} {kn : Nat} {i : Int} {L4 : Nat}
theorem lcase_0 (hL4 : L4 ≤ 4096) (hL : rho 4096 = Int32.ofNat L4) (I : LInv h) (i0 : 0 ≤ i) (i8 : i + 8 ≤ L4) (K : ∀ h' : my_H, LInv h' → lwp p l e s m below meth c b D tys sg rho 1878 [(3, 0), (2, 0), (2, 151), (2, 203), (0, i), (9, 0), (9, 0)] [] h' kn) : lwp p l e s m below meth c b D tys sg rho 172 [(3, 0), (2, 0), (2, 151), (2, 203), (0, i), (9, 0), (9, 0)] [] h kn := by
  refine lw_aload_n gz_0_172 rfl ?_
  refine lw_aload3_n gz_0_173 rfl ?_
  refine lw_iload gz_0_174 rfl ?_
  refine lw_iconst gz_0_176 (by decide) ?_
  refine lw_iadd gz_0_177 ⟨by omega, by omega⟩ ?_
  refine lw_sl gz_0_178 hL4 hL (by omega) (by omega) (fun z1 ez1 pz1 qz1 => ?_)
  refine lw_aload3_n gz_0_179 rfl ?_
  refine lw_iload gz_0_180 rfl ?_
  refine lw_iconst gz_0_182 (by decide) ?_
  refine lw_iadd gz_0_183 ⟨by omega, by omega⟩ ?_
  refine lw_sl gz_0_184 hL4 hL (by omega) (by omega) (fun z2 ez2 pz2 qz2 => ?_)
  refine lw_inv (kz := 0) (as := [(0, z2), (0, z1)]) (r := []) (x := 0) (ls0 := [(2, 0), (0, z1), (0, z2)]) gz_0_185 gm_12 rfl is_0 rd_9 rfl rfl rfl rfl rfl (c_ThroughWindow_wall3 (d := 28) (x1 := z1) (x2 := z2)  (fun w3 => ?_) (fun h4 w5 w6 w7 w8 w9 w10 w11 => ?_))
  ·
    show lwp p l e s m below meth c b D tys sg rho 188 [(3, 0), (2, 0), (2, 151), (2, 203), (0, i), (9, 0), (9, 0)] [(0, 0)] h kn
    refine lw_pop gz_0_188 rfl ?_
    refine lw_aload_n gz_0_189 rfl ?_
    refine lw_aload3_n gz_0_190 rfl ?_
    refine lw_iload gz_0_191 rfl ?_
    refine lw_iconst gz_0_193 (by decide) ?_
    refine lw_iadd gz_0_194 ⟨by omega, by omega⟩ ?_
    refine lw_sl gz_0_195 hL4 hL (by omega) (by omega) (fun z12 ez12 pz12 qz12 => ?_)
    refine lw_aload3_n gz_0_196 rfl ?_
    refine lw_iload gz_0_197 rfl ?_
    refine lw_iconst gz_0_199 (by decide) ?_
    refine lw_iadd gz_0_200 ⟨by omega, by omega⟩ ?_
    refine lw_sl gz_0_201 hL4 hL (by omega) (by omega) (fun z13 ez13 pz13 qz13 => ?_)
    refine lw_inv (kz := 0) (as := [(0, z13), (0, z12)]) (r := []) (x := 151) (ls0 := [(2, 151), (0, z12), (0, z13)]) gz_0_202 gm_146 rfl is_151 rd_10 rfl rfl rfl rfl rfl (c_Model_wall3 (d := 28) (x1 := z12) (x2 := z13) I.pMw I.pMw3 (fun h14 w15 w16 w17 w18 => ?_) (fun h19 w20 w21 w22 w23 w24 w25 w26 w27 w28 w29 => ?_))
    ·
      have q1 : z1 = z12 := ez1.trans ez12.symm
      have q2 : z2 = z13 := ez2.trans ez13.symm
      have I_h14 : LInv h14 := ⟨Ln_ag (my_ag.fr w15 rfl) I.pLn, w17, w18, Rws_ag (my_ag.fr w15 rfl) I.pRws, Wrd_ag (my_ag.fr w15 rfl) I.pWrd, Ceq_ag (my_ag.fr w15 rfl) I.pCeq, Wd9_ag (my_ag.fr w15 rfl) I.pWd9, Teq_ag (my_ag.fr w15 rfl) I.pTeq, Wnq_ag (my_ag.fr w15 rfl) I.pWnq⟩
      show lwp p l e s m below meth c b D tys sg rho 205 [(3, 0), (2, 0), (2, 151), (2, 203), (0, i), (9, 0), (9, 0)] [(0, 0)] h14 kn
      refine lw_pop gz_0_205 rfl ?_
      refine lw_goto (t := 1878) gz_0_206 rfl ?_
      exact K h14 I_h14
    ·
      have q1 : z1 = z12 := ez1.trans ez12.symm
      have q2 : z2 = z13 := ez2.trans ez13.symm
      exfalso
      rw [q1, q2] at w3
      have c9 := I.pCeq z12 (by omega) (by omega)
      omega
  ·
    have J_h4 : LBas h4 := ⟨Ln_ag (my_ag.fr w5 rfl) I.pLn, Mw_ag (my_ag.fr w5 rfl) I.pMw, Mw3_ag (my_ag.fr w5 rfl) I.pMw3, Rws_ag (my_ag.fr w5 rfl) I.pRws, Wrd_ag (my_ag.fr w5 rfl) I.pWrd⟩
    show lwp p l e s m below meth c b D tys sg rho 188 [(3, 0), (2, 0), (2, 151), (2, 203), (0, i), (9, 0), (9, 0)] [(0, 1)] h4 kn
    refine lw_pop gz_0_188 rfl ?_
    refine lw_aload_n gz_0_189 rfl ?_
    refine lw_aload3_n gz_0_190 rfl ?_
    refine lw_iload gz_0_191 rfl ?_
    refine lw_iconst gz_0_193 (by decide) ?_
    refine lw_iadd gz_0_194 ⟨by omega, by omega⟩ ?_
    refine lw_sl gz_0_195 hL4 hL (by omega) (by omega) (fun z30 ez30 pz30 qz30 => ?_)
    refine lw_aload3_n gz_0_196 rfl ?_
    refine lw_iload gz_0_197 rfl ?_
    refine lw_iconst gz_0_199 (by decide) ?_
    refine lw_iadd gz_0_200 ⟨by omega, by omega⟩ ?_
    refine lw_sl gz_0_201 hL4 hL (by omega) (by omega) (fun z31 ez31 pz31 qz31 => ?_)
    refine lw_inv (kz := 0) (as := [(0, z31), (0, z30)]) (r := []) (x := 151) (ls0 := [(2, 151), (0, z30), (0, z31)]) gz_0_202 gm_146 rfl is_151 rd_10 rfl rfl rfl rfl rfl (c_Model_wall3 (d := 28) (x1 := z30) (x2 := z31) J_h4.pMw J_h4.pMw3 (fun h32 w33 w34 w35 w36 => ?_) (fun h37 w38 w39 w40 w41 w42 w43 w44 w45 w46 w47 => ?_))
    ·
      have q1 : z1 = z30 := ez1.trans ez30.symm
      have q2 : z2 = z31 := ez2.trans ez31.symm
      exfalso
      rw [← q1, ← q2] at w34
      have c9 := I.pCeq z1 w6 w7
      have e9 : h4 157 z1 = h 157 z1 := my_up_role w11 is_157 is_2 rfl
      omega
    ·
      have q1 : z1 = z30 := ez1.trans ez30.symm
      have q2 : z2 = z31 := ez2.trans ez31.symm
      have s157 : ∀ j : Int, 1 ≤ h4 157 j → h37 157 j = h4 157 j := fun j hj => w45 j (fun z => by rw [z] at hj; omega)
      have I_h37 : LInv h37 := ⟨Ln_ag (my_ag.fr w38 rfl) J_h4.pLn, w46, w47, Rws_ag (my_ag.fr w38 rfl) J_h4.pRws, Wrd_ag (my_ag.fr w38 rfl) J_h4.pWrd, Ceq_wall I.pCeq w11 w38 (by rw [q1, q2]; exact w44) (fun j hj => w45 j (by rw [← q1]; exact hj)), Wd9_ag (my_ag.fr w38 rfl) (Wd9_ag (my_ag.fr w5 rfl) I.pWd9), Teq_ag (my_ag.fr w38 rfl) (Teq_ag (my_ag.fr w5 rfl) I.pTeq), Wnq_wall (my_ag.fr w38 rfl) s157 (Wnq_ag (my_ag.fr w5 rfl) I.pWnq)⟩
      show lwp p l e s m below meth c b D tys sg rho 205 [(3, 0), (2, 0), (2, 151), (2, 203), (0, i), (9, 0), (9, 0)] [(0, 1)] h37 kn
      refine lw_pop gz_0_205 rfl ?_
      refine lw_goto (t := 1878) gz_0_206 rfl ?_
      exact K h37 I_h37
theorem lcase_1 (hL4 : L4 ≤ 4096) (hL : rho 4096 = Int32.ofNat L4) (I : LInv h) (i0 : 0 ≤ i) (i8 : i + 8 ≤ L4) (K : ∀ h' : my_H, LInv h' → lwp p l e s m below meth c b D tys sg rho 1878 [(3, 0), (2, 0), (2, 151), (2, 203), (0, i), (9, 0), (9, 0)] [] h' kn) : lwp p l e s m below meth c b D tys sg rho 209 [(3, 0), (2, 0), (2, 151), (2, 203), (0, i), (9, 0), (9, 0)] [] h kn := by
  refine lw_aload_n gz_0_209 rfl ?_
  refine lw_aload3_n gz_0_210 rfl ?_
  refine lw_iload gz_0_211 rfl ?_
  refine lw_iconst gz_0_213 (by decide) ?_
  refine lw_iadd gz_0_214 ⟨by omega, by omega⟩ ?_
  refine lw_sl gz_0_215 hL4 hL (by omega) (by omega) (fun z1 ez1 pz1 qz1 => ?_)
  refine lw_aload3_n gz_0_216 rfl ?_
  refine lw_iload gz_0_217 rfl ?_
  refine lw_iconst gz_0_219 (by decide) ?_
  refine lw_iadd gz_0_220 ⟨by omega, by omega⟩ ?_
  refine lw_sl gz_0_221 hL4 hL (by omega) (by omega) (fun z2 ez2 pz2 qz2 => ?_)
  refine lw_aload3_n gz_0_222 rfl ?_
  refine lw_iload gz_0_223 rfl ?_
  refine lw_iconst gz_0_225 (by decide) ?_
  refine lw_iadd gz_0_226 ⟨by omega, by omega⟩ ?_
  refine lw_sl gz_0_227 hL4 hL (by omega) (by omega) (fun z3 ez3 pz3 qz3 => ?_)
  refine lw_aload3_n gz_0_228 rfl ?_
  refine lw_iload gz_0_229 rfl ?_
  refine lw_iconst gz_0_231 (by decide) ?_
  refine lw_iadd gz_0_232 ⟨by omega, by omega⟩ ?_
  refine lw_sl gz_0_233 hL4 hL (by omega) (by omega) (fun z4 ez4 pz4 qz4 => ?_)
  refine lw_aload3_n gz_0_234 rfl ?_
  refine lw_iload gz_0_235 rfl ?_
  refine lw_iconst gz_0_237 (by decide) ?_
  refine lw_iadd gz_0_238 ⟨by omega, by omega⟩ ?_
  refine lw_sl gz_0_239 hL4 hL (by omega) (by omega) (fun z5 ez5 pz5 qz5 => ?_)
  refine lw_inv (kz := 1) (as := [(0, z5), (0, z4), (0, z3), (0, z2), (0, z1)]) (r := []) (x := 0) (ls0 := [(2, 0), (0, z1), (0, z2), (0, z3), (0, z4), (0, z5), (9, 0)]) gz_0_240 gm_14 rfl is_0 rd_9 rfl rfl rfl rfl rfl (c_ThroughWindow_row (d := 25) (x1 := z1) (x2 := z2) (x3 := z3) (x4 := z4) (x5 := z5)  (fun h6 w7 => ?_) (fun h8 w9 w10 w11 => ?_))
  ·
    have I_h6 : LInv h6 := ⟨Ln_ag (my_ag.fr w7 rfl) I.pLn, Mw_ag (my_ag.fr w7 rfl) I.pMw, Mw3_ag (my_ag.fr w7 rfl) I.pMw3, Rws_ag (my_ag.fr w7 rfl) I.pRws, Wrd_ag (my_ag.fr w7 rfl) I.pWrd, Ceq_ag (my_ag.fr w7 rfl) I.pCeq, Wd9_ag (my_ag.fr w7 rfl) I.pWd9, Teq_ag (my_ag.fr w7 rfl) I.pTeq, Wnq_ag (my_ag.fr w7 rfl) I.pWnq⟩
    show lwp p l e s m below meth c b D tys sg rho 243 [(3, 0), (2, 0), (2, 151), (2, 203), (0, i), (9, 0), (9, 0)] [(0, 0)] h6 kn
    refine lw_pop gz_0_243 rfl ?_
    refine lw_aload_n gz_0_244 rfl ?_
    refine lw_aload3_n gz_0_245 rfl ?_
    refine lw_iload gz_0_246 rfl ?_
    refine lw_iconst gz_0_248 (by decide) ?_
    refine lw_iadd gz_0_249 ⟨by omega, by omega⟩ ?_
    refine lw_sl gz_0_250 hL4 hL (by omega) (by omega) (fun z12 ez12 pz12 qz12 => ?_)
    refine lw_aload3_n gz_0_251 rfl ?_
    refine lw_iload gz_0_252 rfl ?_
    refine lw_iconst gz_0_254 (by decide) ?_
    refine lw_iadd gz_0_255 ⟨by omega, by omega⟩ ?_
    refine lw_sl gz_0_256 hL4 hL (by omega) (by omega) (fun z13 ez13 pz13 qz13 => ?_)
    refine lw_aload3_n gz_0_257 rfl ?_
    refine lw_iload gz_0_258 rfl ?_
    refine lw_iconst gz_0_260 (by decide) ?_
    refine lw_iadd gz_0_261 ⟨by omega, by omega⟩ ?_
    refine lw_sl gz_0_262 hL4 hL (by omega) (by omega) (fun z14 ez14 pz14 qz14 => ?_)
    refine lw_aload3_n gz_0_263 rfl ?_
    refine lw_iload gz_0_264 rfl ?_
    refine lw_iconst gz_0_266 (by decide) ?_
    refine lw_iadd gz_0_267 ⟨by omega, by omega⟩ ?_
    refine lw_sl gz_0_268 hL4 hL (by omega) (by omega) (fun z15 ez15 pz15 qz15 => ?_)
    refine lw_aload3_n gz_0_269 rfl ?_
    refine lw_iload gz_0_270 rfl ?_
    refine lw_iconst gz_0_272 (by decide) ?_
    refine lw_iadd gz_0_273 ⟨by omega, by omega⟩ ?_
    refine lw_sl gz_0_274 hL4 hL (by omega) (by omega) (fun z16 ez16 pz16 qz16 => ?_)
    refine lw_inv (kz := 1) (as := [(0, z16), (0, z15), (0, z14), (0, z13), (0, z12)]) (r := []) (x := 151) (ls0 := [(2, 151), (0, z12), (0, z13), (0, z14), (0, z15), (0, z16), (9, 0)]) gz_0_275 gm_148 rfl is_151 rd_10 rfl rfl rfl rfl rfl (c_Model_row (d := 24) (x1 := z12) (x2 := z13) (x3 := z14) (x4 := z15) (x5 := z16) I_h6.pRws (fun h17 w18 w19 w20 => ?_) (fun h21 w22 w23 w24 w25 w26 w27 w28 => ?_))
    ·
      have I_h17 : LInv h17 := ⟨Ln_ag (my_ag.fr w18 rfl) I_h6.pLn, Mw_ag (my_ag.fr w18 rfl) I_h6.pMw, Mw3_ag (my_ag.fr w18 rfl) I_h6.pMw3, w20, Wrd_ag (my_ag.fr w18 rfl) I_h6.pWrd, Ceq_ag (my_ag.fr w18 rfl) I_h6.pCeq, Wd9_ag (my_ag.fr w18 rfl) I_h6.pWd9, Teq_ag (my_ag.fr w18 rfl) I_h6.pTeq, Wnq_ag (my_ag.fr w18 rfl) I_h6.pWnq⟩
      show lwp p l e s m below meth c b D tys sg rho 278 [(3, 0), (2, 0), (2, 151), (2, 203), (0, i), (9, 0), (9, 0)] [(0, 0)] h17 kn
      refine lw_pop gz_0_278 rfl ?_
      refine lw_goto (t := 1878) gz_0_279 rfl ?_
      exact K h17 I_h17
    ·
      have I_h21 : LInv h21 := ⟨Ln_ag (my_ag.fr w22 rfl) I_h6.pLn, Mw_ag (my_ag.fr w22 rfl) I_h6.pMw, Mw3_ag (my_ag.fr w22 rfl) I_h6.pMw3, w28, Wrd_ag (my_ag.fr w22 rfl) I_h6.pWrd, Ceq_ag (my_ag.fr w22 rfl) I_h6.pCeq, Wd9_ag (my_ag.fr w22 rfl) I_h6.pWd9, Teq_ag (my_ag.fr w22 rfl) I_h6.pTeq, Wnq_ag (my_ag.fr w22 rfl) I_h6.pWnq⟩
      show lwp p l e s m below meth c b D tys sg rho 278 [(3, 0), (2, 0), (2, 151), (2, 203), (0, i), (9, 0), (9, 0)] [(0, 1)] h21 kn
      refine lw_pop gz_0_278 rfl ?_
      refine lw_goto (t := 1878) gz_0_279 rfl ?_
      exact K h21 I_h21
  ·
    have I_h8 : LInv h8 := ⟨Ln_ag (my_ag.fr w9 rfl) I.pLn, Mw_ag (my_ag.fr w9 rfl) I.pMw, Mw3_ag (my_ag.fr w9 rfl) I.pMw3, Rws_ag (my_ag.fr w9 rfl) I.pRws, Wrd_ag (my_ag.fr w9 rfl) I.pWrd, Ceq_ag (my_ag.fr w9 rfl) I.pCeq, Wd9_ag (my_ag.fr w9 rfl) I.pWd9, Teq_ag (my_ag.fr w9 rfl) I.pTeq, Wnq_ag (my_ag.fr w9 rfl) I.pWnq⟩
    show lwp p l e s m below meth c b D tys sg rho 243 [(3, 0), (2, 0), (2, 151), (2, 203), (0, i), (9, 0), (9, 0)] [(0, 1)] h8 kn
    refine lw_pop gz_0_243 rfl ?_
    refine lw_aload_n gz_0_244 rfl ?_
    refine lw_aload3_n gz_0_245 rfl ?_
    refine lw_iload gz_0_246 rfl ?_
    refine lw_iconst gz_0_248 (by decide) ?_
    refine lw_iadd gz_0_249 ⟨by omega, by omega⟩ ?_
    refine lw_sl gz_0_250 hL4 hL (by omega) (by omega) (fun z29 ez29 pz29 qz29 => ?_)
    refine lw_aload3_n gz_0_251 rfl ?_
    refine lw_iload gz_0_252 rfl ?_
    refine lw_iconst gz_0_254 (by decide) ?_
    refine lw_iadd gz_0_255 ⟨by omega, by omega⟩ ?_
    refine lw_sl gz_0_256 hL4 hL (by omega) (by omega) (fun z30 ez30 pz30 qz30 => ?_)
    refine lw_aload3_n gz_0_257 rfl ?_
    refine lw_iload gz_0_258 rfl ?_
    refine lw_iconst gz_0_260 (by decide) ?_
    refine lw_iadd gz_0_261 ⟨by omega, by omega⟩ ?_
    refine lw_sl gz_0_262 hL4 hL (by omega) (by omega) (fun z31 ez31 pz31 qz31 => ?_)
    refine lw_aload3_n gz_0_263 rfl ?_
    refine lw_iload gz_0_264 rfl ?_
    refine lw_iconst gz_0_266 (by decide) ?_
    refine lw_iadd gz_0_267 ⟨by omega, by omega⟩ ?_
    refine lw_sl gz_0_268 hL4 hL (by omega) (by omega) (fun z32 ez32 pz32 qz32 => ?_)
    refine lw_aload3_n gz_0_269 rfl ?_
    refine lw_iload gz_0_270 rfl ?_
    refine lw_iconst gz_0_272 (by decide) ?_
    refine lw_iadd gz_0_273 ⟨by omega, by omega⟩ ?_
    refine lw_sl gz_0_274 hL4 hL (by omega) (by omega) (fun z33 ez33 pz33 qz33 => ?_)
    refine lw_inv (kz := 1) (as := [(0, z33), (0, z32), (0, z31), (0, z30), (0, z29)]) (r := []) (x := 151) (ls0 := [(2, 151), (0, z29), (0, z30), (0, z31), (0, z32), (0, z33), (9, 0)]) gz_0_275 gm_148 rfl is_151 rd_10 rfl rfl rfl rfl rfl (c_Model_row (d := 24) (x1 := z29) (x2 := z30) (x3 := z31) (x4 := z32) (x5 := z33) I_h8.pRws (fun h34 w35 w36 w37 => ?_) (fun h38 w39 w40 w41 w42 w43 w44 w45 => ?_))
    ·
      have I_h34 : LInv h34 := ⟨Ln_ag (my_ag.fr w35 rfl) I_h8.pLn, Mw_ag (my_ag.fr w35 rfl) I_h8.pMw, Mw3_ag (my_ag.fr w35 rfl) I_h8.pMw3, w37, Wrd_ag (my_ag.fr w35 rfl) I_h8.pWrd, Ceq_ag (my_ag.fr w35 rfl) I_h8.pCeq, Wd9_ag (my_ag.fr w35 rfl) I_h8.pWd9, Teq_ag (my_ag.fr w35 rfl) I_h8.pTeq, Wnq_ag (my_ag.fr w35 rfl) I_h8.pWnq⟩
      show lwp p l e s m below meth c b D tys sg rho 278 [(3, 0), (2, 0), (2, 151), (2, 203), (0, i), (9, 0), (9, 0)] [(0, 0)] h34 kn
      refine lw_pop gz_0_278 rfl ?_
      refine lw_goto (t := 1878) gz_0_279 rfl ?_
      exact K h34 I_h34
    ·
      have I_h38 : LInv h38 := ⟨Ln_ag (my_ag.fr w39 rfl) I_h8.pLn, Mw_ag (my_ag.fr w39 rfl) I_h8.pMw, Mw3_ag (my_ag.fr w39 rfl) I_h8.pMw3, w45, Wrd_ag (my_ag.fr w39 rfl) I_h8.pWrd, Ceq_ag (my_ag.fr w39 rfl) I_h8.pCeq, Wd9_ag (my_ag.fr w39 rfl) I_h8.pWd9, Teq_ag (my_ag.fr w39 rfl) I_h8.pTeq, Wnq_ag (my_ag.fr w39 rfl) I_h8.pWnq⟩
      show lwp p l e s m below meth c b D tys sg rho 278 [(3, 0), (2, 0), (2, 151), (2, 203), (0, i), (9, 0), (9, 0)] [(0, 1)] h38 kn
      refine lw_pop gz_0_278 rfl ?_
      refine lw_goto (t := 1878) gz_0_279 rfl ?_
      exact K h38 I_h38
theorem lcase_2 (hL4 : L4 ≤ 4096) (hL : rho 4096 = Int32.ofNat L4) (I : LInv h) (i0 : 0 ≤ i) (i8 : i + 8 ≤ L4) (K : ∀ h' : my_H, LInv h' → lwp p l e s m below meth c b D tys sg rho 1878 [(3, 0), (2, 0), (2, 151), (2, 203), (0, i), (9, 0), (9, 0)] [] h' kn) : lwp p l e s m below meth c b D tys sg rho 282 [(3, 0), (2, 0), (2, 151), (2, 203), (0, i), (9, 0), (9, 0)] [] h kn := by
  refine lw_aload_n gz_0_282 rfl ?_
  refine lw_aload3_n gz_0_283 rfl ?_
  refine lw_iload gz_0_284 rfl ?_
  refine lw_iconst gz_0_286 (by decide) ?_
  refine lw_iadd gz_0_287 ⟨by omega, by omega⟩ ?_
  refine lw_sl gz_0_288 hL4 hL (by omega) (by omega) (fun z1 ez1 pz1 qz1 => ?_)
  refine lw_aload3_n gz_0_289 rfl ?_
  refine lw_iload gz_0_290 rfl ?_
  refine lw_iconst gz_0_292 (by decide) ?_
  refine lw_iadd gz_0_293 ⟨by omega, by omega⟩ ?_
  refine lw_sl gz_0_294 hL4 hL (by omega) (by omega) (fun z2 ez2 pz2 qz2 => ?_)
  refine lw_inv (kz := 0) (as := [(0, z2), (0, z1)]) (r := []) (x := 0) (ls0 := [(2, 0), (0, z1), (0, z2)]) gz_0_295 gm_24 rfl is_0 rd_9 rfl rfl rfl rfl rfl (c_ThroughWindow_out (d := 25) (x1 := z1) (x2 := z2)  (fun h3 w4 => ?_) (fun h5 w6 w7 w8 w9 w10 => ?_))
  ·
    have I_h3 : LInv h3 := ⟨Ln_ag (my_ag.fr w4 rfl) I.pLn, Mw_ag (my_ag.fr w4 rfl) I.pMw, Mw3_ag (my_ag.fr w4 rfl) I.pMw3, Rws_ag (my_ag.fr w4 rfl) I.pRws, Wrd_ag (my_ag.fr w4 rfl) I.pWrd, Ceq_ag (my_ag.fr w4 rfl) I.pCeq, Wd9_ag (my_ag.fr w4 rfl) I.pWd9, Teq_ag (my_ag.fr w4 rfl) I.pTeq, Wnq_ag (my_ag.fr w4 rfl) I.pWnq⟩
    show lwp p l e s m below meth c b D tys sg rho 298 [(3, 0), (2, 0), (2, 151), (2, 203), (0, i), (9, 0), (9, 0)] [(0, 0)] h3 kn
    refine lw_pop gz_0_298 rfl ?_
    refine lw_aload_n gz_0_299 rfl ?_
    refine lw_aload3_n gz_0_300 rfl ?_
    refine lw_iload gz_0_301 rfl ?_
    refine lw_iconst gz_0_303 (by decide) ?_
    refine lw_iadd gz_0_304 ⟨by omega, by omega⟩ ?_
    refine lw_sl gz_0_305 hL4 hL (by omega) (by omega) (fun z11 ez11 pz11 qz11 => ?_)
    refine lw_aload3_n gz_0_306 rfl ?_
    refine lw_iload gz_0_307 rfl ?_
    refine lw_iconst gz_0_309 (by decide) ?_
    refine lw_iadd gz_0_310 ⟨by omega, by omega⟩ ?_
    refine lw_sl gz_0_311 hL4 hL (by omega) (by omega) (fun z12 ez12 pz12 qz12 => ?_)
    refine lw_inv (kz := 0) (as := [(0, z12), (0, z11)]) (r := []) (x := 151) (ls0 := [(2, 151), (0, z11), (0, z12)]) gz_0_312 gm_158 rfl is_151 rd_10 rfl rfl rfl rfl rfl (c_Model_out2 (d := 24) (x1 := z11) (x2 := z12) I_h3.pRws (fun h13 w14 w15 w16 => ?_) (fun h17 w18 w19 w20 w21 w22 w23 w24 => ?_))
    ·
      have I_h13 : LInv h13 := ⟨Ln_ag (my_ag.fr w14 rfl) I_h3.pLn, Mw_ag (my_ag.fr w14 rfl) I_h3.pMw, Mw3_ag (my_ag.fr w14 rfl) I_h3.pMw3, w16, Wrd_ag (my_ag.fr w14 rfl) I_h3.pWrd, Ceq_ag (my_ag.fr w14 rfl) I_h3.pCeq, Wd9_ag (my_ag.fr w14 rfl) I_h3.pWd9, Teq_ag (my_ag.fr w14 rfl) I_h3.pTeq, Wnq_ag (my_ag.fr w14 rfl) I_h3.pWnq⟩
      show lwp p l e s m below meth c b D tys sg rho 315 [(3, 0), (2, 0), (2, 151), (2, 203), (0, i), (9, 0), (9, 0)] [(0, 0)] h13 kn
      refine lw_pop gz_0_315 rfl ?_
      refine lw_goto (t := 1878) gz_0_316 rfl ?_
      exact K h13 I_h13
    ·
      have I_h17 : LInv h17 := ⟨Ln_ag (my_ag.fr w18 rfl) I_h3.pLn, Mw_ag (my_ag.fr w18 rfl) I_h3.pMw, Mw3_ag (my_ag.fr w18 rfl) I_h3.pMw3, w24, Wrd_ag (my_ag.fr w18 rfl) I_h3.pWrd, Ceq_ag (my_ag.fr w18 rfl) I_h3.pCeq, Wd9_ag (my_ag.fr w18 rfl) I_h3.pWd9, Teq_ag (my_ag.fr w18 rfl) I_h3.pTeq, Wnq_ag (my_ag.fr w18 rfl) I_h3.pWnq⟩
      show lwp p l e s m below meth c b D tys sg rho 315 [(3, 0), (2, 0), (2, 151), (2, 203), (0, i), (9, 0), (9, 0)] [(0, 1)] h17 kn
      refine lw_pop gz_0_315 rfl ?_
      refine lw_goto (t := 1878) gz_0_316 rfl ?_
      exact K h17 I_h17
  ·
    have I_h5 : LInv h5 := ⟨Ln_ag (my_ag.fr w6 rfl) I.pLn, Mw_ag (my_ag.fr w6 rfl) I.pMw, Mw3_ag (my_ag.fr w6 rfl) I.pMw3, Rws_ag (my_ag.fr w6 rfl) I.pRws, Wrd_ag (my_ag.fr w6 rfl) I.pWrd, Ceq_ag (my_ag.fr w6 rfl) I.pCeq, Wd9_ag (my_ag.fr w6 rfl) I.pWd9, Teq_ag (my_ag.fr w6 rfl) I.pTeq, Wnq_ag (my_ag.fr w6 rfl) I.pWnq⟩
    show lwp p l e s m below meth c b D tys sg rho 298 [(3, 0), (2, 0), (2, 151), (2, 203), (0, i), (9, 0), (9, 0)] [(0, 1)] h5 kn
    refine lw_pop gz_0_298 rfl ?_
    refine lw_aload_n gz_0_299 rfl ?_
    refine lw_aload3_n gz_0_300 rfl ?_
    refine lw_iload gz_0_301 rfl ?_
    refine lw_iconst gz_0_303 (by decide) ?_
    refine lw_iadd gz_0_304 ⟨by omega, by omega⟩ ?_
    refine lw_sl gz_0_305 hL4 hL (by omega) (by omega) (fun z25 ez25 pz25 qz25 => ?_)
    refine lw_aload3_n gz_0_306 rfl ?_
    refine lw_iload gz_0_307 rfl ?_
    refine lw_iconst gz_0_309 (by decide) ?_
    refine lw_iadd gz_0_310 ⟨by omega, by omega⟩ ?_
    refine lw_sl gz_0_311 hL4 hL (by omega) (by omega) (fun z26 ez26 pz26 qz26 => ?_)
    refine lw_inv (kz := 0) (as := [(0, z26), (0, z25)]) (r := []) (x := 151) (ls0 := [(2, 151), (0, z25), (0, z26)]) gz_0_312 gm_158 rfl is_151 rd_10 rfl rfl rfl rfl rfl (c_Model_out2 (d := 24) (x1 := z25) (x2 := z26) I_h5.pRws (fun h27 w28 w29 w30 => ?_) (fun h31 w32 w33 w34 w35 w36 w37 w38 => ?_))
    ·
      have I_h27 : LInv h27 := ⟨Ln_ag (my_ag.fr w28 rfl) I_h5.pLn, Mw_ag (my_ag.fr w28 rfl) I_h5.pMw, Mw3_ag (my_ag.fr w28 rfl) I_h5.pMw3, w30, Wrd_ag (my_ag.fr w28 rfl) I_h5.pWrd, Ceq_ag (my_ag.fr w28 rfl) I_h5.pCeq, Wd9_ag (my_ag.fr w28 rfl) I_h5.pWd9, Teq_ag (my_ag.fr w28 rfl) I_h5.pTeq, Wnq_ag (my_ag.fr w28 rfl) I_h5.pWnq⟩
      show lwp p l e s m below meth c b D tys sg rho 315 [(3, 0), (2, 0), (2, 151), (2, 203), (0, i), (9, 0), (9, 0)] [(0, 0)] h27 kn
      refine lw_pop gz_0_315 rfl ?_
      refine lw_goto (t := 1878) gz_0_316 rfl ?_
      exact K h27 I_h27
    ·
      have I_h31 : LInv h31 := ⟨Ln_ag (my_ag.fr w32 rfl) I_h5.pLn, Mw_ag (my_ag.fr w32 rfl) I_h5.pMw, Mw3_ag (my_ag.fr w32 rfl) I_h5.pMw3, w38, Wrd_ag (my_ag.fr w32 rfl) I_h5.pWrd, Ceq_ag (my_ag.fr w32 rfl) I_h5.pCeq, Wd9_ag (my_ag.fr w32 rfl) I_h5.pWd9, Teq_ag (my_ag.fr w32 rfl) I_h5.pTeq, Wnq_ag (my_ag.fr w32 rfl) I_h5.pWnq⟩
      show lwp p l e s m below meth c b D tys sg rho 315 [(3, 0), (2, 0), (2, 151), (2, 203), (0, i), (9, 0), (9, 0)] [(0, 1)] h31 kn
      refine lw_pop gz_0_315 rfl ?_
      refine lw_goto (t := 1878) gz_0_316 rfl ?_
      exact K h31 I_h31
theorem lcase_3 (hL4 : L4 ≤ 4096) (hL : rho 4096 = Int32.ofNat L4) (I : LInv h) (i0 : 0 ≤ i) (i8 : i + 8 ≤ L4) (K : ∀ h' : my_H, LInv h' → lwp p l e s m below meth c b D tys sg rho 1878 [(3, 0), (2, 0), (2, 151), (2, 203), (0, i), (9, 0), (9, 0)] [] h' kn) : lwp p l e s m below meth c b D tys sg rho 319 [(3, 0), (2, 0), (2, 151), (2, 203), (0, i), (9, 0), (9, 0)] [] h kn := by
  refine lw_aload_n gz_0_319 rfl ?_
  refine lw_aload3_n gz_0_320 rfl ?_
  refine lw_iload gz_0_321 rfl ?_
  refine lw_iconst gz_0_323 (by decide) ?_
  refine lw_iadd gz_0_324 ⟨by omega, by omega⟩ ?_
  refine lw_sl gz_0_325 hL4 hL (by omega) (by omega) (fun z1 ez1 pz1 qz1 => ?_)
  refine lw_aload3_n gz_0_326 rfl ?_
  refine lw_iload gz_0_327 rfl ?_
  refine lw_iconst gz_0_329 (by decide) ?_
  refine lw_iadd gz_0_330 ⟨by omega, by omega⟩ ?_
  refine lw_sl gz_0_331 hL4 hL (by omega) (by omega) (fun z2 ez2 pz2 qz2 => ?_)
  refine lw_aload3_n gz_0_332 rfl ?_
  refine lw_iload gz_0_333 rfl ?_
  refine lw_iconst gz_0_335 (by decide) ?_
  refine lw_iadd gz_0_336 ⟨by omega, by omega⟩ ?_
  refine lw_sl gz_0_337 hL4 hL (by omega) (by omega) (fun z3 ez3 pz3 qz3 => ?_)
  refine lw_aload3_n gz_0_338 rfl ?_
  refine lw_iload gz_0_339 rfl ?_
  refine lw_iconst gz_0_341 (by decide) ?_
  refine lw_iadd gz_0_342 ⟨by omega, by omega⟩ ?_
  refine lw_sl gz_0_343 hL4 hL (by omega) (by omega) (fun z4 ez4 pz4 qz4 => ?_)
  refine lw_inv (kz := 0) (as := [(0, z4), (0, z3), (0, z2), (0, z1)]) (r := []) (x := 0) (ls0 := [(2, 0), (0, z1), (0, z2), (0, z3), (0, z4)]) gz_0_344 gm_26 rfl is_0 rd_9 rfl rfl rfl rfl rfl (c_ThroughWindow_span (d := 27) (x1 := z1) (x2 := z2) (x3 := z3) (x4 := z4)  (fun h5 w6 => ?_) (fun h7 w8 w9 w10 w11 w12 w13 w14 w15 w16 => ?_))
  ·
    have I_h5 : LInv h5 := ⟨Ln_ag (my_ag.fr w6 rfl) I.pLn, Mw_ag (my_ag.fr w6 rfl) I.pMw, Mw3_ag (my_ag.fr w6 rfl) I.pMw3, Rws_ag (my_ag.fr w6 rfl) I.pRws, Wrd_ag (my_ag.fr w6 rfl) I.pWrd, Ceq_ag (my_ag.fr w6 rfl) I.pCeq, Wd9_ag (my_ag.fr w6 rfl) I.pWd9, Teq_ag (my_ag.fr w6 rfl) I.pTeq, Wnq_ag (my_ag.fr w6 rfl) I.pWnq⟩
    show lwp p l e s m below meth c b D tys sg rho 347 [(3, 0), (2, 0), (2, 151), (2, 203), (0, i), (9, 0), (9, 0)] [(0, 0)] h5 kn
    refine lw_pop gz_0_347 rfl ?_
    refine lw_aload_n gz_0_348 rfl ?_
    refine lw_aload3_n gz_0_349 rfl ?_
    refine lw_iload gz_0_350 rfl ?_
    refine lw_iconst gz_0_352 (by decide) ?_
    refine lw_iadd gz_0_353 ⟨by omega, by omega⟩ ?_
    refine lw_sl gz_0_354 hL4 hL (by omega) (by omega) (fun z17 ez17 pz17 qz17 => ?_)
    refine lw_aload3_n gz_0_355 rfl ?_
    refine lw_iload gz_0_356 rfl ?_
    refine lw_iconst gz_0_358 (by decide) ?_
    refine lw_iadd gz_0_359 ⟨by omega, by omega⟩ ?_
    refine lw_sl gz_0_360 hL4 hL (by omega) (by omega) (fun z18 ez18 pz18 qz18 => ?_)
    refine lw_aload3_n gz_0_361 rfl ?_
    refine lw_iload gz_0_362 rfl ?_
    refine lw_iconst gz_0_364 (by decide) ?_
    refine lw_iadd gz_0_365 ⟨by omega, by omega⟩ ?_
    refine lw_sl gz_0_366 hL4 hL (by omega) (by omega) (fun z19 ez19 pz19 qz19 => ?_)
    refine lw_aload3_n gz_0_367 rfl ?_
    refine lw_iload gz_0_368 rfl ?_
    refine lw_iconst gz_0_370 (by decide) ?_
    refine lw_iadd gz_0_371 ⟨by omega, by omega⟩ ?_
    refine lw_sl gz_0_372 hL4 hL (by omega) (by omega) (fun z20 ez20 pz20 qz20 => ?_)
    refine lw_inv (kz := 0) (as := [(0, z20), (0, z19), (0, z18), (0, z17)]) (r := []) (x := 151) (ls0 := [(2, 151), (0, z17), (0, z18), (0, z19), (0, z20)]) gz_0_373 gm_160 rfl is_151 rd_10 rfl rfl rfl rfl rfl (c_Model_span (d := 26) (x1 := z17) (x2 := z18) (x3 := z19) (x4 := z20)  (fun h21 w22 w23 => ?_) (fun h24 w25 w26 w27 w28 w29 w30 w31 w32 w33 w34 => ?_))
    ·
      have I_h21 : LInv h21 := ⟨Ln_ag (my_ag.fr w22 rfl) I_h5.pLn, Mw_ag (my_ag.fr w22 rfl) I_h5.pMw, Mw3_ag (my_ag.fr w22 rfl) I_h5.pMw3, Rws_ag (my_ag.fr w22 rfl) I_h5.pRws, Wrd_ag (my_ag.fr w22 rfl) I_h5.pWrd, Ceq_ag (my_ag.fr w22 rfl) I_h5.pCeq, Wd9_ag (my_ag.fr w22 rfl) I_h5.pWd9, Teq_ag (my_ag.fr w22 rfl) I_h5.pTeq, Wnq_ag (my_ag.fr w22 rfl) I_h5.pWnq⟩
      show lwp p l e s m below meth c b D tys sg rho 376 [(3, 0), (2, 0), (2, 151), (2, 203), (0, i), (9, 0), (9, 0)] [(0, 0)] h21 kn
      refine lw_pop gz_0_376 rfl ?_
      refine lw_goto (t := 1878) gz_0_377 rfl ?_
      exact K h21 I_h21
    ·
      have I_h24 : LInv h24 := ⟨Ln_ag (my_ag.fr w25 rfl) I_h5.pLn, Mw_ag (my_ag.fr w25 rfl) I_h5.pMw, Mw3_ag (my_ag.fr w25 rfl) I_h5.pMw3, Rws_ag (my_ag.fr w25 rfl) I_h5.pRws, Wrd_ag (my_ag.fr w25 rfl) I_h5.pWrd, Ceq_ag (my_ag.fr w25 rfl) I_h5.pCeq, Wd9_ag (my_ag.fr w25 rfl) I_h5.pWd9, Teq_ag (my_ag.fr w25 rfl) I_h5.pTeq, Wnq_ag (my_ag.fr w25 rfl) I_h5.pWnq⟩
      show lwp p l e s m below meth c b D tys sg rho 376 [(3, 0), (2, 0), (2, 151), (2, 203), (0, i), (9, 0), (9, 0)] [(0, 1)] h24 kn
      refine lw_pop gz_0_376 rfl ?_
      refine lw_goto (t := 1878) gz_0_377 rfl ?_
      exact K h24 I_h24
  ·
    have I_h7 : LInv h7 := ⟨Ln_ag (my_ag.fr w8 rfl) I.pLn, Mw_ag (my_ag.fr w8 rfl) I.pMw, Mw3_ag (my_ag.fr w8 rfl) I.pMw3, Rws_ag (my_ag.fr w8 rfl) I.pRws, Wrd_ag (my_ag.fr w8 rfl) I.pWrd, Ceq_ag (my_ag.fr w8 rfl) I.pCeq, Wd9_ag (my_ag.fr w8 rfl) I.pWd9, Teq_ag (my_ag.fr w8 rfl) I.pTeq, Wnq_ag (my_ag.fr w8 rfl) I.pWnq⟩
    show lwp p l e s m below meth c b D tys sg rho 347 [(3, 0), (2, 0), (2, 151), (2, 203), (0, i), (9, 0), (9, 0)] [(0, 1)] h7 kn
    refine lw_pop gz_0_347 rfl ?_
    refine lw_aload_n gz_0_348 rfl ?_
    refine lw_aload3_n gz_0_349 rfl ?_
    refine lw_iload gz_0_350 rfl ?_
    refine lw_iconst gz_0_352 (by decide) ?_
    refine lw_iadd gz_0_353 ⟨by omega, by omega⟩ ?_
    refine lw_sl gz_0_354 hL4 hL (by omega) (by omega) (fun z35 ez35 pz35 qz35 => ?_)
    refine lw_aload3_n gz_0_355 rfl ?_
    refine lw_iload gz_0_356 rfl ?_
    refine lw_iconst gz_0_358 (by decide) ?_
    refine lw_iadd gz_0_359 ⟨by omega, by omega⟩ ?_
    refine lw_sl gz_0_360 hL4 hL (by omega) (by omega) (fun z36 ez36 pz36 qz36 => ?_)
    refine lw_aload3_n gz_0_361 rfl ?_
    refine lw_iload gz_0_362 rfl ?_
    refine lw_iconst gz_0_364 (by decide) ?_
    refine lw_iadd gz_0_365 ⟨by omega, by omega⟩ ?_
    refine lw_sl gz_0_366 hL4 hL (by omega) (by omega) (fun z37 ez37 pz37 qz37 => ?_)
    refine lw_aload3_n gz_0_367 rfl ?_
    refine lw_iload gz_0_368 rfl ?_
    refine lw_iconst gz_0_370 (by decide) ?_
    refine lw_iadd gz_0_371 ⟨by omega, by omega⟩ ?_
    refine lw_sl gz_0_372 hL4 hL (by omega) (by omega) (fun z38 ez38 pz38 qz38 => ?_)
    refine lw_inv (kz := 0) (as := [(0, z38), (0, z37), (0, z36), (0, z35)]) (r := []) (x := 151) (ls0 := [(2, 151), (0, z35), (0, z36), (0, z37), (0, z38)]) gz_0_373 gm_160 rfl is_151 rd_10 rfl rfl rfl rfl rfl (c_Model_span (d := 26) (x1 := z35) (x2 := z36) (x3 := z37) (x4 := z38)  (fun h39 w40 w41 => ?_) (fun h42 w43 w44 w45 w46 w47 w48 w49 w50 w51 w52 => ?_))
    ·
      have I_h39 : LInv h39 := ⟨Ln_ag (my_ag.fr w40 rfl) I_h7.pLn, Mw_ag (my_ag.fr w40 rfl) I_h7.pMw, Mw3_ag (my_ag.fr w40 rfl) I_h7.pMw3, Rws_ag (my_ag.fr w40 rfl) I_h7.pRws, Wrd_ag (my_ag.fr w40 rfl) I_h7.pWrd, Ceq_ag (my_ag.fr w40 rfl) I_h7.pCeq, Wd9_ag (my_ag.fr w40 rfl) I_h7.pWd9, Teq_ag (my_ag.fr w40 rfl) I_h7.pTeq, Wnq_ag (my_ag.fr w40 rfl) I_h7.pWnq⟩
      show lwp p l e s m below meth c b D tys sg rho 376 [(3, 0), (2, 0), (2, 151), (2, 203), (0, i), (9, 0), (9, 0)] [(0, 0)] h39 kn
      refine lw_pop gz_0_376 rfl ?_
      refine lw_goto (t := 1878) gz_0_377 rfl ?_
      exact K h39 I_h39
    ·
      have I_h42 : LInv h42 := ⟨Ln_ag (my_ag.fr w43 rfl) I_h7.pLn, Mw_ag (my_ag.fr w43 rfl) I_h7.pMw, Mw3_ag (my_ag.fr w43 rfl) I_h7.pMw3, Rws_ag (my_ag.fr w43 rfl) I_h7.pRws, Wrd_ag (my_ag.fr w43 rfl) I_h7.pWrd, Ceq_ag (my_ag.fr w43 rfl) I_h7.pCeq, Wd9_ag (my_ag.fr w43 rfl) I_h7.pWd9, Teq_ag (my_ag.fr w43 rfl) I_h7.pTeq, Wnq_ag (my_ag.fr w43 rfl) I_h7.pWnq⟩
      show lwp p l e s m below meth c b D tys sg rho 376 [(3, 0), (2, 0), (2, 151), (2, 203), (0, i), (9, 0), (9, 0)] [(0, 1)] h42 kn
      refine lw_pop gz_0_376 rfl ?_
      refine lw_goto (t := 1878) gz_0_377 rfl ?_
      exact K h42 I_h42
theorem lcase_4 (hL4 : L4 ≤ 4096) (hL : rho 4096 = Int32.ofNat L4) (I : LInv h) (i0 : 0 ≤ i) (i8 : i + 8 ≤ L4) (K : ∀ h' : my_H, LInv h' → lwp p l e s m below meth c b D tys sg rho 1878 [(3, 0), (2, 0), (2, 151), (2, 203), (0, i), (9, 0), (9, 0)] [] h' kn) : lwp p l e s m below meth c b D tys sg rho 380 [(3, 0), (2, 0), (2, 151), (2, 203), (0, i), (9, 0), (9, 0)] [] h kn := by
  refine lw_aload_n gz_0_380 rfl ?_
  refine lw_aload3_n gz_0_381 rfl ?_
  refine lw_iload gz_0_382 rfl ?_
  refine lw_iconst gz_0_384 (by decide) ?_
  refine lw_iadd gz_0_385 ⟨by omega, by omega⟩ ?_
  refine lw_sl gz_0_386 hL4 hL (by omega) (by omega) (fun z1 ez1 pz1 qz1 => ?_)
  refine lw_aload3_n gz_0_387 rfl ?_
  refine lw_iload gz_0_388 rfl ?_
  refine lw_iconst gz_0_390 (by decide) ?_
  refine lw_iadd gz_0_391 ⟨by omega, by omega⟩ ?_
  refine lw_sl gz_0_392 hL4 hL (by omega) (by omega) (fun z2 ez2 pz2 qz2 => ?_)
  refine lw_aload3_n gz_0_393 rfl ?_
  refine lw_iload gz_0_394 rfl ?_
  refine lw_iconst gz_0_396 (by decide) ?_
  refine lw_iadd gz_0_397 ⟨by omega, by omega⟩ ?_
  refine lw_sl gz_0_398 hL4 hL (by omega) (by omega) (fun z3 ez3 pz3 qz3 => ?_)
  refine lw_inv (kz := 2) (as := [(0, z3), (0, z2), (0, z1)]) (r := []) (x := 0) (ls0 := [(2, 0), (0, z1), (0, z2), (0, z3), (9, 0), (9, 0)]) gz_0_399 gm_30 rfl is_0 rd_9 rfl rfl rfl rfl rfl (c_ThroughWindow_names (d := 25) (x1 := z1) (x2 := z2) (x3 := z3)  (fun h4 w5 => ?_) (fun h6 w7 w8 w9 w10 w11 w12 w13 => ?_))
  ·
    have I_h4 : LInv h4 := ⟨Ln_ag (my_ag.fr w5 rfl) I.pLn, Mw_ag (my_ag.fr w5 rfl) I.pMw, Mw3_ag (my_ag.fr w5 rfl) I.pMw3, Rws_ag (my_ag.fr w5 rfl) I.pRws, Wrd_ag (my_ag.fr w5 rfl) I.pWrd, Ceq_ag (my_ag.fr w5 rfl) I.pCeq, Wd9_ag (my_ag.fr w5 rfl) I.pWd9, Teq_ag (my_ag.fr w5 rfl) I.pTeq, Wnq_ag (my_ag.fr w5 rfl) I.pWnq⟩
    show lwp p l e s m below meth c b D tys sg rho 402 [(3, 0), (2, 0), (2, 151), (2, 203), (0, i), (9, 0), (9, 0)] [(0, 0)] h4 kn
    refine lw_pop gz_0_402 rfl ?_
    refine lw_aload_n gz_0_403 rfl ?_
    refine lw_aload3_n gz_0_404 rfl ?_
    refine lw_iload gz_0_405 rfl ?_
    refine lw_iconst gz_0_407 (by decide) ?_
    refine lw_iadd gz_0_408 ⟨by omega, by omega⟩ ?_
    refine lw_sl gz_0_409 hL4 hL (by omega) (by omega) (fun z14 ez14 pz14 qz14 => ?_)
    refine lw_aload3_n gz_0_410 rfl ?_
    refine lw_iload gz_0_411 rfl ?_
    refine lw_iconst gz_0_413 (by decide) ?_
    refine lw_iadd gz_0_414 ⟨by omega, by omega⟩ ?_
    refine lw_sl gz_0_415 hL4 hL (by omega) (by omega) (fun z15 ez15 pz15 qz15 => ?_)
    refine lw_aload3_n gz_0_416 rfl ?_
    refine lw_iload gz_0_417 rfl ?_
    refine lw_iconst gz_0_419 (by decide) ?_
    refine lw_iadd gz_0_420 ⟨by omega, by omega⟩ ?_
    refine lw_sl gz_0_421 hL4 hL (by omega) (by omega) (fun z16 ez16 pz16 qz16 => ?_)
    refine lw_inv (kz := 1) (as := [(0, z16), (0, z15), (0, z14)]) (r := []) (x := 151) (ls0 := [(2, 151), (0, z14), (0, z15), (0, z16), (9, 0)]) gz_0_422 gm_165 rfl is_151 rd_10 rfl rfl rfl rfl rfl (c_Model_names (d := 25) (x1 := z14) (x2 := z15) (x3 := z16)  (fun h17 w18 w19 => ?_) (fun h20 w21 w22 w23 w24 w25 w26 w27 w28 => ?_))
    ·
      have I_h17 : LInv h17 := ⟨Ln_ag (my_ag.fr w18 rfl) I_h4.pLn, Mw_ag (my_ag.fr w18 rfl) I_h4.pMw, Mw3_ag (my_ag.fr w18 rfl) I_h4.pMw3, Rws_ag (my_ag.fr w18 rfl) I_h4.pRws, Wrd_ag (my_ag.fr w18 rfl) I_h4.pWrd, Ceq_ag (my_ag.fr w18 rfl) I_h4.pCeq, Wd9_ag (my_ag.fr w18 rfl) I_h4.pWd9, Teq_ag (my_ag.fr w18 rfl) I_h4.pTeq, Wnq_ag (my_ag.fr w18 rfl) I_h4.pWnq⟩
      show lwp p l e s m below meth c b D tys sg rho 425 [(3, 0), (2, 0), (2, 151), (2, 203), (0, i), (9, 0), (9, 0)] [(0, 0)] h17 kn
      refine lw_pop gz_0_425 rfl ?_
      refine lw_goto (t := 1878) gz_0_426 rfl ?_
      exact K h17 I_h17
    ·
      have I_h20 : LInv h20 := ⟨Ln_ag (my_ag.fr w21 rfl) I_h4.pLn, Mw_ag (my_ag.fr w21 rfl) I_h4.pMw, Mw3_ag (my_ag.fr w21 rfl) I_h4.pMw3, Rws_ag (my_ag.fr w21 rfl) I_h4.pRws, Wrd_ag (my_ag.fr w21 rfl) I_h4.pWrd, Ceq_ag (my_ag.fr w21 rfl) I_h4.pCeq, Wd9_ag (my_ag.fr w21 rfl) I_h4.pWd9, Teq_ag (my_ag.fr w21 rfl) I_h4.pTeq, Wnq_ag (my_ag.fr w21 rfl) I_h4.pWnq⟩
      show lwp p l e s m below meth c b D tys sg rho 425 [(3, 0), (2, 0), (2, 151), (2, 203), (0, i), (9, 0), (9, 0)] [(0, 1)] h20 kn
      refine lw_pop gz_0_425 rfl ?_
      refine lw_goto (t := 1878) gz_0_426 rfl ?_
      exact K h20 I_h20
  ·
    have I_h6 : LInv h6 := ⟨Ln_ag (my_ag.fr w7 rfl) I.pLn, Mw_ag (my_ag.fr w7 rfl) I.pMw, Mw3_ag (my_ag.fr w7 rfl) I.pMw3, Rws_ag (my_ag.fr w7 rfl) I.pRws, Wrd_ag (my_ag.fr w7 rfl) I.pWrd, Ceq_ag (my_ag.fr w7 rfl) I.pCeq, Wd9_ag (my_ag.fr w7 rfl) I.pWd9, Teq_ag (my_ag.fr w7 rfl) I.pTeq, Wnq_ag (my_ag.fr w7 rfl) I.pWnq⟩
    show lwp p l e s m below meth c b D tys sg rho 402 [(3, 0), (2, 0), (2, 151), (2, 203), (0, i), (9, 0), (9, 0)] [(0, 1)] h6 kn
    refine lw_pop gz_0_402 rfl ?_
    refine lw_aload_n gz_0_403 rfl ?_
    refine lw_aload3_n gz_0_404 rfl ?_
    refine lw_iload gz_0_405 rfl ?_
    refine lw_iconst gz_0_407 (by decide) ?_
    refine lw_iadd gz_0_408 ⟨by omega, by omega⟩ ?_
    refine lw_sl gz_0_409 hL4 hL (by omega) (by omega) (fun z29 ez29 pz29 qz29 => ?_)
    refine lw_aload3_n gz_0_410 rfl ?_
    refine lw_iload gz_0_411 rfl ?_
    refine lw_iconst gz_0_413 (by decide) ?_
    refine lw_iadd gz_0_414 ⟨by omega, by omega⟩ ?_
    refine lw_sl gz_0_415 hL4 hL (by omega) (by omega) (fun z30 ez30 pz30 qz30 => ?_)
    refine lw_aload3_n gz_0_416 rfl ?_
    refine lw_iload gz_0_417 rfl ?_
    refine lw_iconst gz_0_419 (by decide) ?_
    refine lw_iadd gz_0_420 ⟨by omega, by omega⟩ ?_
    refine lw_sl gz_0_421 hL4 hL (by omega) (by omega) (fun z31 ez31 pz31 qz31 => ?_)
    refine lw_inv (kz := 1) (as := [(0, z31), (0, z30), (0, z29)]) (r := []) (x := 151) (ls0 := [(2, 151), (0, z29), (0, z30), (0, z31), (9, 0)]) gz_0_422 gm_165 rfl is_151 rd_10 rfl rfl rfl rfl rfl (c_Model_names (d := 25) (x1 := z29) (x2 := z30) (x3 := z31)  (fun h32 w33 w34 => ?_) (fun h35 w36 w37 w38 w39 w40 w41 w42 w43 => ?_))
    ·
      have I_h32 : LInv h32 := ⟨Ln_ag (my_ag.fr w33 rfl) I_h6.pLn, Mw_ag (my_ag.fr w33 rfl) I_h6.pMw, Mw3_ag (my_ag.fr w33 rfl) I_h6.pMw3, Rws_ag (my_ag.fr w33 rfl) I_h6.pRws, Wrd_ag (my_ag.fr w33 rfl) I_h6.pWrd, Ceq_ag (my_ag.fr w33 rfl) I_h6.pCeq, Wd9_ag (my_ag.fr w33 rfl) I_h6.pWd9, Teq_ag (my_ag.fr w33 rfl) I_h6.pTeq, Wnq_ag (my_ag.fr w33 rfl) I_h6.pWnq⟩
      show lwp p l e s m below meth c b D tys sg rho 425 [(3, 0), (2, 0), (2, 151), (2, 203), (0, i), (9, 0), (9, 0)] [(0, 0)] h32 kn
      refine lw_pop gz_0_425 rfl ?_
      refine lw_goto (t := 1878) gz_0_426 rfl ?_
      exact K h32 I_h32
    ·
      have I_h35 : LInv h35 := ⟨Ln_ag (my_ag.fr w36 rfl) I_h6.pLn, Mw_ag (my_ag.fr w36 rfl) I_h6.pMw, Mw3_ag (my_ag.fr w36 rfl) I_h6.pMw3, Rws_ag (my_ag.fr w36 rfl) I_h6.pRws, Wrd_ag (my_ag.fr w36 rfl) I_h6.pWrd, Ceq_ag (my_ag.fr w36 rfl) I_h6.pCeq, Wd9_ag (my_ag.fr w36 rfl) I_h6.pWd9, Teq_ag (my_ag.fr w36 rfl) I_h6.pTeq, Wnq_ag (my_ag.fr w36 rfl) I_h6.pWnq⟩
      show lwp p l e s m below meth c b D tys sg rho 425 [(3, 0), (2, 0), (2, 151), (2, 203), (0, i), (9, 0), (9, 0)] [(0, 1)] h35 kn
      refine lw_pop gz_0_425 rfl ?_
      refine lw_goto (t := 1878) gz_0_426 rfl ?_
      exact K h35 I_h35
theorem lcase_5 (hL4 : L4 ≤ 4096) (hL : rho 4096 = Int32.ofNat L4) (I : LInv h) (i0 : 0 ≤ i) (i8 : i + 8 ≤ L4) (K : ∀ h' : my_H, LInv h' → lwp p l e s m below meth c b D tys sg rho 1878 [(3, 0), (2, 0), (2, 151), (2, 203), (0, i), (9, 0), (9, 0)] [] h' kn) : lwp p l e s m below meth c b D tys sg rho 429 [(3, 0), (2, 0), (2, 151), (2, 203), (0, i), (9, 0), (9, 0)] [] h kn := by
  refine lw_aload_n gz_0_429 rfl ?_
  refine lw_aload3_n gz_0_430 rfl ?_
  refine lw_iload gz_0_431 rfl ?_
  refine lw_iconst gz_0_433 (by decide) ?_
  refine lw_iadd gz_0_434 ⟨by omega, by omega⟩ ?_
  refine lw_sl gz_0_435 hL4 hL (by omega) (by omega) (fun z1 ez1 pz1 qz1 => ?_)
  refine lw_aload3_n gz_0_436 rfl ?_
  refine lw_iload gz_0_437 rfl ?_
  refine lw_iconst gz_0_439 (by decide) ?_
  refine lw_iadd gz_0_440 ⟨by omega, by omega⟩ ?_
  refine lw_sl gz_0_441 hL4 hL (by omega) (by omega) (fun z2 ez2 pz2 qz2 => ?_)
  refine lw_aload3_n gz_0_442 rfl ?_
  refine lw_iload gz_0_443 rfl ?_
  refine lw_iconst gz_0_445 (by decide) ?_
  refine lw_iadd gz_0_446 ⟨by omega, by omega⟩ ?_
  refine lw_sl gz_0_447 hL4 hL (by omega) (by omega) (fun z3 ez3 pz3 qz3 => ?_)
  refine lw_ifeq (t := 455) gz_0_448 rfl (fun u4 => ?_) (fun u4 => ?_)
  ·
    refine lw_iconst gz_0_455 (by decide) ?_
    refine lw_inv (kz := 2) (as := [(0, 0), (0, z2), (0, z1)]) (r := []) (x := 0) (ls0 := [(2, 0), (0, z1), (0, z2), (0, 0), (9, 0), (9, 0)]) gz_0_456 gm_31 rfl is_0 rd_9 rfl rfl rfl rfl rfl (c_ThroughWindow_once (d := 25) (x1 := z1) (x2 := z2) (x3 := 0) (by omega) (by omega) (fun h5 w6 => ?_) (fun h7 w8 w9 w10 w11 w12 => ?_))
    ·
      have I_h5 : LInv h5 := ⟨Ln_ag (my_ag.fr w6 rfl) I.pLn, Mw_ag (my_ag.fr w6 rfl) I.pMw, Mw3_ag (my_ag.fr w6 rfl) I.pMw3, Rws_ag (my_ag.fr w6 rfl) I.pRws, Wrd_ag (my_ag.fr w6 rfl) I.pWrd, Ceq_ag (my_ag.fr w6 rfl) I.pCeq, Wd9_ag (my_ag.fr w6 rfl) I.pWd9, Teq_ag (my_ag.fr w6 rfl) I.pTeq, Wnq_ag (my_ag.fr w6 rfl) I.pWnq⟩
      show lwp p l e s m below meth c b D tys sg rho 459 [(3, 0), (2, 0), (2, 151), (2, 203), (0, i), (9, 0), (9, 0)] [(0, 0)] h5 kn
      refine lw_pop gz_0_459 rfl ?_
      refine lw_aload_n gz_0_460 rfl ?_
      refine lw_aload3_n gz_0_461 rfl ?_
      refine lw_iload gz_0_462 rfl ?_
      refine lw_iconst gz_0_464 (by decide) ?_
      refine lw_iadd gz_0_465 ⟨by omega, by omega⟩ ?_
      refine lw_sl gz_0_466 hL4 hL (by omega) (by omega) (fun z13 ez13 pz13 qz13 => ?_)
      refine lw_aload3_n gz_0_467 rfl ?_
      refine lw_iload gz_0_468 rfl ?_
      refine lw_iconst gz_0_470 (by decide) ?_
      refine lw_iadd gz_0_471 ⟨by omega, by omega⟩ ?_
      refine lw_sl gz_0_472 hL4 hL (by omega) (by omega) (fun z14 ez14 pz14 qz14 => ?_)
      refine lw_aload3_n gz_0_473 rfl ?_
      refine lw_iload gz_0_474 rfl ?_
      refine lw_iconst gz_0_476 (by decide) ?_
      refine lw_iadd gz_0_477 ⟨by omega, by omega⟩ ?_
      refine lw_sl gz_0_478 hL4 hL (by omega) (by omega) (fun z15 ez15 pz15 qz15 => ?_)
      refine lw_ifeq (t := 486) gz_0_479 rfl (fun u16 => ?_) (fun u16 => ?_)
      ·
        refine lw_iconst gz_0_486 (by decide) ?_
        refine lw_inv (kz := 1) (as := [(0, 0), (0, z14), (0, z13)]) (r := []) (x := 151) (ls0 := [(2, 151), (0, z13), (0, z14), (0, 0), (9, 0)]) gz_0_487 gm_166 rfl is_151 rd_10 rfl rfl rfl rfl rfl (c_Model_once (d := 25) (x1 := z13) (x2 := z14) (x3 := 0) (by omega) (by omega) (fun h17 w18 w19 => ?_) (fun h20 w21 w22 w23 w24 w25 w26 => ?_))
        ·
          have I_h17 : LInv h17 := ⟨Ln_ag (my_ag.fr w18 rfl) I_h5.pLn, Mw_ag (my_ag.fr w18 rfl) I_h5.pMw, Mw3_ag (my_ag.fr w18 rfl) I_h5.pMw3, Rws_ag (my_ag.fr w18 rfl) I_h5.pRws, Wrd_ag (my_ag.fr w18 rfl) I_h5.pWrd, Ceq_ag (my_ag.fr w18 rfl) I_h5.pCeq, Wd9_ag (my_ag.fr w18 rfl) I_h5.pWd9, Teq_ag (my_ag.fr w18 rfl) I_h5.pTeq, Wnq_ag (my_ag.fr w18 rfl) I_h5.pWnq⟩
          show lwp p l e s m below meth c b D tys sg rho 490 [(3, 0), (2, 0), (2, 151), (2, 203), (0, i), (9, 0), (9, 0)] [(0, 0)] h17 kn
          refine lw_pop gz_0_490 rfl ?_
          refine lw_goto (t := 1878) gz_0_491 rfl ?_
          exact K h17 I_h17
        ·
          have I_h20 : LInv h20 := ⟨Ln_ag (my_ag.fr w21 rfl) I_h5.pLn, Mw_ag (my_ag.fr w21 rfl) I_h5.pMw, Mw3_ag (my_ag.fr w21 rfl) I_h5.pMw3, Rws_ag (my_ag.fr w21 rfl) I_h5.pRws, Wrd_ag (my_ag.fr w21 rfl) I_h5.pWrd, Ceq_ag (my_ag.fr w21 rfl) I_h5.pCeq, Wd9_ag (my_ag.fr w21 rfl) I_h5.pWd9, Teq_ag (my_ag.fr w21 rfl) I_h5.pTeq, Wnq_ag (my_ag.fr w21 rfl) I_h5.pWnq⟩
          show lwp p l e s m below meth c b D tys sg rho 490 [(3, 0), (2, 0), (2, 151), (2, 203), (0, i), (9, 0), (9, 0)] [(0, 1)] h20 kn
          refine lw_pop gz_0_490 rfl ?_
          refine lw_goto (t := 1878) gz_0_491 rfl ?_
          exact K h20 I_h20
      ·
        refine lw_iconst gz_0_482 (by decide) ?_
        refine lw_goto (t := 487) gz_0_483 rfl ?_
        refine lw_inv (kz := 1) (as := [(0, 1), (0, z14), (0, z13)]) (r := []) (x := 151) (ls0 := [(2, 151), (0, z13), (0, z14), (0, 1), (9, 0)]) gz_0_487 gm_166 rfl is_151 rd_10 rfl rfl rfl rfl rfl (c_Model_once (d := 25) (x1 := z13) (x2 := z14) (x3 := 1) (by omega) (by omega) (fun h27 w28 w29 => ?_) (fun h30 w31 w32 w33 w34 w35 w36 => ?_))
        ·
          have I_h27 : LInv h27 := ⟨Ln_ag (my_ag.fr w28 rfl) I_h5.pLn, Mw_ag (my_ag.fr w28 rfl) I_h5.pMw, Mw3_ag (my_ag.fr w28 rfl) I_h5.pMw3, Rws_ag (my_ag.fr w28 rfl) I_h5.pRws, Wrd_ag (my_ag.fr w28 rfl) I_h5.pWrd, Ceq_ag (my_ag.fr w28 rfl) I_h5.pCeq, Wd9_ag (my_ag.fr w28 rfl) I_h5.pWd9, Teq_ag (my_ag.fr w28 rfl) I_h5.pTeq, Wnq_ag (my_ag.fr w28 rfl) I_h5.pWnq⟩
          show lwp p l e s m below meth c b D tys sg rho 490 [(3, 0), (2, 0), (2, 151), (2, 203), (0, i), (9, 0), (9, 0)] [(0, 0)] h27 kn
          refine lw_pop gz_0_490 rfl ?_
          refine lw_goto (t := 1878) gz_0_491 rfl ?_
          exact K h27 I_h27
        ·
          have I_h30 : LInv h30 := ⟨Ln_ag (my_ag.fr w31 rfl) I_h5.pLn, Mw_ag (my_ag.fr w31 rfl) I_h5.pMw, Mw3_ag (my_ag.fr w31 rfl) I_h5.pMw3, Rws_ag (my_ag.fr w31 rfl) I_h5.pRws, Wrd_ag (my_ag.fr w31 rfl) I_h5.pWrd, Ceq_ag (my_ag.fr w31 rfl) I_h5.pCeq, Wd9_ag (my_ag.fr w31 rfl) I_h5.pWd9, Teq_ag (my_ag.fr w31 rfl) I_h5.pTeq, Wnq_ag (my_ag.fr w31 rfl) I_h5.pWnq⟩
          show lwp p l e s m below meth c b D tys sg rho 490 [(3, 0), (2, 0), (2, 151), (2, 203), (0, i), (9, 0), (9, 0)] [(0, 1)] h30 kn
          refine lw_pop gz_0_490 rfl ?_
          refine lw_goto (t := 1878) gz_0_491 rfl ?_
          exact K h30 I_h30
    ·
      have I_h7 : LInv h7 := ⟨Ln_ag (my_ag.fr w8 rfl) I.pLn, Mw_ag (my_ag.fr w8 rfl) I.pMw, Mw3_ag (my_ag.fr w8 rfl) I.pMw3, Rws_ag (my_ag.fr w8 rfl) I.pRws, Wrd_ag (my_ag.fr w8 rfl) I.pWrd, Ceq_ag (my_ag.fr w8 rfl) I.pCeq, Wd9_ag (my_ag.fr w8 rfl) I.pWd9, Teq_ag (my_ag.fr w8 rfl) I.pTeq, Wnq_ag (my_ag.fr w8 rfl) I.pWnq⟩
      show lwp p l e s m below meth c b D tys sg rho 459 [(3, 0), (2, 0), (2, 151), (2, 203), (0, i), (9, 0), (9, 0)] [(0, 1)] h7 kn
      refine lw_pop gz_0_459 rfl ?_
      refine lw_aload_n gz_0_460 rfl ?_
      refine lw_aload3_n gz_0_461 rfl ?_
      refine lw_iload gz_0_462 rfl ?_
      refine lw_iconst gz_0_464 (by decide) ?_
      refine lw_iadd gz_0_465 ⟨by omega, by omega⟩ ?_
      refine lw_sl gz_0_466 hL4 hL (by omega) (by omega) (fun z37 ez37 pz37 qz37 => ?_)
      refine lw_aload3_n gz_0_467 rfl ?_
      refine lw_iload gz_0_468 rfl ?_
      refine lw_iconst gz_0_470 (by decide) ?_
      refine lw_iadd gz_0_471 ⟨by omega, by omega⟩ ?_
      refine lw_sl gz_0_472 hL4 hL (by omega) (by omega) (fun z38 ez38 pz38 qz38 => ?_)
      refine lw_aload3_n gz_0_473 rfl ?_
      refine lw_iload gz_0_474 rfl ?_
      refine lw_iconst gz_0_476 (by decide) ?_
      refine lw_iadd gz_0_477 ⟨by omega, by omega⟩ ?_
      refine lw_sl gz_0_478 hL4 hL (by omega) (by omega) (fun z39 ez39 pz39 qz39 => ?_)
      refine lw_ifeq (t := 486) gz_0_479 rfl (fun u40 => ?_) (fun u40 => ?_)
      ·
        refine lw_iconst gz_0_486 (by decide) ?_
        refine lw_inv (kz := 1) (as := [(0, 0), (0, z38), (0, z37)]) (r := []) (x := 151) (ls0 := [(2, 151), (0, z37), (0, z38), (0, 0), (9, 0)]) gz_0_487 gm_166 rfl is_151 rd_10 rfl rfl rfl rfl rfl (c_Model_once (d := 25) (x1 := z37) (x2 := z38) (x3 := 0) (by omega) (by omega) (fun h41 w42 w43 => ?_) (fun h44 w45 w46 w47 w48 w49 w50 => ?_))
        ·
          have I_h41 : LInv h41 := ⟨Ln_ag (my_ag.fr w42 rfl) I_h7.pLn, Mw_ag (my_ag.fr w42 rfl) I_h7.pMw, Mw3_ag (my_ag.fr w42 rfl) I_h7.pMw3, Rws_ag (my_ag.fr w42 rfl) I_h7.pRws, Wrd_ag (my_ag.fr w42 rfl) I_h7.pWrd, Ceq_ag (my_ag.fr w42 rfl) I_h7.pCeq, Wd9_ag (my_ag.fr w42 rfl) I_h7.pWd9, Teq_ag (my_ag.fr w42 rfl) I_h7.pTeq, Wnq_ag (my_ag.fr w42 rfl) I_h7.pWnq⟩
          show lwp p l e s m below meth c b D tys sg rho 490 [(3, 0), (2, 0), (2, 151), (2, 203), (0, i), (9, 0), (9, 0)] [(0, 0)] h41 kn
          refine lw_pop gz_0_490 rfl ?_
          refine lw_goto (t := 1878) gz_0_491 rfl ?_
          exact K h41 I_h41
        ·
          have I_h44 : LInv h44 := ⟨Ln_ag (my_ag.fr w45 rfl) I_h7.pLn, Mw_ag (my_ag.fr w45 rfl) I_h7.pMw, Mw3_ag (my_ag.fr w45 rfl) I_h7.pMw3, Rws_ag (my_ag.fr w45 rfl) I_h7.pRws, Wrd_ag (my_ag.fr w45 rfl) I_h7.pWrd, Ceq_ag (my_ag.fr w45 rfl) I_h7.pCeq, Wd9_ag (my_ag.fr w45 rfl) I_h7.pWd9, Teq_ag (my_ag.fr w45 rfl) I_h7.pTeq, Wnq_ag (my_ag.fr w45 rfl) I_h7.pWnq⟩
          show lwp p l e s m below meth c b D tys sg rho 490 [(3, 0), (2, 0), (2, 151), (2, 203), (0, i), (9, 0), (9, 0)] [(0, 1)] h44 kn
          refine lw_pop gz_0_490 rfl ?_
          refine lw_goto (t := 1878) gz_0_491 rfl ?_
          exact K h44 I_h44
      ·
        refine lw_iconst gz_0_482 (by decide) ?_
        refine lw_goto (t := 487) gz_0_483 rfl ?_
        refine lw_inv (kz := 1) (as := [(0, 1), (0, z38), (0, z37)]) (r := []) (x := 151) (ls0 := [(2, 151), (0, z37), (0, z38), (0, 1), (9, 0)]) gz_0_487 gm_166 rfl is_151 rd_10 rfl rfl rfl rfl rfl (c_Model_once (d := 25) (x1 := z37) (x2 := z38) (x3 := 1) (by omega) (by omega) (fun h51 w52 w53 => ?_) (fun h54 w55 w56 w57 w58 w59 w60 => ?_))
        ·
          have I_h51 : LInv h51 := ⟨Ln_ag (my_ag.fr w52 rfl) I_h7.pLn, Mw_ag (my_ag.fr w52 rfl) I_h7.pMw, Mw3_ag (my_ag.fr w52 rfl) I_h7.pMw3, Rws_ag (my_ag.fr w52 rfl) I_h7.pRws, Wrd_ag (my_ag.fr w52 rfl) I_h7.pWrd, Ceq_ag (my_ag.fr w52 rfl) I_h7.pCeq, Wd9_ag (my_ag.fr w52 rfl) I_h7.pWd9, Teq_ag (my_ag.fr w52 rfl) I_h7.pTeq, Wnq_ag (my_ag.fr w52 rfl) I_h7.pWnq⟩
          show lwp p l e s m below meth c b D tys sg rho 490 [(3, 0), (2, 0), (2, 151), (2, 203), (0, i), (9, 0), (9, 0)] [(0, 0)] h51 kn
          refine lw_pop gz_0_490 rfl ?_
          refine lw_goto (t := 1878) gz_0_491 rfl ?_
          exact K h51 I_h51
        ·
          have I_h54 : LInv h54 := ⟨Ln_ag (my_ag.fr w55 rfl) I_h7.pLn, Mw_ag (my_ag.fr w55 rfl) I_h7.pMw, Mw3_ag (my_ag.fr w55 rfl) I_h7.pMw3, Rws_ag (my_ag.fr w55 rfl) I_h7.pRws, Wrd_ag (my_ag.fr w55 rfl) I_h7.pWrd, Ceq_ag (my_ag.fr w55 rfl) I_h7.pCeq, Wd9_ag (my_ag.fr w55 rfl) I_h7.pWd9, Teq_ag (my_ag.fr w55 rfl) I_h7.pTeq, Wnq_ag (my_ag.fr w55 rfl) I_h7.pWnq⟩
          show lwp p l e s m below meth c b D tys sg rho 490 [(3, 0), (2, 0), (2, 151), (2, 203), (0, i), (9, 0), (9, 0)] [(0, 1)] h54 kn
          refine lw_pop gz_0_490 rfl ?_
          refine lw_goto (t := 1878) gz_0_491 rfl ?_
          exact K h54 I_h54
  ·
    refine lw_iconst gz_0_451 (by decide) ?_
    refine lw_goto (t := 456) gz_0_452 rfl ?_
    refine lw_inv (kz := 2) (as := [(0, 1), (0, z2), (0, z1)]) (r := []) (x := 0) (ls0 := [(2, 0), (0, z1), (0, z2), (0, 1), (9, 0), (9, 0)]) gz_0_456 gm_31 rfl is_0 rd_9 rfl rfl rfl rfl rfl (c_ThroughWindow_once (d := 25) (x1 := z1) (x2 := z2) (x3 := 1) (by omega) (by omega) (fun h61 w62 => ?_) (fun h63 w64 w65 w66 w67 w68 => ?_))
    ·
      have I_h61 : LInv h61 := ⟨Ln_ag (my_ag.fr w62 rfl) I.pLn, Mw_ag (my_ag.fr w62 rfl) I.pMw, Mw3_ag (my_ag.fr w62 rfl) I.pMw3, Rws_ag (my_ag.fr w62 rfl) I.pRws, Wrd_ag (my_ag.fr w62 rfl) I.pWrd, Ceq_ag (my_ag.fr w62 rfl) I.pCeq, Wd9_ag (my_ag.fr w62 rfl) I.pWd9, Teq_ag (my_ag.fr w62 rfl) I.pTeq, Wnq_ag (my_ag.fr w62 rfl) I.pWnq⟩
      show lwp p l e s m below meth c b D tys sg rho 459 [(3, 0), (2, 0), (2, 151), (2, 203), (0, i), (9, 0), (9, 0)] [(0, 0)] h61 kn
      refine lw_pop gz_0_459 rfl ?_
      refine lw_aload_n gz_0_460 rfl ?_
      refine lw_aload3_n gz_0_461 rfl ?_
      refine lw_iload gz_0_462 rfl ?_
      refine lw_iconst gz_0_464 (by decide) ?_
      refine lw_iadd gz_0_465 ⟨by omega, by omega⟩ ?_
      refine lw_sl gz_0_466 hL4 hL (by omega) (by omega) (fun z69 ez69 pz69 qz69 => ?_)
      refine lw_aload3_n gz_0_467 rfl ?_
      refine lw_iload gz_0_468 rfl ?_
      refine lw_iconst gz_0_470 (by decide) ?_
      refine lw_iadd gz_0_471 ⟨by omega, by omega⟩ ?_
      refine lw_sl gz_0_472 hL4 hL (by omega) (by omega) (fun z70 ez70 pz70 qz70 => ?_)
      refine lw_aload3_n gz_0_473 rfl ?_
      refine lw_iload gz_0_474 rfl ?_
      refine lw_iconst gz_0_476 (by decide) ?_
      refine lw_iadd gz_0_477 ⟨by omega, by omega⟩ ?_
      refine lw_sl gz_0_478 hL4 hL (by omega) (by omega) (fun z71 ez71 pz71 qz71 => ?_)
      refine lw_ifeq (t := 486) gz_0_479 rfl (fun u72 => ?_) (fun u72 => ?_)
      ·
        refine lw_iconst gz_0_486 (by decide) ?_
        refine lw_inv (kz := 1) (as := [(0, 0), (0, z70), (0, z69)]) (r := []) (x := 151) (ls0 := [(2, 151), (0, z69), (0, z70), (0, 0), (9, 0)]) gz_0_487 gm_166 rfl is_151 rd_10 rfl rfl rfl rfl rfl (c_Model_once (d := 25) (x1 := z69) (x2 := z70) (x3 := 0) (by omega) (by omega) (fun h73 w74 w75 => ?_) (fun h76 w77 w78 w79 w80 w81 w82 => ?_))
        ·
          have I_h73 : LInv h73 := ⟨Ln_ag (my_ag.fr w74 rfl) I_h61.pLn, Mw_ag (my_ag.fr w74 rfl) I_h61.pMw, Mw3_ag (my_ag.fr w74 rfl) I_h61.pMw3, Rws_ag (my_ag.fr w74 rfl) I_h61.pRws, Wrd_ag (my_ag.fr w74 rfl) I_h61.pWrd, Ceq_ag (my_ag.fr w74 rfl) I_h61.pCeq, Wd9_ag (my_ag.fr w74 rfl) I_h61.pWd9, Teq_ag (my_ag.fr w74 rfl) I_h61.pTeq, Wnq_ag (my_ag.fr w74 rfl) I_h61.pWnq⟩
          show lwp p l e s m below meth c b D tys sg rho 490 [(3, 0), (2, 0), (2, 151), (2, 203), (0, i), (9, 0), (9, 0)] [(0, 0)] h73 kn
          refine lw_pop gz_0_490 rfl ?_
          refine lw_goto (t := 1878) gz_0_491 rfl ?_
          exact K h73 I_h73
        ·
          have I_h76 : LInv h76 := ⟨Ln_ag (my_ag.fr w77 rfl) I_h61.pLn, Mw_ag (my_ag.fr w77 rfl) I_h61.pMw, Mw3_ag (my_ag.fr w77 rfl) I_h61.pMw3, Rws_ag (my_ag.fr w77 rfl) I_h61.pRws, Wrd_ag (my_ag.fr w77 rfl) I_h61.pWrd, Ceq_ag (my_ag.fr w77 rfl) I_h61.pCeq, Wd9_ag (my_ag.fr w77 rfl) I_h61.pWd9, Teq_ag (my_ag.fr w77 rfl) I_h61.pTeq, Wnq_ag (my_ag.fr w77 rfl) I_h61.pWnq⟩
          show lwp p l e s m below meth c b D tys sg rho 490 [(3, 0), (2, 0), (2, 151), (2, 203), (0, i), (9, 0), (9, 0)] [(0, 1)] h76 kn
          refine lw_pop gz_0_490 rfl ?_
          refine lw_goto (t := 1878) gz_0_491 rfl ?_
          exact K h76 I_h76
      ·
        refine lw_iconst gz_0_482 (by decide) ?_
        refine lw_goto (t := 487) gz_0_483 rfl ?_
        refine lw_inv (kz := 1) (as := [(0, 1), (0, z70), (0, z69)]) (r := []) (x := 151) (ls0 := [(2, 151), (0, z69), (0, z70), (0, 1), (9, 0)]) gz_0_487 gm_166 rfl is_151 rd_10 rfl rfl rfl rfl rfl (c_Model_once (d := 25) (x1 := z69) (x2 := z70) (x3 := 1) (by omega) (by omega) (fun h83 w84 w85 => ?_) (fun h86 w87 w88 w89 w90 w91 w92 => ?_))
        ·
          have I_h83 : LInv h83 := ⟨Ln_ag (my_ag.fr w84 rfl) I_h61.pLn, Mw_ag (my_ag.fr w84 rfl) I_h61.pMw, Mw3_ag (my_ag.fr w84 rfl) I_h61.pMw3, Rws_ag (my_ag.fr w84 rfl) I_h61.pRws, Wrd_ag (my_ag.fr w84 rfl) I_h61.pWrd, Ceq_ag (my_ag.fr w84 rfl) I_h61.pCeq, Wd9_ag (my_ag.fr w84 rfl) I_h61.pWd9, Teq_ag (my_ag.fr w84 rfl) I_h61.pTeq, Wnq_ag (my_ag.fr w84 rfl) I_h61.pWnq⟩
          show lwp p l e s m below meth c b D tys sg rho 490 [(3, 0), (2, 0), (2, 151), (2, 203), (0, i), (9, 0), (9, 0)] [(0, 0)] h83 kn
          refine lw_pop gz_0_490 rfl ?_
          refine lw_goto (t := 1878) gz_0_491 rfl ?_
          exact K h83 I_h83
        ·
          have I_h86 : LInv h86 := ⟨Ln_ag (my_ag.fr w87 rfl) I_h61.pLn, Mw_ag (my_ag.fr w87 rfl) I_h61.pMw, Mw3_ag (my_ag.fr w87 rfl) I_h61.pMw3, Rws_ag (my_ag.fr w87 rfl) I_h61.pRws, Wrd_ag (my_ag.fr w87 rfl) I_h61.pWrd, Ceq_ag (my_ag.fr w87 rfl) I_h61.pCeq, Wd9_ag (my_ag.fr w87 rfl) I_h61.pWd9, Teq_ag (my_ag.fr w87 rfl) I_h61.pTeq, Wnq_ag (my_ag.fr w87 rfl) I_h61.pWnq⟩
          show lwp p l e s m below meth c b D tys sg rho 490 [(3, 0), (2, 0), (2, 151), (2, 203), (0, i), (9, 0), (9, 0)] [(0, 1)] h86 kn
          refine lw_pop gz_0_490 rfl ?_
          refine lw_goto (t := 1878) gz_0_491 rfl ?_
          exact K h86 I_h86
    ·
      have I_h63 : LInv h63 := ⟨Ln_ag (my_ag.fr w64 rfl) I.pLn, Mw_ag (my_ag.fr w64 rfl) I.pMw, Mw3_ag (my_ag.fr w64 rfl) I.pMw3, Rws_ag (my_ag.fr w64 rfl) I.pRws, Wrd_ag (my_ag.fr w64 rfl) I.pWrd, Ceq_ag (my_ag.fr w64 rfl) I.pCeq, Wd9_ag (my_ag.fr w64 rfl) I.pWd9, Teq_ag (my_ag.fr w64 rfl) I.pTeq, Wnq_ag (my_ag.fr w64 rfl) I.pWnq⟩
      show lwp p l e s m below meth c b D tys sg rho 459 [(3, 0), (2, 0), (2, 151), (2, 203), (0, i), (9, 0), (9, 0)] [(0, 1)] h63 kn
      refine lw_pop gz_0_459 rfl ?_
      refine lw_aload_n gz_0_460 rfl ?_
      refine lw_aload3_n gz_0_461 rfl ?_
      refine lw_iload gz_0_462 rfl ?_
      refine lw_iconst gz_0_464 (by decide) ?_
      refine lw_iadd gz_0_465 ⟨by omega, by omega⟩ ?_
      refine lw_sl gz_0_466 hL4 hL (by omega) (by omega) (fun z93 ez93 pz93 qz93 => ?_)
      refine lw_aload3_n gz_0_467 rfl ?_
      refine lw_iload gz_0_468 rfl ?_
      refine lw_iconst gz_0_470 (by decide) ?_
      refine lw_iadd gz_0_471 ⟨by omega, by omega⟩ ?_
      refine lw_sl gz_0_472 hL4 hL (by omega) (by omega) (fun z94 ez94 pz94 qz94 => ?_)
      refine lw_aload3_n gz_0_473 rfl ?_
      refine lw_iload gz_0_474 rfl ?_
      refine lw_iconst gz_0_476 (by decide) ?_
      refine lw_iadd gz_0_477 ⟨by omega, by omega⟩ ?_
      refine lw_sl gz_0_478 hL4 hL (by omega) (by omega) (fun z95 ez95 pz95 qz95 => ?_)
      refine lw_ifeq (t := 486) gz_0_479 rfl (fun u96 => ?_) (fun u96 => ?_)
      ·
        refine lw_iconst gz_0_486 (by decide) ?_
        refine lw_inv (kz := 1) (as := [(0, 0), (0, z94), (0, z93)]) (r := []) (x := 151) (ls0 := [(2, 151), (0, z93), (0, z94), (0, 0), (9, 0)]) gz_0_487 gm_166 rfl is_151 rd_10 rfl rfl rfl rfl rfl (c_Model_once (d := 25) (x1 := z93) (x2 := z94) (x3 := 0) (by omega) (by omega) (fun h97 w98 w99 => ?_) (fun h100 w101 w102 w103 w104 w105 w106 => ?_))
        ·
          have I_h97 : LInv h97 := ⟨Ln_ag (my_ag.fr w98 rfl) I_h63.pLn, Mw_ag (my_ag.fr w98 rfl) I_h63.pMw, Mw3_ag (my_ag.fr w98 rfl) I_h63.pMw3, Rws_ag (my_ag.fr w98 rfl) I_h63.pRws, Wrd_ag (my_ag.fr w98 rfl) I_h63.pWrd, Ceq_ag (my_ag.fr w98 rfl) I_h63.pCeq, Wd9_ag (my_ag.fr w98 rfl) I_h63.pWd9, Teq_ag (my_ag.fr w98 rfl) I_h63.pTeq, Wnq_ag (my_ag.fr w98 rfl) I_h63.pWnq⟩
          show lwp p l e s m below meth c b D tys sg rho 490 [(3, 0), (2, 0), (2, 151), (2, 203), (0, i), (9, 0), (9, 0)] [(0, 0)] h97 kn
          refine lw_pop gz_0_490 rfl ?_
          refine lw_goto (t := 1878) gz_0_491 rfl ?_
          exact K h97 I_h97
        ·
          have I_h100 : LInv h100 := ⟨Ln_ag (my_ag.fr w101 rfl) I_h63.pLn, Mw_ag (my_ag.fr w101 rfl) I_h63.pMw, Mw3_ag (my_ag.fr w101 rfl) I_h63.pMw3, Rws_ag (my_ag.fr w101 rfl) I_h63.pRws, Wrd_ag (my_ag.fr w101 rfl) I_h63.pWrd, Ceq_ag (my_ag.fr w101 rfl) I_h63.pCeq, Wd9_ag (my_ag.fr w101 rfl) I_h63.pWd9, Teq_ag (my_ag.fr w101 rfl) I_h63.pTeq, Wnq_ag (my_ag.fr w101 rfl) I_h63.pWnq⟩
          show lwp p l e s m below meth c b D tys sg rho 490 [(3, 0), (2, 0), (2, 151), (2, 203), (0, i), (9, 0), (9, 0)] [(0, 1)] h100 kn
          refine lw_pop gz_0_490 rfl ?_
          refine lw_goto (t := 1878) gz_0_491 rfl ?_
          exact K h100 I_h100
      ·
        refine lw_iconst gz_0_482 (by decide) ?_
        refine lw_goto (t := 487) gz_0_483 rfl ?_
        refine lw_inv (kz := 1) (as := [(0, 1), (0, z94), (0, z93)]) (r := []) (x := 151) (ls0 := [(2, 151), (0, z93), (0, z94), (0, 1), (9, 0)]) gz_0_487 gm_166 rfl is_151 rd_10 rfl rfl rfl rfl rfl (c_Model_once (d := 25) (x1 := z93) (x2 := z94) (x3 := 1) (by omega) (by omega) (fun h107 w108 w109 => ?_) (fun h110 w111 w112 w113 w114 w115 w116 => ?_))
        ·
          have I_h107 : LInv h107 := ⟨Ln_ag (my_ag.fr w108 rfl) I_h63.pLn, Mw_ag (my_ag.fr w108 rfl) I_h63.pMw, Mw3_ag (my_ag.fr w108 rfl) I_h63.pMw3, Rws_ag (my_ag.fr w108 rfl) I_h63.pRws, Wrd_ag (my_ag.fr w108 rfl) I_h63.pWrd, Ceq_ag (my_ag.fr w108 rfl) I_h63.pCeq, Wd9_ag (my_ag.fr w108 rfl) I_h63.pWd9, Teq_ag (my_ag.fr w108 rfl) I_h63.pTeq, Wnq_ag (my_ag.fr w108 rfl) I_h63.pWnq⟩
          show lwp p l e s m below meth c b D tys sg rho 490 [(3, 0), (2, 0), (2, 151), (2, 203), (0, i), (9, 0), (9, 0)] [(0, 0)] h107 kn
          refine lw_pop gz_0_490 rfl ?_
          refine lw_goto (t := 1878) gz_0_491 rfl ?_
          exact K h107 I_h107
        ·
          have I_h110 : LInv h110 := ⟨Ln_ag (my_ag.fr w111 rfl) I_h63.pLn, Mw_ag (my_ag.fr w111 rfl) I_h63.pMw, Mw3_ag (my_ag.fr w111 rfl) I_h63.pMw3, Rws_ag (my_ag.fr w111 rfl) I_h63.pRws, Wrd_ag (my_ag.fr w111 rfl) I_h63.pWrd, Ceq_ag (my_ag.fr w111 rfl) I_h63.pCeq, Wd9_ag (my_ag.fr w111 rfl) I_h63.pWd9, Teq_ag (my_ag.fr w111 rfl) I_h63.pTeq, Wnq_ag (my_ag.fr w111 rfl) I_h63.pWnq⟩
          show lwp p l e s m below meth c b D tys sg rho 490 [(3, 0), (2, 0), (2, 151), (2, 203), (0, i), (9, 0), (9, 0)] [(0, 1)] h110 kn
          refine lw_pop gz_0_490 rfl ?_
          refine lw_goto (t := 1878) gz_0_491 rfl ?_
          exact K h110 I_h110
theorem lcase_6 (hL4 : L4 ≤ 4096) (hL : rho 4096 = Int32.ofNat L4) (I : LInv h) (i0 : 0 ≤ i) (i8 : i + 8 ≤ L4) (K : ∀ h' : my_H, LInv h' → lwp p l e s m below meth c b D tys sg rho 1878 [(3, 0), (2, 0), (2, 151), (2, 203), (0, i), (9, 0), (9, 0)] [] h' kn) : lwp p l e s m below meth c b D tys sg rho 494 [(3, 0), (2, 0), (2, 151), (2, 203), (0, i), (9, 0), (9, 0)] [] h kn := by
  refine lw_aload_n gz_0_494 rfl ?_
  refine lw_aload3_n gz_0_495 rfl ?_
  refine lw_iload gz_0_496 rfl ?_
  refine lw_iconst gz_0_498 (by decide) ?_
  refine lw_iadd gz_0_499 ⟨by omega, by omega⟩ ?_
  refine lw_sl gz_0_500 hL4 hL (by omega) (by omega) (fun z1 ez1 pz1 qz1 => ?_)
  refine lw_i2l gz_0_501 ?_
  refine lw_bipush gz_0_502 (by decide) ?_
  refine lw_jshfE gz_0_504 (fun _ => rfl) rfl (fun z2 ez2 pz2 => ?_)
  refine lw_aload3_n gz_0_505 rfl ?_
  refine lw_iload gz_0_506 rfl ?_
  refine lw_iconst gz_0_508 (by decide) ?_
  refine lw_iadd gz_0_509 ⟨by omega, by omega⟩ ?_
  refine lw_sl gz_0_510 hL4 hL (by omega) (by omega) (fun z3 ez3 pz3 qz3 => ?_)
  refine lw_i2l gz_0_511 ?_
  refine lw_ldc2E gz_0_512 (fun z4 ez4 pz4 => ?_)
  refine lw_jany2E gz_0_515 (fun _ => rfl) rfl (fun z5 ez5 pz5 => ?_)
  refine lw_jany2E gz_0_516 (fun _ => rfl) rfl (fun z6 ez6 pz6 => ?_)
  refine lw_aload3_n gz_0_517 rfl ?_
  refine lw_iload gz_0_518 rfl ?_
  refine lw_iconst gz_0_520 (by decide) ?_
  refine lw_iadd gz_0_521 ⟨by omega, by omega⟩ ?_
  refine lw_sl gz_0_522 hL4 hL (by omega) (by omega) (fun z7 ez7 pz7 qz7 => ?_)
  refine lw_i2l gz_0_523 ?_
  refine lw_bipush gz_0_524 (by decide) ?_
  refine lw_jshfE gz_0_526 (fun _ => rfl) rfl (fun z8 ez8 pz8 => ?_)
  refine lw_aload3_n gz_0_527 rfl ?_
  refine lw_iload gz_0_528 rfl ?_
  refine lw_iconst gz_0_530 (by decide) ?_
  refine lw_iadd gz_0_531 ⟨by omega, by omega⟩ ?_
  refine lw_sl gz_0_532 hL4 hL (by omega) (by omega) (fun z9 ez9 pz9 qz9 => ?_)
  refine lw_i2l gz_0_533 ?_
  refine lw_ldc2E gz_0_534 (fun z10 ez10 pz10 => ?_)
  refine lw_jany2E gz_0_537 (fun _ => rfl) rfl (fun z11 ez11 pz11 => ?_)
  refine lw_jany2E gz_0_538 (fun _ => rfl) rfl (fun z12 ez12 pz12 => ?_)
  refine lw_aload3_n gz_0_539 rfl ?_
  refine lw_iload gz_0_540 rfl ?_
  refine lw_iconst gz_0_542 (by decide) ?_
  refine lw_iadd gz_0_543 ⟨by omega, by omega⟩ ?_
  refine lw_sl gz_0_544 hL4 hL (by omega) (by omega) (fun z13 ez13 pz13 qz13 => ?_)
  refine lw_i2l gz_0_545 ?_
  refine lw_bipush gz_0_546 (by decide) ?_
  refine lw_jshfE gz_0_548 (fun _ => rfl) rfl (fun z14 ez14 pz14 => ?_)
  refine lw_aload3_n gz_0_549 rfl ?_
  refine lw_iload gz_0_550 rfl ?_
  refine lw_bipush gz_0_552 (by decide) ?_
  refine lw_iadd gz_0_554 ⟨by omega, by omega⟩ ?_
  refine lw_sl gz_0_555 hL4 hL (by omega) (by omega) (fun z15 ez15 pz15 qz15 => ?_)
  refine lw_i2l gz_0_556 ?_
  refine lw_ldc2E gz_0_557 (fun z16 ez16 pz16 => ?_)
  refine lw_jany2E gz_0_560 (fun _ => rfl) rfl (fun z17 ez17 pz17 => ?_)
  refine lw_jany2E gz_0_561 (fun _ => rfl) rfl (fun z18 ez18 pz18 => ?_)
  refine lw_inv (kz := 0) (as := [(1, z18), (1, z12), (1, z6)]) (r := []) (x := 0) (ls0 := [(2, 0), (1, z6), (9, 0), (1, z12), (9, 0), (1, z18), (9, 0)]) gz_0_562 gm_32 rfl is_0 rd_9 rfl rfl rfl rfl rfl (c_ThroughWindow_feed9 (d := 28) (x1 := z6) (x2 := z12) (x3 := z18)  (fun h19 y20 w21 w22 w23 => ?_))
  have J_h19 : LBas h19 := ⟨Ln_ag (my_ag.fr w21 rfl) I.pLn, Mw_ag (my_ag.fr w21 rfl) I.pMw, Mw3_ag (my_ag.fr w21 rfl) I.pMw3, Rws_ag (my_ag.fr w21 rfl) I.pRws, Wrd_ag (my_ag.fr w21 rfl) I.pWrd⟩
  show lwp p l e s m below meth c b D tys sg rho 565 [(3, 0), (2, 0), (2, 151), (2, 203), (0, i), (9, 0), (9, 0)] [(0, y20)] h19 kn
  refine lw_pop gz_0_565 rfl ?_
  refine lw_aload_n gz_0_566 rfl ?_
  refine lw_aload3_n gz_0_567 rfl ?_
  refine lw_iload gz_0_568 rfl ?_
  refine lw_iconst gz_0_570 (by decide) ?_
  refine lw_iadd gz_0_571 ⟨by omega, by omega⟩ ?_
  refine lw_sl gz_0_572 hL4 hL (by omega) (by omega) (fun z24 ez24 pz24 qz24 => ?_)
  refine lw_i2l gz_0_573 ?_
  refine lw_bipush gz_0_574 (by decide) ?_
  refine lw_jshfE gz_0_576 (fun _ => rfl) rfl (fun z25 ez25 pz25 => ?_)
  refine lw_aload3_n gz_0_577 rfl ?_
  refine lw_iload gz_0_578 rfl ?_
  refine lw_iconst gz_0_580 (by decide) ?_
  refine lw_iadd gz_0_581 ⟨by omega, by omega⟩ ?_
  refine lw_sl gz_0_582 hL4 hL (by omega) (by omega) (fun z26 ez26 pz26 qz26 => ?_)
  refine lw_i2l gz_0_583 ?_
  refine lw_ldc2E gz_0_584 (fun z27 ez27 pz27 => ?_)
  refine lw_jany2E gz_0_587 (fun _ => rfl) rfl (fun z28 ez28 pz28 => ?_)
  refine lw_jany2E gz_0_588 (fun _ => rfl) rfl (fun z29 ez29 pz29 => ?_)
  refine lw_aload3_n gz_0_589 rfl ?_
  refine lw_iload gz_0_590 rfl ?_
  refine lw_iconst gz_0_592 (by decide) ?_
  refine lw_iadd gz_0_593 ⟨by omega, by omega⟩ ?_
  refine lw_sl gz_0_594 hL4 hL (by omega) (by omega) (fun z30 ez30 pz30 qz30 => ?_)
  refine lw_i2l gz_0_595 ?_
  refine lw_bipush gz_0_596 (by decide) ?_
  refine lw_jshfE gz_0_598 (fun _ => rfl) rfl (fun z31 ez31 pz31 => ?_)
  refine lw_aload3_n gz_0_599 rfl ?_
  refine lw_iload gz_0_600 rfl ?_
  refine lw_iconst gz_0_602 (by decide) ?_
  refine lw_iadd gz_0_603 ⟨by omega, by omega⟩ ?_
  refine lw_sl gz_0_604 hL4 hL (by omega) (by omega) (fun z32 ez32 pz32 qz32 => ?_)
  refine lw_i2l gz_0_605 ?_
  refine lw_ldc2E gz_0_606 (fun z33 ez33 pz33 => ?_)
  refine lw_jany2E gz_0_609 (fun _ => rfl) rfl (fun z34 ez34 pz34 => ?_)
  refine lw_jany2E gz_0_610 (fun _ => rfl) rfl (fun z35 ez35 pz35 => ?_)
  refine lw_aload3_n gz_0_611 rfl ?_
  refine lw_iload gz_0_612 rfl ?_
  refine lw_iconst gz_0_614 (by decide) ?_
  refine lw_iadd gz_0_615 ⟨by omega, by omega⟩ ?_
  refine lw_sl gz_0_616 hL4 hL (by omega) (by omega) (fun z36 ez36 pz36 qz36 => ?_)
  refine lw_i2l gz_0_617 ?_
  refine lw_bipush gz_0_618 (by decide) ?_
  refine lw_jshfE gz_0_620 (fun _ => rfl) rfl (fun z37 ez37 pz37 => ?_)
  refine lw_aload3_n gz_0_621 rfl ?_
  refine lw_iload gz_0_622 rfl ?_
  refine lw_bipush gz_0_624 (by decide) ?_
  refine lw_iadd gz_0_626 ⟨by omega, by omega⟩ ?_
  refine lw_sl gz_0_627 hL4 hL (by omega) (by omega) (fun z38 ez38 pz38 qz38 => ?_)
  refine lw_i2l gz_0_628 ?_
  refine lw_ldc2E gz_0_629 (fun z39 ez39 pz39 => ?_)
  refine lw_jany2E gz_0_632 (fun _ => rfl) rfl (fun z40 ez40 pz40 => ?_)
  refine lw_jany2E gz_0_633 (fun _ => rfl) rfl (fun z41 ez41 pz41 => ?_)
  refine lw_inv (kz := 0) (as := [(1, z41), (1, z35), (1, z29)]) (r := []) (x := 151) (ls0 := [(2, 151), (1, z29), (9, 0), (1, z35), (9, 0), (1, z41), (9, 0)]) gz_0_634 gm_143 rfl is_151 rd_10 rfl rfl rfl rfl rfl (c_Model_feed9 (d := 28) (x1 := z29) (x2 := z35) (x3 := z41)  (fun h42 y43 w44 w45 w46 => ?_))
  have q1 : z29 = z6 := by subst_vars; rfl
  have q2 : z35 = z12 := by subst_vars; rfl
  have q3 : z41 = z18 := by subst_vars; rfl
  have e1 : tm_of h19 = tm_of h := Prod.ext (funext (fun j => my_fr.at w21 is_152 rfl)) (my_fr.at w21 is_151 rfl)
  have e2 : tp_of h42 = tp_of h19 := tp_eq (fun j => my_fr.at w44 is_92 rfl) (my_fr.at w44 is_82 rfl)
  have e3 : Teq h42 := by
    unfold Teq
    rw [e2, w22, w45, e1, q1, q2, q3, show tp_of h = tm_of h from I.pTeq]
  have I_h42 : LInv h42 := ⟨Ln_ag (my_ag.fr w44 rfl) J_h19.pLn, Mw_ag (my_ag.fr w44 rfl) J_h19.pMw, Mw3_ag (my_ag.fr w44 rfl) J_h19.pMw3, Rws_ag (my_ag.fr w44 rfl) J_h19.pRws, Wrd_ag (my_ag.fr w44 rfl) J_h19.pWrd, Ceq_ag (my_ag.fr w44 rfl) (Ceq_ag (my_ag.fr w21 rfl) I.pCeq), Wd9_ag (my_ag.fr w44 rfl) (Wd9_ag (my_ag.fr w21 rfl) I.pWd9), e3, Wnq_ag (my_ag.fr w44 rfl) (Wnq_ag (my_ag.fr w21 rfl) I.pWnq)⟩
  show lwp p l e s m below meth c b D tys sg rho 637 [(3, 0), (2, 0), (2, 151), (2, 203), (0, i), (9, 0), (9, 0)] [(0, y43)] h42 kn
  refine lw_pop gz_0_637 rfl ?_
  refine lw_goto (t := 1878) gz_0_638 rfl ?_
  exact K h42 I_h42
theorem lcase_7 (hL4 : L4 ≤ 4096) (hL : rho 4096 = Int32.ofNat L4) (I : LInv h) (i0 : 0 ≤ i) (i8 : i + 8 ≤ L4) (K : ∀ h' : my_H, LInv h' → lwp p l e s m below meth c b D tys sg rho 1878 [(3, 0), (2, 0), (2, 151), (2, 203), (0, i), (9, 0), (9, 0)] [] h' kn) : lwp p l e s m below meth c b D tys sg rho 641 [(3, 0), (2, 0), (2, 151), (2, 203), (0, i), (9, 0), (9, 0)] [] h kn := by
  refine lw_aload_n gz_0_641 rfl ?_
  refine lw_aload3_n gz_0_642 rfl ?_
  refine lw_iload gz_0_643 rfl ?_
  refine lw_iconst gz_0_645 (by decide) ?_
  refine lw_iadd gz_0_646 ⟨by omega, by omega⟩ ?_
  refine lw_sl gz_0_647 hL4 hL (by omega) (by omega) (fun z1 ez1 pz1 qz1 => ?_)
  refine lw_inv (kz := 0) (as := [(0, z1)]) (r := []) (x := 0) (ls0 := [(2, 0), (0, z1)]) gz_0_648 gm_34 rfl is_0 rd_9 rfl rfl rfl rfl rfl (c_ThroughWindow_window9 (d := 20) (x1 := z1) I.pLn (fun h2 w3 w4 w5 w6 w7 => ?_) (fun h8 w9 w10 w11 w12 w13 w14 w15 => ?_) (fun h16 y17 w18 w19 w20 w21 w22 w23 w24 w25 w26 w27 => ?_))
  ·
    have J_h2 : LBas h2 := ⟨w7, Mw_ag (my_ag.fr w3 rfl) I.pMw, Mw3_ag (my_ag.fr w3 rfl) I.pMw3, Rws_ag (my_ag.fr w3 rfl) I.pRws, Wrd_ag (my_ag.fr w3 rfl) I.pWrd⟩
    have jW : Wd9 h2 := Wd9_ag (my_ag.fr w3 rfl) I.pWd9
    show lwp p l e s m below meth c b D tys sg rho 651 [(3, 0), (2, 0), (2, 151), (2, 203), (0, i), (9, 0), (9, 0)] [(0, (-1))] h2 kn
    refine lw_pop gz_0_651 rfl ?_
    refine lw_aload_n gz_0_652 rfl ?_
    refine lw_aload3_n gz_0_653 rfl ?_
    refine lw_iload gz_0_654 rfl ?_
    refine lw_iconst gz_0_656 (by decide) ?_
    refine lw_iadd gz_0_657 ⟨by omega, by omega⟩ ?_
    refine lw_sl gz_0_658 hL4 hL (by omega) (by omega) (fun z28 ez28 pz28 qz28 => ?_)
    refine lw_inv (kz := 2) (as := [(0, z28)]) (r := []) (x := 151) (ls0 := [(2, 151), (0, z28), (9, 0), (9, 0)]) gz_0_659 gm_168 rfl is_151 rd_10 rfl rfl rfl rfl rfl (c_Model_window9 (d := 24) (x1 := z28) J_h2.pMw J_h2.pMw3 J_h2.pWrd jW (fun h29 w30 w31 w32 w33 w34 w35 w36 w37 w38 w39 => ?_) (fun h40 y41 w42 w43 w44 w45 w46 w47 w48 w49 w50 w51 w52 w53 w54 w55 w56 w57 w58 => ?_) (fun h59 w60 w61 w62 w63 w64 w65 w66 w67 w68 w69 w70 w71 => ?_))
    ·
      have qz : z28 = z1 := ez28.trans ez1.symm
      have e157 : ∀ j : Int, h2 157 j = h 157 j := fun j => my_fr.at w3 is_157 rfl
      have e164 : ∀ j : Int, h2 164 j = h 164 j := fun j => my_fr.at w3 is_164 rfl
      have e165 : ∀ j : Int, h2 165 j = h 165 j := fun j => my_fr.at w3 is_165 rfl
      have e166 : ∀ j : Int, h2 166 j = h 166 j := fun j => my_fr.at w3 is_166 rfl
      have et : tm_of h2 = tm_of h := Prod.ext (funext (fun j => my_fr.at w3 is_152 rfl)) (my_fr.at w3 is_151 rfl)
      have I_h29 : LInv h29 := ⟨Ln_ag (my_ag.fr w30 rfl) J_h2.pLn, w36, w37, Rws_ag (my_ag.fr w30 rfl) J_h2.pRws, w38, Ceq_ag (my_ag.fr w30 rfl) (Ceq_ag (my_ag.fr w3 rfl) I.pCeq), w39, Teq_0 I.pTeq (fun j => (my_fr.at w30 is_92 rfl).trans (my_fr.at w3 is_92 rfl)) (fun j => (my_fr.at w30 is_152 rfl).trans (my_fr.at w3 is_152 rfl)) ((my_fr.at w30 is_82 rfl).trans w5) w32, Wnq_ko w34 w35 (my_ag.fr w30 rfl) (Wnq_lo w6 (my_ag.fr w3 rfl) I.pWnq)⟩
      show lwp p l e s m below meth c b D tys sg rho 662 [(3, 0), (2, 0), (2, 151), (2, 203), (0, i), (9, 0), (9, 0)] [(0, (-1))] h29 kn
      refine lw_pop gz_0_662 rfl ?_
      refine lw_goto (t := 1878) gz_0_663 rfl ?_
      exact K h29 I_h29
    ·
      have qz : z28 = z1 := ez28.trans ez1.symm
      have e157 : ∀ j : Int, h2 157 j = h 157 j := fun j => my_fr.at w3 is_157 rfl
      have e164 : ∀ j : Int, h2 164 j = h 164 j := fun j => my_fr.at w3 is_164 rfl
      have e165 : ∀ j : Int, h2 165 j = h 165 j := fun j => my_fr.at w3 is_165 rfl
      have e166 : ∀ j : Int, h2 166 j = h 166 j := fun j => my_fr.at w3 is_166 rfl
      exfalso
      have nuM := w51
      rw [qz] at nuM
      rcases w4 with q | q
      · omega
      · obtain ⟨k, a, b, c, d, e⟩ := (under_eq (w := z1) I.pWnq e164 e165 e166 (by omega)).mp q
        exact nuM k a b c d e
    ·
      have qz : z28 = z1 := ez28.trans ez1.symm
      have e157 : ∀ j : Int, h2 157 j = h 157 j := fun j => my_fr.at w3 is_157 rfl
      have e164 : ∀ j : Int, h2 164 j = h 164 j := fun j => my_fr.at w3 is_164 rfl
      have e165 : ∀ j : Int, h2 165 j = h 165 j := fun j => my_fr.at w3 is_165 rfl
      have e166 : ∀ j : Int, h2 166 j = h 166 j := fun j => my_fr.at w3 is_166 rfl
      exfalso
      obtain ⟨g9, n9, -, -, -, -, -, -, -, nuM, -⟩ := w66
      rw [qz] at nuM
      rcases w4 with q | q
      · omega
      · obtain ⟨k, a, b, c, d, e⟩ := (under_eq (w := z1) I.pWnq e164 e165 e166 (by omega)).mp q
        exact nuM k a b c d e
  ·
    have J_h8 : LBas h8 := ⟨w15, Mw_ag (my_ag.fr w9 rfl) I.pMw, Mw3_ag (my_ag.fr w9 rfl) I.pMw3, Rws_ag (my_ag.fr w9 rfl) I.pRws, Wrd_ag (my_ag.fr w9 rfl) I.pWrd⟩
    have jW : Wd9 h8 := Wd9_ag (my_ag.fr w9 rfl) I.pWd9
    show lwp p l e s m below meth c b D tys sg rho 651 [(3, 0), (2, 0), (2, 151), (2, 203), (0, i), (9, 0), (9, 0)] [(0, 0)] h8 kn
    refine lw_pop gz_0_651 rfl ?_
    refine lw_aload_n gz_0_652 rfl ?_
    refine lw_aload3_n gz_0_653 rfl ?_
    refine lw_iload gz_0_654 rfl ?_
    refine lw_iconst gz_0_656 (by decide) ?_
    refine lw_iadd gz_0_657 ⟨by omega, by omega⟩ ?_
    refine lw_sl gz_0_658 hL4 hL (by omega) (by omega) (fun z72 ez72 pz72 qz72 => ?_)
    refine lw_inv (kz := 2) (as := [(0, z72)]) (r := []) (x := 151) (ls0 := [(2, 151), (0, z72), (9, 0), (9, 0)]) gz_0_659 gm_168 rfl is_151 rd_10 rfl rfl rfl rfl rfl (c_Model_window9 (d := 24) (x1 := z72) J_h8.pMw J_h8.pMw3 J_h8.pWrd jW (fun h73 w74 w75 w76 w77 w78 w79 w80 w81 w82 w83 => ?_) (fun h84 y85 w86 w87 w88 w89 w90 w91 w92 w93 w94 w95 w96 w97 w98 w99 w100 w101 w102 => ?_) (fun h103 w104 w105 w106 w107 w108 w109 w110 w111 w112 w113 w114 w115 => ?_))
    ·
      have qz : z72 = z1 := ez72.trans ez1.symm
      have e157 : ∀ j : Int, h8 157 j = h 157 j := fun j => my_fr.at w9 is_157 rfl
      have e164 : ∀ j : Int, h8 164 j = h 164 j := fun j => my_fr.at w9 is_164 rfl
      have e165 : ∀ j : Int, h8 165 j = h 165 j := fun j => my_fr.at w9 is_165 rfl
      have e166 : ∀ j : Int, h8 166 j = h 166 j := fun j => my_fr.at w9 is_166 rfl
      exfalso
      rw [qz] at w77
      rcases w77 with q | q
      · omega
      · obtain ⟨v, a, b, c, d⟩ := (under_eq (w := z1) I.pWnq e164 e165 e166 (by omega)).mpr q
        exact w12 v a b c d
    ·
      have qz : z72 = z1 := ez72.trans ez1.symm
      have e157 : ∀ j : Int, h8 157 j = h 157 j := fun j => my_fr.at w9 is_157 rfl
      have e164 : ∀ j : Int, h8 164 j = h 164 j := fun j => my_fr.at w9 is_164 rfl
      have e165 : ∀ j : Int, h8 165 j = h 165 j := fun j => my_fr.at w9 is_165 rfl
      have e166 : ∀ j : Int, h8 166 j = h 166 j := fun j => my_fr.at w9 is_166 rfl
      have et : tm_of h8 = tm_of h := Prod.ext (funext (fun j => my_fr.at w9 is_152 rfl)) (my_fr.at w9 is_151 rfl)
      obtain ⟨m1, m2⟩ := MwW_1 (my_ag.fr w9 rfl) I.pWnq
      obtain ⟨c8, b8, o8, pc, nl⟩ := w13
      obtain ⟨n9, nn9, mt9, rm9⟩ := w96
      obtain ⟨c9, b9, o9, pm⟩ := rm9 _ _ m1 m2
      rw [qz] at pm
      have re := read_eq w11 I.pCeq I.pTeq I.pWnq e157 e164 et mt9 pc pm
      exfalso; omega
    ·
      have qz : z72 = z1 := ez72.trans ez1.symm
      have e157 : ∀ j : Int, h8 157 j = h 157 j := fun j => my_fr.at w9 is_157 rfl
      have e164 : ∀ j : Int, h8 164 j = h 164 j := fun j => my_fr.at w9 is_164 rfl
      have e165 : ∀ j : Int, h8 165 j = h 165 j := fun j => my_fr.at w9 is_165 rfl
      have e166 : ∀ j : Int, h8 166 j = h 166 j := fun j => my_fr.at w9 is_166 rfl
      have et : tm_of h8 = tm_of h := Prod.ext (funext (fun j => my_fr.at w9 is_152 rfl)) (my_fr.at w9 is_151 rfl)
      obtain ⟨m1, m2⟩ := MwW_1 (my_ag.fr w9 rfl) I.pWnq
      obtain ⟨c8, b8, o8, pc, nl⟩ := w13
      obtain ⟨g9, n9, kf9, mq9, ko9, e9, bs9, nn9, mt9, nuM, rm9⟩ := w110
      have pm := rm9 _ _ m1 m2
      rw [qz] at pm
      have re := read_eq w11 I.pCeq I.pTeq I.pWnq e157 e164 et mt9 pc pm
      rw [qz] at kf9 mq9 nuM
      obtain ⟨rc, rb, ro⟩ := re.2.2 rfl
      have I_h103 : LInv h103 := ⟨Ln_ag (my_ag.fr w104 rfl) J_h8.pLn, w112, w113, Rws_ag (my_ag.fr w104 rfl) J_h8.pRws, w114, Ceq_ag (my_ag.fr w104 rfl) (Ceq_ag (my_ag.fr w9 rfl) I.pCeq), w115, Teq_0 I.pTeq (fun j => (my_fr.at w104 is_92 rfl).trans (my_fr.at w9 is_92 rfl)) (fun j => (my_fr.at w104 is_152 rfl).trans (my_fr.at w9 is_152 rfl)) ((my_fr.at w104 is_82 rfl).trans w14) w108, Wnq_new I.pWnq w15 (by omega) (by omega) nl nuM (my_ag.fr w9 rfl) w111 kf9 mq9 ko9 e9 (my_ag.fr w104 rfl) rc rb ro bs9⟩
      show lwp p l e s m below meth c b D tys sg rho 662 [(3, 0), (2, 0), (2, 151), (2, 203), (0, i), (9, 0), (9, 0)] [(0, 0)] h103 kn
      refine lw_pop gz_0_662 rfl ?_
      refine lw_goto (t := 1878) gz_0_663 rfl ?_
      exact K h103 I_h103
  ·
    have J_h16 : LBas h16 := ⟨w27, Mw_ag (my_ag.fr w18 rfl) I.pMw, Mw3_ag (my_ag.fr w18 rfl) I.pMw3, Rws_ag (my_ag.fr w18 rfl) I.pRws, Wrd_ag (my_ag.fr w18 rfl) I.pWrd⟩
    have jW : Wd9 h16 := Wd9_ag (my_ag.fr w18 rfl) I.pWd9
    show lwp p l e s m below meth c b D tys sg rho 651 [(3, 0), (2, 0), (2, 151), (2, 203), (0, i), (9, 0), (9, 0)] [(0, y17)] h16 kn
    refine lw_pop gz_0_651 rfl ?_
    refine lw_aload_n gz_0_652 rfl ?_
    refine lw_aload3_n gz_0_653 rfl ?_
    refine lw_iload gz_0_654 rfl ?_
    refine lw_iconst gz_0_656 (by decide) ?_
    refine lw_iadd gz_0_657 ⟨by omega, by omega⟩ ?_
    refine lw_sl gz_0_658 hL4 hL (by omega) (by omega) (fun z116 ez116 pz116 qz116 => ?_)
    refine lw_inv (kz := 2) (as := [(0, z116)]) (r := []) (x := 151) (ls0 := [(2, 151), (0, z116), (9, 0), (9, 0)]) gz_0_659 gm_168 rfl is_151 rd_10 rfl rfl rfl rfl rfl (c_Model_window9 (d := 24) (x1 := z116) J_h16.pMw J_h16.pMw3 J_h16.pWrd jW (fun h117 w118 w119 w120 w121 w122 w123 w124 w125 w126 w127 => ?_) (fun h128 y129 w130 w131 w132 w133 w134 w135 w136 w137 w138 w139 w140 w141 w142 w143 w144 w145 w146 => ?_) (fun h147 w148 w149 w150 w151 w152 w153 w154 w155 w156 w157 w158 w159 => ?_))
    ·
      have qz : z116 = z1 := ez116.trans ez1.symm
      have e157 : ∀ j : Int, h16 157 j = h 157 j := fun j => my_fr.at w18 is_157 rfl
      have e164 : ∀ j : Int, h16 164 j = h 164 j := fun j => my_fr.at w18 is_164 rfl
      have e165 : ∀ j : Int, h16 165 j = h 165 j := fun j => my_fr.at w18 is_165 rfl
      have e166 : ∀ j : Int, h16 166 j = h 166 j := fun j => my_fr.at w18 is_166 rfl
      exfalso
      rw [qz] at w121
      rcases w121 with q | q
      · omega
      · obtain ⟨v, a, b, c, d⟩ := (under_eq (w := z1) I.pWnq e164 e165 e166 (by omega)).mpr q
        exact w23 v a b c d
    ·
      have qz : z116 = z1 := ez116.trans ez1.symm
      have e157 : ∀ j : Int, h16 157 j = h 157 j := fun j => my_fr.at w18 is_157 rfl
      have e164 : ∀ j : Int, h16 164 j = h 164 j := fun j => my_fr.at w18 is_164 rfl
      have e165 : ∀ j : Int, h16 165 j = h 165 j := fun j => my_fr.at w18 is_165 rfl
      have e166 : ∀ j : Int, h16 166 j = h 166 j := fun j => my_fr.at w18 is_166 rfl
      have et : tm_of h16 = tm_of h := Prod.ext (funext (fun j => my_fr.at w18 is_152 rfl)) (my_fr.at w18 is_151 rfl)
      obtain ⟨m1, m2⟩ := MwW_1 (my_ag.fr w18 rfl) I.pWnq
      obtain ⟨c8, b8, o8, pc⟩ := w24
      obtain ⟨n9, nn9, mt9, rm9⟩ := w140
      obtain ⟨c9, b9, o9, pm⟩ := rm9 _ _ m1 m2
      rw [qz] at pm
      have re := read_eq w22 I.pCeq I.pTeq I.pWnq e157 e164 et mt9 pc pm
      have yq := re.1
      have I_h128 : LInv h128 := ⟨Ln_ag (my_ag.fr w130 rfl) J_h16.pLn, w143, w144, Rws_ag (my_ag.fr w130 rfl) J_h16.pRws, w145, Ceq_ag (my_ag.fr w130 rfl) (Ceq_ag (my_ag.fr w18 rfl) I.pCeq), w146, Teq_0 I.pTeq (fun j => (my_fr.at w130 is_92 rfl).trans (my_fr.at w18 is_92 rfl)) (fun j => (my_fr.at w130 is_152 rfl).trans (my_fr.at w18 is_152 rfl)) ((my_fr.at w130 is_82 rfl).trans w25) w136, Wnq_ko w141 w142 (my_ag.fr w130 rfl) (Wnq_lo w26 (my_ag.fr w18 rfl) I.pWnq)⟩
      show lwp p l e s m below meth c b D tys sg rho 662 [(3, 0), (2, 0), (2, 151), (2, 203), (0, i), (9, 0), (9, 0)] [(0, y129)] h128 kn
      refine lw_pop gz_0_662 rfl ?_
      refine lw_goto (t := 1878) gz_0_663 rfl ?_
      exact K h128 I_h128
    ·
      have qz : z116 = z1 := ez116.trans ez1.symm
      have e157 : ∀ j : Int, h16 157 j = h 157 j := fun j => my_fr.at w18 is_157 rfl
      have e164 : ∀ j : Int, h16 164 j = h 164 j := fun j => my_fr.at w18 is_164 rfl
      have e165 : ∀ j : Int, h16 165 j = h 165 j := fun j => my_fr.at w18 is_165 rfl
      have e166 : ∀ j : Int, h16 166 j = h 166 j := fun j => my_fr.at w18 is_166 rfl
      have et : tm_of h16 = tm_of h := Prod.ext (funext (fun j => my_fr.at w18 is_152 rfl)) (my_fr.at w18 is_151 rfl)
      obtain ⟨m1, m2⟩ := MwW_1 (my_ag.fr w18 rfl) I.pWnq
      obtain ⟨c8, b8, o8, pc⟩ := w24
      obtain ⟨g9, n9, kf9, mq9, ko9, e9, bs9, nn9, mt9, nuM, rm9⟩ := w154
      have pm := rm9 _ _ m1 m2
      rw [qz] at pm
      have re := read_eq w22 I.pCeq I.pTeq I.pWnq e157 e164 et mt9 pc pm
      exfalso; omega
theorem lcase_9 (hL4 : L4 ≤ 4096) (hL : rho 4096 = Int32.ofNat L4) (I : LInv h) (i0 : 0 ≤ i) (i8 : i + 8 ≤ L4) (K : ∀ h' : my_H, LInv h' → lwp p l e s m below meth c b D tys sg rho 1878 [(3, 0), (2, 0), (2, 151), (2, 203), (0, i), (9, 0), (9, 0)] [] h' kn) : lwp p l e s m below meth c b D tys sg rho 718 [(3, 0), (2, 0), (2, 151), (2, 203), (0, i), (9, 0), (9, 0)] [] h kn := by
  refine lw_aload_n gz_0_718 rfl ?_
  refine lw_aload3_n gz_0_719 rfl ?_
  refine lw_iload gz_0_720 rfl ?_
  refine lw_iconst gz_0_722 (by decide) ?_
  refine lw_iadd gz_0_723 ⟨by omega, by omega⟩ ?_
  refine lw_sl gz_0_724 hL4 hL (by omega) (by omega) (fun z1 ez1 pz1 qz1 => ?_)
  refine lw_aload3_n gz_0_725 rfl ?_
  refine lw_iload gz_0_726 rfl ?_
  refine lw_iconst gz_0_728 (by decide) ?_
  refine lw_iadd gz_0_729 ⟨by omega, by omega⟩ ?_
  refine lw_sl gz_0_730 hL4 hL (by omega) (by omega) (fun z2 ez2 pz2 qz2 => ?_)
  refine lw_aload3_n gz_0_731 rfl ?_
  refine lw_iload gz_0_732 rfl ?_
  refine lw_iconst gz_0_734 (by decide) ?_
  refine lw_iadd gz_0_735 ⟨by omega, by omega⟩ ?_
  refine lw_sl gz_0_736 hL4 hL (by omega) (by omega) (fun z3 ez3 pz3 qz3 => ?_)
  refine lw_inv (kz := 1) (as := [(0, z3), (0, z2), (0, z1)]) (r := []) (x := 0) (ls0 := [(2, 0), (0, z1), (0, z2), (0, z3), (9, 0)]) gz_0_737 gm_64 rfl is_0 rd_9 rfl rfl rfl rfl rfl (c_ThroughWindow_seen (d := 24) (x1 := z1) (x2 := z2) (x3 := z3) I.pLn (fun h4 w5 w6 => ?_) (fun h7 y8 w9 w10 w11 w12 w13 w14 w15 w16 => ?_))
  ·
    have I_h4 : LInv h4 := ⟨w6, Mw_ag (my_ag.fr w5 rfl) I.pMw, Mw3_ag (my_ag.fr w5 rfl) I.pMw3, Rws_ag (my_ag.fr w5 rfl) I.pRws, Wrd_ag (my_ag.fr w5 rfl) I.pWrd, Ceq_ag (my_ag.fr w5 rfl) I.pCeq, Wd9_ag (my_ag.fr w5 rfl) I.pWd9, Teq_ag (my_ag.fr w5 rfl) I.pTeq, Wnq_ag (my_ag.fr w5 rfl) I.pWnq⟩
    show lwp p l e s m below meth c b D tys sg rho 740 [(3, 0), (2, 0), (2, 151), (2, 203), (0, i), (9, 0), (9, 0)] [(0, (-1))] h4 kn
    refine lw_pop gz_0_740 rfl ?_
    refine lw_aload_n gz_0_741 rfl ?_
    refine lw_aload3_n gz_0_742 rfl ?_
    refine lw_iload gz_0_743 rfl ?_
    refine lw_iconst gz_0_745 (by decide) ?_
    refine lw_iadd gz_0_746 ⟨by omega, by omega⟩ ?_
    refine lw_sl gz_0_747 hL4 hL (by omega) (by omega) (fun z17 ez17 pz17 qz17 => ?_)
    refine lw_aload3_n gz_0_748 rfl ?_
    refine lw_iload gz_0_749 rfl ?_
    refine lw_iconst gz_0_751 (by decide) ?_
    refine lw_iadd gz_0_752 ⟨by omega, by omega⟩ ?_
    refine lw_sl gz_0_753 hL4 hL (by omega) (by omega) (fun z18 ez18 pz18 qz18 => ?_)
    refine lw_aload3_n gz_0_754 rfl ?_
    refine lw_iload gz_0_755 rfl ?_
    refine lw_iconst gz_0_757 (by decide) ?_
    refine lw_iadd gz_0_758 ⟨by omega, by omega⟩ ?_
    refine lw_sl gz_0_759 hL4 hL (by omega) (by omega) (fun z19 ez19 pz19 qz19 => ?_)
    refine lw_inv (kz := 0) (as := [(0, z19), (0, z18), (0, z17)]) (r := []) (x := 151) (ls0 := [(2, 151), (0, z17), (0, z18), (0, z19)]) gz_0_760 gm_192 rfl is_151 rd_10 rfl rfl rfl rfl rfl (c_Model_seen (d := 25) (x1 := z17) (x2 := z18) (x3 := z19) I_h4.pMw I_h4.pMw3 I_h4.pRws (fun h20 w21 w22 => ?_) (fun h23 y24 w25 w26 w27 w28 w29 w30 w31 w32 w33 w34 w35 w36 w37 => ?_))
    ·
      have I_h20 : LInv h20 := ⟨Ln_ag (my_ag.fr w21 rfl) I_h4.pLn, Mw_ag (my_ag.fr w21 rfl) I_h4.pMw, Mw3_ag (my_ag.fr w21 rfl) I_h4.pMw3, Rws_ag (my_ag.fr w21 rfl) I_h4.pRws, Wrd_ag (my_ag.fr w21 rfl) I_h4.pWrd, Ceq_ag (my_ag.fr w21 rfl) I_h4.pCeq, Wd9_ag (my_ag.fr w21 rfl) I_h4.pWd9, Teq_ag (my_ag.fr w21 rfl) I_h4.pTeq, Wnq_ag (my_ag.fr w21 rfl) I_h4.pWnq⟩
      show lwp p l e s m below meth c b D tys sg rho 763 [(3, 0), (2, 0), (2, 151), (2, 203), (0, i), (9, 0), (9, 0)] [(0, (-1))] h20 kn
      refine lw_pop gz_0_763 rfl ?_
      refine lw_goto (t := 1878) gz_0_764 rfl ?_
      exact K h20 I_h20
    ·
      have I_h23 : LInv h23 := ⟨Ln_ag (my_ag.fr w25 rfl) I_h4.pLn, Mw_ag (my_ag.fr w25 rfl) I_h4.pMw, Mw3_ag (my_ag.fr w25 rfl) I_h4.pMw3, Rws_ag (my_ag.fr w25 rfl) I_h4.pRws, Wrd_ag (my_ag.fr w25 rfl) I_h4.pWrd, Ceq_ag (my_ag.fr w25 rfl) I_h4.pCeq, Wd9_ag (my_ag.fr w25 rfl) I_h4.pWd9, Teq_ag (my_ag.fr w25 rfl) I_h4.pTeq, Wnq_ag (my_ag.fr w25 rfl) I_h4.pWnq⟩
      show lwp p l e s m below meth c b D tys sg rho 763 [(3, 0), (2, 0), (2, 151), (2, 203), (0, i), (9, 0), (9, 0)] [(0, y24)] h23 kn
      refine lw_pop gz_0_763 rfl ?_
      refine lw_goto (t := 1878) gz_0_764 rfl ?_
      exact K h23 I_h23
  ·
    have I_h7 : LInv h7 := ⟨w16, Mw_ag (my_ag.fr w9 rfl) I.pMw, Mw3_ag (my_ag.fr w9 rfl) I.pMw3, Rws_ag (my_ag.fr w9 rfl) I.pRws, Wrd_ag (my_ag.fr w9 rfl) I.pWrd, Ceq_ag (my_ag.fr w9 rfl) I.pCeq, Wd9_ag (my_ag.fr w9 rfl) I.pWd9, Teq_ag (my_ag.fr w9 rfl) I.pTeq, Wnq_ag (my_ag.fr w9 rfl) I.pWnq⟩
    show lwp p l e s m below meth c b D tys sg rho 740 [(3, 0), (2, 0), (2, 151), (2, 203), (0, i), (9, 0), (9, 0)] [(0, y8)] h7 kn
    refine lw_pop gz_0_740 rfl ?_
    refine lw_aload_n gz_0_741 rfl ?_
    refine lw_aload3_n gz_0_742 rfl ?_
    refine lw_iload gz_0_743 rfl ?_
    refine lw_iconst gz_0_745 (by decide) ?_
    refine lw_iadd gz_0_746 ⟨by omega, by omega⟩ ?_
    refine lw_sl gz_0_747 hL4 hL (by omega) (by omega) (fun z38 ez38 pz38 qz38 => ?_)
    refine lw_aload3_n gz_0_748 rfl ?_
    refine lw_iload gz_0_749 rfl ?_
    refine lw_iconst gz_0_751 (by decide) ?_
    refine lw_iadd gz_0_752 ⟨by omega, by omega⟩ ?_
    refine lw_sl gz_0_753 hL4 hL (by omega) (by omega) (fun z39 ez39 pz39 qz39 => ?_)
    refine lw_aload3_n gz_0_754 rfl ?_
    refine lw_iload gz_0_755 rfl ?_
    refine lw_iconst gz_0_757 (by decide) ?_
    refine lw_iadd gz_0_758 ⟨by omega, by omega⟩ ?_
    refine lw_sl gz_0_759 hL4 hL (by omega) (by omega) (fun z40 ez40 pz40 qz40 => ?_)
    refine lw_inv (kz := 0) (as := [(0, z40), (0, z39), (0, z38)]) (r := []) (x := 151) (ls0 := [(2, 151), (0, z38), (0, z39), (0, z40)]) gz_0_760 gm_192 rfl is_151 rd_10 rfl rfl rfl rfl rfl (c_Model_seen (d := 25) (x1 := z38) (x2 := z39) (x3 := z40) I_h7.pMw I_h7.pMw3 I_h7.pRws (fun h41 w42 w43 => ?_) (fun h44 y45 w46 w47 w48 w49 w50 w51 w52 w53 w54 w55 w56 w57 w58 => ?_))
    ·
      have I_h41 : LInv h41 := ⟨Ln_ag (my_ag.fr w42 rfl) I_h7.pLn, Mw_ag (my_ag.fr w42 rfl) I_h7.pMw, Mw3_ag (my_ag.fr w42 rfl) I_h7.pMw3, Rws_ag (my_ag.fr w42 rfl) I_h7.pRws, Wrd_ag (my_ag.fr w42 rfl) I_h7.pWrd, Ceq_ag (my_ag.fr w42 rfl) I_h7.pCeq, Wd9_ag (my_ag.fr w42 rfl) I_h7.pWd9, Teq_ag (my_ag.fr w42 rfl) I_h7.pTeq, Wnq_ag (my_ag.fr w42 rfl) I_h7.pWnq⟩
      show lwp p l e s m below meth c b D tys sg rho 763 [(3, 0), (2, 0), (2, 151), (2, 203), (0, i), (9, 0), (9, 0)] [(0, (-1))] h41 kn
      refine lw_pop gz_0_763 rfl ?_
      refine lw_goto (t := 1878) gz_0_764 rfl ?_
      exact K h41 I_h41
    ·
      have I_h44 : LInv h44 := ⟨Ln_ag (my_ag.fr w46 rfl) I_h7.pLn, Mw_ag (my_ag.fr w46 rfl) I_h7.pMw, Mw3_ag (my_ag.fr w46 rfl) I_h7.pMw3, Rws_ag (my_ag.fr w46 rfl) I_h7.pRws, Wrd_ag (my_ag.fr w46 rfl) I_h7.pWrd, Ceq_ag (my_ag.fr w46 rfl) I_h7.pCeq, Wd9_ag (my_ag.fr w46 rfl) I_h7.pWd9, Teq_ag (my_ag.fr w46 rfl) I_h7.pTeq, Wnq_ag (my_ag.fr w46 rfl) I_h7.pWnq⟩
      show lwp p l e s m below meth c b D tys sg rho 763 [(3, 0), (2, 0), (2, 151), (2, 203), (0, i), (9, 0), (9, 0)] [(0, y45)] h44 kn
      refine lw_pop gz_0_763 rfl ?_
      refine lw_goto (t := 1878) gz_0_764 rfl ?_
      exact K h44 I_h44
theorem lcase_10 (hL4 : L4 ≤ 4096) (hL : rho 4096 = Int32.ofNat L4) (I : LInv h) (i0 : 0 ≤ i) (i8 : i + 8 ≤ L4) (K : ∀ h' : my_H, LInv h' → lwp p l e s m below meth c b D tys sg rho 1878 [(3, 0), (2, 0), (2, 151), (2, 203), (0, i), (9, 0), (9, 0)] [] h' kn) : lwp p l e s m below meth c b D tys sg rho 767 [(3, 0), (2, 0), (2, 151), (2, 203), (0, i), (9, 0), (9, 0)] [] h kn := by
  refine lw_aload_n gz_0_767 rfl ?_
  refine lw_aload3_n gz_0_768 rfl ?_
  refine lw_iload gz_0_769 rfl ?_
  refine lw_iconst gz_0_771 (by decide) ?_
  refine lw_iadd gz_0_772 ⟨by omega, by omega⟩ ?_
  refine lw_sl gz_0_773 hL4 hL (by omega) (by omega) (fun z1 ez1 pz1 qz1 => ?_)
  refine lw_aload3_n gz_0_774 rfl ?_
  refine lw_iload gz_0_775 rfl ?_
  refine lw_iconst gz_0_777 (by decide) ?_
  refine lw_iadd gz_0_778 ⟨by omega, by omega⟩ ?_
  refine lw_sl gz_0_779 hL4 hL (by omega) (by omega) (fun z2 ez2 pz2 qz2 => ?_)
  refine lw_aload3_n gz_0_780 rfl ?_
  refine lw_iload gz_0_781 rfl ?_
  refine lw_iconst gz_0_783 (by decide) ?_
  refine lw_iadd gz_0_784 ⟨by omega, by omega⟩ ?_
  refine lw_sl gz_0_785 hL4 hL (by omega) (by omega) (fun z3 ez3 pz3 qz3 => ?_)
  refine lw_aload3_n gz_0_786 rfl ?_
  refine lw_iload gz_0_787 rfl ?_
  refine lw_iconst gz_0_789 (by decide) ?_
  refine lw_iadd gz_0_790 ⟨by omega, by omega⟩ ?_
  refine lw_sl gz_0_791 hL4 hL (by omega) (by omega) (fun z4 ez4 pz4 qz4 => ?_)
  refine lw_inv (kz := 2) (as := [(0, z4), (0, z3), (0, z2), (0, z1)]) (r := []) (x := 0) (ls0 := [(2, 0), (0, z1), (0, z2), (0, z3), (0, z4), (9, 0), (9, 0)]) gz_0_792 gm_82 rfl is_0 rd_9 rfl rfl rfl rfl rfl (c_ThroughWindow_source (d := 24) (x1 := z1) (x2 := z2) (x3 := z3) (x4 := z4) I.pLn (fun h5 w6 w7 => ?_) (fun h8 y9 w10 w11 w12 w13 w14 w15 w16 w17 w18 w19 w20 w21 => ?_))
  ·
    have I_h5 : LInv h5 := ⟨w7, Mw_ag (my_ag.fr w6 rfl) I.pMw, Mw3_ag (my_ag.fr w6 rfl) I.pMw3, Rws_ag (my_ag.fr w6 rfl) I.pRws, Wrd_ag (my_ag.fr w6 rfl) I.pWrd, Ceq_ag (my_ag.fr w6 rfl) I.pCeq, Wd9_ag (my_ag.fr w6 rfl) I.pWd9, Teq_ag (my_ag.fr w6 rfl) I.pTeq, Wnq_ag (my_ag.fr w6 rfl) I.pWnq⟩
    show lwp p l e s m below meth c b D tys sg rho 795 [(3, 0), (2, 0), (2, 151), (2, 203), (0, i), (9, 0), (9, 0)] [(0, (-1))] h5 kn
    refine lw_pop gz_0_795 rfl ?_
    refine lw_aload_n gz_0_796 rfl ?_
    refine lw_aload3_n gz_0_797 rfl ?_
    refine lw_iload gz_0_798 rfl ?_
    refine lw_iconst gz_0_800 (by decide) ?_
    refine lw_iadd gz_0_801 ⟨by omega, by omega⟩ ?_
    refine lw_sl gz_0_802 hL4 hL (by omega) (by omega) (fun z22 ez22 pz22 qz22 => ?_)
    refine lw_aload3_n gz_0_803 rfl ?_
    refine lw_iload gz_0_804 rfl ?_
    refine lw_iconst gz_0_806 (by decide) ?_
    refine lw_iadd gz_0_807 ⟨by omega, by omega⟩ ?_
    refine lw_sl gz_0_808 hL4 hL (by omega) (by omega) (fun z23 ez23 pz23 qz23 => ?_)
    refine lw_aload3_n gz_0_809 rfl ?_
    refine lw_iload gz_0_810 rfl ?_
    refine lw_iconst gz_0_812 (by decide) ?_
    refine lw_iadd gz_0_813 ⟨by omega, by omega⟩ ?_
    refine lw_sl gz_0_814 hL4 hL (by omega) (by omega) (fun z24 ez24 pz24 qz24 => ?_)
    refine lw_aload3_n gz_0_815 rfl ?_
    refine lw_iload gz_0_816 rfl ?_
    refine lw_iconst gz_0_818 (by decide) ?_
    refine lw_iadd gz_0_819 ⟨by omega, by omega⟩ ?_
    refine lw_sl gz_0_820 hL4 hL (by omega) (by omega) (fun z25 ez25 pz25 qz25 => ?_)
    refine lw_inv (kz := 0) (as := [(0, z25), (0, z24), (0, z23), (0, z22)]) (r := []) (x := 151) (ls0 := [(2, 151), (0, z22), (0, z23), (0, z24), (0, z25)]) gz_0_821 gm_202 rfl is_151 rd_10 rfl rfl rfl rfl rfl (c_Model_source (d := 25) (x1 := z22) (x2 := z23) (x3 := z24) (x4 := z25) I_h5.pMw I_h5.pMw3 I_h5.pRws (fun h26 w27 w28 => ?_) (fun h29 y30 w31 w32 w33 w34 w35 w36 w37 w38 w39 w40 w41 w42 w43 w44 w45 w46 => ?_))
    ·
      have I_h26 : LInv h26 := ⟨Ln_ag (my_ag.fr w27 rfl) I_h5.pLn, Mw_ag (my_ag.fr w27 rfl) I_h5.pMw, Mw3_ag (my_ag.fr w27 rfl) I_h5.pMw3, Rws_ag (my_ag.fr w27 rfl) I_h5.pRws, Wrd_ag (my_ag.fr w27 rfl) I_h5.pWrd, Ceq_ag (my_ag.fr w27 rfl) I_h5.pCeq, Wd9_ag (my_ag.fr w27 rfl) I_h5.pWd9, Teq_ag (my_ag.fr w27 rfl) I_h5.pTeq, Wnq_ag (my_ag.fr w27 rfl) I_h5.pWnq⟩
      show lwp p l e s m below meth c b D tys sg rho 824 [(3, 0), (2, 0), (2, 151), (2, 203), (0, i), (9, 0), (9, 0)] [(0, (-1))] h26 kn
      refine lw_pop gz_0_824 rfl ?_
      refine lw_goto (t := 1878) gz_0_825 rfl ?_
      exact K h26 I_h26
    ·
      have I_h29 : LInv h29 := ⟨Ln_ag (my_ag.fr w31 rfl) I_h5.pLn, Mw_ag (my_ag.fr w31 rfl) I_h5.pMw, Mw3_ag (my_ag.fr w31 rfl) I_h5.pMw3, Rws_ag (my_ag.fr w31 rfl) I_h5.pRws, Wrd_ag (my_ag.fr w31 rfl) I_h5.pWrd, Ceq_ag (my_ag.fr w31 rfl) I_h5.pCeq, Wd9_ag (my_ag.fr w31 rfl) I_h5.pWd9, Teq_ag (my_ag.fr w31 rfl) I_h5.pTeq, Wnq_ag (my_ag.fr w31 rfl) I_h5.pWnq⟩
      show lwp p l e s m below meth c b D tys sg rho 824 [(3, 0), (2, 0), (2, 151), (2, 203), (0, i), (9, 0), (9, 0)] [(0, y30)] h29 kn
      refine lw_pop gz_0_824 rfl ?_
      refine lw_goto (t := 1878) gz_0_825 rfl ?_
      exact K h29 I_h29
  ·
    have I_h8 : LInv h8 := ⟨w21, Mw_ag (my_ag.fr w10 rfl) I.pMw, Mw3_ag (my_ag.fr w10 rfl) I.pMw3, Rws_ag (my_ag.fr w10 rfl) I.pRws, Wrd_ag (my_ag.fr w10 rfl) I.pWrd, Ceq_ag (my_ag.fr w10 rfl) I.pCeq, Wd9_ag (my_ag.fr w10 rfl) I.pWd9, Teq_ag (my_ag.fr w10 rfl) I.pTeq, Wnq_ag (my_ag.fr w10 rfl) I.pWnq⟩
    show lwp p l e s m below meth c b D tys sg rho 795 [(3, 0), (2, 0), (2, 151), (2, 203), (0, i), (9, 0), (9, 0)] [(0, y9)] h8 kn
    refine lw_pop gz_0_795 rfl ?_
    refine lw_aload_n gz_0_796 rfl ?_
    refine lw_aload3_n gz_0_797 rfl ?_
    refine lw_iload gz_0_798 rfl ?_
    refine lw_iconst gz_0_800 (by decide) ?_
    refine lw_iadd gz_0_801 ⟨by omega, by omega⟩ ?_
    refine lw_sl gz_0_802 hL4 hL (by omega) (by omega) (fun z47 ez47 pz47 qz47 => ?_)
    refine lw_aload3_n gz_0_803 rfl ?_
    refine lw_iload gz_0_804 rfl ?_
    refine lw_iconst gz_0_806 (by decide) ?_
    refine lw_iadd gz_0_807 ⟨by omega, by omega⟩ ?_
    refine lw_sl gz_0_808 hL4 hL (by omega) (by omega) (fun z48 ez48 pz48 qz48 => ?_)
    refine lw_aload3_n gz_0_809 rfl ?_
    refine lw_iload gz_0_810 rfl ?_
    refine lw_iconst gz_0_812 (by decide) ?_
    refine lw_iadd gz_0_813 ⟨by omega, by omega⟩ ?_
    refine lw_sl gz_0_814 hL4 hL (by omega) (by omega) (fun z49 ez49 pz49 qz49 => ?_)
    refine lw_aload3_n gz_0_815 rfl ?_
    refine lw_iload gz_0_816 rfl ?_
    refine lw_iconst gz_0_818 (by decide) ?_
    refine lw_iadd gz_0_819 ⟨by omega, by omega⟩ ?_
    refine lw_sl gz_0_820 hL4 hL (by omega) (by omega) (fun z50 ez50 pz50 qz50 => ?_)
    refine lw_inv (kz := 0) (as := [(0, z50), (0, z49), (0, z48), (0, z47)]) (r := []) (x := 151) (ls0 := [(2, 151), (0, z47), (0, z48), (0, z49), (0, z50)]) gz_0_821 gm_202 rfl is_151 rd_10 rfl rfl rfl rfl rfl (c_Model_source (d := 25) (x1 := z47) (x2 := z48) (x3 := z49) (x4 := z50) I_h8.pMw I_h8.pMw3 I_h8.pRws (fun h51 w52 w53 => ?_) (fun h54 y55 w56 w57 w58 w59 w60 w61 w62 w63 w64 w65 w66 w67 w68 w69 w70 w71 => ?_))
    ·
      have I_h51 : LInv h51 := ⟨Ln_ag (my_ag.fr w52 rfl) I_h8.pLn, Mw_ag (my_ag.fr w52 rfl) I_h8.pMw, Mw3_ag (my_ag.fr w52 rfl) I_h8.pMw3, Rws_ag (my_ag.fr w52 rfl) I_h8.pRws, Wrd_ag (my_ag.fr w52 rfl) I_h8.pWrd, Ceq_ag (my_ag.fr w52 rfl) I_h8.pCeq, Wd9_ag (my_ag.fr w52 rfl) I_h8.pWd9, Teq_ag (my_ag.fr w52 rfl) I_h8.pTeq, Wnq_ag (my_ag.fr w52 rfl) I_h8.pWnq⟩
      show lwp p l e s m below meth c b D tys sg rho 824 [(3, 0), (2, 0), (2, 151), (2, 203), (0, i), (9, 0), (9, 0)] [(0, (-1))] h51 kn
      refine lw_pop gz_0_824 rfl ?_
      refine lw_goto (t := 1878) gz_0_825 rfl ?_
      exact K h51 I_h51
    ·
      have I_h54 : LInv h54 := ⟨Ln_ag (my_ag.fr w56 rfl) I_h8.pLn, Mw_ag (my_ag.fr w56 rfl) I_h8.pMw, Mw3_ag (my_ag.fr w56 rfl) I_h8.pMw3, Rws_ag (my_ag.fr w56 rfl) I_h8.pRws, Wrd_ag (my_ag.fr w56 rfl) I_h8.pWrd, Ceq_ag (my_ag.fr w56 rfl) I_h8.pCeq, Wd9_ag (my_ag.fr w56 rfl) I_h8.pWd9, Teq_ag (my_ag.fr w56 rfl) I_h8.pTeq, Wnq_ag (my_ag.fr w56 rfl) I_h8.pWnq⟩
      show lwp p l e s m below meth c b D tys sg rho 824 [(3, 0), (2, 0), (2, 151), (2, 203), (0, i), (9, 0), (9, 0)] [(0, y55)] h54 kn
      refine lw_pop gz_0_824 rfl ?_
      refine lw_goto (t := 1878) gz_0_825 rfl ?_
      exact K h54 I_h54
theorem lcase_11 (hL4 : L4 ≤ 4096) (hL : rho 4096 = Int32.ofNat L4) (I : LInv h) (i0 : 0 ≤ i) (i8 : i + 8 ≤ L4) (K : ∀ h' : my_H, LInv h' → lwp p l e s m below meth c b D tys sg rho 1878 [(3, 0), (2, 0), (2, 151), (2, 203), (0, i), (9, 0), (9, 0)] [] h' kn) : lwp p l e s m below meth c b D tys sg rho 828 [(3, 0), (2, 0), (2, 151), (2, 203), (0, i), (9, 0), (9, 0)] [] h kn := by
  refine lw_aload_n gz_0_828 rfl ?_
  refine lw_aload3_n gz_0_829 rfl ?_
  refine lw_iload gz_0_830 rfl ?_
  refine lw_iconst gz_0_832 (by decide) ?_
  refine lw_iadd gz_0_833 ⟨by omega, by omega⟩ ?_
  refine lw_sl gz_0_834 hL4 hL (by omega) (by omega) (fun z1 ez1 pz1 qz1 => ?_)
  refine lw_aload3_n gz_0_835 rfl ?_
  refine lw_iload gz_0_836 rfl ?_
  refine lw_iconst gz_0_838 (by decide) ?_
  refine lw_iadd gz_0_839 ⟨by omega, by omega⟩ ?_
  refine lw_sl gz_0_840 hL4 hL (by omega) (by omega) (fun z2 ez2 pz2 qz2 => ?_)
  refine lw_inv (kz := 1) (as := [(0, z2), (0, z1)]) (r := []) (x := 0) (ls0 := [(2, 0), (0, z1), (0, z2), (9, 0)]) gz_0_841 gm_84 rfl is_0 rd_9 rfl rfl rfl rfl rfl (c_ThroughWindow_look (d := 24) (x1 := z1) (x2 := z2) I.pLn (fun h3 w4 w5 => ?_) (fun h6 y7 w8 w9 w10 w11 w12 w13 => ?_))
  ·
    have I_h3 : LInv h3 := ⟨w5, Mw_ag (my_ag.fr w4 rfl) I.pMw, Mw3_ag (my_ag.fr w4 rfl) I.pMw3, Rws_ag (my_ag.fr w4 rfl) I.pRws, Wrd_ag (my_ag.fr w4 rfl) I.pWrd, Ceq_ag (my_ag.fr w4 rfl) I.pCeq, Wd9_ag (my_ag.fr w4 rfl) I.pWd9, Teq_ag (my_ag.fr w4 rfl) I.pTeq, Wnq_ag (my_ag.fr w4 rfl) I.pWnq⟩
    show lwp p l e s m below meth c b D tys sg rho 844 [(3, 0), (2, 0), (2, 151), (2, 203), (0, i), (9, 0), (9, 0)] [(0, (-1))] h3 kn
    refine lw_pop gz_0_844 rfl ?_
    refine lw_aload_n gz_0_845 rfl ?_
    refine lw_aload3_n gz_0_846 rfl ?_
    refine lw_iload gz_0_847 rfl ?_
    refine lw_iconst gz_0_849 (by decide) ?_
    refine lw_iadd gz_0_850 ⟨by omega, by omega⟩ ?_
    refine lw_sl gz_0_851 hL4 hL (by omega) (by omega) (fun z14 ez14 pz14 qz14 => ?_)
    refine lw_aload3_n gz_0_852 rfl ?_
    refine lw_iload gz_0_853 rfl ?_
    refine lw_iconst gz_0_855 (by decide) ?_
    refine lw_iadd gz_0_856 ⟨by omega, by omega⟩ ?_
    refine lw_sl gz_0_857 hL4 hL (by omega) (by omega) (fun z15 ez15 pz15 qz15 => ?_)
    refine lw_inv (kz := 0) (as := [(0, z15), (0, z14)]) (r := []) (x := 151) (ls0 := [(2, 151), (0, z14), (0, z15)]) gz_0_858 gm_203 rfl is_151 rd_10 rfl rfl rfl rfl rfl (c_Model_look (d := 25) (x1 := z14) (x2 := z15) I_h3.pMw I_h3.pMw3 I_h3.pRws (fun h16 w17 w18 => ?_) (fun h19 y20 w21 w22 w23 w24 w25 w26 => ?_))
    ·
      have I_h16 : LInv h16 := ⟨Ln_ag (my_ag.fr w17 rfl) I_h3.pLn, Mw_ag (my_ag.fr w17 rfl) I_h3.pMw, Mw3_ag (my_ag.fr w17 rfl) I_h3.pMw3, Rws_ag (my_ag.fr w17 rfl) I_h3.pRws, Wrd_ag (my_ag.fr w17 rfl) I_h3.pWrd, Ceq_ag (my_ag.fr w17 rfl) I_h3.pCeq, Wd9_ag (my_ag.fr w17 rfl) I_h3.pWd9, Teq_ag (my_ag.fr w17 rfl) I_h3.pTeq, Wnq_ag (my_ag.fr w17 rfl) I_h3.pWnq⟩
      show lwp p l e s m below meth c b D tys sg rho 861 [(3, 0), (2, 0), (2, 151), (2, 203), (0, i), (9, 0), (9, 0)] [(0, (-1))] h16 kn
      refine lw_pop gz_0_861 rfl ?_
      refine lw_goto (t := 1878) gz_0_862 rfl ?_
      exact K h16 I_h16
    ·
      have I_h19 : LInv h19 := ⟨Ln_ag (my_ag.fr w21 rfl) I_h3.pLn, Mw_ag (my_ag.fr w21 rfl) I_h3.pMw, Mw3_ag (my_ag.fr w21 rfl) I_h3.pMw3, Rws_ag (my_ag.fr w21 rfl) I_h3.pRws, Wrd_ag (my_ag.fr w21 rfl) I_h3.pWrd, Ceq_ag (my_ag.fr w21 rfl) I_h3.pCeq, Wd9_ag (my_ag.fr w21 rfl) I_h3.pWd9, Teq_ag (my_ag.fr w21 rfl) I_h3.pTeq, Wnq_ag (my_ag.fr w21 rfl) I_h3.pWnq⟩
      show lwp p l e s m below meth c b D tys sg rho 861 [(3, 0), (2, 0), (2, 151), (2, 203), (0, i), (9, 0), (9, 0)] [(0, y20)] h19 kn
      refine lw_pop gz_0_861 rfl ?_
      refine lw_goto (t := 1878) gz_0_862 rfl ?_
      exact K h19 I_h19
  ·
    have I_h6 : LInv h6 := ⟨w13, Mw_ag (my_ag.fr w8 rfl) I.pMw, Mw3_ag (my_ag.fr w8 rfl) I.pMw3, Rws_ag (my_ag.fr w8 rfl) I.pRws, Wrd_ag (my_ag.fr w8 rfl) I.pWrd, Ceq_ag (my_ag.fr w8 rfl) I.pCeq, Wd9_ag (my_ag.fr w8 rfl) I.pWd9, Teq_ag (my_ag.fr w8 rfl) I.pTeq, Wnq_ag (my_ag.fr w8 rfl) I.pWnq⟩
    show lwp p l e s m below meth c b D tys sg rho 844 [(3, 0), (2, 0), (2, 151), (2, 203), (0, i), (9, 0), (9, 0)] [(0, y7)] h6 kn
    refine lw_pop gz_0_844 rfl ?_
    refine lw_aload_n gz_0_845 rfl ?_
    refine lw_aload3_n gz_0_846 rfl ?_
    refine lw_iload gz_0_847 rfl ?_
    refine lw_iconst gz_0_849 (by decide) ?_
    refine lw_iadd gz_0_850 ⟨by omega, by omega⟩ ?_
    refine lw_sl gz_0_851 hL4 hL (by omega) (by omega) (fun z27 ez27 pz27 qz27 => ?_)
    refine lw_aload3_n gz_0_852 rfl ?_
    refine lw_iload gz_0_853 rfl ?_
    refine lw_iconst gz_0_855 (by decide) ?_
    refine lw_iadd gz_0_856 ⟨by omega, by omega⟩ ?_
    refine lw_sl gz_0_857 hL4 hL (by omega) (by omega) (fun z28 ez28 pz28 qz28 => ?_)
    refine lw_inv (kz := 0) (as := [(0, z28), (0, z27)]) (r := []) (x := 151) (ls0 := [(2, 151), (0, z27), (0, z28)]) gz_0_858 gm_203 rfl is_151 rd_10 rfl rfl rfl rfl rfl (c_Model_look (d := 25) (x1 := z27) (x2 := z28) I_h6.pMw I_h6.pMw3 I_h6.pRws (fun h29 w30 w31 => ?_) (fun h32 y33 w34 w35 w36 w37 w38 w39 => ?_))
    ·
      have I_h29 : LInv h29 := ⟨Ln_ag (my_ag.fr w30 rfl) I_h6.pLn, Mw_ag (my_ag.fr w30 rfl) I_h6.pMw, Mw3_ag (my_ag.fr w30 rfl) I_h6.pMw3, Rws_ag (my_ag.fr w30 rfl) I_h6.pRws, Wrd_ag (my_ag.fr w30 rfl) I_h6.pWrd, Ceq_ag (my_ag.fr w30 rfl) I_h6.pCeq, Wd9_ag (my_ag.fr w30 rfl) I_h6.pWd9, Teq_ag (my_ag.fr w30 rfl) I_h6.pTeq, Wnq_ag (my_ag.fr w30 rfl) I_h6.pWnq⟩
      show lwp p l e s m below meth c b D tys sg rho 861 [(3, 0), (2, 0), (2, 151), (2, 203), (0, i), (9, 0), (9, 0)] [(0, (-1))] h29 kn
      refine lw_pop gz_0_861 rfl ?_
      refine lw_goto (t := 1878) gz_0_862 rfl ?_
      exact K h29 I_h29
    ·
      have I_h32 : LInv h32 := ⟨Ln_ag (my_ag.fr w34 rfl) I_h6.pLn, Mw_ag (my_ag.fr w34 rfl) I_h6.pMw, Mw3_ag (my_ag.fr w34 rfl) I_h6.pMw3, Rws_ag (my_ag.fr w34 rfl) I_h6.pRws, Wrd_ag (my_ag.fr w34 rfl) I_h6.pWrd, Ceq_ag (my_ag.fr w34 rfl) I_h6.pCeq, Wd9_ag (my_ag.fr w34 rfl) I_h6.pWd9, Teq_ag (my_ag.fr w34 rfl) I_h6.pTeq, Wnq_ag (my_ag.fr w34 rfl) I_h6.pWnq⟩
      show lwp p l e s m below meth c b D tys sg rho 861 [(3, 0), (2, 0), (2, 151), (2, 203), (0, i), (9, 0), (9, 0)] [(0, y33)] h32 kn
      refine lw_pop gz_0_861 rfl ?_
      refine lw_goto (t := 1878) gz_0_862 rfl ?_
      exact K h32 I_h32
theorem lcase_12 (hL4 : L4 ≤ 4096) (hL : rho 4096 = Int32.ofNat L4) (I : LInv h) (i0 : 0 ≤ i) (i8 : i + 8 ≤ L4) (K : ∀ h' : my_H, LInv h' → lwp p l e s m below meth c b D tys sg rho 1878 [(3, 0), (2, 0), (2, 151), (2, 203), (0, i), (9, 0), (9, 0)] [] h' kn) : lwp p l e s m below meth c b D tys sg rho 865 [(3, 0), (2, 0), (2, 151), (2, 203), (0, i), (9, 0), (9, 0)] [] h kn := by
  refine lw_aload_n gz_0_865 rfl ?_
  refine lw_aload3_n gz_0_866 rfl ?_
  refine lw_iload gz_0_867 rfl ?_
  refine lw_iconst gz_0_869 (by decide) ?_
  refine lw_iadd gz_0_870 ⟨by omega, by omega⟩ ?_
  refine lw_sl gz_0_871 hL4 hL (by omega) (by omega) (fun z1 ez1 pz1 qz1 => ?_)
  refine lw_aload3_n gz_0_872 rfl ?_
  refine lw_iload gz_0_873 rfl ?_
  refine lw_iconst gz_0_875 (by decide) ?_
  refine lw_iadd gz_0_876 ⟨by omega, by omega⟩ ?_
  refine lw_sl gz_0_877 hL4 hL (by omega) (by omega) (fun z2 ez2 pz2 qz2 => ?_)
  refine lw_inv (kz := 0) (as := [(0, z2), (0, z1)]) (r := []) (x := 0) (ls0 := [(2, 0), (0, z1), (0, z2)]) gz_0_878 gm_85 rfl is_0 rd_9 rfl rfl rfl rfl rfl (c_ThroughWindow_draft2 (d := 29) (x1 := z1) (x2 := z2)  (fun h3 w4 w5 => ?_) (fun h6 w7 w8 w9 w10 w11 w12 => ?_))
  ·
    have I_h3 : LInv h3 := ⟨Ln_ag (my_ag.fr w4 rfl) I.pLn, Mw_ag (my_ag.fr w4 rfl) I.pMw, Mw3_ag (my_ag.fr w4 rfl) I.pMw3, Rws_ag (my_ag.fr w4 rfl) I.pRws, Wrd_ag (my_ag.fr w4 rfl) I.pWrd, Ceq_ag (my_ag.fr w4 rfl) I.pCeq, Wd9_ag (my_ag.fr w4 rfl) I.pWd9, Teq_ag (my_ag.fr w4 rfl) I.pTeq, Wnq_ag (my_ag.fr w4 rfl) I.pWnq⟩
    show lwp p l e s m below meth c b D tys sg rho 881 [(3, 0), (2, 0), (2, 151), (2, 203), (0, i), (9, 0), (9, 0)] [(0, 0)] h3 kn
    refine lw_pop gz_0_881 rfl ?_
    refine lw_aload_n gz_0_882 rfl ?_
    refine lw_aload3_n gz_0_883 rfl ?_
    refine lw_iload gz_0_884 rfl ?_
    refine lw_iconst gz_0_886 (by decide) ?_
    refine lw_iadd gz_0_887 ⟨by omega, by omega⟩ ?_
    refine lw_sl gz_0_888 hL4 hL (by omega) (by omega) (fun z13 ez13 pz13 qz13 => ?_)
    refine lw_aload3_n gz_0_889 rfl ?_
    refine lw_iload gz_0_890 rfl ?_
    refine lw_iconst gz_0_892 (by decide) ?_
    refine lw_iadd gz_0_893 ⟨by omega, by omega⟩ ?_
    refine lw_sl gz_0_894 hL4 hL (by omega) (by omega) (fun z14 ez14 pz14 qz14 => ?_)
    refine lw_inv (kz := 0) (as := [(0, z14), (0, z13)]) (r := []) (x := 151) (ls0 := [(2, 151), (0, z13), (0, z14)]) gz_0_895 gm_206 rfl is_151 rd_10 rfl rfl rfl rfl rfl (c_Model_draft2 (d := 28) (x1 := z13) (x2 := z14)  (fun h15 w16 w17 w18 => ?_) (fun h19 w20 w21 w22 w23 w24 w25 w26 => ?_))
    ·
      have I_h15 : LInv h15 := ⟨Ln_ag (my_ag.fr w16 rfl) I_h3.pLn, Mw_ag (my_ag.fr w16 rfl) I_h3.pMw, Mw3_ag (my_ag.fr w16 rfl) I_h3.pMw3, Rws_ag (my_ag.fr w16 rfl) I_h3.pRws, Wrd_ag (my_ag.fr w16 rfl) I_h3.pWrd, Ceq_ag (my_ag.fr w16 rfl) I_h3.pCeq, Wd9_ag (my_ag.fr w16 rfl) I_h3.pWd9, Teq_ag (my_ag.fr w16 rfl) I_h3.pTeq, Wnq_ag (my_ag.fr w16 rfl) I_h3.pWnq⟩
      show lwp p l e s m below meth c b D tys sg rho 898 [(3, 0), (2, 0), (2, 151), (2, 203), (0, i), (9, 0), (9, 0)] [(0, 0)] h15 kn
      refine lw_pop gz_0_898 rfl ?_
      refine lw_goto (t := 1878) gz_0_899 rfl ?_
      exact K h15 I_h15
    ·
      have I_h19 : LInv h19 := ⟨Ln_ag (my_ag.fr w20 rfl) I_h3.pLn, Mw_ag (my_ag.fr w20 rfl) I_h3.pMw, Mw3_ag (my_ag.fr w20 rfl) I_h3.pMw3, Rws_ag (my_ag.fr w20 rfl) I_h3.pRws, Wrd_ag (my_ag.fr w20 rfl) I_h3.pWrd, Ceq_ag (my_ag.fr w20 rfl) I_h3.pCeq, Wd9_ag (my_ag.fr w20 rfl) I_h3.pWd9, Teq_ag (my_ag.fr w20 rfl) I_h3.pTeq, Wnq_ag (my_ag.fr w20 rfl) I_h3.pWnq⟩
      show lwp p l e s m below meth c b D tys sg rho 898 [(3, 0), (2, 0), (2, 151), (2, 203), (0, i), (9, 0), (9, 0)] [(0, 1)] h19 kn
      refine lw_pop gz_0_898 rfl ?_
      refine lw_goto (t := 1878) gz_0_899 rfl ?_
      exact K h19 I_h19
  ·
    have I_h6 : LInv h6 := ⟨Ln_ag (my_ag.fr w7 rfl) I.pLn, Mw_ag (my_ag.fr w7 rfl) I.pMw, Mw3_ag (my_ag.fr w7 rfl) I.pMw3, Rws_ag (my_ag.fr w7 rfl) I.pRws, Wrd_ag (my_ag.fr w7 rfl) I.pWrd, Ceq_ag (my_ag.fr w7 rfl) I.pCeq, Wd9_ag (my_ag.fr w7 rfl) I.pWd9, Teq_ag (my_ag.fr w7 rfl) I.pTeq, Wnq_ag (my_ag.fr w7 rfl) I.pWnq⟩
    show lwp p l e s m below meth c b D tys sg rho 881 [(3, 0), (2, 0), (2, 151), (2, 203), (0, i), (9, 0), (9, 0)] [(0, 1)] h6 kn
    refine lw_pop gz_0_881 rfl ?_
    refine lw_aload_n gz_0_882 rfl ?_
    refine lw_aload3_n gz_0_883 rfl ?_
    refine lw_iload gz_0_884 rfl ?_
    refine lw_iconst gz_0_886 (by decide) ?_
    refine lw_iadd gz_0_887 ⟨by omega, by omega⟩ ?_
    refine lw_sl gz_0_888 hL4 hL (by omega) (by omega) (fun z27 ez27 pz27 qz27 => ?_)
    refine lw_aload3_n gz_0_889 rfl ?_
    refine lw_iload gz_0_890 rfl ?_
    refine lw_iconst gz_0_892 (by decide) ?_
    refine lw_iadd gz_0_893 ⟨by omega, by omega⟩ ?_
    refine lw_sl gz_0_894 hL4 hL (by omega) (by omega) (fun z28 ez28 pz28 qz28 => ?_)
    refine lw_inv (kz := 0) (as := [(0, z28), (0, z27)]) (r := []) (x := 151) (ls0 := [(2, 151), (0, z27), (0, z28)]) gz_0_895 gm_206 rfl is_151 rd_10 rfl rfl rfl rfl rfl (c_Model_draft2 (d := 28) (x1 := z27) (x2 := z28)  (fun h29 w30 w31 w32 => ?_) (fun h33 w34 w35 w36 w37 w38 w39 w40 => ?_))
    ·
      have I_h29 : LInv h29 := ⟨Ln_ag (my_ag.fr w30 rfl) I_h6.pLn, Mw_ag (my_ag.fr w30 rfl) I_h6.pMw, Mw3_ag (my_ag.fr w30 rfl) I_h6.pMw3, Rws_ag (my_ag.fr w30 rfl) I_h6.pRws, Wrd_ag (my_ag.fr w30 rfl) I_h6.pWrd, Ceq_ag (my_ag.fr w30 rfl) I_h6.pCeq, Wd9_ag (my_ag.fr w30 rfl) I_h6.pWd9, Teq_ag (my_ag.fr w30 rfl) I_h6.pTeq, Wnq_ag (my_ag.fr w30 rfl) I_h6.pWnq⟩
      show lwp p l e s m below meth c b D tys sg rho 898 [(3, 0), (2, 0), (2, 151), (2, 203), (0, i), (9, 0), (9, 0)] [(0, 0)] h29 kn
      refine lw_pop gz_0_898 rfl ?_
      refine lw_goto (t := 1878) gz_0_899 rfl ?_
      exact K h29 I_h29
    ·
      have I_h33 : LInv h33 := ⟨Ln_ag (my_ag.fr w34 rfl) I_h6.pLn, Mw_ag (my_ag.fr w34 rfl) I_h6.pMw, Mw3_ag (my_ag.fr w34 rfl) I_h6.pMw3, Rws_ag (my_ag.fr w34 rfl) I_h6.pRws, Wrd_ag (my_ag.fr w34 rfl) I_h6.pWrd, Ceq_ag (my_ag.fr w34 rfl) I_h6.pCeq, Wd9_ag (my_ag.fr w34 rfl) I_h6.pWd9, Teq_ag (my_ag.fr w34 rfl) I_h6.pTeq, Wnq_ag (my_ag.fr w34 rfl) I_h6.pWnq⟩
      show lwp p l e s m below meth c b D tys sg rho 898 [(3, 0), (2, 0), (2, 151), (2, 203), (0, i), (9, 0), (9, 0)] [(0, 1)] h33 kn
      refine lw_pop gz_0_898 rfl ?_
      refine lw_goto (t := 1878) gz_0_899 rfl ?_
      exact K h33 I_h33
theorem lcase_13 (hL4 : L4 ≤ 4096) (hL : rho 4096 = Int32.ofNat L4) (I : LInv h) (i0 : 0 ≤ i) (i8 : i + 8 ≤ L4) (K : ∀ h' : my_H, LInv h' → lwp p l e s m below meth c b D tys sg rho 1878 [(3, 0), (2, 0), (2, 151), (2, 203), (0, i), (9, 0), (9, 0)] [] h' kn) : lwp p l e s m below meth c b D tys sg rho 902 [(3, 0), (2, 0), (2, 151), (2, 203), (0, i), (9, 0), (9, 0)] [] h kn := by
  refine lw_aload_n gz_0_902 rfl ?_
  refine lw_aload3_n gz_0_903 rfl ?_
  refine lw_iload gz_0_904 rfl ?_
  refine lw_iconst gz_0_906 (by decide) ?_
  refine lw_iadd gz_0_907 ⟨by omega, by omega⟩ ?_
  refine lw_sl gz_0_908 hL4 hL (by omega) (by omega) (fun z1 ez1 pz1 qz1 => ?_)
  refine lw_aload3_n gz_0_909 rfl ?_
  refine lw_iload gz_0_910 rfl ?_
  refine lw_iconst gz_0_912 (by decide) ?_
  refine lw_iadd gz_0_913 ⟨by omega, by omega⟩ ?_
  refine lw_sl gz_0_914 hL4 hL (by omega) (by omega) (fun z2 ez2 pz2 qz2 => ?_)
  refine lw_aload3_n gz_0_915 rfl ?_
  refine lw_iload gz_0_916 rfl ?_
  refine lw_iconst gz_0_918 (by decide) ?_
  refine lw_iadd gz_0_919 ⟨by omega, by omega⟩ ?_
  refine lw_sl gz_0_920 hL4 hL (by omega) (by omega) (fun z3 ez3 pz3 qz3 => ?_)
  refine lw_aload3_n gz_0_921 rfl ?_
  refine lw_iload gz_0_922 rfl ?_
  refine lw_iconst gz_0_924 (by decide) ?_
  refine lw_iadd gz_0_925 ⟨by omega, by omega⟩ ?_
  refine lw_sl gz_0_926 hL4 hL (by omega) (by omega) (fun z4 ez4 pz4 qz4 => ?_)
  refine lw_aload3_n gz_0_927 rfl ?_
  refine lw_iload gz_0_928 rfl ?_
  refine lw_iconst gz_0_930 (by decide) ?_
  refine lw_iadd gz_0_931 ⟨by omega, by omega⟩ ?_
  refine lw_sl gz_0_932 hL4 hL (by omega) (by omega) (fun z5 ez5 pz5 qz5 => ?_)
  refine lw_inv (kz := 0) (as := [(0, z5), (0, z4), (0, z3), (0, z2), (0, z1)]) (r := []) (x := 0) (ls0 := [(2, 0), (0, z1), (0, z2), (0, z3), (0, z4), (0, z5)]) gz_0_933 gm_86 rfl is_0 rd_9 rfl rfl rfl rfl rfl (c_ThroughWindow_ways (d := 23) (x1 := z1) (x2 := z2) (x3 := z3) (x4 := z4) (x5 := z5) I.pLn (fun h6 w7 w8 => ?_) (fun h9 y10 w11 w12 w13 w14 w15 w16 => ?_))
  ·
    have I_h6 : LInv h6 := ⟨w8, Mw_ag (my_ag.fr w7 rfl) I.pMw, Mw3_ag (my_ag.fr w7 rfl) I.pMw3, Rws_ag (my_ag.fr w7 rfl) I.pRws, Wrd_ag (my_ag.fr w7 rfl) I.pWrd, Ceq_ag (my_ag.fr w7 rfl) I.pCeq, Wd9_ag (my_ag.fr w7 rfl) I.pWd9, Teq_ag (my_ag.fr w7 rfl) I.pTeq, Wnq_ag (my_ag.fr w7 rfl) I.pWnq⟩
    show lwp p l e s m below meth c b D tys sg rho 936 [(3, 0), (2, 0), (2, 151), (2, 203), (0, i), (9, 0), (9, 0)] [(0, (-1))] h6 kn
    refine lw_pop gz_0_936 rfl ?_
    refine lw_aload_n gz_0_937 rfl ?_
    refine lw_aload3_n gz_0_938 rfl ?_
    refine lw_iload gz_0_939 rfl ?_
    refine lw_iconst gz_0_941 (by decide) ?_
    refine lw_iadd gz_0_942 ⟨by omega, by omega⟩ ?_
    refine lw_sl gz_0_943 hL4 hL (by omega) (by omega) (fun z17 ez17 pz17 qz17 => ?_)
    refine lw_aload3_n gz_0_944 rfl ?_
    refine lw_iload gz_0_945 rfl ?_
    refine lw_iconst gz_0_947 (by decide) ?_
    refine lw_iadd gz_0_948 ⟨by omega, by omega⟩ ?_
    refine lw_sl gz_0_949 hL4 hL (by omega) (by omega) (fun z18 ez18 pz18 qz18 => ?_)
    refine lw_aload3_n gz_0_950 rfl ?_
    refine lw_iload gz_0_951 rfl ?_
    refine lw_iconst gz_0_953 (by decide) ?_
    refine lw_iadd gz_0_954 ⟨by omega, by omega⟩ ?_
    refine lw_sl gz_0_955 hL4 hL (by omega) (by omega) (fun z19 ez19 pz19 qz19 => ?_)
    refine lw_aload3_n gz_0_956 rfl ?_
    refine lw_iload gz_0_957 rfl ?_
    refine lw_iconst gz_0_959 (by decide) ?_
    refine lw_iadd gz_0_960 ⟨by omega, by omega⟩ ?_
    refine lw_sl gz_0_961 hL4 hL (by omega) (by omega) (fun z20 ez20 pz20 qz20 => ?_)
    refine lw_aload3_n gz_0_962 rfl ?_
    refine lw_iload gz_0_963 rfl ?_
    refine lw_iconst gz_0_965 (by decide) ?_
    refine lw_iadd gz_0_966 ⟨by omega, by omega⟩ ?_
    refine lw_sl gz_0_967 hL4 hL (by omega) (by omega) (fun z21 ez21 pz21 qz21 => ?_)
    refine lw_inv (kz := 0) (as := [(0, z21), (0, z20), (0, z19), (0, z18), (0, z17)]) (r := []) (x := 151) (ls0 := [(2, 151), (0, z17), (0, z18), (0, z19), (0, z20), (0, z21)]) gz_0_968 gm_207 rfl is_151 rd_10 rfl rfl rfl rfl rfl (c_Model_ways (d := 22) (x1 := z17) (x2 := z18) (x3 := z19) (x4 := z20) (x5 := z21) I_h6.pMw I_h6.pMw3 I_h6.pRws (fun h22 w23 w24 w25 => ?_) (fun h26 y27 w28 w29 w30 w31 w32 w33 w34 w35 w36 => ?_))
    ·
      have I_h22 : LInv h22 := ⟨Ln_ag (my_ag.fr w23 rfl) I_h6.pLn, Mw_ag (my_ag.fr w23 rfl) I_h6.pMw, Mw3_ag (my_ag.fr w23 rfl) I_h6.pMw3, w25, Wrd_ag (my_ag.fr w23 rfl) I_h6.pWrd, Ceq_ag (my_ag.fr w23 rfl) I_h6.pCeq, Wd9_ag (my_ag.fr w23 rfl) I_h6.pWd9, Teq_ag (my_ag.fr w23 rfl) I_h6.pTeq, Wnq_ag (my_ag.fr w23 rfl) I_h6.pWnq⟩
      show lwp p l e s m below meth c b D tys sg rho 971 [(3, 0), (2, 0), (2, 151), (2, 203), (0, i), (9, 0), (9, 0)] [(0, (-1))] h22 kn
      refine lw_pop gz_0_971 rfl ?_
      refine lw_goto (t := 1878) gz_0_972 rfl ?_
      exact K h22 I_h22
    ·
      have I_h26 : LInv h26 := ⟨Ln_ag (my_ag.fr w28 rfl) I_h6.pLn, Mw_ag (my_ag.fr w28 rfl) I_h6.pMw, Mw3_ag (my_ag.fr w28 rfl) I_h6.pMw3, w36, Wrd_ag (my_ag.fr w28 rfl) I_h6.pWrd, Ceq_ag (my_ag.fr w28 rfl) I_h6.pCeq, Wd9_ag (my_ag.fr w28 rfl) I_h6.pWd9, Teq_ag (my_ag.fr w28 rfl) I_h6.pTeq, Wnq_ag (my_ag.fr w28 rfl) I_h6.pWnq⟩
      show lwp p l e s m below meth c b D tys sg rho 971 [(3, 0), (2, 0), (2, 151), (2, 203), (0, i), (9, 0), (9, 0)] [(0, y27)] h26 kn
      refine lw_pop gz_0_971 rfl ?_
      refine lw_goto (t := 1878) gz_0_972 rfl ?_
      exact K h26 I_h26
  ·
    have I_h9 : LInv h9 := ⟨w16, Mw_ag (my_ag.fr w11 rfl) I.pMw, Mw3_ag (my_ag.fr w11 rfl) I.pMw3, Rws_ag (my_ag.fr w11 rfl) I.pRws, Wrd_ag (my_ag.fr w11 rfl) I.pWrd, Ceq_ag (my_ag.fr w11 rfl) I.pCeq, Wd9_ag (my_ag.fr w11 rfl) I.pWd9, Teq_ag (my_ag.fr w11 rfl) I.pTeq, Wnq_ag (my_ag.fr w11 rfl) I.pWnq⟩
    show lwp p l e s m below meth c b D tys sg rho 936 [(3, 0), (2, 0), (2, 151), (2, 203), (0, i), (9, 0), (9, 0)] [(0, y10)] h9 kn
    refine lw_pop gz_0_936 rfl ?_
    refine lw_aload_n gz_0_937 rfl ?_
    refine lw_aload3_n gz_0_938 rfl ?_
    refine lw_iload gz_0_939 rfl ?_
    refine lw_iconst gz_0_941 (by decide) ?_
    refine lw_iadd gz_0_942 ⟨by omega, by omega⟩ ?_
    refine lw_sl gz_0_943 hL4 hL (by omega) (by omega) (fun z37 ez37 pz37 qz37 => ?_)
    refine lw_aload3_n gz_0_944 rfl ?_
    refine lw_iload gz_0_945 rfl ?_
    refine lw_iconst gz_0_947 (by decide) ?_
    refine lw_iadd gz_0_948 ⟨by omega, by omega⟩ ?_
    refine lw_sl gz_0_949 hL4 hL (by omega) (by omega) (fun z38 ez38 pz38 qz38 => ?_)
    refine lw_aload3_n gz_0_950 rfl ?_
    refine lw_iload gz_0_951 rfl ?_
    refine lw_iconst gz_0_953 (by decide) ?_
    refine lw_iadd gz_0_954 ⟨by omega, by omega⟩ ?_
    refine lw_sl gz_0_955 hL4 hL (by omega) (by omega) (fun z39 ez39 pz39 qz39 => ?_)
    refine lw_aload3_n gz_0_956 rfl ?_
    refine lw_iload gz_0_957 rfl ?_
    refine lw_iconst gz_0_959 (by decide) ?_
    refine lw_iadd gz_0_960 ⟨by omega, by omega⟩ ?_
    refine lw_sl gz_0_961 hL4 hL (by omega) (by omega) (fun z40 ez40 pz40 qz40 => ?_)
    refine lw_aload3_n gz_0_962 rfl ?_
    refine lw_iload gz_0_963 rfl ?_
    refine lw_iconst gz_0_965 (by decide) ?_
    refine lw_iadd gz_0_966 ⟨by omega, by omega⟩ ?_
    refine lw_sl gz_0_967 hL4 hL (by omega) (by omega) (fun z41 ez41 pz41 qz41 => ?_)
    refine lw_inv (kz := 0) (as := [(0, z41), (0, z40), (0, z39), (0, z38), (0, z37)]) (r := []) (x := 151) (ls0 := [(2, 151), (0, z37), (0, z38), (0, z39), (0, z40), (0, z41)]) gz_0_968 gm_207 rfl is_151 rd_10 rfl rfl rfl rfl rfl (c_Model_ways (d := 22) (x1 := z37) (x2 := z38) (x3 := z39) (x4 := z40) (x5 := z41) I_h9.pMw I_h9.pMw3 I_h9.pRws (fun h42 w43 w44 w45 => ?_) (fun h46 y47 w48 w49 w50 w51 w52 w53 w54 w55 w56 => ?_))
    ·
      have I_h42 : LInv h42 := ⟨Ln_ag (my_ag.fr w43 rfl) I_h9.pLn, Mw_ag (my_ag.fr w43 rfl) I_h9.pMw, Mw3_ag (my_ag.fr w43 rfl) I_h9.pMw3, w45, Wrd_ag (my_ag.fr w43 rfl) I_h9.pWrd, Ceq_ag (my_ag.fr w43 rfl) I_h9.pCeq, Wd9_ag (my_ag.fr w43 rfl) I_h9.pWd9, Teq_ag (my_ag.fr w43 rfl) I_h9.pTeq, Wnq_ag (my_ag.fr w43 rfl) I_h9.pWnq⟩
      show lwp p l e s m below meth c b D tys sg rho 971 [(3, 0), (2, 0), (2, 151), (2, 203), (0, i), (9, 0), (9, 0)] [(0, (-1))] h42 kn
      refine lw_pop gz_0_971 rfl ?_
      refine lw_goto (t := 1878) gz_0_972 rfl ?_
      exact K h42 I_h42
    ·
      have I_h46 : LInv h46 := ⟨Ln_ag (my_ag.fr w48 rfl) I_h9.pLn, Mw_ag (my_ag.fr w48 rfl) I_h9.pMw, Mw3_ag (my_ag.fr w48 rfl) I_h9.pMw3, w56, Wrd_ag (my_ag.fr w48 rfl) I_h9.pWrd, Ceq_ag (my_ag.fr w48 rfl) I_h9.pCeq, Wd9_ag (my_ag.fr w48 rfl) I_h9.pWd9, Teq_ag (my_ag.fr w48 rfl) I_h9.pTeq, Wnq_ag (my_ag.fr w48 rfl) I_h9.pWnq⟩
      show lwp p l e s m below meth c b D tys sg rho 971 [(3, 0), (2, 0), (2, 151), (2, 203), (0, i), (9, 0), (9, 0)] [(0, y47)] h46 kn
      refine lw_pop gz_0_971 rfl ?_
      refine lw_goto (t := 1878) gz_0_972 rfl ?_
      exact K h46 I_h46
theorem lcase_14 (hL4 : L4 ≤ 4096) (hL : rho 4096 = Int32.ofNat L4) (I : LInv h) (i0 : 0 ≤ i) (i8 : i + 8 ≤ L4) (K : ∀ h' : my_H, LInv h' → lwp p l e s m below meth c b D tys sg rho 1878 [(3, 0), (2, 0), (2, 151), (2, 203), (0, i), (9, 0), (9, 0)] [] h' kn) : lwp p l e s m below meth c b D tys sg rho 975 [(3, 0), (2, 0), (2, 151), (2, 203), (0, i), (9, 0), (9, 0)] [] h kn := by
  refine lw_aload_n gz_0_975 rfl ?_
  refine lw_aload3_n gz_0_976 rfl ?_
  refine lw_iload gz_0_977 rfl ?_
  refine lw_iconst gz_0_979 (by decide) ?_
  refine lw_iadd gz_0_980 ⟨by omega, by omega⟩ ?_
  refine lw_sl gz_0_981 hL4 hL (by omega) (by omega) (fun z1 ez1 pz1 qz1 => ?_)
  refine lw_aload3_n gz_0_982 rfl ?_
  refine lw_iload gz_0_983 rfl ?_
  refine lw_iconst gz_0_985 (by decide) ?_
  refine lw_iadd gz_0_986 ⟨by omega, by omega⟩ ?_
  refine lw_sl gz_0_987 hL4 hL (by omega) (by omega) (fun z2 ez2 pz2 qz2 => ?_)
  refine lw_aload3_n gz_0_988 rfl ?_
  refine lw_iload gz_0_989 rfl ?_
  refine lw_iconst gz_0_991 (by decide) ?_
  refine lw_iadd gz_0_992 ⟨by omega, by omega⟩ ?_
  refine lw_sl gz_0_993 hL4 hL (by omega) (by omega) (fun z3 ez3 pz3 qz3 => ?_)
  refine lw_aload3_n gz_0_994 rfl ?_
  refine lw_iload gz_0_995 rfl ?_
  refine lw_iconst gz_0_997 (by decide) ?_
  refine lw_iadd gz_0_998 ⟨by omega, by omega⟩ ?_
  refine lw_sl gz_0_999 hL4 hL (by omega) (by omega) (fun z4 ez4 pz4 qz4 => ?_)
  refine lw_aload3_n gz_0_1000 rfl ?_
  refine lw_iload gz_0_1001 rfl ?_
  refine lw_iconst gz_0_1003 (by decide) ?_
  refine lw_iadd gz_0_1004 ⟨by omega, by omega⟩ ?_
  refine lw_sl gz_0_1005 hL4 hL (by omega) (by omega) (fun z5 ez5 pz5 qz5 => ?_)
  refine lw_aload3_n gz_0_1006 rfl ?_
  refine lw_iload gz_0_1007 rfl ?_
  refine lw_bipush gz_0_1009 (by decide) ?_
  refine lw_iadd gz_0_1011 ⟨by omega, by omega⟩ ?_
  refine lw_sl gz_0_1012 hL4 hL (by omega) (by omega) (fun z6 ez6 pz6 qz6 => ?_)
  refine lw_aload3_n gz_0_1013 rfl ?_
  refine lw_iload gz_0_1014 rfl ?_
  refine lw_bipush gz_0_1016 (by decide) ?_
  refine lw_iadd gz_0_1018 ⟨by omega, by omega⟩ ?_
  refine lw_sl gz_0_1019 hL4 hL (by omega) (by omega) (fun z7 ez7 pz7 qz7 => ?_)
  refine lw_inv (kz := 1) (as := [(0, z7), (0, z6), (0, z5), (0, z4), (0, z3), (0, z2), (0, z1)]) (r := []) (x := 0) (ls0 := [(2, 0), (0, z1), (0, z2), (0, z3), (0, z4), (0, z5), (0, z6), (0, z7), (9, 0)]) gz_0_1020 gm_108 rfl is_0 rd_9 rfl rfl rfl rfl rfl (c_ThroughWindow_way (d := 23) (x1 := z1) (x2 := z2) (x3 := z3) (x4 := z4) (x5 := z5) (x6 := z6) (x7 := z7) I.pLn (fun h8 w9 w10 => ?_) (fun h11 y12 w13 w14 w15 w16 w17 w18 w19 w20 w21 => ?_))
  ·
    have I_h8 : LInv h8 := ⟨w10, Mw_ag (my_ag.fr w9 rfl) I.pMw, Mw3_ag (my_ag.fr w9 rfl) I.pMw3, Rws_ag (my_ag.fr w9 rfl) I.pRws, Wrd_ag (my_ag.fr w9 rfl) I.pWrd, Ceq_ag (my_ag.fr w9 rfl) I.pCeq, Wd9_ag (my_ag.fr w9 rfl) I.pWd9, Teq_ag (my_ag.fr w9 rfl) I.pTeq, Wnq_ag (my_ag.fr w9 rfl) I.pWnq⟩
    show lwp p l e s m below meth c b D tys sg rho 1023 [(3, 0), (2, 0), (2, 151), (2, 203), (0, i), (9, 0), (9, 0)] [(0, (-1))] h8 kn
    refine lw_pop gz_0_1023 rfl ?_
    refine lw_aload_n gz_0_1024 rfl ?_
    refine lw_aload3_n gz_0_1025 rfl ?_
    refine lw_iload gz_0_1026 rfl ?_
    refine lw_iconst gz_0_1028 (by decide) ?_
    refine lw_iadd gz_0_1029 ⟨by omega, by omega⟩ ?_
    refine lw_sl gz_0_1030 hL4 hL (by omega) (by omega) (fun z22 ez22 pz22 qz22 => ?_)
    refine lw_aload3_n gz_0_1031 rfl ?_
    refine lw_iload gz_0_1032 rfl ?_
    refine lw_iconst gz_0_1034 (by decide) ?_
    refine lw_iadd gz_0_1035 ⟨by omega, by omega⟩ ?_
    refine lw_sl gz_0_1036 hL4 hL (by omega) (by omega) (fun z23 ez23 pz23 qz23 => ?_)
    refine lw_aload3_n gz_0_1037 rfl ?_
    refine lw_iload gz_0_1038 rfl ?_
    refine lw_iconst gz_0_1040 (by decide) ?_
    refine lw_iadd gz_0_1041 ⟨by omega, by omega⟩ ?_
    refine lw_sl gz_0_1042 hL4 hL (by omega) (by omega) (fun z24 ez24 pz24 qz24 => ?_)
    refine lw_aload3_n gz_0_1043 rfl ?_
    refine lw_iload gz_0_1044 rfl ?_
    refine lw_iconst gz_0_1046 (by decide) ?_
    refine lw_iadd gz_0_1047 ⟨by omega, by omega⟩ ?_
    refine lw_sl gz_0_1048 hL4 hL (by omega) (by omega) (fun z25 ez25 pz25 qz25 => ?_)
    refine lw_aload3_n gz_0_1049 rfl ?_
    refine lw_iload gz_0_1050 rfl ?_
    refine lw_iconst gz_0_1052 (by decide) ?_
    refine lw_iadd gz_0_1053 ⟨by omega, by omega⟩ ?_
    refine lw_sl gz_0_1054 hL4 hL (by omega) (by omega) (fun z26 ez26 pz26 qz26 => ?_)
    refine lw_aload3_n gz_0_1055 rfl ?_
    refine lw_iload gz_0_1056 rfl ?_
    refine lw_bipush gz_0_1058 (by decide) ?_
    refine lw_iadd gz_0_1060 ⟨by omega, by omega⟩ ?_
    refine lw_sl gz_0_1061 hL4 hL (by omega) (by omega) (fun z27 ez27 pz27 qz27 => ?_)
    refine lw_aload3_n gz_0_1062 rfl ?_
    refine lw_iload gz_0_1063 rfl ?_
    refine lw_bipush gz_0_1065 (by decide) ?_
    refine lw_iadd gz_0_1067 ⟨by omega, by omega⟩ ?_
    refine lw_sl gz_0_1068 hL4 hL (by omega) (by omega) (fun z28 ez28 pz28 qz28 => ?_)
    refine lw_inv (kz := 1) (as := [(0, z28), (0, z27), (0, z26), (0, z25), (0, z24), (0, z23), (0, z22)]) (r := []) (x := 151) (ls0 := [(2, 151), (0, z22), (0, z23), (0, z24), (0, z25), (0, z26), (0, z27), (0, z28), (9, 0)]) gz_0_1069 gm_219 rfl is_151 rd_10 rfl rfl rfl rfl rfl (c_Model_way (d := 22) (x1 := z22) (x2 := z23) (x3 := z24) (x4 := z25) (x5 := z26) (x6 := z27) (x7 := z28) I_h8.pMw I_h8.pMw3 I_h8.pRws (fun h29 w30 w31 w32 => ?_) (fun h33 y34 w35 w36 w37 w38 w39 w40 w41 w42 w43 w44 w45 w46 w47 w48 w49 => ?_))
    ·
      have I_h29 : LInv h29 := ⟨Ln_ag (my_ag.fr w30 rfl) I_h8.pLn, Mw_ag (my_ag.fr w30 rfl) I_h8.pMw, Mw3_ag (my_ag.fr w30 rfl) I_h8.pMw3, w32, Wrd_ag (my_ag.fr w30 rfl) I_h8.pWrd, Ceq_ag (my_ag.fr w30 rfl) I_h8.pCeq, Wd9_ag (my_ag.fr w30 rfl) I_h8.pWd9, Teq_ag (my_ag.fr w30 rfl) I_h8.pTeq, Wnq_ag (my_ag.fr w30 rfl) I_h8.pWnq⟩
      show lwp p l e s m below meth c b D tys sg rho 1072 [(3, 0), (2, 0), (2, 151), (2, 203), (0, i), (9, 0), (9, 0)] [(0, (-1))] h29 kn
      refine lw_pop gz_0_1072 rfl ?_
      refine lw_goto (t := 1878) gz_0_1073 rfl ?_
      exact K h29 I_h29
    ·
      have I_h33 : LInv h33 := ⟨Ln_ag (my_ag.fr w35 rfl) I_h8.pLn, Mw_ag (my_ag.fr w35 rfl) I_h8.pMw, Mw3_ag (my_ag.fr w35 rfl) I_h8.pMw3, w49, Wrd_ag (my_ag.fr w35 rfl) I_h8.pWrd, Ceq_ag (my_ag.fr w35 rfl) I_h8.pCeq, Wd9_ag (my_ag.fr w35 rfl) I_h8.pWd9, Teq_ag (my_ag.fr w35 rfl) I_h8.pTeq, Wnq_ag (my_ag.fr w35 rfl) I_h8.pWnq⟩
      show lwp p l e s m below meth c b D tys sg rho 1072 [(3, 0), (2, 0), (2, 151), (2, 203), (0, i), (9, 0), (9, 0)] [(0, y34)] h33 kn
      refine lw_pop gz_0_1072 rfl ?_
      refine lw_goto (t := 1878) gz_0_1073 rfl ?_
      exact K h33 I_h33
  ·
    have I_h11 : LInv h11 := ⟨w21, Mw_ag (my_ag.fr w13 rfl) I.pMw, Mw3_ag (my_ag.fr w13 rfl) I.pMw3, Rws_ag (my_ag.fr w13 rfl) I.pRws, Wrd_ag (my_ag.fr w13 rfl) I.pWrd, Ceq_ag (my_ag.fr w13 rfl) I.pCeq, Wd9_ag (my_ag.fr w13 rfl) I.pWd9, Teq_ag (my_ag.fr w13 rfl) I.pTeq, Wnq_ag (my_ag.fr w13 rfl) I.pWnq⟩
    show lwp p l e s m below meth c b D tys sg rho 1023 [(3, 0), (2, 0), (2, 151), (2, 203), (0, i), (9, 0), (9, 0)] [(0, y12)] h11 kn
    refine lw_pop gz_0_1023 rfl ?_
    refine lw_aload_n gz_0_1024 rfl ?_
    refine lw_aload3_n gz_0_1025 rfl ?_
    refine lw_iload gz_0_1026 rfl ?_
    refine lw_iconst gz_0_1028 (by decide) ?_
    refine lw_iadd gz_0_1029 ⟨by omega, by omega⟩ ?_
    refine lw_sl gz_0_1030 hL4 hL (by omega) (by omega) (fun z50 ez50 pz50 qz50 => ?_)
    refine lw_aload3_n gz_0_1031 rfl ?_
    refine lw_iload gz_0_1032 rfl ?_
    refine lw_iconst gz_0_1034 (by decide) ?_
    refine lw_iadd gz_0_1035 ⟨by omega, by omega⟩ ?_
    refine lw_sl gz_0_1036 hL4 hL (by omega) (by omega) (fun z51 ez51 pz51 qz51 => ?_)
    refine lw_aload3_n gz_0_1037 rfl ?_
    refine lw_iload gz_0_1038 rfl ?_
    refine lw_iconst gz_0_1040 (by decide) ?_
    refine lw_iadd gz_0_1041 ⟨by omega, by omega⟩ ?_
    refine lw_sl gz_0_1042 hL4 hL (by omega) (by omega) (fun z52 ez52 pz52 qz52 => ?_)
    refine lw_aload3_n gz_0_1043 rfl ?_
    refine lw_iload gz_0_1044 rfl ?_
    refine lw_iconst gz_0_1046 (by decide) ?_
    refine lw_iadd gz_0_1047 ⟨by omega, by omega⟩ ?_
    refine lw_sl gz_0_1048 hL4 hL (by omega) (by omega) (fun z53 ez53 pz53 qz53 => ?_)
    refine lw_aload3_n gz_0_1049 rfl ?_
    refine lw_iload gz_0_1050 rfl ?_
    refine lw_iconst gz_0_1052 (by decide) ?_
    refine lw_iadd gz_0_1053 ⟨by omega, by omega⟩ ?_
    refine lw_sl gz_0_1054 hL4 hL (by omega) (by omega) (fun z54 ez54 pz54 qz54 => ?_)
    refine lw_aload3_n gz_0_1055 rfl ?_
    refine lw_iload gz_0_1056 rfl ?_
    refine lw_bipush gz_0_1058 (by decide) ?_
    refine lw_iadd gz_0_1060 ⟨by omega, by omega⟩ ?_
    refine lw_sl gz_0_1061 hL4 hL (by omega) (by omega) (fun z55 ez55 pz55 qz55 => ?_)
    refine lw_aload3_n gz_0_1062 rfl ?_
    refine lw_iload gz_0_1063 rfl ?_
    refine lw_bipush gz_0_1065 (by decide) ?_
    refine lw_iadd gz_0_1067 ⟨by omega, by omega⟩ ?_
    refine lw_sl gz_0_1068 hL4 hL (by omega) (by omega) (fun z56 ez56 pz56 qz56 => ?_)
    refine lw_inv (kz := 1) (as := [(0, z56), (0, z55), (0, z54), (0, z53), (0, z52), (0, z51), (0, z50)]) (r := []) (x := 151) (ls0 := [(2, 151), (0, z50), (0, z51), (0, z52), (0, z53), (0, z54), (0, z55), (0, z56), (9, 0)]) gz_0_1069 gm_219 rfl is_151 rd_10 rfl rfl rfl rfl rfl (c_Model_way (d := 22) (x1 := z50) (x2 := z51) (x3 := z52) (x4 := z53) (x5 := z54) (x6 := z55) (x7 := z56) I_h11.pMw I_h11.pMw3 I_h11.pRws (fun h57 w58 w59 w60 => ?_) (fun h61 y62 w63 w64 w65 w66 w67 w68 w69 w70 w71 w72 w73 w74 w75 w76 w77 => ?_))
    ·
      have I_h57 : LInv h57 := ⟨Ln_ag (my_ag.fr w58 rfl) I_h11.pLn, Mw_ag (my_ag.fr w58 rfl) I_h11.pMw, Mw3_ag (my_ag.fr w58 rfl) I_h11.pMw3, w60, Wrd_ag (my_ag.fr w58 rfl) I_h11.pWrd, Ceq_ag (my_ag.fr w58 rfl) I_h11.pCeq, Wd9_ag (my_ag.fr w58 rfl) I_h11.pWd9, Teq_ag (my_ag.fr w58 rfl) I_h11.pTeq, Wnq_ag (my_ag.fr w58 rfl) I_h11.pWnq⟩
      show lwp p l e s m below meth c b D tys sg rho 1072 [(3, 0), (2, 0), (2, 151), (2, 203), (0, i), (9, 0), (9, 0)] [(0, (-1))] h57 kn
      refine lw_pop gz_0_1072 rfl ?_
      refine lw_goto (t := 1878) gz_0_1073 rfl ?_
      exact K h57 I_h57
    ·
      have I_h61 : LInv h61 := ⟨Ln_ag (my_ag.fr w63 rfl) I_h11.pLn, Mw_ag (my_ag.fr w63 rfl) I_h11.pMw, Mw3_ag (my_ag.fr w63 rfl) I_h11.pMw3, w77, Wrd_ag (my_ag.fr w63 rfl) I_h11.pWrd, Ceq_ag (my_ag.fr w63 rfl) I_h11.pCeq, Wd9_ag (my_ag.fr w63 rfl) I_h11.pWd9, Teq_ag (my_ag.fr w63 rfl) I_h11.pTeq, Wnq_ag (my_ag.fr w63 rfl) I_h11.pWnq⟩
      show lwp p l e s m below meth c b D tys sg rho 1072 [(3, 0), (2, 0), (2, 151), (2, 203), (0, i), (9, 0), (9, 0)] [(0, y62)] h61 kn
      refine lw_pop gz_0_1072 rfl ?_
      refine lw_goto (t := 1878) gz_0_1073 rfl ?_
      exact K h61 I_h61
theorem lcase_15 (hL4 : L4 ≤ 4096) (hL : rho 4096 = Int32.ofNat L4) (I : LInv h) (i0 : 0 ≤ i) (i8 : i + 8 ≤ L4) (K : ∀ h' : my_H, LInv h' → lwp p l e s m below meth c b D tys sg rho 1878 [(3, 0), (2, 0), (2, 151), (2, 203), (0, i), (9, 0), (9, 0)] [] h' kn) : lwp p l e s m below meth c b D tys sg rho 1076 [(3, 0), (2, 0), (2, 151), (2, 203), (0, i), (9, 0), (9, 0)] [] h kn := by
  refine lw_aload_n gz_0_1076 rfl ?_
  refine lw_aload3_n gz_0_1077 rfl ?_
  refine lw_iload gz_0_1078 rfl ?_
  refine lw_iconst gz_0_1080 (by decide) ?_
  refine lw_iadd gz_0_1081 ⟨by omega, by omega⟩ ?_
  refine lw_sl gz_0_1082 hL4 hL (by omega) (by omega) (fun z1 ez1 pz1 qz1 => ?_)
  refine lw_aload3_n gz_0_1083 rfl ?_
  refine lw_iload gz_0_1084 rfl ?_
  refine lw_iconst gz_0_1086 (by decide) ?_
  refine lw_iadd gz_0_1087 ⟨by omega, by omega⟩ ?_
  refine lw_sl gz_0_1088 hL4 hL (by omega) (by omega) (fun z2 ez2 pz2 qz2 => ?_)
  refine lw_aload3_n gz_0_1089 rfl ?_
  refine lw_iload gz_0_1090 rfl ?_
  refine lw_iconst gz_0_1092 (by decide) ?_
  refine lw_iadd gz_0_1093 ⟨by omega, by omega⟩ ?_
  refine lw_sl gz_0_1094 hL4 hL (by omega) (by omega) (fun z3 ez3 pz3 qz3 => ?_)
  refine lw_aload3_n gz_0_1095 rfl ?_
  refine lw_iload gz_0_1096 rfl ?_
  refine lw_iconst gz_0_1098 (by decide) ?_
  refine lw_iadd gz_0_1099 ⟨by omega, by omega⟩ ?_
  refine lw_sl gz_0_1100 hL4 hL (by omega) (by omega) (fun z4 ez4 pz4 qz4 => ?_)
  refine lw_aload3_n gz_0_1101 rfl ?_
  refine lw_iload gz_0_1102 rfl ?_
  refine lw_iconst gz_0_1104 (by decide) ?_
  refine lw_iadd gz_0_1105 ⟨by omega, by omega⟩ ?_
  refine lw_sl gz_0_1106 hL4 hL (by omega) (by omega) (fun z5 ez5 pz5 qz5 => ?_)
  refine lw_inv (kz := 0) (as := [(0, z5), (0, z4), (0, z3), (0, z2), (0, z1)]) (r := []) (x := 0) (ls0 := [(2, 0), (0, z1), (0, z2), (0, z3), (0, z4), (0, z5)]) gz_0_1107 gm_109 rfl is_0 rd_9 rfl rfl rfl rfl rfl (c_ThroughWindow_why (d := 23) (x1 := z1) (x2 := z2) (x3 := z3) (x4 := z4) (x5 := z5) I.pLn (fun h6 w7 w8 => ?_) (fun h9 w10 w11 w12 w13 w14 w15 => ?_) (fun h16 w17 w18 w19 w20 w21 w22 => ?_) (fun h23 y24 w25 w26 w27 w28 w29 w30 => ?_))
  ·
    have I_h6 : LInv h6 := ⟨w8, Mw_ag (my_ag.fr w7 rfl) I.pMw, Mw3_ag (my_ag.fr w7 rfl) I.pMw3, Rws_ag (my_ag.fr w7 rfl) I.pRws, Wrd_ag (my_ag.fr w7 rfl) I.pWrd, Ceq_ag (my_ag.fr w7 rfl) I.pCeq, Wd9_ag (my_ag.fr w7 rfl) I.pWd9, Teq_ag (my_ag.fr w7 rfl) I.pTeq, Wnq_ag (my_ag.fr w7 rfl) I.pWnq⟩
    show lwp p l e s m below meth c b D tys sg rho 1110 [(3, 0), (2, 0), (2, 151), (2, 203), (0, i), (9, 0), (9, 0)] [(0, (-1))] h6 kn
    refine lw_pop gz_0_1110 rfl ?_
    refine lw_aload_n gz_0_1111 rfl ?_
    refine lw_aload3_n gz_0_1112 rfl ?_
    refine lw_iload gz_0_1113 rfl ?_
    refine lw_iconst gz_0_1115 (by decide) ?_
    refine lw_iadd gz_0_1116 ⟨by omega, by omega⟩ ?_
    refine lw_sl gz_0_1117 hL4 hL (by omega) (by omega) (fun z31 ez31 pz31 qz31 => ?_)
    refine lw_aload3_n gz_0_1118 rfl ?_
    refine lw_iload gz_0_1119 rfl ?_
    refine lw_iconst gz_0_1121 (by decide) ?_
    refine lw_iadd gz_0_1122 ⟨by omega, by omega⟩ ?_
    refine lw_sl gz_0_1123 hL4 hL (by omega) (by omega) (fun z32 ez32 pz32 qz32 => ?_)
    refine lw_aload3_n gz_0_1124 rfl ?_
    refine lw_iload gz_0_1125 rfl ?_
    refine lw_iconst gz_0_1127 (by decide) ?_
    refine lw_iadd gz_0_1128 ⟨by omega, by omega⟩ ?_
    refine lw_sl gz_0_1129 hL4 hL (by omega) (by omega) (fun z33 ez33 pz33 qz33 => ?_)
    refine lw_aload3_n gz_0_1130 rfl ?_
    refine lw_iload gz_0_1131 rfl ?_
    refine lw_iconst gz_0_1133 (by decide) ?_
    refine lw_iadd gz_0_1134 ⟨by omega, by omega⟩ ?_
    refine lw_sl gz_0_1135 hL4 hL (by omega) (by omega) (fun z34 ez34 pz34 qz34 => ?_)
    refine lw_aload3_n gz_0_1136 rfl ?_
    refine lw_iload gz_0_1137 rfl ?_
    refine lw_iconst gz_0_1139 (by decide) ?_
    refine lw_iadd gz_0_1140 ⟨by omega, by omega⟩ ?_
    refine lw_sl gz_0_1141 hL4 hL (by omega) (by omega) (fun z35 ez35 pz35 qz35 => ?_)
    refine lw_inv (kz := 1) (as := [(0, z35), (0, z34), (0, z33), (0, z32), (0, z31)]) (r := []) (x := 151) (ls0 := [(2, 151), (0, z31), (0, z32), (0, z33), (0, z34), (0, z35), (9, 0)]) gz_0_1142 gm_228 rfl is_151 rd_10 rfl rfl rfl rfl rfl (c_Model_why (d := 24) (x1 := z31) (x2 := z32) (x3 := z33) (x4 := z34) (x5 := z35) I_h6.pMw I_h6.pMw3 I_h6.pRws (fun h36 w37 w38 w39 => ?_) (fun h40 w41 w42 w43 w44 w45 w46 w47 => ?_) (fun h48 w49 w50 w51 w52 w53 w54 w55 => ?_) (fun h56 y57 w58 w59 w60 w61 w62 w63 w64 w65 w66 => ?_))
    ·
      have I_h36 : LInv h36 := ⟨Ln_ag (my_ag.fr w37 rfl) I_h6.pLn, Mw_ag (my_ag.fr w37 rfl) I_h6.pMw, Mw3_ag (my_ag.fr w37 rfl) I_h6.pMw3, w39, Wrd_ag (my_ag.fr w37 rfl) I_h6.pWrd, Ceq_ag (my_ag.fr w37 rfl) I_h6.pCeq, Wd9_ag (my_ag.fr w37 rfl) I_h6.pWd9, Teq_ag (my_ag.fr w37 rfl) I_h6.pTeq, Wnq_ag (my_ag.fr w37 rfl) I_h6.pWnq⟩
      show lwp p l e s m below meth c b D tys sg rho 1145 [(3, 0), (2, 0), (2, 151), (2, 203), (0, i), (9, 0), (9, 0)] [(0, (-1))] h36 kn
      refine lw_pop gz_0_1145 rfl ?_
      refine lw_goto (t := 1878) gz_0_1146 rfl ?_
      exact K h36 I_h36
    ·
      have I_h40 : LInv h40 := ⟨Ln_ag (my_ag.fr w41 rfl) I_h6.pLn, Mw_ag (my_ag.fr w41 rfl) I_h6.pMw, Mw3_ag (my_ag.fr w41 rfl) I_h6.pMw3, w47, Wrd_ag (my_ag.fr w41 rfl) I_h6.pWrd, Ceq_ag (my_ag.fr w41 rfl) I_h6.pCeq, Wd9_ag (my_ag.fr w41 rfl) I_h6.pWd9, Teq_ag (my_ag.fr w41 rfl) I_h6.pTeq, Wnq_ag (my_ag.fr w41 rfl) I_h6.pWnq⟩
      show lwp p l e s m below meth c b D tys sg rho 1145 [(3, 0), (2, 0), (2, 151), (2, 203), (0, i), (9, 0), (9, 0)] [(0, 0)] h40 kn
      refine lw_pop gz_0_1145 rfl ?_
      refine lw_goto (t := 1878) gz_0_1146 rfl ?_
      exact K h40 I_h40
    ·
      have I_h48 : LInv h48 := ⟨Ln_ag (my_ag.fr w49 rfl) I_h6.pLn, Mw_ag (my_ag.fr w49 rfl) I_h6.pMw, Mw3_ag (my_ag.fr w49 rfl) I_h6.pMw3, w55, Wrd_ag (my_ag.fr w49 rfl) I_h6.pWrd, Ceq_ag (my_ag.fr w49 rfl) I_h6.pCeq, Wd9_ag (my_ag.fr w49 rfl) I_h6.pWd9, Teq_ag (my_ag.fr w49 rfl) I_h6.pTeq, Wnq_ag (my_ag.fr w49 rfl) I_h6.pWnq⟩
      show lwp p l e s m below meth c b D tys sg rho 1145 [(3, 0), (2, 0), (2, 151), (2, 203), (0, i), (9, 0), (9, 0)] [(0, 1)] h48 kn
      refine lw_pop gz_0_1145 rfl ?_
      refine lw_goto (t := 1878) gz_0_1146 rfl ?_
      exact K h48 I_h48
    ·
      have I_h56 : LInv h56 := ⟨Ln_ag (my_ag.fr w58 rfl) I_h6.pLn, Mw_ag (my_ag.fr w58 rfl) I_h6.pMw, Mw3_ag (my_ag.fr w58 rfl) I_h6.pMw3, w66, Wrd_ag (my_ag.fr w58 rfl) I_h6.pWrd, Ceq_ag (my_ag.fr w58 rfl) I_h6.pCeq, Wd9_ag (my_ag.fr w58 rfl) I_h6.pWd9, Teq_ag (my_ag.fr w58 rfl) I_h6.pTeq, Wnq_ag (my_ag.fr w58 rfl) I_h6.pWnq⟩
      show lwp p l e s m below meth c b D tys sg rho 1145 [(3, 0), (2, 0), (2, 151), (2, 203), (0, i), (9, 0), (9, 0)] [(0, y57)] h56 kn
      refine lw_pop gz_0_1145 rfl ?_
      refine lw_goto (t := 1878) gz_0_1146 rfl ?_
      exact K h56 I_h56
  ·
    have I_h9 : LInv h9 := ⟨w15, Mw_ag (my_ag.fr w10 rfl) I.pMw, Mw3_ag (my_ag.fr w10 rfl) I.pMw3, Rws_ag (my_ag.fr w10 rfl) I.pRws, Wrd_ag (my_ag.fr w10 rfl) I.pWrd, Ceq_ag (my_ag.fr w10 rfl) I.pCeq, Wd9_ag (my_ag.fr w10 rfl) I.pWd9, Teq_ag (my_ag.fr w10 rfl) I.pTeq, Wnq_ag (my_ag.fr w10 rfl) I.pWnq⟩
    show lwp p l e s m below meth c b D tys sg rho 1110 [(3, 0), (2, 0), (2, 151), (2, 203), (0, i), (9, 0), (9, 0)] [(0, 0)] h9 kn
    refine lw_pop gz_0_1110 rfl ?_
    refine lw_aload_n gz_0_1111 rfl ?_
    refine lw_aload3_n gz_0_1112 rfl ?_
    refine lw_iload gz_0_1113 rfl ?_
    refine lw_iconst gz_0_1115 (by decide) ?_
    refine lw_iadd gz_0_1116 ⟨by omega, by omega⟩ ?_
    refine lw_sl gz_0_1117 hL4 hL (by omega) (by omega) (fun z67 ez67 pz67 qz67 => ?_)
    refine lw_aload3_n gz_0_1118 rfl ?_
    refine lw_iload gz_0_1119 rfl ?_
    refine lw_iconst gz_0_1121 (by decide) ?_
    refine lw_iadd gz_0_1122 ⟨by omega, by omega⟩ ?_
    refine lw_sl gz_0_1123 hL4 hL (by omega) (by omega) (fun z68 ez68 pz68 qz68 => ?_)
    refine lw_aload3_n gz_0_1124 rfl ?_
    refine lw_iload gz_0_1125 rfl ?_
    refine lw_iconst gz_0_1127 (by decide) ?_
    refine lw_iadd gz_0_1128 ⟨by omega, by omega⟩ ?_
    refine lw_sl gz_0_1129 hL4 hL (by omega) (by omega) (fun z69 ez69 pz69 qz69 => ?_)
    refine lw_aload3_n gz_0_1130 rfl ?_
    refine lw_iload gz_0_1131 rfl ?_
    refine lw_iconst gz_0_1133 (by decide) ?_
    refine lw_iadd gz_0_1134 ⟨by omega, by omega⟩ ?_
    refine lw_sl gz_0_1135 hL4 hL (by omega) (by omega) (fun z70 ez70 pz70 qz70 => ?_)
    refine lw_aload3_n gz_0_1136 rfl ?_
    refine lw_iload gz_0_1137 rfl ?_
    refine lw_iconst gz_0_1139 (by decide) ?_
    refine lw_iadd gz_0_1140 ⟨by omega, by omega⟩ ?_
    refine lw_sl gz_0_1141 hL4 hL (by omega) (by omega) (fun z71 ez71 pz71 qz71 => ?_)
    refine lw_inv (kz := 1) (as := [(0, z71), (0, z70), (0, z69), (0, z68), (0, z67)]) (r := []) (x := 151) (ls0 := [(2, 151), (0, z67), (0, z68), (0, z69), (0, z70), (0, z71), (9, 0)]) gz_0_1142 gm_228 rfl is_151 rd_10 rfl rfl rfl rfl rfl (c_Model_why (d := 24) (x1 := z67) (x2 := z68) (x3 := z69) (x4 := z70) (x5 := z71) I_h9.pMw I_h9.pMw3 I_h9.pRws (fun h72 w73 w74 w75 => ?_) (fun h76 w77 w78 w79 w80 w81 w82 w83 => ?_) (fun h84 w85 w86 w87 w88 w89 w90 w91 => ?_) (fun h92 y93 w94 w95 w96 w97 w98 w99 w100 w101 w102 => ?_))
    ·
      have I_h72 : LInv h72 := ⟨Ln_ag (my_ag.fr w73 rfl) I_h9.pLn, Mw_ag (my_ag.fr w73 rfl) I_h9.pMw, Mw3_ag (my_ag.fr w73 rfl) I_h9.pMw3, w75, Wrd_ag (my_ag.fr w73 rfl) I_h9.pWrd, Ceq_ag (my_ag.fr w73 rfl) I_h9.pCeq, Wd9_ag (my_ag.fr w73 rfl) I_h9.pWd9, Teq_ag (my_ag.fr w73 rfl) I_h9.pTeq, Wnq_ag (my_ag.fr w73 rfl) I_h9.pWnq⟩
      show lwp p l e s m below meth c b D tys sg rho 1145 [(3, 0), (2, 0), (2, 151), (2, 203), (0, i), (9, 0), (9, 0)] [(0, (-1))] h72 kn
      refine lw_pop gz_0_1145 rfl ?_
      refine lw_goto (t := 1878) gz_0_1146 rfl ?_
      exact K h72 I_h72
    ·
      have I_h76 : LInv h76 := ⟨Ln_ag (my_ag.fr w77 rfl) I_h9.pLn, Mw_ag (my_ag.fr w77 rfl) I_h9.pMw, Mw3_ag (my_ag.fr w77 rfl) I_h9.pMw3, w83, Wrd_ag (my_ag.fr w77 rfl) I_h9.pWrd, Ceq_ag (my_ag.fr w77 rfl) I_h9.pCeq, Wd9_ag (my_ag.fr w77 rfl) I_h9.pWd9, Teq_ag (my_ag.fr w77 rfl) I_h9.pTeq, Wnq_ag (my_ag.fr w77 rfl) I_h9.pWnq⟩
      show lwp p l e s m below meth c b D tys sg rho 1145 [(3, 0), (2, 0), (2, 151), (2, 203), (0, i), (9, 0), (9, 0)] [(0, 0)] h76 kn
      refine lw_pop gz_0_1145 rfl ?_
      refine lw_goto (t := 1878) gz_0_1146 rfl ?_
      exact K h76 I_h76
    ·
      have I_h84 : LInv h84 := ⟨Ln_ag (my_ag.fr w85 rfl) I_h9.pLn, Mw_ag (my_ag.fr w85 rfl) I_h9.pMw, Mw3_ag (my_ag.fr w85 rfl) I_h9.pMw3, w91, Wrd_ag (my_ag.fr w85 rfl) I_h9.pWrd, Ceq_ag (my_ag.fr w85 rfl) I_h9.pCeq, Wd9_ag (my_ag.fr w85 rfl) I_h9.pWd9, Teq_ag (my_ag.fr w85 rfl) I_h9.pTeq, Wnq_ag (my_ag.fr w85 rfl) I_h9.pWnq⟩
      show lwp p l e s m below meth c b D tys sg rho 1145 [(3, 0), (2, 0), (2, 151), (2, 203), (0, i), (9, 0), (9, 0)] [(0, 1)] h84 kn
      refine lw_pop gz_0_1145 rfl ?_
      refine lw_goto (t := 1878) gz_0_1146 rfl ?_
      exact K h84 I_h84
    ·
      have I_h92 : LInv h92 := ⟨Ln_ag (my_ag.fr w94 rfl) I_h9.pLn, Mw_ag (my_ag.fr w94 rfl) I_h9.pMw, Mw3_ag (my_ag.fr w94 rfl) I_h9.pMw3, w102, Wrd_ag (my_ag.fr w94 rfl) I_h9.pWrd, Ceq_ag (my_ag.fr w94 rfl) I_h9.pCeq, Wd9_ag (my_ag.fr w94 rfl) I_h9.pWd9, Teq_ag (my_ag.fr w94 rfl) I_h9.pTeq, Wnq_ag (my_ag.fr w94 rfl) I_h9.pWnq⟩
      show lwp p l e s m below meth c b D tys sg rho 1145 [(3, 0), (2, 0), (2, 151), (2, 203), (0, i), (9, 0), (9, 0)] [(0, y93)] h92 kn
      refine lw_pop gz_0_1145 rfl ?_
      refine lw_goto (t := 1878) gz_0_1146 rfl ?_
      exact K h92 I_h92
  ·
    have I_h16 : LInv h16 := ⟨w22, Mw_ag (my_ag.fr w17 rfl) I.pMw, Mw3_ag (my_ag.fr w17 rfl) I.pMw3, Rws_ag (my_ag.fr w17 rfl) I.pRws, Wrd_ag (my_ag.fr w17 rfl) I.pWrd, Ceq_ag (my_ag.fr w17 rfl) I.pCeq, Wd9_ag (my_ag.fr w17 rfl) I.pWd9, Teq_ag (my_ag.fr w17 rfl) I.pTeq, Wnq_ag (my_ag.fr w17 rfl) I.pWnq⟩
    show lwp p l e s m below meth c b D tys sg rho 1110 [(3, 0), (2, 0), (2, 151), (2, 203), (0, i), (9, 0), (9, 0)] [(0, 1)] h16 kn
    refine lw_pop gz_0_1110 rfl ?_
    refine lw_aload_n gz_0_1111 rfl ?_
    refine lw_aload3_n gz_0_1112 rfl ?_
    refine lw_iload gz_0_1113 rfl ?_
    refine lw_iconst gz_0_1115 (by decide) ?_
    refine lw_iadd gz_0_1116 ⟨by omega, by omega⟩ ?_
    refine lw_sl gz_0_1117 hL4 hL (by omega) (by omega) (fun z103 ez103 pz103 qz103 => ?_)
    refine lw_aload3_n gz_0_1118 rfl ?_
    refine lw_iload gz_0_1119 rfl ?_
    refine lw_iconst gz_0_1121 (by decide) ?_
    refine lw_iadd gz_0_1122 ⟨by omega, by omega⟩ ?_
    refine lw_sl gz_0_1123 hL4 hL (by omega) (by omega) (fun z104 ez104 pz104 qz104 => ?_)
    refine lw_aload3_n gz_0_1124 rfl ?_
    refine lw_iload gz_0_1125 rfl ?_
    refine lw_iconst gz_0_1127 (by decide) ?_
    refine lw_iadd gz_0_1128 ⟨by omega, by omega⟩ ?_
    refine lw_sl gz_0_1129 hL4 hL (by omega) (by omega) (fun z105 ez105 pz105 qz105 => ?_)
    refine lw_aload3_n gz_0_1130 rfl ?_
    refine lw_iload gz_0_1131 rfl ?_
    refine lw_iconst gz_0_1133 (by decide) ?_
    refine lw_iadd gz_0_1134 ⟨by omega, by omega⟩ ?_
    refine lw_sl gz_0_1135 hL4 hL (by omega) (by omega) (fun z106 ez106 pz106 qz106 => ?_)
    refine lw_aload3_n gz_0_1136 rfl ?_
    refine lw_iload gz_0_1137 rfl ?_
    refine lw_iconst gz_0_1139 (by decide) ?_
    refine lw_iadd gz_0_1140 ⟨by omega, by omega⟩ ?_
    refine lw_sl gz_0_1141 hL4 hL (by omega) (by omega) (fun z107 ez107 pz107 qz107 => ?_)
    refine lw_inv (kz := 1) (as := [(0, z107), (0, z106), (0, z105), (0, z104), (0, z103)]) (r := []) (x := 151) (ls0 := [(2, 151), (0, z103), (0, z104), (0, z105), (0, z106), (0, z107), (9, 0)]) gz_0_1142 gm_228 rfl is_151 rd_10 rfl rfl rfl rfl rfl (c_Model_why (d := 24) (x1 := z103) (x2 := z104) (x3 := z105) (x4 := z106) (x5 := z107) I_h16.pMw I_h16.pMw3 I_h16.pRws (fun h108 w109 w110 w111 => ?_) (fun h112 w113 w114 w115 w116 w117 w118 w119 => ?_) (fun h120 w121 w122 w123 w124 w125 w126 w127 => ?_) (fun h128 y129 w130 w131 w132 w133 w134 w135 w136 w137 w138 => ?_))
    ·
      have I_h108 : LInv h108 := ⟨Ln_ag (my_ag.fr w109 rfl) I_h16.pLn, Mw_ag (my_ag.fr w109 rfl) I_h16.pMw, Mw3_ag (my_ag.fr w109 rfl) I_h16.pMw3, w111, Wrd_ag (my_ag.fr w109 rfl) I_h16.pWrd, Ceq_ag (my_ag.fr w109 rfl) I_h16.pCeq, Wd9_ag (my_ag.fr w109 rfl) I_h16.pWd9, Teq_ag (my_ag.fr w109 rfl) I_h16.pTeq, Wnq_ag (my_ag.fr w109 rfl) I_h16.pWnq⟩
      show lwp p l e s m below meth c b D tys sg rho 1145 [(3, 0), (2, 0), (2, 151), (2, 203), (0, i), (9, 0), (9, 0)] [(0, (-1))] h108 kn
      refine lw_pop gz_0_1145 rfl ?_
      refine lw_goto (t := 1878) gz_0_1146 rfl ?_
      exact K h108 I_h108
    ·
      have I_h112 : LInv h112 := ⟨Ln_ag (my_ag.fr w113 rfl) I_h16.pLn, Mw_ag (my_ag.fr w113 rfl) I_h16.pMw, Mw3_ag (my_ag.fr w113 rfl) I_h16.pMw3, w119, Wrd_ag (my_ag.fr w113 rfl) I_h16.pWrd, Ceq_ag (my_ag.fr w113 rfl) I_h16.pCeq, Wd9_ag (my_ag.fr w113 rfl) I_h16.pWd9, Teq_ag (my_ag.fr w113 rfl) I_h16.pTeq, Wnq_ag (my_ag.fr w113 rfl) I_h16.pWnq⟩
      show lwp p l e s m below meth c b D tys sg rho 1145 [(3, 0), (2, 0), (2, 151), (2, 203), (0, i), (9, 0), (9, 0)] [(0, 0)] h112 kn
      refine lw_pop gz_0_1145 rfl ?_
      refine lw_goto (t := 1878) gz_0_1146 rfl ?_
      exact K h112 I_h112
    ·
      have I_h120 : LInv h120 := ⟨Ln_ag (my_ag.fr w121 rfl) I_h16.pLn, Mw_ag (my_ag.fr w121 rfl) I_h16.pMw, Mw3_ag (my_ag.fr w121 rfl) I_h16.pMw3, w127, Wrd_ag (my_ag.fr w121 rfl) I_h16.pWrd, Ceq_ag (my_ag.fr w121 rfl) I_h16.pCeq, Wd9_ag (my_ag.fr w121 rfl) I_h16.pWd9, Teq_ag (my_ag.fr w121 rfl) I_h16.pTeq, Wnq_ag (my_ag.fr w121 rfl) I_h16.pWnq⟩
      show lwp p l e s m below meth c b D tys sg rho 1145 [(3, 0), (2, 0), (2, 151), (2, 203), (0, i), (9, 0), (9, 0)] [(0, 1)] h120 kn
      refine lw_pop gz_0_1145 rfl ?_
      refine lw_goto (t := 1878) gz_0_1146 rfl ?_
      exact K h120 I_h120
    ·
      have I_h128 : LInv h128 := ⟨Ln_ag (my_ag.fr w130 rfl) I_h16.pLn, Mw_ag (my_ag.fr w130 rfl) I_h16.pMw, Mw3_ag (my_ag.fr w130 rfl) I_h16.pMw3, w138, Wrd_ag (my_ag.fr w130 rfl) I_h16.pWrd, Ceq_ag (my_ag.fr w130 rfl) I_h16.pCeq, Wd9_ag (my_ag.fr w130 rfl) I_h16.pWd9, Teq_ag (my_ag.fr w130 rfl) I_h16.pTeq, Wnq_ag (my_ag.fr w130 rfl) I_h16.pWnq⟩
      show lwp p l e s m below meth c b D tys sg rho 1145 [(3, 0), (2, 0), (2, 151), (2, 203), (0, i), (9, 0), (9, 0)] [(0, y129)] h128 kn
      refine lw_pop gz_0_1145 rfl ?_
      refine lw_goto (t := 1878) gz_0_1146 rfl ?_
      exact K h128 I_h128
  ·
    have I_h23 : LInv h23 := ⟨w30, Mw_ag (my_ag.fr w25 rfl) I.pMw, Mw3_ag (my_ag.fr w25 rfl) I.pMw3, Rws_ag (my_ag.fr w25 rfl) I.pRws, Wrd_ag (my_ag.fr w25 rfl) I.pWrd, Ceq_ag (my_ag.fr w25 rfl) I.pCeq, Wd9_ag (my_ag.fr w25 rfl) I.pWd9, Teq_ag (my_ag.fr w25 rfl) I.pTeq, Wnq_ag (my_ag.fr w25 rfl) I.pWnq⟩
    show lwp p l e s m below meth c b D tys sg rho 1110 [(3, 0), (2, 0), (2, 151), (2, 203), (0, i), (9, 0), (9, 0)] [(0, y24)] h23 kn
    refine lw_pop gz_0_1110 rfl ?_
    refine lw_aload_n gz_0_1111 rfl ?_
    refine lw_aload3_n gz_0_1112 rfl ?_
    refine lw_iload gz_0_1113 rfl ?_
    refine lw_iconst gz_0_1115 (by decide) ?_
    refine lw_iadd gz_0_1116 ⟨by omega, by omega⟩ ?_
    refine lw_sl gz_0_1117 hL4 hL (by omega) (by omega) (fun z139 ez139 pz139 qz139 => ?_)
    refine lw_aload3_n gz_0_1118 rfl ?_
    refine lw_iload gz_0_1119 rfl ?_
    refine lw_iconst gz_0_1121 (by decide) ?_
    refine lw_iadd gz_0_1122 ⟨by omega, by omega⟩ ?_
    refine lw_sl gz_0_1123 hL4 hL (by omega) (by omega) (fun z140 ez140 pz140 qz140 => ?_)
    refine lw_aload3_n gz_0_1124 rfl ?_
    refine lw_iload gz_0_1125 rfl ?_
    refine lw_iconst gz_0_1127 (by decide) ?_
    refine lw_iadd gz_0_1128 ⟨by omega, by omega⟩ ?_
    refine lw_sl gz_0_1129 hL4 hL (by omega) (by omega) (fun z141 ez141 pz141 qz141 => ?_)
    refine lw_aload3_n gz_0_1130 rfl ?_
    refine lw_iload gz_0_1131 rfl ?_
    refine lw_iconst gz_0_1133 (by decide) ?_
    refine lw_iadd gz_0_1134 ⟨by omega, by omega⟩ ?_
    refine lw_sl gz_0_1135 hL4 hL (by omega) (by omega) (fun z142 ez142 pz142 qz142 => ?_)
    refine lw_aload3_n gz_0_1136 rfl ?_
    refine lw_iload gz_0_1137 rfl ?_
    refine lw_iconst gz_0_1139 (by decide) ?_
    refine lw_iadd gz_0_1140 ⟨by omega, by omega⟩ ?_
    refine lw_sl gz_0_1141 hL4 hL (by omega) (by omega) (fun z143 ez143 pz143 qz143 => ?_)
    refine lw_inv (kz := 1) (as := [(0, z143), (0, z142), (0, z141), (0, z140), (0, z139)]) (r := []) (x := 151) (ls0 := [(2, 151), (0, z139), (0, z140), (0, z141), (0, z142), (0, z143), (9, 0)]) gz_0_1142 gm_228 rfl is_151 rd_10 rfl rfl rfl rfl rfl (c_Model_why (d := 24) (x1 := z139) (x2 := z140) (x3 := z141) (x4 := z142) (x5 := z143) I_h23.pMw I_h23.pMw3 I_h23.pRws (fun h144 w145 w146 w147 => ?_) (fun h148 w149 w150 w151 w152 w153 w154 w155 => ?_) (fun h156 w157 w158 w159 w160 w161 w162 w163 => ?_) (fun h164 y165 w166 w167 w168 w169 w170 w171 w172 w173 w174 => ?_))
    ·
      have I_h144 : LInv h144 := ⟨Ln_ag (my_ag.fr w145 rfl) I_h23.pLn, Mw_ag (my_ag.fr w145 rfl) I_h23.pMw, Mw3_ag (my_ag.fr w145 rfl) I_h23.pMw3, w147, Wrd_ag (my_ag.fr w145 rfl) I_h23.pWrd, Ceq_ag (my_ag.fr w145 rfl) I_h23.pCeq, Wd9_ag (my_ag.fr w145 rfl) I_h23.pWd9, Teq_ag (my_ag.fr w145 rfl) I_h23.pTeq, Wnq_ag (my_ag.fr w145 rfl) I_h23.pWnq⟩
      show lwp p l e s m below meth c b D tys sg rho 1145 [(3, 0), (2, 0), (2, 151), (2, 203), (0, i), (9, 0), (9, 0)] [(0, (-1))] h144 kn
      refine lw_pop gz_0_1145 rfl ?_
      refine lw_goto (t := 1878) gz_0_1146 rfl ?_
      exact K h144 I_h144
    ·
      have I_h148 : LInv h148 := ⟨Ln_ag (my_ag.fr w149 rfl) I_h23.pLn, Mw_ag (my_ag.fr w149 rfl) I_h23.pMw, Mw3_ag (my_ag.fr w149 rfl) I_h23.pMw3, w155, Wrd_ag (my_ag.fr w149 rfl) I_h23.pWrd, Ceq_ag (my_ag.fr w149 rfl) I_h23.pCeq, Wd9_ag (my_ag.fr w149 rfl) I_h23.pWd9, Teq_ag (my_ag.fr w149 rfl) I_h23.pTeq, Wnq_ag (my_ag.fr w149 rfl) I_h23.pWnq⟩
      show lwp p l e s m below meth c b D tys sg rho 1145 [(3, 0), (2, 0), (2, 151), (2, 203), (0, i), (9, 0), (9, 0)] [(0, 0)] h148 kn
      refine lw_pop gz_0_1145 rfl ?_
      refine lw_goto (t := 1878) gz_0_1146 rfl ?_
      exact K h148 I_h148
    ·
      have I_h156 : LInv h156 := ⟨Ln_ag (my_ag.fr w157 rfl) I_h23.pLn, Mw_ag (my_ag.fr w157 rfl) I_h23.pMw, Mw3_ag (my_ag.fr w157 rfl) I_h23.pMw3, w163, Wrd_ag (my_ag.fr w157 rfl) I_h23.pWrd, Ceq_ag (my_ag.fr w157 rfl) I_h23.pCeq, Wd9_ag (my_ag.fr w157 rfl) I_h23.pWd9, Teq_ag (my_ag.fr w157 rfl) I_h23.pTeq, Wnq_ag (my_ag.fr w157 rfl) I_h23.pWnq⟩
      show lwp p l e s m below meth c b D tys sg rho 1145 [(3, 0), (2, 0), (2, 151), (2, 203), (0, i), (9, 0), (9, 0)] [(0, 1)] h156 kn
      refine lw_pop gz_0_1145 rfl ?_
      refine lw_goto (t := 1878) gz_0_1146 rfl ?_
      exact K h156 I_h156
    ·
      have I_h164 : LInv h164 := ⟨Ln_ag (my_ag.fr w166 rfl) I_h23.pLn, Mw_ag (my_ag.fr w166 rfl) I_h23.pMw, Mw3_ag (my_ag.fr w166 rfl) I_h23.pMw3, w174, Wrd_ag (my_ag.fr w166 rfl) I_h23.pWrd, Ceq_ag (my_ag.fr w166 rfl) I_h23.pCeq, Wd9_ag (my_ag.fr w166 rfl) I_h23.pWd9, Teq_ag (my_ag.fr w166 rfl) I_h23.pTeq, Wnq_ag (my_ag.fr w166 rfl) I_h23.pWnq⟩
      show lwp p l e s m below meth c b D tys sg rho 1145 [(3, 0), (2, 0), (2, 151), (2, 203), (0, i), (9, 0), (9, 0)] [(0, y165)] h164 kn
      refine lw_pop gz_0_1145 rfl ?_
      refine lw_goto (t := 1878) gz_0_1146 rfl ?_
      exact K h164 I_h164
theorem lcase_16 (hL4 : L4 ≤ 4096) (hL : rho 4096 = Int32.ofNat L4) (I : LInv h) (i0 : 0 ≤ i) (i8 : i + 8 ≤ L4) (K : ∀ h' : my_H, LInv h' → lwp p l e s m below meth c b D tys sg rho 1878 [(3, 0), (2, 0), (2, 151), (2, 203), (0, i), (9, 0), (9, 0)] [] h' kn) : lwp p l e s m below meth c b D tys sg rho 1149 [(3, 0), (2, 0), (2, 151), (2, 203), (0, i), (9, 0), (9, 0)] [] h kn := by
  refine lw_aload_n gz_0_1149 rfl ?_
  refine lw_aload3_n gz_0_1150 rfl ?_
  refine lw_iload gz_0_1151 rfl ?_
  refine lw_iconst gz_0_1153 (by decide) ?_
  refine lw_iadd gz_0_1154 ⟨by omega, by omega⟩ ?_
  refine lw_sl gz_0_1155 hL4 hL (by omega) (by omega) (fun z1 ez1 pz1 qz1 => ?_)
  refine lw_aload3_n gz_0_1156 rfl ?_
  refine lw_iload gz_0_1157 rfl ?_
  refine lw_iconst gz_0_1159 (by decide) ?_
  refine lw_iadd gz_0_1160 ⟨by omega, by omega⟩ ?_
  refine lw_sl gz_0_1161 hL4 hL (by omega) (by omega) (fun z2 ez2 pz2 qz2 => ?_)
  refine lw_aload3_n gz_0_1162 rfl ?_
  refine lw_iload gz_0_1163 rfl ?_
  refine lw_iconst gz_0_1165 (by decide) ?_
  refine lw_iadd gz_0_1166 ⟨by omega, by omega⟩ ?_
  refine lw_sl gz_0_1167 hL4 hL (by omega) (by omega) (fun z3 ez3 pz3 qz3 => ?_)
  refine lw_aload3_n gz_0_1168 rfl ?_
  refine lw_iload gz_0_1169 rfl ?_
  refine lw_iconst gz_0_1171 (by decide) ?_
  refine lw_iadd gz_0_1172 ⟨by omega, by omega⟩ ?_
  refine lw_sl gz_0_1173 hL4 hL (by omega) (by omega) (fun z4 ez4 pz4 qz4 => ?_)
  refine lw_aload3_n gz_0_1174 rfl ?_
  refine lw_iload gz_0_1175 rfl ?_
  refine lw_iconst gz_0_1177 (by decide) ?_
  refine lw_iadd gz_0_1178 ⟨by omega, by omega⟩ ?_
  refine lw_sl gz_0_1179 hL4 hL (by omega) (by omega) (fun z5 ez5 pz5 qz5 => ?_)
  refine lw_aload3_n gz_0_1180 rfl ?_
  refine lw_iload gz_0_1181 rfl ?_
  refine lw_bipush gz_0_1183 (by decide) ?_
  refine lw_iadd gz_0_1185 ⟨by omega, by omega⟩ ?_
  refine lw_sl gz_0_1186 hL4 hL (by omega) (by omega) (fun z6 ez6 pz6 qz6 => ?_)
  refine lw_inv (kz := 1) (as := [(0, z6), (0, z5), (0, z4), (0, z3), (0, z2), (0, z1)]) (r := []) (x := 0) (ls0 := [(2, 0), (0, z1), (0, z2), (0, z3), (0, z4), (0, z5), (0, z6), (9, 0)]) gz_0_1187 gm_112 rfl is_0 rd_9 rfl rfl rfl rfl rfl (c_ThroughWindow_barred (d := 23) (x1 := z1) (x2 := z2) (x3 := z3) (x4 := z4) (x5 := z5) (x6 := z6) I.pLn (fun h7 w8 w9 => ?_) (fun h10 y11 w12 w13 w14 w15 w16 w17 w18 w19 w20 w21 => ?_))
  ·
    have I_h7 : LInv h7 := ⟨w9, Mw_ag (my_ag.fr w8 rfl) I.pMw, Mw3_ag (my_ag.fr w8 rfl) I.pMw3, Rws_ag (my_ag.fr w8 rfl) I.pRws, Wrd_ag (my_ag.fr w8 rfl) I.pWrd, Ceq_ag (my_ag.fr w8 rfl) I.pCeq, Wd9_ag (my_ag.fr w8 rfl) I.pWd9, Teq_ag (my_ag.fr w8 rfl) I.pTeq, Wnq_ag (my_ag.fr w8 rfl) I.pWnq⟩
    show lwp p l e s m below meth c b D tys sg rho 1190 [(3, 0), (2, 0), (2, 151), (2, 203), (0, i), (9, 0), (9, 0)] [(0, (-1))] h7 kn
    refine lw_pop gz_0_1190 rfl ?_
    refine lw_aload_n gz_0_1191 rfl ?_
    refine lw_aload3_n gz_0_1192 rfl ?_
    refine lw_iload gz_0_1193 rfl ?_
    refine lw_iconst gz_0_1195 (by decide) ?_
    refine lw_iadd gz_0_1196 ⟨by omega, by omega⟩ ?_
    refine lw_sl gz_0_1197 hL4 hL (by omega) (by omega) (fun z22 ez22 pz22 qz22 => ?_)
    refine lw_aload3_n gz_0_1198 rfl ?_
    refine lw_iload gz_0_1199 rfl ?_
    refine lw_iconst gz_0_1201 (by decide) ?_
    refine lw_iadd gz_0_1202 ⟨by omega, by omega⟩ ?_
    refine lw_sl gz_0_1203 hL4 hL (by omega) (by omega) (fun z23 ez23 pz23 qz23 => ?_)
    refine lw_aload3_n gz_0_1204 rfl ?_
    refine lw_iload gz_0_1205 rfl ?_
    refine lw_iconst gz_0_1207 (by decide) ?_
    refine lw_iadd gz_0_1208 ⟨by omega, by omega⟩ ?_
    refine lw_sl gz_0_1209 hL4 hL (by omega) (by omega) (fun z24 ez24 pz24 qz24 => ?_)
    refine lw_aload3_n gz_0_1210 rfl ?_
    refine lw_iload gz_0_1211 rfl ?_
    refine lw_iconst gz_0_1213 (by decide) ?_
    refine lw_iadd gz_0_1214 ⟨by omega, by omega⟩ ?_
    refine lw_sl gz_0_1215 hL4 hL (by omega) (by omega) (fun z25 ez25 pz25 qz25 => ?_)
    refine lw_aload3_n gz_0_1216 rfl ?_
    refine lw_iload gz_0_1217 rfl ?_
    refine lw_iconst gz_0_1219 (by decide) ?_
    refine lw_iadd gz_0_1220 ⟨by omega, by omega⟩ ?_
    refine lw_sl gz_0_1221 hL4 hL (by omega) (by omega) (fun z26 ez26 pz26 qz26 => ?_)
    refine lw_aload3_n gz_0_1222 rfl ?_
    refine lw_iload gz_0_1223 rfl ?_
    refine lw_bipush gz_0_1225 (by decide) ?_
    refine lw_iadd gz_0_1227 ⟨by omega, by omega⟩ ?_
    refine lw_sl gz_0_1228 hL4 hL (by omega) (by omega) (fun z27 ez27 pz27 qz27 => ?_)
    refine lw_inv (kz := 4) (as := [(0, z27), (0, z26), (0, z25), (0, z24), (0, z23), (0, z22)]) (r := []) (x := 151) (ls0 := [(2, 151), (0, z22), (0, z23), (0, z24), (0, z25), (0, z26), (0, z27), (9, 0), (9, 0), (9, 0), (9, 0)]) gz_0_1229 gm_224 rfl is_151 rd_10 rfl rfl rfl rfl rfl (c_Model_barred (d := 24) (x1 := z22) (x2 := z23) (x3 := z24) (x4 := z25) (x5 := z26) (x6 := z27) I_h7.pMw I_h7.pMw3 I_h7.pRws (fun h28 w29 w30 w31 => ?_) (fun h32 y33 w34 w35 w36 w37 w38 w39 w40 w41 w42 w43 w44 => ?_))
    ·
      have I_h28 : LInv h28 := ⟨Ln_ag (my_ag.fr w29 rfl) I_h7.pLn, Mw_ag (my_ag.fr w29 rfl) I_h7.pMw, Mw3_ag (my_ag.fr w29 rfl) I_h7.pMw3, w31, Wrd_ag (my_ag.fr w29 rfl) I_h7.pWrd, Ceq_ag (my_ag.fr w29 rfl) I_h7.pCeq, Wd9_ag (my_ag.fr w29 rfl) I_h7.pWd9, Teq_ag (my_ag.fr w29 rfl) I_h7.pTeq, Wnq_ag (my_ag.fr w29 rfl) I_h7.pWnq⟩
      show lwp p l e s m below meth c b D tys sg rho 1232 [(3, 0), (2, 0), (2, 151), (2, 203), (0, i), (9, 0), (9, 0)] [(0, (-1))] h28 kn
      refine lw_pop gz_0_1232 rfl ?_
      refine lw_goto (t := 1878) gz_0_1233 rfl ?_
      exact K h28 I_h28
    ·
      have I_h32 : LInv h32 := ⟨Ln_ag (my_ag.fr w34 rfl) I_h7.pLn, Mw_ag (my_ag.fr w34 rfl) I_h7.pMw, Mw3_ag (my_ag.fr w34 rfl) I_h7.pMw3, w44, Wrd_ag (my_ag.fr w34 rfl) I_h7.pWrd, Ceq_ag (my_ag.fr w34 rfl) I_h7.pCeq, Wd9_ag (my_ag.fr w34 rfl) I_h7.pWd9, Teq_ag (my_ag.fr w34 rfl) I_h7.pTeq, Wnq_ag (my_ag.fr w34 rfl) I_h7.pWnq⟩
      show lwp p l e s m below meth c b D tys sg rho 1232 [(3, 0), (2, 0), (2, 151), (2, 203), (0, i), (9, 0), (9, 0)] [(0, y33)] h32 kn
      refine lw_pop gz_0_1232 rfl ?_
      refine lw_goto (t := 1878) gz_0_1233 rfl ?_
      exact K h32 I_h32
  ·
    have I_h10 : LInv h10 := ⟨w21, Mw_ag (my_ag.fr w12 rfl) I.pMw, Mw3_ag (my_ag.fr w12 rfl) I.pMw3, Rws_ag (my_ag.fr w12 rfl) I.pRws, Wrd_ag (my_ag.fr w12 rfl) I.pWrd, Ceq_ag (my_ag.fr w12 rfl) I.pCeq, Wd9_ag (my_ag.fr w12 rfl) I.pWd9, Teq_ag (my_ag.fr w12 rfl) I.pTeq, Wnq_ag (my_ag.fr w12 rfl) I.pWnq⟩
    show lwp p l e s m below meth c b D tys sg rho 1190 [(3, 0), (2, 0), (2, 151), (2, 203), (0, i), (9, 0), (9, 0)] [(0, y11)] h10 kn
    refine lw_pop gz_0_1190 rfl ?_
    refine lw_aload_n gz_0_1191 rfl ?_
    refine lw_aload3_n gz_0_1192 rfl ?_
    refine lw_iload gz_0_1193 rfl ?_
    refine lw_iconst gz_0_1195 (by decide) ?_
    refine lw_iadd gz_0_1196 ⟨by omega, by omega⟩ ?_
    refine lw_sl gz_0_1197 hL4 hL (by omega) (by omega) (fun z45 ez45 pz45 qz45 => ?_)
    refine lw_aload3_n gz_0_1198 rfl ?_
    refine lw_iload gz_0_1199 rfl ?_
    refine lw_iconst gz_0_1201 (by decide) ?_
    refine lw_iadd gz_0_1202 ⟨by omega, by omega⟩ ?_
    refine lw_sl gz_0_1203 hL4 hL (by omega) (by omega) (fun z46 ez46 pz46 qz46 => ?_)
    refine lw_aload3_n gz_0_1204 rfl ?_
    refine lw_iload gz_0_1205 rfl ?_
    refine lw_iconst gz_0_1207 (by decide) ?_
    refine lw_iadd gz_0_1208 ⟨by omega, by omega⟩ ?_
    refine lw_sl gz_0_1209 hL4 hL (by omega) (by omega) (fun z47 ez47 pz47 qz47 => ?_)
    refine lw_aload3_n gz_0_1210 rfl ?_
    refine lw_iload gz_0_1211 rfl ?_
    refine lw_iconst gz_0_1213 (by decide) ?_
    refine lw_iadd gz_0_1214 ⟨by omega, by omega⟩ ?_
    refine lw_sl gz_0_1215 hL4 hL (by omega) (by omega) (fun z48 ez48 pz48 qz48 => ?_)
    refine lw_aload3_n gz_0_1216 rfl ?_
    refine lw_iload gz_0_1217 rfl ?_
    refine lw_iconst gz_0_1219 (by decide) ?_
    refine lw_iadd gz_0_1220 ⟨by omega, by omega⟩ ?_
    refine lw_sl gz_0_1221 hL4 hL (by omega) (by omega) (fun z49 ez49 pz49 qz49 => ?_)
    refine lw_aload3_n gz_0_1222 rfl ?_
    refine lw_iload gz_0_1223 rfl ?_
    refine lw_bipush gz_0_1225 (by decide) ?_
    refine lw_iadd gz_0_1227 ⟨by omega, by omega⟩ ?_
    refine lw_sl gz_0_1228 hL4 hL (by omega) (by omega) (fun z50 ez50 pz50 qz50 => ?_)
    refine lw_inv (kz := 4) (as := [(0, z50), (0, z49), (0, z48), (0, z47), (0, z46), (0, z45)]) (r := []) (x := 151) (ls0 := [(2, 151), (0, z45), (0, z46), (0, z47), (0, z48), (0, z49), (0, z50), (9, 0), (9, 0), (9, 0), (9, 0)]) gz_0_1229 gm_224 rfl is_151 rd_10 rfl rfl rfl rfl rfl (c_Model_barred (d := 24) (x1 := z45) (x2 := z46) (x3 := z47) (x4 := z48) (x5 := z49) (x6 := z50) I_h10.pMw I_h10.pMw3 I_h10.pRws (fun h51 w52 w53 w54 => ?_) (fun h55 y56 w57 w58 w59 w60 w61 w62 w63 w64 w65 w66 w67 => ?_))
    ·
      have I_h51 : LInv h51 := ⟨Ln_ag (my_ag.fr w52 rfl) I_h10.pLn, Mw_ag (my_ag.fr w52 rfl) I_h10.pMw, Mw3_ag (my_ag.fr w52 rfl) I_h10.pMw3, w54, Wrd_ag (my_ag.fr w52 rfl) I_h10.pWrd, Ceq_ag (my_ag.fr w52 rfl) I_h10.pCeq, Wd9_ag (my_ag.fr w52 rfl) I_h10.pWd9, Teq_ag (my_ag.fr w52 rfl) I_h10.pTeq, Wnq_ag (my_ag.fr w52 rfl) I_h10.pWnq⟩
      show lwp p l e s m below meth c b D tys sg rho 1232 [(3, 0), (2, 0), (2, 151), (2, 203), (0, i), (9, 0), (9, 0)] [(0, (-1))] h51 kn
      refine lw_pop gz_0_1232 rfl ?_
      refine lw_goto (t := 1878) gz_0_1233 rfl ?_
      exact K h51 I_h51
    ·
      have I_h55 : LInv h55 := ⟨Ln_ag (my_ag.fr w57 rfl) I_h10.pLn, Mw_ag (my_ag.fr w57 rfl) I_h10.pMw, Mw3_ag (my_ag.fr w57 rfl) I_h10.pMw3, w67, Wrd_ag (my_ag.fr w57 rfl) I_h10.pWrd, Ceq_ag (my_ag.fr w57 rfl) I_h10.pCeq, Wd9_ag (my_ag.fr w57 rfl) I_h10.pWd9, Teq_ag (my_ag.fr w57 rfl) I_h10.pTeq, Wnq_ag (my_ag.fr w57 rfl) I_h10.pWnq⟩
      show lwp p l e s m below meth c b D tys sg rho 1232 [(3, 0), (2, 0), (2, 151), (2, 203), (0, i), (9, 0), (9, 0)] [(0, y56)] h55 kn
      refine lw_pop gz_0_1232 rfl ?_
      refine lw_goto (t := 1878) gz_0_1233 rfl ?_
      exact K h55 I_h55
theorem lcase_17 (hL4 : L4 ≤ 4096) (hL : rho 4096 = Int32.ofNat L4) (I : LInv h) (i0 : 0 ≤ i) (i8 : i + 8 ≤ L4) (K : ∀ h' : my_H, LInv h' → lwp p l e s m below meth c b D tys sg rho 1878 [(3, 0), (2, 0), (2, 151), (2, 203), (0, i), (9, 0), (9, 0)] [] h' kn) : lwp p l e s m below meth c b D tys sg rho 1236 [(3, 0), (2, 0), (2, 151), (2, 203), (0, i), (9, 0), (9, 0)] [] h kn := by
  refine lw_aload_n gz_0_1236 rfl ?_
  refine lw_aload3_n gz_0_1237 rfl ?_
  refine lw_iload gz_0_1238 rfl ?_
  refine lw_iconst gz_0_1240 (by decide) ?_
  refine lw_iadd gz_0_1241 ⟨by omega, by omega⟩ ?_
  refine lw_sl gz_0_1242 hL4 hL (by omega) (by omega) (fun z1 ez1 pz1 qz1 => ?_)
  refine lw_aload3_n gz_0_1243 rfl ?_
  refine lw_iload gz_0_1244 rfl ?_
  refine lw_iconst gz_0_1246 (by decide) ?_
  refine lw_iadd gz_0_1247 ⟨by omega, by omega⟩ ?_
  refine lw_sl gz_0_1248 hL4 hL (by omega) (by omega) (fun z2 ez2 pz2 qz2 => ?_)
  refine lw_aload3_n gz_0_1249 rfl ?_
  refine lw_iload gz_0_1250 rfl ?_
  refine lw_iconst gz_0_1252 (by decide) ?_
  refine lw_iadd gz_0_1253 ⟨by omega, by omega⟩ ?_
  refine lw_sl gz_0_1254 hL4 hL (by omega) (by omega) (fun z3 ez3 pz3 qz3 => ?_)
  refine lw_aload3_n gz_0_1255 rfl ?_
  refine lw_iload gz_0_1256 rfl ?_
  refine lw_iconst gz_0_1258 (by decide) ?_
  refine lw_iadd gz_0_1259 ⟨by omega, by omega⟩ ?_
  refine lw_sl gz_0_1260 hL4 hL (by omega) (by omega) (fun z4 ez4 pz4 qz4 => ?_)
  refine lw_aload3_n gz_0_1261 rfl ?_
  refine lw_iload gz_0_1262 rfl ?_
  refine lw_iconst gz_0_1264 (by decide) ?_
  refine lw_iadd gz_0_1265 ⟨by omega, by omega⟩ ?_
  refine lw_sl gz_0_1266 hL4 hL (by omega) (by omega) (fun z5 ez5 pz5 qz5 => ?_)
  refine lw_inv (kz := 1) (as := [(0, z5), (0, z4), (0, z3), (0, z2), (0, z1)]) (r := []) (x := 0) (ls0 := [(2, 0), (0, z1), (0, z2), (0, z3), (0, z4), (0, z5), (9, 0)]) gz_0_1267 gm_113 rfl is_0 rd_9 rfl rfl rfl rfl rfl (c_ThroughWindow_put (d := 22) (x1 := z1) (x2 := z2) (x3 := z3) (x4 := z4) (x5 := z5) I.pLn (fun h6 w7 w8 => ?_) (fun h9 y10 w11 w12 => ?_))
  ·
    have I_h6 : LInv h6 := ⟨w8, Mw_ag (my_ag.fr w7 rfl) I.pMw, Mw3_ag (my_ag.fr w7 rfl) I.pMw3, Rws_ag (my_ag.fr w7 rfl) I.pRws, Wrd_ag (my_ag.fr w7 rfl) I.pWrd, Ceq_ag (my_ag.fr w7 rfl) I.pCeq, Wd9_ag (my_ag.fr w7 rfl) I.pWd9, Teq_ag (my_ag.fr w7 rfl) I.pTeq, Wnq_ag (my_ag.fr w7 rfl) I.pWnq⟩
    show lwp p l e s m below meth c b D tys sg rho 1270 [(3, 0), (2, 0), (2, 151), (2, 203), (0, i), (9, 0), (9, 0)] [(0, (-1))] h6 kn
    refine lw_pop gz_0_1270 rfl ?_
    refine lw_aload_n gz_0_1271 rfl ?_
    refine lw_aload3_n gz_0_1272 rfl ?_
    refine lw_iload gz_0_1273 rfl ?_
    refine lw_iconst gz_0_1275 (by decide) ?_
    refine lw_iadd gz_0_1276 ⟨by omega, by omega⟩ ?_
    refine lw_sl gz_0_1277 hL4 hL (by omega) (by omega) (fun z13 ez13 pz13 qz13 => ?_)
    refine lw_aload3_n gz_0_1278 rfl ?_
    refine lw_iload gz_0_1279 rfl ?_
    refine lw_iconst gz_0_1281 (by decide) ?_
    refine lw_iadd gz_0_1282 ⟨by omega, by omega⟩ ?_
    refine lw_sl gz_0_1283 hL4 hL (by omega) (by omega) (fun z14 ez14 pz14 qz14 => ?_)
    refine lw_aload3_n gz_0_1284 rfl ?_
    refine lw_iload gz_0_1285 rfl ?_
    refine lw_iconst gz_0_1287 (by decide) ?_
    refine lw_iadd gz_0_1288 ⟨by omega, by omega⟩ ?_
    refine lw_sl gz_0_1289 hL4 hL (by omega) (by omega) (fun z15 ez15 pz15 qz15 => ?_)
    refine lw_aload3_n gz_0_1290 rfl ?_
    refine lw_iload gz_0_1291 rfl ?_
    refine lw_iconst gz_0_1293 (by decide) ?_
    refine lw_iadd gz_0_1294 ⟨by omega, by omega⟩ ?_
    refine lw_sl gz_0_1295 hL4 hL (by omega) (by omega) (fun z16 ez16 pz16 qz16 => ?_)
    refine lw_aload3_n gz_0_1296 rfl ?_
    refine lw_iload gz_0_1297 rfl ?_
    refine lw_iconst gz_0_1299 (by decide) ?_
    refine lw_iadd gz_0_1300 ⟨by omega, by omega⟩ ?_
    refine lw_sl gz_0_1301 hL4 hL (by omega) (by omega) (fun z17 ez17 pz17 qz17 => ?_)
    refine lw_inv (kz := 1) (as := [(0, z17), (0, z16), (0, z15), (0, z14), (0, z13)]) (r := []) (x := 151) (ls0 := [(2, 151), (0, z13), (0, z14), (0, z15), (0, z16), (0, z17), (9, 0)]) gz_0_1302 gm_222 rfl is_151 rd_10 rfl rfl rfl rfl rfl (c_Model_put (d := 21) (x1 := z13) (x2 := z14) (x3 := z15) (x4 := z16) (x5 := z17) I_h6.pMw I_h6.pMw3 I_h6.pRws (fun h18 y19 w20 w21 w22 w23 w24 => ?_))
    have I_h18 : LInv h18 := ⟨Ln_ag (my_ag.fr w20 rfl) I_h6.pLn, Mw_ag (my_ag.fr w20 rfl) I_h6.pMw, Mw3_ag (my_ag.fr w20 rfl) I_h6.pMw3, w24, Wrd_ag (my_ag.fr w20 rfl) I_h6.pWrd, Ceq_ag (my_ag.fr w20 rfl) I_h6.pCeq, Wd9_ag (my_ag.fr w20 rfl) I_h6.pWd9, Teq_ag (my_ag.fr w20 rfl) I_h6.pTeq, Wnq_ag (my_ag.fr w20 rfl) I_h6.pWnq⟩
    show lwp p l e s m below meth c b D tys sg rho 1305 [(3, 0), (2, 0), (2, 151), (2, 203), (0, i), (9, 0), (9, 0)] [(0, y19)] h18 kn
    refine lw_pop gz_0_1305 rfl ?_
    refine lw_goto (t := 1878) gz_0_1306 rfl ?_
    exact K h18 I_h18
  ·
    have I_h9 : LInv h9 := ⟨w12, Mw_ag (my_ag.fr w11 rfl) I.pMw, Mw3_ag (my_ag.fr w11 rfl) I.pMw3, Rws_ag (my_ag.fr w11 rfl) I.pRws, Wrd_ag (my_ag.fr w11 rfl) I.pWrd, Ceq_ag (my_ag.fr w11 rfl) I.pCeq, Wd9_ag (my_ag.fr w11 rfl) I.pWd9, Teq_ag (my_ag.fr w11 rfl) I.pTeq, Wnq_ag (my_ag.fr w11 rfl) I.pWnq⟩
    show lwp p l e s m below meth c b D tys sg rho 1270 [(3, 0), (2, 0), (2, 151), (2, 203), (0, i), (9, 0), (9, 0)] [(0, y10)] h9 kn
    refine lw_pop gz_0_1270 rfl ?_
    refine lw_aload_n gz_0_1271 rfl ?_
    refine lw_aload3_n gz_0_1272 rfl ?_
    refine lw_iload gz_0_1273 rfl ?_
    refine lw_iconst gz_0_1275 (by decide) ?_
    refine lw_iadd gz_0_1276 ⟨by omega, by omega⟩ ?_
    refine lw_sl gz_0_1277 hL4 hL (by omega) (by omega) (fun z25 ez25 pz25 qz25 => ?_)
    refine lw_aload3_n gz_0_1278 rfl ?_
    refine lw_iload gz_0_1279 rfl ?_
    refine lw_iconst gz_0_1281 (by decide) ?_
    refine lw_iadd gz_0_1282 ⟨by omega, by omega⟩ ?_
    refine lw_sl gz_0_1283 hL4 hL (by omega) (by omega) (fun z26 ez26 pz26 qz26 => ?_)
    refine lw_aload3_n gz_0_1284 rfl ?_
    refine lw_iload gz_0_1285 rfl ?_
    refine lw_iconst gz_0_1287 (by decide) ?_
    refine lw_iadd gz_0_1288 ⟨by omega, by omega⟩ ?_
    refine lw_sl gz_0_1289 hL4 hL (by omega) (by omega) (fun z27 ez27 pz27 qz27 => ?_)
    refine lw_aload3_n gz_0_1290 rfl ?_
    refine lw_iload gz_0_1291 rfl ?_
    refine lw_iconst gz_0_1293 (by decide) ?_
    refine lw_iadd gz_0_1294 ⟨by omega, by omega⟩ ?_
    refine lw_sl gz_0_1295 hL4 hL (by omega) (by omega) (fun z28 ez28 pz28 qz28 => ?_)
    refine lw_aload3_n gz_0_1296 rfl ?_
    refine lw_iload gz_0_1297 rfl ?_
    refine lw_iconst gz_0_1299 (by decide) ?_
    refine lw_iadd gz_0_1300 ⟨by omega, by omega⟩ ?_
    refine lw_sl gz_0_1301 hL4 hL (by omega) (by omega) (fun z29 ez29 pz29 qz29 => ?_)
    refine lw_inv (kz := 1) (as := [(0, z29), (0, z28), (0, z27), (0, z26), (0, z25)]) (r := []) (x := 151) (ls0 := [(2, 151), (0, z25), (0, z26), (0, z27), (0, z28), (0, z29), (9, 0)]) gz_0_1302 gm_222 rfl is_151 rd_10 rfl rfl rfl rfl rfl (c_Model_put (d := 21) (x1 := z25) (x2 := z26) (x3 := z27) (x4 := z28) (x5 := z29) I_h9.pMw I_h9.pMw3 I_h9.pRws (fun h30 y31 w32 w33 w34 w35 w36 => ?_))
    have I_h30 : LInv h30 := ⟨Ln_ag (my_ag.fr w32 rfl) I_h9.pLn, Mw_ag (my_ag.fr w32 rfl) I_h9.pMw, Mw3_ag (my_ag.fr w32 rfl) I_h9.pMw3, w36, Wrd_ag (my_ag.fr w32 rfl) I_h9.pWrd, Ceq_ag (my_ag.fr w32 rfl) I_h9.pCeq, Wd9_ag (my_ag.fr w32 rfl) I_h9.pWd9, Teq_ag (my_ag.fr w32 rfl) I_h9.pTeq, Wnq_ag (my_ag.fr w32 rfl) I_h9.pWnq⟩
    show lwp p l e s m below meth c b D tys sg rho 1305 [(3, 0), (2, 0), (2, 151), (2, 203), (0, i), (9, 0), (9, 0)] [(0, y31)] h30 kn
    refine lw_pop gz_0_1305 rfl ?_
    refine lw_goto (t := 1878) gz_0_1306 rfl ?_
    exact K h30 I_h30
theorem lcase_18 (hL4 : L4 ≤ 4096) (hL : rho 4096 = Int32.ofNat L4) (I : LInv h) (i0 : 0 ≤ i) (i8 : i + 8 ≤ L4) (K : ∀ h' : my_H, LInv h' → lwp p l e s m below meth c b D tys sg rho 1878 [(3, 0), (2, 0), (2, 151), (2, 203), (0, i), (9, 0), (9, 0)] [] h' kn) : lwp p l e s m below meth c b D tys sg rho 1309 [(3, 0), (2, 0), (2, 151), (2, 203), (0, i), (9, 0), (9, 0)] [] h kn := by
  refine lw_aload_n gz_0_1309 rfl ?_
  refine lw_aload3_n gz_0_1310 rfl ?_
  refine lw_iload gz_0_1311 rfl ?_
  refine lw_iconst gz_0_1313 (by decide) ?_
  refine lw_iadd gz_0_1314 ⟨by omega, by omega⟩ ?_
  refine lw_sl gz_0_1315 hL4 hL (by omega) (by omega) (fun z1 ez1 pz1 qz1 => ?_)
  refine lw_aload3_n gz_0_1316 rfl ?_
  refine lw_iload gz_0_1317 rfl ?_
  refine lw_iconst gz_0_1319 (by decide) ?_
  refine lw_iadd gz_0_1320 ⟨by omega, by omega⟩ ?_
  refine lw_sl gz_0_1321 hL4 hL (by omega) (by omega) (fun z2 ez2 pz2 qz2 => ?_)
  refine lw_aload3_n gz_0_1322 rfl ?_
  refine lw_iload gz_0_1323 rfl ?_
  refine lw_iconst gz_0_1325 (by decide) ?_
  refine lw_iadd gz_0_1326 ⟨by omega, by omega⟩ ?_
  refine lw_sl gz_0_1327 hL4 hL (by omega) (by omega) (fun z3 ez3 pz3 qz3 => ?_)
  refine lw_aload3_n gz_0_1328 rfl ?_
  refine lw_iload gz_0_1329 rfl ?_
  refine lw_iconst gz_0_1331 (by decide) ?_
  refine lw_iadd gz_0_1332 ⟨by omega, by omega⟩ ?_
  refine lw_sl gz_0_1333 hL4 hL (by omega) (by omega) (fun z4 ez4 pz4 qz4 => ?_)
  refine lw_aload3_n gz_0_1334 rfl ?_
  refine lw_iload gz_0_1335 rfl ?_
  refine lw_iconst gz_0_1337 (by decide) ?_
  refine lw_iadd gz_0_1338 ⟨by omega, by omega⟩ ?_
  refine lw_sl gz_0_1339 hL4 hL (by omega) (by omega) (fun z5 ez5 pz5 qz5 => ?_)
  refine lw_inv (kz := 1) (as := [(0, z5), (0, z4), (0, z3), (0, z2), (0, z1)]) (r := []) (x := 0) (ls0 := [(2, 0), (0, z1), (0, z2), (0, z3), (0, z4), (0, z5), (9, 0)]) gz_0_1340 gm_115 rfl is_0 rd_9 rfl rfl rfl rfl rfl (c_ThroughWindow_twice (d := 22) (x1 := z1) (x2 := z2) (x3 := z3) (x4 := z4) (x5 := z5) I.pLn (fun h6 w7 w8 => ?_) (fun h9 w10 w11 w12 w13 => ?_) (fun h14 w15 w16 w17 w18 => ?_))
  ·
    have I_h6 : LInv h6 := ⟨w8, Mw_ag (my_ag.fr w7 rfl) I.pMw, Mw3_ag (my_ag.fr w7 rfl) I.pMw3, Rws_ag (my_ag.fr w7 rfl) I.pRws, Wrd_ag (my_ag.fr w7 rfl) I.pWrd, Ceq_ag (my_ag.fr w7 rfl) I.pCeq, Wd9_ag (my_ag.fr w7 rfl) I.pWd9, Teq_ag (my_ag.fr w7 rfl) I.pTeq, Wnq_ag (my_ag.fr w7 rfl) I.pWnq⟩
    show lwp p l e s m below meth c b D tys sg rho 1343 [(3, 0), (2, 0), (2, 151), (2, 203), (0, i), (9, 0), (9, 0)] [(0, (-1))] h6 kn
    refine lw_pop gz_0_1343 rfl ?_
    refine lw_aload_n gz_0_1344 rfl ?_
    refine lw_aload3_n gz_0_1345 rfl ?_
    refine lw_iload gz_0_1346 rfl ?_
    refine lw_iconst gz_0_1348 (by decide) ?_
    refine lw_iadd gz_0_1349 ⟨by omega, by omega⟩ ?_
    refine lw_sl gz_0_1350 hL4 hL (by omega) (by omega) (fun z19 ez19 pz19 qz19 => ?_)
    refine lw_aload3_n gz_0_1351 rfl ?_
    refine lw_iload gz_0_1352 rfl ?_
    refine lw_iconst gz_0_1354 (by decide) ?_
    refine lw_iadd gz_0_1355 ⟨by omega, by omega⟩ ?_
    refine lw_sl gz_0_1356 hL4 hL (by omega) (by omega) (fun z20 ez20 pz20 qz20 => ?_)
    refine lw_aload3_n gz_0_1357 rfl ?_
    refine lw_iload gz_0_1358 rfl ?_
    refine lw_iconst gz_0_1360 (by decide) ?_
    refine lw_iadd gz_0_1361 ⟨by omega, by omega⟩ ?_
    refine lw_sl gz_0_1362 hL4 hL (by omega) (by omega) (fun z21 ez21 pz21 qz21 => ?_)
    refine lw_aload3_n gz_0_1363 rfl ?_
    refine lw_iload gz_0_1364 rfl ?_
    refine lw_iconst gz_0_1366 (by decide) ?_
    refine lw_iadd gz_0_1367 ⟨by omega, by omega⟩ ?_
    refine lw_sl gz_0_1368 hL4 hL (by omega) (by omega) (fun z22 ez22 pz22 qz22 => ?_)
    refine lw_aload3_n gz_0_1369 rfl ?_
    refine lw_iload gz_0_1370 rfl ?_
    refine lw_iconst gz_0_1372 (by decide) ?_
    refine lw_iadd gz_0_1373 ⟨by omega, by omega⟩ ?_
    refine lw_sl gz_0_1374 hL4 hL (by omega) (by omega) (fun z23 ez23 pz23 qz23 => ?_)
    refine lw_inv (kz := 1) (as := [(0, z23), (0, z22), (0, z21), (0, z20), (0, z19)]) (r := []) (x := 151) (ls0 := [(2, 151), (0, z19), (0, z20), (0, z21), (0, z22), (0, z23), (9, 0)]) gz_0_1375 gm_229 rfl is_151 rd_10 rfl rfl rfl rfl rfl (c_Model_twice (d := 21) (x1 := z19) (x2 := z20) (x3 := z21) (x4 := z22) (x5 := z23) I_h6.pMw I_h6.pMw3 I_h6.pRws (fun h24 w25 w26 w27 => ?_) (fun h28 w29 w30 w31 w32 w33 => ?_) (fun h34 w35 w36 w37 w38 w39 => ?_))
    ·
      have I_h24 : LInv h24 := ⟨Ln_ag (my_ag.fr w25 rfl) I_h6.pLn, Mw_ag (my_ag.fr w25 rfl) I_h6.pMw, Mw3_ag (my_ag.fr w25 rfl) I_h6.pMw3, w27, Wrd_ag (my_ag.fr w25 rfl) I_h6.pWrd, Ceq_ag (my_ag.fr w25 rfl) I_h6.pCeq, Wd9_ag (my_ag.fr w25 rfl) I_h6.pWd9, Teq_ag (my_ag.fr w25 rfl) I_h6.pTeq, Wnq_ag (my_ag.fr w25 rfl) I_h6.pWnq⟩
      show lwp p l e s m below meth c b D tys sg rho 1378 [(3, 0), (2, 0), (2, 151), (2, 203), (0, i), (9, 0), (9, 0)] [(0, (-1))] h24 kn
      refine lw_pop gz_0_1378 rfl ?_
      refine lw_goto (t := 1878) gz_0_1379 rfl ?_
      exact K h24 I_h24
    ·
      have I_h28 : LInv h28 := ⟨Ln_ag (my_ag.fr w29 rfl) I_h6.pLn, Mw_ag (my_ag.fr w29 rfl) I_h6.pMw, Mw3_ag (my_ag.fr w29 rfl) I_h6.pMw3, w33, Wrd_ag (my_ag.fr w29 rfl) I_h6.pWrd, Ceq_ag (my_ag.fr w29 rfl) I_h6.pCeq, Wd9_ag (my_ag.fr w29 rfl) I_h6.pWd9, Teq_ag (my_ag.fr w29 rfl) I_h6.pTeq, Wnq_ag (my_ag.fr w29 rfl) I_h6.pWnq⟩
      show lwp p l e s m below meth c b D tys sg rho 1378 [(3, 0), (2, 0), (2, 151), (2, 203), (0, i), (9, 0), (9, 0)] [(0, 0)] h28 kn
      refine lw_pop gz_0_1378 rfl ?_
      refine lw_goto (t := 1878) gz_0_1379 rfl ?_
      exact K h28 I_h28
    ·
      have I_h34 : LInv h34 := ⟨Ln_ag (my_ag.fr w35 rfl) I_h6.pLn, Mw_ag (my_ag.fr w35 rfl) I_h6.pMw, Mw3_ag (my_ag.fr w35 rfl) I_h6.pMw3, w39, Wrd_ag (my_ag.fr w35 rfl) I_h6.pWrd, Ceq_ag (my_ag.fr w35 rfl) I_h6.pCeq, Wd9_ag (my_ag.fr w35 rfl) I_h6.pWd9, Teq_ag (my_ag.fr w35 rfl) I_h6.pTeq, Wnq_ag (my_ag.fr w35 rfl) I_h6.pWnq⟩
      show lwp p l e s m below meth c b D tys sg rho 1378 [(3, 0), (2, 0), (2, 151), (2, 203), (0, i), (9, 0), (9, 0)] [(0, 1)] h34 kn
      refine lw_pop gz_0_1378 rfl ?_
      refine lw_goto (t := 1878) gz_0_1379 rfl ?_
      exact K h34 I_h34
  ·
    have I_h9 : LInv h9 := ⟨w13, Mw_ag (my_ag.fr w10 rfl) I.pMw, Mw3_ag (my_ag.fr w10 rfl) I.pMw3, Rws_ag (my_ag.fr w10 rfl) I.pRws, Wrd_ag (my_ag.fr w10 rfl) I.pWrd, Ceq_ag (my_ag.fr w10 rfl) I.pCeq, Wd9_ag (my_ag.fr w10 rfl) I.pWd9, Teq_ag (my_ag.fr w10 rfl) I.pTeq, Wnq_ag (my_ag.fr w10 rfl) I.pWnq⟩
    show lwp p l e s m below meth c b D tys sg rho 1343 [(3, 0), (2, 0), (2, 151), (2, 203), (0, i), (9, 0), (9, 0)] [(0, 0)] h9 kn
    refine lw_pop gz_0_1343 rfl ?_
    refine lw_aload_n gz_0_1344 rfl ?_
    refine lw_aload3_n gz_0_1345 rfl ?_
    refine lw_iload gz_0_1346 rfl ?_
    refine lw_iconst gz_0_1348 (by decide) ?_
    refine lw_iadd gz_0_1349 ⟨by omega, by omega⟩ ?_
    refine lw_sl gz_0_1350 hL4 hL (by omega) (by omega) (fun z40 ez40 pz40 qz40 => ?_)
    refine lw_aload3_n gz_0_1351 rfl ?_
    refine lw_iload gz_0_1352 rfl ?_
    refine lw_iconst gz_0_1354 (by decide) ?_
    refine lw_iadd gz_0_1355 ⟨by omega, by omega⟩ ?_
    refine lw_sl gz_0_1356 hL4 hL (by omega) (by omega) (fun z41 ez41 pz41 qz41 => ?_)
    refine lw_aload3_n gz_0_1357 rfl ?_
    refine lw_iload gz_0_1358 rfl ?_
    refine lw_iconst gz_0_1360 (by decide) ?_
    refine lw_iadd gz_0_1361 ⟨by omega, by omega⟩ ?_
    refine lw_sl gz_0_1362 hL4 hL (by omega) (by omega) (fun z42 ez42 pz42 qz42 => ?_)
    refine lw_aload3_n gz_0_1363 rfl ?_
    refine lw_iload gz_0_1364 rfl ?_
    refine lw_iconst gz_0_1366 (by decide) ?_
    refine lw_iadd gz_0_1367 ⟨by omega, by omega⟩ ?_
    refine lw_sl gz_0_1368 hL4 hL (by omega) (by omega) (fun z43 ez43 pz43 qz43 => ?_)
    refine lw_aload3_n gz_0_1369 rfl ?_
    refine lw_iload gz_0_1370 rfl ?_
    refine lw_iconst gz_0_1372 (by decide) ?_
    refine lw_iadd gz_0_1373 ⟨by omega, by omega⟩ ?_
    refine lw_sl gz_0_1374 hL4 hL (by omega) (by omega) (fun z44 ez44 pz44 qz44 => ?_)
    refine lw_inv (kz := 1) (as := [(0, z44), (0, z43), (0, z42), (0, z41), (0, z40)]) (r := []) (x := 151) (ls0 := [(2, 151), (0, z40), (0, z41), (0, z42), (0, z43), (0, z44), (9, 0)]) gz_0_1375 gm_229 rfl is_151 rd_10 rfl rfl rfl rfl rfl (c_Model_twice (d := 21) (x1 := z40) (x2 := z41) (x3 := z42) (x4 := z43) (x5 := z44) I_h9.pMw I_h9.pMw3 I_h9.pRws (fun h45 w46 w47 w48 => ?_) (fun h49 w50 w51 w52 w53 w54 => ?_) (fun h55 w56 w57 w58 w59 w60 => ?_))
    ·
      have I_h45 : LInv h45 := ⟨Ln_ag (my_ag.fr w46 rfl) I_h9.pLn, Mw_ag (my_ag.fr w46 rfl) I_h9.pMw, Mw3_ag (my_ag.fr w46 rfl) I_h9.pMw3, w48, Wrd_ag (my_ag.fr w46 rfl) I_h9.pWrd, Ceq_ag (my_ag.fr w46 rfl) I_h9.pCeq, Wd9_ag (my_ag.fr w46 rfl) I_h9.pWd9, Teq_ag (my_ag.fr w46 rfl) I_h9.pTeq, Wnq_ag (my_ag.fr w46 rfl) I_h9.pWnq⟩
      show lwp p l e s m below meth c b D tys sg rho 1378 [(3, 0), (2, 0), (2, 151), (2, 203), (0, i), (9, 0), (9, 0)] [(0, (-1))] h45 kn
      refine lw_pop gz_0_1378 rfl ?_
      refine lw_goto (t := 1878) gz_0_1379 rfl ?_
      exact K h45 I_h45
    ·
      have I_h49 : LInv h49 := ⟨Ln_ag (my_ag.fr w50 rfl) I_h9.pLn, Mw_ag (my_ag.fr w50 rfl) I_h9.pMw, Mw3_ag (my_ag.fr w50 rfl) I_h9.pMw3, w54, Wrd_ag (my_ag.fr w50 rfl) I_h9.pWrd, Ceq_ag (my_ag.fr w50 rfl) I_h9.pCeq, Wd9_ag (my_ag.fr w50 rfl) I_h9.pWd9, Teq_ag (my_ag.fr w50 rfl) I_h9.pTeq, Wnq_ag (my_ag.fr w50 rfl) I_h9.pWnq⟩
      show lwp p l e s m below meth c b D tys sg rho 1378 [(3, 0), (2, 0), (2, 151), (2, 203), (0, i), (9, 0), (9, 0)] [(0, 0)] h49 kn
      refine lw_pop gz_0_1378 rfl ?_
      refine lw_goto (t := 1878) gz_0_1379 rfl ?_
      exact K h49 I_h49
    ·
      have I_h55 : LInv h55 := ⟨Ln_ag (my_ag.fr w56 rfl) I_h9.pLn, Mw_ag (my_ag.fr w56 rfl) I_h9.pMw, Mw3_ag (my_ag.fr w56 rfl) I_h9.pMw3, w60, Wrd_ag (my_ag.fr w56 rfl) I_h9.pWrd, Ceq_ag (my_ag.fr w56 rfl) I_h9.pCeq, Wd9_ag (my_ag.fr w56 rfl) I_h9.pWd9, Teq_ag (my_ag.fr w56 rfl) I_h9.pTeq, Wnq_ag (my_ag.fr w56 rfl) I_h9.pWnq⟩
      show lwp p l e s m below meth c b D tys sg rho 1378 [(3, 0), (2, 0), (2, 151), (2, 203), (0, i), (9, 0), (9, 0)] [(0, 1)] h55 kn
      refine lw_pop gz_0_1378 rfl ?_
      refine lw_goto (t := 1878) gz_0_1379 rfl ?_
      exact K h55 I_h55
  ·
    have I_h14 : LInv h14 := ⟨w18, Mw_ag (my_ag.fr w15 rfl) I.pMw, Mw3_ag (my_ag.fr w15 rfl) I.pMw3, Rws_ag (my_ag.fr w15 rfl) I.pRws, Wrd_ag (my_ag.fr w15 rfl) I.pWrd, Ceq_ag (my_ag.fr w15 rfl) I.pCeq, Wd9_ag (my_ag.fr w15 rfl) I.pWd9, Teq_ag (my_ag.fr w15 rfl) I.pTeq, Wnq_ag (my_ag.fr w15 rfl) I.pWnq⟩
    show lwp p l e s m below meth c b D tys sg rho 1343 [(3, 0), (2, 0), (2, 151), (2, 203), (0, i), (9, 0), (9, 0)] [(0, 1)] h14 kn
    refine lw_pop gz_0_1343 rfl ?_
    refine lw_aload_n gz_0_1344 rfl ?_
    refine lw_aload3_n gz_0_1345 rfl ?_
    refine lw_iload gz_0_1346 rfl ?_
    refine lw_iconst gz_0_1348 (by decide) ?_
    refine lw_iadd gz_0_1349 ⟨by omega, by omega⟩ ?_
    refine lw_sl gz_0_1350 hL4 hL (by omega) (by omega) (fun z61 ez61 pz61 qz61 => ?_)
    refine lw_aload3_n gz_0_1351 rfl ?_
    refine lw_iload gz_0_1352 rfl ?_
    refine lw_iconst gz_0_1354 (by decide) ?_
    refine lw_iadd gz_0_1355 ⟨by omega, by omega⟩ ?_
    refine lw_sl gz_0_1356 hL4 hL (by omega) (by omega) (fun z62 ez62 pz62 qz62 => ?_)
    refine lw_aload3_n gz_0_1357 rfl ?_
    refine lw_iload gz_0_1358 rfl ?_
    refine lw_iconst gz_0_1360 (by decide) ?_
    refine lw_iadd gz_0_1361 ⟨by omega, by omega⟩ ?_
    refine lw_sl gz_0_1362 hL4 hL (by omega) (by omega) (fun z63 ez63 pz63 qz63 => ?_)
    refine lw_aload3_n gz_0_1363 rfl ?_
    refine lw_iload gz_0_1364 rfl ?_
    refine lw_iconst gz_0_1366 (by decide) ?_
    refine lw_iadd gz_0_1367 ⟨by omega, by omega⟩ ?_
    refine lw_sl gz_0_1368 hL4 hL (by omega) (by omega) (fun z64 ez64 pz64 qz64 => ?_)
    refine lw_aload3_n gz_0_1369 rfl ?_
    refine lw_iload gz_0_1370 rfl ?_
    refine lw_iconst gz_0_1372 (by decide) ?_
    refine lw_iadd gz_0_1373 ⟨by omega, by omega⟩ ?_
    refine lw_sl gz_0_1374 hL4 hL (by omega) (by omega) (fun z65 ez65 pz65 qz65 => ?_)
    refine lw_inv (kz := 1) (as := [(0, z65), (0, z64), (0, z63), (0, z62), (0, z61)]) (r := []) (x := 151) (ls0 := [(2, 151), (0, z61), (0, z62), (0, z63), (0, z64), (0, z65), (9, 0)]) gz_0_1375 gm_229 rfl is_151 rd_10 rfl rfl rfl rfl rfl (c_Model_twice (d := 21) (x1 := z61) (x2 := z62) (x3 := z63) (x4 := z64) (x5 := z65) I_h14.pMw I_h14.pMw3 I_h14.pRws (fun h66 w67 w68 w69 => ?_) (fun h70 w71 w72 w73 w74 w75 => ?_) (fun h76 w77 w78 w79 w80 w81 => ?_))
    ·
      have I_h66 : LInv h66 := ⟨Ln_ag (my_ag.fr w67 rfl) I_h14.pLn, Mw_ag (my_ag.fr w67 rfl) I_h14.pMw, Mw3_ag (my_ag.fr w67 rfl) I_h14.pMw3, w69, Wrd_ag (my_ag.fr w67 rfl) I_h14.pWrd, Ceq_ag (my_ag.fr w67 rfl) I_h14.pCeq, Wd9_ag (my_ag.fr w67 rfl) I_h14.pWd9, Teq_ag (my_ag.fr w67 rfl) I_h14.pTeq, Wnq_ag (my_ag.fr w67 rfl) I_h14.pWnq⟩
      show lwp p l e s m below meth c b D tys sg rho 1378 [(3, 0), (2, 0), (2, 151), (2, 203), (0, i), (9, 0), (9, 0)] [(0, (-1))] h66 kn
      refine lw_pop gz_0_1378 rfl ?_
      refine lw_goto (t := 1878) gz_0_1379 rfl ?_
      exact K h66 I_h66
    ·
      have I_h70 : LInv h70 := ⟨Ln_ag (my_ag.fr w71 rfl) I_h14.pLn, Mw_ag (my_ag.fr w71 rfl) I_h14.pMw, Mw3_ag (my_ag.fr w71 rfl) I_h14.pMw3, w75, Wrd_ag (my_ag.fr w71 rfl) I_h14.pWrd, Ceq_ag (my_ag.fr w71 rfl) I_h14.pCeq, Wd9_ag (my_ag.fr w71 rfl) I_h14.pWd9, Teq_ag (my_ag.fr w71 rfl) I_h14.pTeq, Wnq_ag (my_ag.fr w71 rfl) I_h14.pWnq⟩
      show lwp p l e s m below meth c b D tys sg rho 1378 [(3, 0), (2, 0), (2, 151), (2, 203), (0, i), (9, 0), (9, 0)] [(0, 0)] h70 kn
      refine lw_pop gz_0_1378 rfl ?_
      refine lw_goto (t := 1878) gz_0_1379 rfl ?_
      exact K h70 I_h70
    ·
      have I_h76 : LInv h76 := ⟨Ln_ag (my_ag.fr w77 rfl) I_h14.pLn, Mw_ag (my_ag.fr w77 rfl) I_h14.pMw, Mw3_ag (my_ag.fr w77 rfl) I_h14.pMw3, w81, Wrd_ag (my_ag.fr w77 rfl) I_h14.pWrd, Ceq_ag (my_ag.fr w77 rfl) I_h14.pCeq, Wd9_ag (my_ag.fr w77 rfl) I_h14.pWd9, Teq_ag (my_ag.fr w77 rfl) I_h14.pTeq, Wnq_ag (my_ag.fr w77 rfl) I_h14.pWnq⟩
      show lwp p l e s m below meth c b D tys sg rho 1378 [(3, 0), (2, 0), (2, 151), (2, 203), (0, i), (9, 0), (9, 0)] [(0, 1)] h76 kn
      refine lw_pop gz_0_1378 rfl ?_
      refine lw_goto (t := 1878) gz_0_1379 rfl ?_
      exact K h76 I_h76
theorem lcase_19 (hL4 : L4 ≤ 4096) (hL : rho 4096 = Int32.ofNat L4) (I : LInv h) (i0 : 0 ≤ i) (i8 : i + 8 ≤ L4) (K : ∀ h' : my_H, LInv h' → lwp p l e s m below meth c b D tys sg rho 1878 [(3, 0), (2, 0), (2, 151), (2, 203), (0, i), (9, 0), (9, 0)] [] h' kn) : lwp p l e s m below meth c b D tys sg rho 1382 [(3, 0), (2, 0), (2, 151), (2, 203), (0, i), (9, 0), (9, 0)] [] h kn := by
  refine lw_aload_n gz_0_1382 rfl ?_
  refine lw_aload3_n gz_0_1383 rfl ?_
  refine lw_iload gz_0_1384 rfl ?_
  refine lw_iconst gz_0_1386 (by decide) ?_
  refine lw_iadd gz_0_1387 ⟨by omega, by omega⟩ ?_
  refine lw_sl gz_0_1388 hL4 hL (by omega) (by omega) (fun z1 ez1 pz1 qz1 => ?_)
  refine lw_aload3_n gz_0_1389 rfl ?_
  refine lw_iload gz_0_1390 rfl ?_
  refine lw_iconst gz_0_1392 (by decide) ?_
  refine lw_iadd gz_0_1393 ⟨by omega, by omega⟩ ?_
  refine lw_sl gz_0_1394 hL4 hL (by omega) (by omega) (fun z2 ez2 pz2 qz2 => ?_)
  refine lw_aload3_n gz_0_1395 rfl ?_
  refine lw_iload gz_0_1396 rfl ?_
  refine lw_iconst gz_0_1398 (by decide) ?_
  refine lw_iadd gz_0_1399 ⟨by omega, by omega⟩ ?_
  refine lw_sl gz_0_1400 hL4 hL (by omega) (by omega) (fun z3 ez3 pz3 qz3 => ?_)
  refine lw_aload3_n gz_0_1401 rfl ?_
  refine lw_iload gz_0_1402 rfl ?_
  refine lw_iconst gz_0_1404 (by decide) ?_
  refine lw_iadd gz_0_1405 ⟨by omega, by omega⟩ ?_
  refine lw_sl gz_0_1406 hL4 hL (by omega) (by omega) (fun z4 ez4 pz4 qz4 => ?_)
  refine lw_inv (kz := 2) (as := [(0, z4), (0, z3), (0, z2), (0, z1)]) (r := []) (x := 0) (ls0 := [(2, 0), (0, z1), (0, z2), (0, z3), (0, z4), (9, 0), (9, 0)]) gz_0_1407 gm_117 rfl is_0 rd_9 rfl rfl rfl rfl rfl (c_ThroughWindow_back (d := 22) (x1 := z1) (x2 := z2) (x3 := z3) (x4 := z4) I.pLn (fun h5 w6 w7 => ?_) (fun h8 w9 w10 w11 w12 w13 w14 w15 w16 => ?_) (fun h17 w18 w19 w20 w21 w22 w23 w24 w25 => ?_))
  ·
    have I_h5 : LInv h5 := ⟨w7, Mw_ag (my_ag.fr w6 rfl) I.pMw, Mw3_ag (my_ag.fr w6 rfl) I.pMw3, Rws_ag (my_ag.fr w6 rfl) I.pRws, Wrd_ag (my_ag.fr w6 rfl) I.pWrd, Ceq_ag (my_ag.fr w6 rfl) I.pCeq, Wd9_ag (my_ag.fr w6 rfl) I.pWd9, Teq_ag (my_ag.fr w6 rfl) I.pTeq, Wnq_ag (my_ag.fr w6 rfl) I.pWnq⟩
    show lwp p l e s m below meth c b D tys sg rho 1410 [(3, 0), (2, 0), (2, 151), (2, 203), (0, i), (9, 0), (9, 0)] [(0, (-1))] h5 kn
    refine lw_pop gz_0_1410 rfl ?_
    refine lw_aload_n gz_0_1411 rfl ?_
    refine lw_aload3_n gz_0_1412 rfl ?_
    refine lw_iload gz_0_1413 rfl ?_
    refine lw_iconst gz_0_1415 (by decide) ?_
    refine lw_iadd gz_0_1416 ⟨by omega, by omega⟩ ?_
    refine lw_sl gz_0_1417 hL4 hL (by omega) (by omega) (fun z26 ez26 pz26 qz26 => ?_)
    refine lw_aload3_n gz_0_1418 rfl ?_
    refine lw_iload gz_0_1419 rfl ?_
    refine lw_iconst gz_0_1421 (by decide) ?_
    refine lw_iadd gz_0_1422 ⟨by omega, by omega⟩ ?_
    refine lw_sl gz_0_1423 hL4 hL (by omega) (by omega) (fun z27 ez27 pz27 qz27 => ?_)
    refine lw_aload3_n gz_0_1424 rfl ?_
    refine lw_iload gz_0_1425 rfl ?_
    refine lw_iconst gz_0_1427 (by decide) ?_
    refine lw_iadd gz_0_1428 ⟨by omega, by omega⟩ ?_
    refine lw_sl gz_0_1429 hL4 hL (by omega) (by omega) (fun z28 ez28 pz28 qz28 => ?_)
    refine lw_aload3_n gz_0_1430 rfl ?_
    refine lw_iload gz_0_1431 rfl ?_
    refine lw_iconst gz_0_1433 (by decide) ?_
    refine lw_iadd gz_0_1434 ⟨by omega, by omega⟩ ?_
    refine lw_sl gz_0_1435 hL4 hL (by omega) (by omega) (fun z29 ez29 pz29 qz29 => ?_)
    refine lw_inv (kz := 2) (as := [(0, z29), (0, z28), (0, z27), (0, z26)]) (r := []) (x := 151) (ls0 := [(2, 151), (0, z26), (0, z27), (0, z28), (0, z29), (9, 0), (9, 0)]) gz_0_1436 gm_231 rfl is_151 rd_10 rfl rfl rfl rfl rfl (c_Model_back (d := 21) (x1 := z26) (x2 := z27) (x3 := z28) (x4 := z29) I_h5.pMw I_h5.pMw3 I_h5.pRws (fun h30 w31 w32 w33 => ?_) (fun h34 w35 w36 w37 w38 w39 w40 w41 w42 w43 => ?_) (fun h44 w45 w46 w47 w48 w49 w50 w51 w52 w53 => ?_))
    ·
      have I_h30 : LInv h30 := ⟨Ln_ag (my_ag.fr w31 rfl) I_h5.pLn, Mw_ag (my_ag.fr w31 rfl) I_h5.pMw, Mw3_ag (my_ag.fr w31 rfl) I_h5.pMw3, w33, Wrd_ag (my_ag.fr w31 rfl) I_h5.pWrd, Ceq_ag (my_ag.fr w31 rfl) I_h5.pCeq, Wd9_ag (my_ag.fr w31 rfl) I_h5.pWd9, Teq_ag (my_ag.fr w31 rfl) I_h5.pTeq, Wnq_ag (my_ag.fr w31 rfl) I_h5.pWnq⟩
      show lwp p l e s m below meth c b D tys sg rho 1439 [(3, 0), (2, 0), (2, 151), (2, 203), (0, i), (9, 0), (9, 0)] [(0, (-1))] h30 kn
      refine lw_pop gz_0_1439 rfl ?_
      refine lw_goto (t := 1878) gz_0_1440 rfl ?_
      exact K h30 I_h30
    ·
      have I_h34 : LInv h34 := ⟨Ln_ag (my_ag.fr w35 rfl) I_h5.pLn, Mw_ag (my_ag.fr w35 rfl) I_h5.pMw, Mw3_ag (my_ag.fr w35 rfl) I_h5.pMw3, w43, Wrd_ag (my_ag.fr w35 rfl) I_h5.pWrd, Ceq_ag (my_ag.fr w35 rfl) I_h5.pCeq, Wd9_ag (my_ag.fr w35 rfl) I_h5.pWd9, Teq_ag (my_ag.fr w35 rfl) I_h5.pTeq, Wnq_ag (my_ag.fr w35 rfl) I_h5.pWnq⟩
      show lwp p l e s m below meth c b D tys sg rho 1439 [(3, 0), (2, 0), (2, 151), (2, 203), (0, i), (9, 0), (9, 0)] [(0, 0)] h34 kn
      refine lw_pop gz_0_1439 rfl ?_
      refine lw_goto (t := 1878) gz_0_1440 rfl ?_
      exact K h34 I_h34
    ·
      have I_h44 : LInv h44 := ⟨Ln_ag (my_ag.fr w45 rfl) I_h5.pLn, Mw_ag (my_ag.fr w45 rfl) I_h5.pMw, Mw3_ag (my_ag.fr w45 rfl) I_h5.pMw3, w53, Wrd_ag (my_ag.fr w45 rfl) I_h5.pWrd, Ceq_ag (my_ag.fr w45 rfl) I_h5.pCeq, Wd9_ag (my_ag.fr w45 rfl) I_h5.pWd9, Teq_ag (my_ag.fr w45 rfl) I_h5.pTeq, Wnq_ag (my_ag.fr w45 rfl) I_h5.pWnq⟩
      show lwp p l e s m below meth c b D tys sg rho 1439 [(3, 0), (2, 0), (2, 151), (2, 203), (0, i), (9, 0), (9, 0)] [(0, 1)] h44 kn
      refine lw_pop gz_0_1439 rfl ?_
      refine lw_goto (t := 1878) gz_0_1440 rfl ?_
      exact K h44 I_h44
  ·
    have I_h8 : LInv h8 := ⟨w16, Mw_ag (my_ag.fr w9 rfl) I.pMw, Mw3_ag (my_ag.fr w9 rfl) I.pMw3, Rws_ag (my_ag.fr w9 rfl) I.pRws, Wrd_ag (my_ag.fr w9 rfl) I.pWrd, Ceq_ag (my_ag.fr w9 rfl) I.pCeq, Wd9_ag (my_ag.fr w9 rfl) I.pWd9, Teq_ag (my_ag.fr w9 rfl) I.pTeq, Wnq_ag (my_ag.fr w9 rfl) I.pWnq⟩
    show lwp p l e s m below meth c b D tys sg rho 1410 [(3, 0), (2, 0), (2, 151), (2, 203), (0, i), (9, 0), (9, 0)] [(0, 0)] h8 kn
    refine lw_pop gz_0_1410 rfl ?_
    refine lw_aload_n gz_0_1411 rfl ?_
    refine lw_aload3_n gz_0_1412 rfl ?_
    refine lw_iload gz_0_1413 rfl ?_
    refine lw_iconst gz_0_1415 (by decide) ?_
    refine lw_iadd gz_0_1416 ⟨by omega, by omega⟩ ?_
    refine lw_sl gz_0_1417 hL4 hL (by omega) (by omega) (fun z54 ez54 pz54 qz54 => ?_)
    refine lw_aload3_n gz_0_1418 rfl ?_
    refine lw_iload gz_0_1419 rfl ?_
    refine lw_iconst gz_0_1421 (by decide) ?_
    refine lw_iadd gz_0_1422 ⟨by omega, by omega⟩ ?_
    refine lw_sl gz_0_1423 hL4 hL (by omega) (by omega) (fun z55 ez55 pz55 qz55 => ?_)
    refine lw_aload3_n gz_0_1424 rfl ?_
    refine lw_iload gz_0_1425 rfl ?_
    refine lw_iconst gz_0_1427 (by decide) ?_
    refine lw_iadd gz_0_1428 ⟨by omega, by omega⟩ ?_
    refine lw_sl gz_0_1429 hL4 hL (by omega) (by omega) (fun z56 ez56 pz56 qz56 => ?_)
    refine lw_aload3_n gz_0_1430 rfl ?_
    refine lw_iload gz_0_1431 rfl ?_
    refine lw_iconst gz_0_1433 (by decide) ?_
    refine lw_iadd gz_0_1434 ⟨by omega, by omega⟩ ?_
    refine lw_sl gz_0_1435 hL4 hL (by omega) (by omega) (fun z57 ez57 pz57 qz57 => ?_)
    refine lw_inv (kz := 2) (as := [(0, z57), (0, z56), (0, z55), (0, z54)]) (r := []) (x := 151) (ls0 := [(2, 151), (0, z54), (0, z55), (0, z56), (0, z57), (9, 0), (9, 0)]) gz_0_1436 gm_231 rfl is_151 rd_10 rfl rfl rfl rfl rfl (c_Model_back (d := 21) (x1 := z54) (x2 := z55) (x3 := z56) (x4 := z57) I_h8.pMw I_h8.pMw3 I_h8.pRws (fun h58 w59 w60 w61 => ?_) (fun h62 w63 w64 w65 w66 w67 w68 w69 w70 w71 => ?_) (fun h72 w73 w74 w75 w76 w77 w78 w79 w80 w81 => ?_))
    ·
      have I_h58 : LInv h58 := ⟨Ln_ag (my_ag.fr w59 rfl) I_h8.pLn, Mw_ag (my_ag.fr w59 rfl) I_h8.pMw, Mw3_ag (my_ag.fr w59 rfl) I_h8.pMw3, w61, Wrd_ag (my_ag.fr w59 rfl) I_h8.pWrd, Ceq_ag (my_ag.fr w59 rfl) I_h8.pCeq, Wd9_ag (my_ag.fr w59 rfl) I_h8.pWd9, Teq_ag (my_ag.fr w59 rfl) I_h8.pTeq, Wnq_ag (my_ag.fr w59 rfl) I_h8.pWnq⟩
      show lwp p l e s m below meth c b D tys sg rho 1439 [(3, 0), (2, 0), (2, 151), (2, 203), (0, i), (9, 0), (9, 0)] [(0, (-1))] h58 kn
      refine lw_pop gz_0_1439 rfl ?_
      refine lw_goto (t := 1878) gz_0_1440 rfl ?_
      exact K h58 I_h58
    ·
      have I_h62 : LInv h62 := ⟨Ln_ag (my_ag.fr w63 rfl) I_h8.pLn, Mw_ag (my_ag.fr w63 rfl) I_h8.pMw, Mw3_ag (my_ag.fr w63 rfl) I_h8.pMw3, w71, Wrd_ag (my_ag.fr w63 rfl) I_h8.pWrd, Ceq_ag (my_ag.fr w63 rfl) I_h8.pCeq, Wd9_ag (my_ag.fr w63 rfl) I_h8.pWd9, Teq_ag (my_ag.fr w63 rfl) I_h8.pTeq, Wnq_ag (my_ag.fr w63 rfl) I_h8.pWnq⟩
      show lwp p l e s m below meth c b D tys sg rho 1439 [(3, 0), (2, 0), (2, 151), (2, 203), (0, i), (9, 0), (9, 0)] [(0, 0)] h62 kn
      refine lw_pop gz_0_1439 rfl ?_
      refine lw_goto (t := 1878) gz_0_1440 rfl ?_
      exact K h62 I_h62
    ·
      have I_h72 : LInv h72 := ⟨Ln_ag (my_ag.fr w73 rfl) I_h8.pLn, Mw_ag (my_ag.fr w73 rfl) I_h8.pMw, Mw3_ag (my_ag.fr w73 rfl) I_h8.pMw3, w81, Wrd_ag (my_ag.fr w73 rfl) I_h8.pWrd, Ceq_ag (my_ag.fr w73 rfl) I_h8.pCeq, Wd9_ag (my_ag.fr w73 rfl) I_h8.pWd9, Teq_ag (my_ag.fr w73 rfl) I_h8.pTeq, Wnq_ag (my_ag.fr w73 rfl) I_h8.pWnq⟩
      show lwp p l e s m below meth c b D tys sg rho 1439 [(3, 0), (2, 0), (2, 151), (2, 203), (0, i), (9, 0), (9, 0)] [(0, 1)] h72 kn
      refine lw_pop gz_0_1439 rfl ?_
      refine lw_goto (t := 1878) gz_0_1440 rfl ?_
      exact K h72 I_h72
  ·
    have I_h17 : LInv h17 := ⟨w25, Mw_ag (my_ag.fr w18 rfl) I.pMw, Mw3_ag (my_ag.fr w18 rfl) I.pMw3, Rws_ag (my_ag.fr w18 rfl) I.pRws, Wrd_ag (my_ag.fr w18 rfl) I.pWrd, Ceq_ag (my_ag.fr w18 rfl) I.pCeq, Wd9_ag (my_ag.fr w18 rfl) I.pWd9, Teq_ag (my_ag.fr w18 rfl) I.pTeq, Wnq_ag (my_ag.fr w18 rfl) I.pWnq⟩
    show lwp p l e s m below meth c b D tys sg rho 1410 [(3, 0), (2, 0), (2, 151), (2, 203), (0, i), (9, 0), (9, 0)] [(0, 1)] h17 kn
    refine lw_pop gz_0_1410 rfl ?_
    refine lw_aload_n gz_0_1411 rfl ?_
    refine lw_aload3_n gz_0_1412 rfl ?_
    refine lw_iload gz_0_1413 rfl ?_
    refine lw_iconst gz_0_1415 (by decide) ?_
    refine lw_iadd gz_0_1416 ⟨by omega, by omega⟩ ?_
    refine lw_sl gz_0_1417 hL4 hL (by omega) (by omega) (fun z82 ez82 pz82 qz82 => ?_)
    refine lw_aload3_n gz_0_1418 rfl ?_
    refine lw_iload gz_0_1419 rfl ?_
    refine lw_iconst gz_0_1421 (by decide) ?_
    refine lw_iadd gz_0_1422 ⟨by omega, by omega⟩ ?_
    refine lw_sl gz_0_1423 hL4 hL (by omega) (by omega) (fun z83 ez83 pz83 qz83 => ?_)
    refine lw_aload3_n gz_0_1424 rfl ?_
    refine lw_iload gz_0_1425 rfl ?_
    refine lw_iconst gz_0_1427 (by decide) ?_
    refine lw_iadd gz_0_1428 ⟨by omega, by omega⟩ ?_
    refine lw_sl gz_0_1429 hL4 hL (by omega) (by omega) (fun z84 ez84 pz84 qz84 => ?_)
    refine lw_aload3_n gz_0_1430 rfl ?_
    refine lw_iload gz_0_1431 rfl ?_
    refine lw_iconst gz_0_1433 (by decide) ?_
    refine lw_iadd gz_0_1434 ⟨by omega, by omega⟩ ?_
    refine lw_sl gz_0_1435 hL4 hL (by omega) (by omega) (fun z85 ez85 pz85 qz85 => ?_)
    refine lw_inv (kz := 2) (as := [(0, z85), (0, z84), (0, z83), (0, z82)]) (r := []) (x := 151) (ls0 := [(2, 151), (0, z82), (0, z83), (0, z84), (0, z85), (9, 0), (9, 0)]) gz_0_1436 gm_231 rfl is_151 rd_10 rfl rfl rfl rfl rfl (c_Model_back (d := 21) (x1 := z82) (x2 := z83) (x3 := z84) (x4 := z85) I_h17.pMw I_h17.pMw3 I_h17.pRws (fun h86 w87 w88 w89 => ?_) (fun h90 w91 w92 w93 w94 w95 w96 w97 w98 w99 => ?_) (fun h100 w101 w102 w103 w104 w105 w106 w107 w108 w109 => ?_))
    ·
      have I_h86 : LInv h86 := ⟨Ln_ag (my_ag.fr w87 rfl) I_h17.pLn, Mw_ag (my_ag.fr w87 rfl) I_h17.pMw, Mw3_ag (my_ag.fr w87 rfl) I_h17.pMw3, w89, Wrd_ag (my_ag.fr w87 rfl) I_h17.pWrd, Ceq_ag (my_ag.fr w87 rfl) I_h17.pCeq, Wd9_ag (my_ag.fr w87 rfl) I_h17.pWd9, Teq_ag (my_ag.fr w87 rfl) I_h17.pTeq, Wnq_ag (my_ag.fr w87 rfl) I_h17.pWnq⟩
      show lwp p l e s m below meth c b D tys sg rho 1439 [(3, 0), (2, 0), (2, 151), (2, 203), (0, i), (9, 0), (9, 0)] [(0, (-1))] h86 kn
      refine lw_pop gz_0_1439 rfl ?_
      refine lw_goto (t := 1878) gz_0_1440 rfl ?_
      exact K h86 I_h86
    ·
      have I_h90 : LInv h90 := ⟨Ln_ag (my_ag.fr w91 rfl) I_h17.pLn, Mw_ag (my_ag.fr w91 rfl) I_h17.pMw, Mw3_ag (my_ag.fr w91 rfl) I_h17.pMw3, w99, Wrd_ag (my_ag.fr w91 rfl) I_h17.pWrd, Ceq_ag (my_ag.fr w91 rfl) I_h17.pCeq, Wd9_ag (my_ag.fr w91 rfl) I_h17.pWd9, Teq_ag (my_ag.fr w91 rfl) I_h17.pTeq, Wnq_ag (my_ag.fr w91 rfl) I_h17.pWnq⟩
      show lwp p l e s m below meth c b D tys sg rho 1439 [(3, 0), (2, 0), (2, 151), (2, 203), (0, i), (9, 0), (9, 0)] [(0, 0)] h90 kn
      refine lw_pop gz_0_1439 rfl ?_
      refine lw_goto (t := 1878) gz_0_1440 rfl ?_
      exact K h90 I_h90
    ·
      have I_h100 : LInv h100 := ⟨Ln_ag (my_ag.fr w101 rfl) I_h17.pLn, Mw_ag (my_ag.fr w101 rfl) I_h17.pMw, Mw3_ag (my_ag.fr w101 rfl) I_h17.pMw3, w109, Wrd_ag (my_ag.fr w101 rfl) I_h17.pWrd, Ceq_ag (my_ag.fr w101 rfl) I_h17.pCeq, Wd9_ag (my_ag.fr w101 rfl) I_h17.pWd9, Teq_ag (my_ag.fr w101 rfl) I_h17.pTeq, Wnq_ag (my_ag.fr w101 rfl) I_h17.pWnq⟩
      show lwp p l e s m below meth c b D tys sg rho 1439 [(3, 0), (2, 0), (2, 151), (2, 203), (0, i), (9, 0), (9, 0)] [(0, 1)] h100 kn
      refine lw_pop gz_0_1439 rfl ?_
      refine lw_goto (t := 1878) gz_0_1440 rfl ?_
      exact K h100 I_h100
theorem lcase_20 (hL4 : L4 ≤ 4096) (hL : rho 4096 = Int32.ofNat L4) (I : LInv h) (i0 : 0 ≤ i) (i8 : i + 8 ≤ L4) (K : ∀ h' : my_H, LInv h' → lwp p l e s m below meth c b D tys sg rho 1878 [(3, 0), (2, 0), (2, 151), (2, 203), (0, i), (9, 0), (9, 0)] [] h' kn) : lwp p l e s m below meth c b D tys sg rho 1443 [(3, 0), (2, 0), (2, 151), (2, 203), (0, i), (9, 0), (9, 0)] [] h kn := by
  refine lw_aload_n gz_0_1443 rfl ?_
  refine lw_aload3_n gz_0_1444 rfl ?_
  refine lw_iload gz_0_1445 rfl ?_
  refine lw_iconst gz_0_1447 (by decide) ?_
  refine lw_iadd gz_0_1448 ⟨by omega, by omega⟩ ?_
  refine lw_sl gz_0_1449 hL4 hL (by omega) (by omega) (fun z1 ez1 pz1 qz1 => ?_)
  refine lw_aload3_n gz_0_1450 rfl ?_
  refine lw_iload gz_0_1451 rfl ?_
  refine lw_iconst gz_0_1453 (by decide) ?_
  refine lw_iadd gz_0_1454 ⟨by omega, by omega⟩ ?_
  refine lw_sl gz_0_1455 hL4 hL (by omega) (by omega) (fun z2 ez2 pz2 qz2 => ?_)
  refine lw_aload3_n gz_0_1456 rfl ?_
  refine lw_iload gz_0_1457 rfl ?_
  refine lw_iconst gz_0_1459 (by decide) ?_
  refine lw_iadd gz_0_1460 ⟨by omega, by omega⟩ ?_
  refine lw_sl gz_0_1461 hL4 hL (by omega) (by omega) (fun z3 ez3 pz3 qz3 => ?_)
  refine lw_aload3_n gz_0_1462 rfl ?_
  refine lw_iload gz_0_1463 rfl ?_
  refine lw_iconst gz_0_1465 (by decide) ?_
  refine lw_iadd gz_0_1466 ⟨by omega, by omega⟩ ?_
  refine lw_sl gz_0_1467 hL4 hL (by omega) (by omega) (fun z4 ez4 pz4 qz4 => ?_)
  refine lw_aload3_n gz_0_1468 rfl ?_
  refine lw_iload gz_0_1469 rfl ?_
  refine lw_iconst gz_0_1471 (by decide) ?_
  refine lw_iadd gz_0_1472 ⟨by omega, by omega⟩ ?_
  refine lw_sl gz_0_1473 hL4 hL (by omega) (by omega) (fun z5 ez5 pz5 qz5 => ?_)
  refine lw_aload3_n gz_0_1474 rfl ?_
  refine lw_iload gz_0_1475 rfl ?_
  refine lw_bipush gz_0_1477 (by decide) ?_
  refine lw_iadd gz_0_1479 ⟨by omega, by omega⟩ ?_
  refine lw_sl gz_0_1480 hL4 hL (by omega) (by omega) (fun z6 ez6 pz6 qz6 => ?_)
  refine lw_inv (kz := 6) (as := [(0, z6), (0, z5), (0, z4), (0, z3), (0, z2), (0, z1)]) (r := []) (x := 0) (ls0 := [(2, 0), (0, z1), (0, z2), (0, z3), (0, z4), (0, z5), (0, z6), (9, 0), (9, 0), (9, 0), (9, 0), (9, 0), (9, 0)]) gz_0_1481 gm_118 rfl is_0 rd_9 rfl rfl rfl rfl rfl (c_ThroughWindow_clash (d := 22) (x1 := z1) (x2 := z2) (x3 := z3) (x4 := z4) (x5 := z5) (x6 := z6) I.pLn (fun h7 w8 w9 => ?_) (fun h10 w11 w12 w13 w14 w15 w16 w17 w18 => ?_) (fun h19 w20 w21 w22 w23 w24 w25 w26 w27 => ?_) (fun h28 y29 w30 w31 w32 w33 w34 w35 w36 w37 w38 w39 => ?_))
  ·
    have I_h7 : LInv h7 := ⟨w9, Mw_ag (my_ag.fr w8 rfl) I.pMw, Mw3_ag (my_ag.fr w8 rfl) I.pMw3, Rws_ag (my_ag.fr w8 rfl) I.pRws, Wrd_ag (my_ag.fr w8 rfl) I.pWrd, Ceq_ag (my_ag.fr w8 rfl) I.pCeq, Wd9_ag (my_ag.fr w8 rfl) I.pWd9, Teq_ag (my_ag.fr w8 rfl) I.pTeq, Wnq_ag (my_ag.fr w8 rfl) I.pWnq⟩
    show lwp p l e s m below meth c b D tys sg rho 1484 [(3, 0), (2, 0), (2, 151), (2, 203), (0, i), (9, 0), (9, 0)] [(0, (-1))] h7 kn
    refine lw_pop gz_0_1484 rfl ?_
    refine lw_aload_n gz_0_1485 rfl ?_
    refine lw_aload3_n gz_0_1486 rfl ?_
    refine lw_iload gz_0_1487 rfl ?_
    refine lw_iconst gz_0_1489 (by decide) ?_
    refine lw_iadd gz_0_1490 ⟨by omega, by omega⟩ ?_
    refine lw_sl gz_0_1491 hL4 hL (by omega) (by omega) (fun z40 ez40 pz40 qz40 => ?_)
    refine lw_aload3_n gz_0_1492 rfl ?_
    refine lw_iload gz_0_1493 rfl ?_
    refine lw_iconst gz_0_1495 (by decide) ?_
    refine lw_iadd gz_0_1496 ⟨by omega, by omega⟩ ?_
    refine lw_sl gz_0_1497 hL4 hL (by omega) (by omega) (fun z41 ez41 pz41 qz41 => ?_)
    refine lw_aload3_n gz_0_1498 rfl ?_
    refine lw_iload gz_0_1499 rfl ?_
    refine lw_iconst gz_0_1501 (by decide) ?_
    refine lw_iadd gz_0_1502 ⟨by omega, by omega⟩ ?_
    refine lw_sl gz_0_1503 hL4 hL (by omega) (by omega) (fun z42 ez42 pz42 qz42 => ?_)
    refine lw_aload3_n gz_0_1504 rfl ?_
    refine lw_iload gz_0_1505 rfl ?_
    refine lw_iconst gz_0_1507 (by decide) ?_
    refine lw_iadd gz_0_1508 ⟨by omega, by omega⟩ ?_
    refine lw_sl gz_0_1509 hL4 hL (by omega) (by omega) (fun z43 ez43 pz43 qz43 => ?_)
    refine lw_aload3_n gz_0_1510 rfl ?_
    refine lw_iload gz_0_1511 rfl ?_
    refine lw_iconst gz_0_1513 (by decide) ?_
    refine lw_iadd gz_0_1514 ⟨by omega, by omega⟩ ?_
    refine lw_sl gz_0_1515 hL4 hL (by omega) (by omega) (fun z44 ez44 pz44 qz44 => ?_)
    refine lw_aload3_n gz_0_1516 rfl ?_
    refine lw_iload gz_0_1517 rfl ?_
    refine lw_bipush gz_0_1519 (by decide) ?_
    refine lw_iadd gz_0_1521 ⟨by omega, by omega⟩ ?_
    refine lw_sl gz_0_1522 hL4 hL (by omega) (by omega) (fun z45 ez45 pz45 qz45 => ?_)
    refine lw_inv (kz := 2) (as := [(0, z45), (0, z44), (0, z43), (0, z42), (0, z41), (0, z40)]) (r := []) (x := 151) (ls0 := [(2, 151), (0, z40), (0, z41), (0, z42), (0, z43), (0, z44), (0, z45), (9, 0), (9, 0)]) gz_0_1523 gm_232 rfl is_151 rd_10 rfl rfl rfl rfl rfl (c_Model_clash (d := 20) (x1 := z40) (x2 := z41) (x3 := z42) (x4 := z43) (x5 := z44) (x6 := z45) I_h7.pMw I_h7.pMw3 I_h7.pRws (fun h46 w47 w48 w49 => ?_) (fun h50 w51 w52 w53 w54 w55 w56 w57 w58 w59 => ?_) (fun h60 w61 w62 w63 w64 w65 w66 w67 w68 w69 => ?_) (fun h70 y71 w72 w73 w74 w75 w76 w77 w78 w79 w80 w81 w82 => ?_))
    ·
      have I_h46 : LInv h46 := ⟨Ln_ag (my_ag.fr w47 rfl) I_h7.pLn, Mw_ag (my_ag.fr w47 rfl) I_h7.pMw, Mw3_ag (my_ag.fr w47 rfl) I_h7.pMw3, w49, Wrd_ag (my_ag.fr w47 rfl) I_h7.pWrd, Ceq_ag (my_ag.fr w47 rfl) I_h7.pCeq, Wd9_ag (my_ag.fr w47 rfl) I_h7.pWd9, Teq_ag (my_ag.fr w47 rfl) I_h7.pTeq, Wnq_ag (my_ag.fr w47 rfl) I_h7.pWnq⟩
      show lwp p l e s m below meth c b D tys sg rho 1526 [(3, 0), (2, 0), (2, 151), (2, 203), (0, i), (9, 0), (9, 0)] [(0, (-1))] h46 kn
      refine lw_pop gz_0_1526 rfl ?_
      refine lw_goto (t := 1878) gz_0_1527 rfl ?_
      exact K h46 I_h46
    ·
      have I_h50 : LInv h50 := ⟨Ln_ag (my_ag.fr w51 rfl) I_h7.pLn, Mw_ag (my_ag.fr w51 rfl) I_h7.pMw, Mw3_ag (my_ag.fr w51 rfl) I_h7.pMw3, w59, Wrd_ag (my_ag.fr w51 rfl) I_h7.pWrd, Ceq_ag (my_ag.fr w51 rfl) I_h7.pCeq, Wd9_ag (my_ag.fr w51 rfl) I_h7.pWd9, Teq_ag (my_ag.fr w51 rfl) I_h7.pTeq, Wnq_ag (my_ag.fr w51 rfl) I_h7.pWnq⟩
      show lwp p l e s m below meth c b D tys sg rho 1526 [(3, 0), (2, 0), (2, 151), (2, 203), (0, i), (9, 0), (9, 0)] [(0, 0)] h50 kn
      refine lw_pop gz_0_1526 rfl ?_
      refine lw_goto (t := 1878) gz_0_1527 rfl ?_
      exact K h50 I_h50
    ·
      have I_h60 : LInv h60 := ⟨Ln_ag (my_ag.fr w61 rfl) I_h7.pLn, Mw_ag (my_ag.fr w61 rfl) I_h7.pMw, Mw3_ag (my_ag.fr w61 rfl) I_h7.pMw3, w69, Wrd_ag (my_ag.fr w61 rfl) I_h7.pWrd, Ceq_ag (my_ag.fr w61 rfl) I_h7.pCeq, Wd9_ag (my_ag.fr w61 rfl) I_h7.pWd9, Teq_ag (my_ag.fr w61 rfl) I_h7.pTeq, Wnq_ag (my_ag.fr w61 rfl) I_h7.pWnq⟩
      show lwp p l e s m below meth c b D tys sg rho 1526 [(3, 0), (2, 0), (2, 151), (2, 203), (0, i), (9, 0), (9, 0)] [(0, 1)] h60 kn
      refine lw_pop gz_0_1526 rfl ?_
      refine lw_goto (t := 1878) gz_0_1527 rfl ?_
      exact K h60 I_h60
    ·
      have I_h70 : LInv h70 := ⟨Ln_ag (my_ag.fr w72 rfl) I_h7.pLn, Mw_ag (my_ag.fr w72 rfl) I_h7.pMw, Mw3_ag (my_ag.fr w72 rfl) I_h7.pMw3, w82, Wrd_ag (my_ag.fr w72 rfl) I_h7.pWrd, Ceq_ag (my_ag.fr w72 rfl) I_h7.pCeq, Wd9_ag (my_ag.fr w72 rfl) I_h7.pWd9, Teq_ag (my_ag.fr w72 rfl) I_h7.pTeq, Wnq_ag (my_ag.fr w72 rfl) I_h7.pWnq⟩
      show lwp p l e s m below meth c b D tys sg rho 1526 [(3, 0), (2, 0), (2, 151), (2, 203), (0, i), (9, 0), (9, 0)] [(0, y71)] h70 kn
      refine lw_pop gz_0_1526 rfl ?_
      refine lw_goto (t := 1878) gz_0_1527 rfl ?_
      exact K h70 I_h70
  ·
    have I_h10 : LInv h10 := ⟨w18, Mw_ag (my_ag.fr w11 rfl) I.pMw, Mw3_ag (my_ag.fr w11 rfl) I.pMw3, Rws_ag (my_ag.fr w11 rfl) I.pRws, Wrd_ag (my_ag.fr w11 rfl) I.pWrd, Ceq_ag (my_ag.fr w11 rfl) I.pCeq, Wd9_ag (my_ag.fr w11 rfl) I.pWd9, Teq_ag (my_ag.fr w11 rfl) I.pTeq, Wnq_ag (my_ag.fr w11 rfl) I.pWnq⟩
    show lwp p l e s m below meth c b D tys sg rho 1484 [(3, 0), (2, 0), (2, 151), (2, 203), (0, i), (9, 0), (9, 0)] [(0, 0)] h10 kn
    refine lw_pop gz_0_1484 rfl ?_
    refine lw_aload_n gz_0_1485 rfl ?_
    refine lw_aload3_n gz_0_1486 rfl ?_
    refine lw_iload gz_0_1487 rfl ?_
    refine lw_iconst gz_0_1489 (by decide) ?_
    refine lw_iadd gz_0_1490 ⟨by omega, by omega⟩ ?_
    refine lw_sl gz_0_1491 hL4 hL (by omega) (by omega) (fun z83 ez83 pz83 qz83 => ?_)
    refine lw_aload3_n gz_0_1492 rfl ?_
    refine lw_iload gz_0_1493 rfl ?_
    refine lw_iconst gz_0_1495 (by decide) ?_
    refine lw_iadd gz_0_1496 ⟨by omega, by omega⟩ ?_
    refine lw_sl gz_0_1497 hL4 hL (by omega) (by omega) (fun z84 ez84 pz84 qz84 => ?_)
    refine lw_aload3_n gz_0_1498 rfl ?_
    refine lw_iload gz_0_1499 rfl ?_
    refine lw_iconst gz_0_1501 (by decide) ?_
    refine lw_iadd gz_0_1502 ⟨by omega, by omega⟩ ?_
    refine lw_sl gz_0_1503 hL4 hL (by omega) (by omega) (fun z85 ez85 pz85 qz85 => ?_)
    refine lw_aload3_n gz_0_1504 rfl ?_
    refine lw_iload gz_0_1505 rfl ?_
    refine lw_iconst gz_0_1507 (by decide) ?_
    refine lw_iadd gz_0_1508 ⟨by omega, by omega⟩ ?_
    refine lw_sl gz_0_1509 hL4 hL (by omega) (by omega) (fun z86 ez86 pz86 qz86 => ?_)
    refine lw_aload3_n gz_0_1510 rfl ?_
    refine lw_iload gz_0_1511 rfl ?_
    refine lw_iconst gz_0_1513 (by decide) ?_
    refine lw_iadd gz_0_1514 ⟨by omega, by omega⟩ ?_
    refine lw_sl gz_0_1515 hL4 hL (by omega) (by omega) (fun z87 ez87 pz87 qz87 => ?_)
    refine lw_aload3_n gz_0_1516 rfl ?_
    refine lw_iload gz_0_1517 rfl ?_
    refine lw_bipush gz_0_1519 (by decide) ?_
    refine lw_iadd gz_0_1521 ⟨by omega, by omega⟩ ?_
    refine lw_sl gz_0_1522 hL4 hL (by omega) (by omega) (fun z88 ez88 pz88 qz88 => ?_)
    refine lw_inv (kz := 2) (as := [(0, z88), (0, z87), (0, z86), (0, z85), (0, z84), (0, z83)]) (r := []) (x := 151) (ls0 := [(2, 151), (0, z83), (0, z84), (0, z85), (0, z86), (0, z87), (0, z88), (9, 0), (9, 0)]) gz_0_1523 gm_232 rfl is_151 rd_10 rfl rfl rfl rfl rfl (c_Model_clash (d := 20) (x1 := z83) (x2 := z84) (x3 := z85) (x4 := z86) (x5 := z87) (x6 := z88) I_h10.pMw I_h10.pMw3 I_h10.pRws (fun h89 w90 w91 w92 => ?_) (fun h93 w94 w95 w96 w97 w98 w99 w100 w101 w102 => ?_) (fun h103 w104 w105 w106 w107 w108 w109 w110 w111 w112 => ?_) (fun h113 y114 w115 w116 w117 w118 w119 w120 w121 w122 w123 w124 w125 => ?_))
    ·
      have I_h89 : LInv h89 := ⟨Ln_ag (my_ag.fr w90 rfl) I_h10.pLn, Mw_ag (my_ag.fr w90 rfl) I_h10.pMw, Mw3_ag (my_ag.fr w90 rfl) I_h10.pMw3, w92, Wrd_ag (my_ag.fr w90 rfl) I_h10.pWrd, Ceq_ag (my_ag.fr w90 rfl) I_h10.pCeq, Wd9_ag (my_ag.fr w90 rfl) I_h10.pWd9, Teq_ag (my_ag.fr w90 rfl) I_h10.pTeq, Wnq_ag (my_ag.fr w90 rfl) I_h10.pWnq⟩
      show lwp p l e s m below meth c b D tys sg rho 1526 [(3, 0), (2, 0), (2, 151), (2, 203), (0, i), (9, 0), (9, 0)] [(0, (-1))] h89 kn
      refine lw_pop gz_0_1526 rfl ?_
      refine lw_goto (t := 1878) gz_0_1527 rfl ?_
      exact K h89 I_h89
    ·
      have I_h93 : LInv h93 := ⟨Ln_ag (my_ag.fr w94 rfl) I_h10.pLn, Mw_ag (my_ag.fr w94 rfl) I_h10.pMw, Mw3_ag (my_ag.fr w94 rfl) I_h10.pMw3, w102, Wrd_ag (my_ag.fr w94 rfl) I_h10.pWrd, Ceq_ag (my_ag.fr w94 rfl) I_h10.pCeq, Wd9_ag (my_ag.fr w94 rfl) I_h10.pWd9, Teq_ag (my_ag.fr w94 rfl) I_h10.pTeq, Wnq_ag (my_ag.fr w94 rfl) I_h10.pWnq⟩
      show lwp p l e s m below meth c b D tys sg rho 1526 [(3, 0), (2, 0), (2, 151), (2, 203), (0, i), (9, 0), (9, 0)] [(0, 0)] h93 kn
      refine lw_pop gz_0_1526 rfl ?_
      refine lw_goto (t := 1878) gz_0_1527 rfl ?_
      exact K h93 I_h93
    ·
      have I_h103 : LInv h103 := ⟨Ln_ag (my_ag.fr w104 rfl) I_h10.pLn, Mw_ag (my_ag.fr w104 rfl) I_h10.pMw, Mw3_ag (my_ag.fr w104 rfl) I_h10.pMw3, w112, Wrd_ag (my_ag.fr w104 rfl) I_h10.pWrd, Ceq_ag (my_ag.fr w104 rfl) I_h10.pCeq, Wd9_ag (my_ag.fr w104 rfl) I_h10.pWd9, Teq_ag (my_ag.fr w104 rfl) I_h10.pTeq, Wnq_ag (my_ag.fr w104 rfl) I_h10.pWnq⟩
      show lwp p l e s m below meth c b D tys sg rho 1526 [(3, 0), (2, 0), (2, 151), (2, 203), (0, i), (9, 0), (9, 0)] [(0, 1)] h103 kn
      refine lw_pop gz_0_1526 rfl ?_
      refine lw_goto (t := 1878) gz_0_1527 rfl ?_
      exact K h103 I_h103
    ·
      have I_h113 : LInv h113 := ⟨Ln_ag (my_ag.fr w115 rfl) I_h10.pLn, Mw_ag (my_ag.fr w115 rfl) I_h10.pMw, Mw3_ag (my_ag.fr w115 rfl) I_h10.pMw3, w125, Wrd_ag (my_ag.fr w115 rfl) I_h10.pWrd, Ceq_ag (my_ag.fr w115 rfl) I_h10.pCeq, Wd9_ag (my_ag.fr w115 rfl) I_h10.pWd9, Teq_ag (my_ag.fr w115 rfl) I_h10.pTeq, Wnq_ag (my_ag.fr w115 rfl) I_h10.pWnq⟩
      show lwp p l e s m below meth c b D tys sg rho 1526 [(3, 0), (2, 0), (2, 151), (2, 203), (0, i), (9, 0), (9, 0)] [(0, y114)] h113 kn
      refine lw_pop gz_0_1526 rfl ?_
      refine lw_goto (t := 1878) gz_0_1527 rfl ?_
      exact K h113 I_h113
  ·
    have I_h19 : LInv h19 := ⟨w27, Mw_ag (my_ag.fr w20 rfl) I.pMw, Mw3_ag (my_ag.fr w20 rfl) I.pMw3, Rws_ag (my_ag.fr w20 rfl) I.pRws, Wrd_ag (my_ag.fr w20 rfl) I.pWrd, Ceq_ag (my_ag.fr w20 rfl) I.pCeq, Wd9_ag (my_ag.fr w20 rfl) I.pWd9, Teq_ag (my_ag.fr w20 rfl) I.pTeq, Wnq_ag (my_ag.fr w20 rfl) I.pWnq⟩
    show lwp p l e s m below meth c b D tys sg rho 1484 [(3, 0), (2, 0), (2, 151), (2, 203), (0, i), (9, 0), (9, 0)] [(0, 1)] h19 kn
    refine lw_pop gz_0_1484 rfl ?_
    refine lw_aload_n gz_0_1485 rfl ?_
    refine lw_aload3_n gz_0_1486 rfl ?_
    refine lw_iload gz_0_1487 rfl ?_
    refine lw_iconst gz_0_1489 (by decide) ?_
    refine lw_iadd gz_0_1490 ⟨by omega, by omega⟩ ?_
    refine lw_sl gz_0_1491 hL4 hL (by omega) (by omega) (fun z126 ez126 pz126 qz126 => ?_)
    refine lw_aload3_n gz_0_1492 rfl ?_
    refine lw_iload gz_0_1493 rfl ?_
    refine lw_iconst gz_0_1495 (by decide) ?_
    refine lw_iadd gz_0_1496 ⟨by omega, by omega⟩ ?_
    refine lw_sl gz_0_1497 hL4 hL (by omega) (by omega) (fun z127 ez127 pz127 qz127 => ?_)
    refine lw_aload3_n gz_0_1498 rfl ?_
    refine lw_iload gz_0_1499 rfl ?_
    refine lw_iconst gz_0_1501 (by decide) ?_
    refine lw_iadd gz_0_1502 ⟨by omega, by omega⟩ ?_
    refine lw_sl gz_0_1503 hL4 hL (by omega) (by omega) (fun z128 ez128 pz128 qz128 => ?_)
    refine lw_aload3_n gz_0_1504 rfl ?_
    refine lw_iload gz_0_1505 rfl ?_
    refine lw_iconst gz_0_1507 (by decide) ?_
    refine lw_iadd gz_0_1508 ⟨by omega, by omega⟩ ?_
    refine lw_sl gz_0_1509 hL4 hL (by omega) (by omega) (fun z129 ez129 pz129 qz129 => ?_)
    refine lw_aload3_n gz_0_1510 rfl ?_
    refine lw_iload gz_0_1511 rfl ?_
    refine lw_iconst gz_0_1513 (by decide) ?_
    refine lw_iadd gz_0_1514 ⟨by omega, by omega⟩ ?_
    refine lw_sl gz_0_1515 hL4 hL (by omega) (by omega) (fun z130 ez130 pz130 qz130 => ?_)
    refine lw_aload3_n gz_0_1516 rfl ?_
    refine lw_iload gz_0_1517 rfl ?_
    refine lw_bipush gz_0_1519 (by decide) ?_
    refine lw_iadd gz_0_1521 ⟨by omega, by omega⟩ ?_
    refine lw_sl gz_0_1522 hL4 hL (by omega) (by omega) (fun z131 ez131 pz131 qz131 => ?_)
    refine lw_inv (kz := 2) (as := [(0, z131), (0, z130), (0, z129), (0, z128), (0, z127), (0, z126)]) (r := []) (x := 151) (ls0 := [(2, 151), (0, z126), (0, z127), (0, z128), (0, z129), (0, z130), (0, z131), (9, 0), (9, 0)]) gz_0_1523 gm_232 rfl is_151 rd_10 rfl rfl rfl rfl rfl (c_Model_clash (d := 20) (x1 := z126) (x2 := z127) (x3 := z128) (x4 := z129) (x5 := z130) (x6 := z131) I_h19.pMw I_h19.pMw3 I_h19.pRws (fun h132 w133 w134 w135 => ?_) (fun h136 w137 w138 w139 w140 w141 w142 w143 w144 w145 => ?_) (fun h146 w147 w148 w149 w150 w151 w152 w153 w154 w155 => ?_) (fun h156 y157 w158 w159 w160 w161 w162 w163 w164 w165 w166 w167 w168 => ?_))
    ·
      have I_h132 : LInv h132 := ⟨Ln_ag (my_ag.fr w133 rfl) I_h19.pLn, Mw_ag (my_ag.fr w133 rfl) I_h19.pMw, Mw3_ag (my_ag.fr w133 rfl) I_h19.pMw3, w135, Wrd_ag (my_ag.fr w133 rfl) I_h19.pWrd, Ceq_ag (my_ag.fr w133 rfl) I_h19.pCeq, Wd9_ag (my_ag.fr w133 rfl) I_h19.pWd9, Teq_ag (my_ag.fr w133 rfl) I_h19.pTeq, Wnq_ag (my_ag.fr w133 rfl) I_h19.pWnq⟩
      show lwp p l e s m below meth c b D tys sg rho 1526 [(3, 0), (2, 0), (2, 151), (2, 203), (0, i), (9, 0), (9, 0)] [(0, (-1))] h132 kn
      refine lw_pop gz_0_1526 rfl ?_
      refine lw_goto (t := 1878) gz_0_1527 rfl ?_
      exact K h132 I_h132
    ·
      have I_h136 : LInv h136 := ⟨Ln_ag (my_ag.fr w137 rfl) I_h19.pLn, Mw_ag (my_ag.fr w137 rfl) I_h19.pMw, Mw3_ag (my_ag.fr w137 rfl) I_h19.pMw3, w145, Wrd_ag (my_ag.fr w137 rfl) I_h19.pWrd, Ceq_ag (my_ag.fr w137 rfl) I_h19.pCeq, Wd9_ag (my_ag.fr w137 rfl) I_h19.pWd9, Teq_ag (my_ag.fr w137 rfl) I_h19.pTeq, Wnq_ag (my_ag.fr w137 rfl) I_h19.pWnq⟩
      show lwp p l e s m below meth c b D tys sg rho 1526 [(3, 0), (2, 0), (2, 151), (2, 203), (0, i), (9, 0), (9, 0)] [(0, 0)] h136 kn
      refine lw_pop gz_0_1526 rfl ?_
      refine lw_goto (t := 1878) gz_0_1527 rfl ?_
      exact K h136 I_h136
    ·
      have I_h146 : LInv h146 := ⟨Ln_ag (my_ag.fr w147 rfl) I_h19.pLn, Mw_ag (my_ag.fr w147 rfl) I_h19.pMw, Mw3_ag (my_ag.fr w147 rfl) I_h19.pMw3, w155, Wrd_ag (my_ag.fr w147 rfl) I_h19.pWrd, Ceq_ag (my_ag.fr w147 rfl) I_h19.pCeq, Wd9_ag (my_ag.fr w147 rfl) I_h19.pWd9, Teq_ag (my_ag.fr w147 rfl) I_h19.pTeq, Wnq_ag (my_ag.fr w147 rfl) I_h19.pWnq⟩
      show lwp p l e s m below meth c b D tys sg rho 1526 [(3, 0), (2, 0), (2, 151), (2, 203), (0, i), (9, 0), (9, 0)] [(0, 1)] h146 kn
      refine lw_pop gz_0_1526 rfl ?_
      refine lw_goto (t := 1878) gz_0_1527 rfl ?_
      exact K h146 I_h146
    ·
      have I_h156 : LInv h156 := ⟨Ln_ag (my_ag.fr w158 rfl) I_h19.pLn, Mw_ag (my_ag.fr w158 rfl) I_h19.pMw, Mw3_ag (my_ag.fr w158 rfl) I_h19.pMw3, w168, Wrd_ag (my_ag.fr w158 rfl) I_h19.pWrd, Ceq_ag (my_ag.fr w158 rfl) I_h19.pCeq, Wd9_ag (my_ag.fr w158 rfl) I_h19.pWd9, Teq_ag (my_ag.fr w158 rfl) I_h19.pTeq, Wnq_ag (my_ag.fr w158 rfl) I_h19.pWnq⟩
      show lwp p l e s m below meth c b D tys sg rho 1526 [(3, 0), (2, 0), (2, 151), (2, 203), (0, i), (9, 0), (9, 0)] [(0, y157)] h156 kn
      refine lw_pop gz_0_1526 rfl ?_
      refine lw_goto (t := 1878) gz_0_1527 rfl ?_
      exact K h156 I_h156
  ·
    have I_h28 : LInv h28 := ⟨w39, Mw_ag (my_ag.fr w30 rfl) I.pMw, Mw3_ag (my_ag.fr w30 rfl) I.pMw3, Rws_ag (my_ag.fr w30 rfl) I.pRws, Wrd_ag (my_ag.fr w30 rfl) I.pWrd, Ceq_ag (my_ag.fr w30 rfl) I.pCeq, Wd9_ag (my_ag.fr w30 rfl) I.pWd9, Teq_ag (my_ag.fr w30 rfl) I.pTeq, Wnq_ag (my_ag.fr w30 rfl) I.pWnq⟩
    show lwp p l e s m below meth c b D tys sg rho 1484 [(3, 0), (2, 0), (2, 151), (2, 203), (0, i), (9, 0), (9, 0)] [(0, y29)] h28 kn
    refine lw_pop gz_0_1484 rfl ?_
    refine lw_aload_n gz_0_1485 rfl ?_
    refine lw_aload3_n gz_0_1486 rfl ?_
    refine lw_iload gz_0_1487 rfl ?_
    refine lw_iconst gz_0_1489 (by decide) ?_
    refine lw_iadd gz_0_1490 ⟨by omega, by omega⟩ ?_
    refine lw_sl gz_0_1491 hL4 hL (by omega) (by omega) (fun z169 ez169 pz169 qz169 => ?_)
    refine lw_aload3_n gz_0_1492 rfl ?_
    refine lw_iload gz_0_1493 rfl ?_
    refine lw_iconst gz_0_1495 (by decide) ?_
    refine lw_iadd gz_0_1496 ⟨by omega, by omega⟩ ?_
    refine lw_sl gz_0_1497 hL4 hL (by omega) (by omega) (fun z170 ez170 pz170 qz170 => ?_)
    refine lw_aload3_n gz_0_1498 rfl ?_
    refine lw_iload gz_0_1499 rfl ?_
    refine lw_iconst gz_0_1501 (by decide) ?_
    refine lw_iadd gz_0_1502 ⟨by omega, by omega⟩ ?_
    refine lw_sl gz_0_1503 hL4 hL (by omega) (by omega) (fun z171 ez171 pz171 qz171 => ?_)
    refine lw_aload3_n gz_0_1504 rfl ?_
    refine lw_iload gz_0_1505 rfl ?_
    refine lw_iconst gz_0_1507 (by decide) ?_
    refine lw_iadd gz_0_1508 ⟨by omega, by omega⟩ ?_
    refine lw_sl gz_0_1509 hL4 hL (by omega) (by omega) (fun z172 ez172 pz172 qz172 => ?_)
    refine lw_aload3_n gz_0_1510 rfl ?_
    refine lw_iload gz_0_1511 rfl ?_
    refine lw_iconst gz_0_1513 (by decide) ?_
    refine lw_iadd gz_0_1514 ⟨by omega, by omega⟩ ?_
    refine lw_sl gz_0_1515 hL4 hL (by omega) (by omega) (fun z173 ez173 pz173 qz173 => ?_)
    refine lw_aload3_n gz_0_1516 rfl ?_
    refine lw_iload gz_0_1517 rfl ?_
    refine lw_bipush gz_0_1519 (by decide) ?_
    refine lw_iadd gz_0_1521 ⟨by omega, by omega⟩ ?_
    refine lw_sl gz_0_1522 hL4 hL (by omega) (by omega) (fun z174 ez174 pz174 qz174 => ?_)
    refine lw_inv (kz := 2) (as := [(0, z174), (0, z173), (0, z172), (0, z171), (0, z170), (0, z169)]) (r := []) (x := 151) (ls0 := [(2, 151), (0, z169), (0, z170), (0, z171), (0, z172), (0, z173), (0, z174), (9, 0), (9, 0)]) gz_0_1523 gm_232 rfl is_151 rd_10 rfl rfl rfl rfl rfl (c_Model_clash (d := 20) (x1 := z169) (x2 := z170) (x3 := z171) (x4 := z172) (x5 := z173) (x6 := z174) I_h28.pMw I_h28.pMw3 I_h28.pRws (fun h175 w176 w177 w178 => ?_) (fun h179 w180 w181 w182 w183 w184 w185 w186 w187 w188 => ?_) (fun h189 w190 w191 w192 w193 w194 w195 w196 w197 w198 => ?_) (fun h199 y200 w201 w202 w203 w204 w205 w206 w207 w208 w209 w210 w211 => ?_))
    ·
      have I_h175 : LInv h175 := ⟨Ln_ag (my_ag.fr w176 rfl) I_h28.pLn, Mw_ag (my_ag.fr w176 rfl) I_h28.pMw, Mw3_ag (my_ag.fr w176 rfl) I_h28.pMw3, w178, Wrd_ag (my_ag.fr w176 rfl) I_h28.pWrd, Ceq_ag (my_ag.fr w176 rfl) I_h28.pCeq, Wd9_ag (my_ag.fr w176 rfl) I_h28.pWd9, Teq_ag (my_ag.fr w176 rfl) I_h28.pTeq, Wnq_ag (my_ag.fr w176 rfl) I_h28.pWnq⟩
      show lwp p l e s m below meth c b D tys sg rho 1526 [(3, 0), (2, 0), (2, 151), (2, 203), (0, i), (9, 0), (9, 0)] [(0, (-1))] h175 kn
      refine lw_pop gz_0_1526 rfl ?_
      refine lw_goto (t := 1878) gz_0_1527 rfl ?_
      exact K h175 I_h175
    ·
      have I_h179 : LInv h179 := ⟨Ln_ag (my_ag.fr w180 rfl) I_h28.pLn, Mw_ag (my_ag.fr w180 rfl) I_h28.pMw, Mw3_ag (my_ag.fr w180 rfl) I_h28.pMw3, w188, Wrd_ag (my_ag.fr w180 rfl) I_h28.pWrd, Ceq_ag (my_ag.fr w180 rfl) I_h28.pCeq, Wd9_ag (my_ag.fr w180 rfl) I_h28.pWd9, Teq_ag (my_ag.fr w180 rfl) I_h28.pTeq, Wnq_ag (my_ag.fr w180 rfl) I_h28.pWnq⟩
      show lwp p l e s m below meth c b D tys sg rho 1526 [(3, 0), (2, 0), (2, 151), (2, 203), (0, i), (9, 0), (9, 0)] [(0, 0)] h179 kn
      refine lw_pop gz_0_1526 rfl ?_
      refine lw_goto (t := 1878) gz_0_1527 rfl ?_
      exact K h179 I_h179
    ·
      have I_h189 : LInv h189 := ⟨Ln_ag (my_ag.fr w190 rfl) I_h28.pLn, Mw_ag (my_ag.fr w190 rfl) I_h28.pMw, Mw3_ag (my_ag.fr w190 rfl) I_h28.pMw3, w198, Wrd_ag (my_ag.fr w190 rfl) I_h28.pWrd, Ceq_ag (my_ag.fr w190 rfl) I_h28.pCeq, Wd9_ag (my_ag.fr w190 rfl) I_h28.pWd9, Teq_ag (my_ag.fr w190 rfl) I_h28.pTeq, Wnq_ag (my_ag.fr w190 rfl) I_h28.pWnq⟩
      show lwp p l e s m below meth c b D tys sg rho 1526 [(3, 0), (2, 0), (2, 151), (2, 203), (0, i), (9, 0), (9, 0)] [(0, 1)] h189 kn
      refine lw_pop gz_0_1526 rfl ?_
      refine lw_goto (t := 1878) gz_0_1527 rfl ?_
      exact K h189 I_h189
    ·
      have I_h199 : LInv h199 := ⟨Ln_ag (my_ag.fr w201 rfl) I_h28.pLn, Mw_ag (my_ag.fr w201 rfl) I_h28.pMw, Mw3_ag (my_ag.fr w201 rfl) I_h28.pMw3, w211, Wrd_ag (my_ag.fr w201 rfl) I_h28.pWrd, Ceq_ag (my_ag.fr w201 rfl) I_h28.pCeq, Wd9_ag (my_ag.fr w201 rfl) I_h28.pWd9, Teq_ag (my_ag.fr w201 rfl) I_h28.pTeq, Wnq_ag (my_ag.fr w201 rfl) I_h28.pWnq⟩
      show lwp p l e s m below meth c b D tys sg rho 1526 [(3, 0), (2, 0), (2, 151), (2, 203), (0, i), (9, 0), (9, 0)] [(0, y200)] h199 kn
      refine lw_pop gz_0_1526 rfl ?_
      refine lw_goto (t := 1878) gz_0_1527 rfl ?_
      exact K h199 I_h199
theorem lcase_21 (hL4 : L4 ≤ 4096) (hL : rho 4096 = Int32.ofNat L4) (I : LInv h) (i0 : 0 ≤ i) (i8 : i + 8 ≤ L4) (K : ∀ h' : my_H, LInv h' → lwp p l e s m below meth c b D tys sg rho 1878 [(3, 0), (2, 0), (2, 151), (2, 203), (0, i), (9, 0), (9, 0)] [] h' kn) : lwp p l e s m below meth c b D tys sg rho 1530 [(3, 0), (2, 0), (2, 151), (2, 203), (0, i), (9, 0), (9, 0)] [] h kn := by
  refine lw_aload_n gz_0_1530 rfl ?_
  refine lw_aload3_n gz_0_1531 rfl ?_
  refine lw_iload gz_0_1532 rfl ?_
  refine lw_iconst gz_0_1534 (by decide) ?_
  refine lw_iadd gz_0_1535 ⟨by omega, by omega⟩ ?_
  refine lw_sl gz_0_1536 hL4 hL (by omega) (by omega) (fun z1 ez1 pz1 qz1 => ?_)
  refine lw_aload3_n gz_0_1537 rfl ?_
  refine lw_iload gz_0_1538 rfl ?_
  refine lw_iconst gz_0_1540 (by decide) ?_
  refine lw_iadd gz_0_1541 ⟨by omega, by omega⟩ ?_
  refine lw_sl gz_0_1542 hL4 hL (by omega) (by omega) (fun z2 ez2 pz2 qz2 => ?_)
  refine lw_inv (kz := 0) (as := [(0, z2), (0, z1)]) (r := []) (x := 0) (ls0 := [(2, 0), (0, z1), (0, z2)]) gz_0_1543 gm_119 rfl is_0 rd_9 rfl rfl rfl rfl rfl (c_ThroughWindow_fits (d := 24) (x1 := z1) (x2 := z2) I.pLn (fun h3 w4 w5 => ?_) (fun h6 w7 w8 w9 w10 w11 w12 => ?_) (fun h13 y14 w15 w16 w17 w18 w19 w20 => ?_))
  ·
    have I_h3 : LInv h3 := ⟨w5, Mw_ag (my_ag.fr w4 rfl) I.pMw, Mw3_ag (my_ag.fr w4 rfl) I.pMw3, Rws_ag (my_ag.fr w4 rfl) I.pRws, Wrd_ag (my_ag.fr w4 rfl) I.pWrd, Ceq_ag (my_ag.fr w4 rfl) I.pCeq, Wd9_ag (my_ag.fr w4 rfl) I.pWd9, Teq_ag (my_ag.fr w4 rfl) I.pTeq, Wnq_ag (my_ag.fr w4 rfl) I.pWnq⟩
    show lwp p l e s m below meth c b D tys sg rho 1546 [(3, 0), (2, 0), (2, 151), (2, 203), (0, i), (9, 0), (9, 0)] [(0, (-1))] h3 kn
    refine lw_pop gz_0_1546 rfl ?_
    refine lw_aload_n gz_0_1547 rfl ?_
    refine lw_aload3_n gz_0_1548 rfl ?_
    refine lw_iload gz_0_1549 rfl ?_
    refine lw_iconst gz_0_1551 (by decide) ?_
    refine lw_iadd gz_0_1552 ⟨by omega, by omega⟩ ?_
    refine lw_sl gz_0_1553 hL4 hL (by omega) (by omega) (fun z21 ez21 pz21 qz21 => ?_)
    refine lw_aload3_n gz_0_1554 rfl ?_
    refine lw_iload gz_0_1555 rfl ?_
    refine lw_iconst gz_0_1557 (by decide) ?_
    refine lw_iadd gz_0_1558 ⟨by omega, by omega⟩ ?_
    refine lw_sl gz_0_1559 hL4 hL (by omega) (by omega) (fun z22 ez22 pz22 qz22 => ?_)
    refine lw_inv (kz := 2) (as := [(0, z22), (0, z21)]) (r := []) (x := 151) (ls0 := [(2, 151), (0, z21), (0, z22), (9, 0), (9, 0)]) gz_0_1560 gm_236 rfl is_151 rd_10 rfl rfl rfl rfl rfl (c_Model_fits (d := 19) (x1 := z21) (x2 := z22) I_h3.pMw I_h3.pMw3 I_h3.pRws (fun h23 w24 w25 => ?_) (fun h26 w27 w28 w29 w30 w31 w32 w33 w34 => ?_) (fun h35 y36 w37 w38 w39 w40 w41 w42 w43 w44 => ?_))
    ·
      have I_h23 : LInv h23 := ⟨Ln_ag (my_ag.fr w24 rfl) I_h3.pLn, Mw_ag (my_ag.fr w24 rfl) I_h3.pMw, Mw3_ag (my_ag.fr w24 rfl) I_h3.pMw3, Rws_ag (my_ag.fr w24 rfl) I_h3.pRws, Wrd_ag (my_ag.fr w24 rfl) I_h3.pWrd, Ceq_ag (my_ag.fr w24 rfl) I_h3.pCeq, Wd9_ag (my_ag.fr w24 rfl) I_h3.pWd9, Teq_ag (my_ag.fr w24 rfl) I_h3.pTeq, Wnq_ag (my_ag.fr w24 rfl) I_h3.pWnq⟩
      show lwp p l e s m below meth c b D tys sg rho 1563 [(3, 0), (2, 0), (2, 151), (2, 203), (0, i), (9, 0), (9, 0)] [(0, (-1))] h23 kn
      refine lw_pop gz_0_1563 rfl ?_
      refine lw_goto (t := 1878) gz_0_1564 rfl ?_
      exact K h23 I_h23
    ·
      have I_h26 : LInv h26 := ⟨Ln_ag (my_ag.fr w27 rfl) I_h3.pLn, Mw_ag (my_ag.fr w27 rfl) I_h3.pMw, Mw3_ag (my_ag.fr w27 rfl) I_h3.pMw3, Rws_ag (my_ag.fr w27 rfl) I_h3.pRws, Wrd_ag (my_ag.fr w27 rfl) I_h3.pWrd, Ceq_ag (my_ag.fr w27 rfl) I_h3.pCeq, Wd9_ag (my_ag.fr w27 rfl) I_h3.pWd9, Teq_ag (my_ag.fr w27 rfl) I_h3.pTeq, Wnq_ag (my_ag.fr w27 rfl) I_h3.pWnq⟩
      show lwp p l e s m below meth c b D tys sg rho 1563 [(3, 0), (2, 0), (2, 151), (2, 203), (0, i), (9, 0), (9, 0)] [(0, 0)] h26 kn
      refine lw_pop gz_0_1563 rfl ?_
      refine lw_goto (t := 1878) gz_0_1564 rfl ?_
      exact K h26 I_h26
    ·
      have I_h35 : LInv h35 := ⟨Ln_ag (my_ag.fr w37 rfl) I_h3.pLn, Mw_ag (my_ag.fr w37 rfl) I_h3.pMw, Mw3_ag (my_ag.fr w37 rfl) I_h3.pMw3, Rws_ag (my_ag.fr w37 rfl) I_h3.pRws, Wrd_ag (my_ag.fr w37 rfl) I_h3.pWrd, Ceq_ag (my_ag.fr w37 rfl) I_h3.pCeq, Wd9_ag (my_ag.fr w37 rfl) I_h3.pWd9, Teq_ag (my_ag.fr w37 rfl) I_h3.pTeq, Wnq_ag (my_ag.fr w37 rfl) I_h3.pWnq⟩
      show lwp p l e s m below meth c b D tys sg rho 1563 [(3, 0), (2, 0), (2, 151), (2, 203), (0, i), (9, 0), (9, 0)] [(0, y36)] h35 kn
      refine lw_pop gz_0_1563 rfl ?_
      refine lw_goto (t := 1878) gz_0_1564 rfl ?_
      exact K h35 I_h35
  ·
    have I_h6 : LInv h6 := ⟨w12, Mw_ag (my_ag.fr w7 rfl) I.pMw, Mw3_ag (my_ag.fr w7 rfl) I.pMw3, Rws_ag (my_ag.fr w7 rfl) I.pRws, Wrd_ag (my_ag.fr w7 rfl) I.pWrd, Ceq_ag (my_ag.fr w7 rfl) I.pCeq, Wd9_ag (my_ag.fr w7 rfl) I.pWd9, Teq_ag (my_ag.fr w7 rfl) I.pTeq, Wnq_ag (my_ag.fr w7 rfl) I.pWnq⟩
    show lwp p l e s m below meth c b D tys sg rho 1546 [(3, 0), (2, 0), (2, 151), (2, 203), (0, i), (9, 0), (9, 0)] [(0, 0)] h6 kn
    refine lw_pop gz_0_1546 rfl ?_
    refine lw_aload_n gz_0_1547 rfl ?_
    refine lw_aload3_n gz_0_1548 rfl ?_
    refine lw_iload gz_0_1549 rfl ?_
    refine lw_iconst gz_0_1551 (by decide) ?_
    refine lw_iadd gz_0_1552 ⟨by omega, by omega⟩ ?_
    refine lw_sl gz_0_1553 hL4 hL (by omega) (by omega) (fun z45 ez45 pz45 qz45 => ?_)
    refine lw_aload3_n gz_0_1554 rfl ?_
    refine lw_iload gz_0_1555 rfl ?_
    refine lw_iconst gz_0_1557 (by decide) ?_
    refine lw_iadd gz_0_1558 ⟨by omega, by omega⟩ ?_
    refine lw_sl gz_0_1559 hL4 hL (by omega) (by omega) (fun z46 ez46 pz46 qz46 => ?_)
    refine lw_inv (kz := 2) (as := [(0, z46), (0, z45)]) (r := []) (x := 151) (ls0 := [(2, 151), (0, z45), (0, z46), (9, 0), (9, 0)]) gz_0_1560 gm_236 rfl is_151 rd_10 rfl rfl rfl rfl rfl (c_Model_fits (d := 19) (x1 := z45) (x2 := z46) I_h6.pMw I_h6.pMw3 I_h6.pRws (fun h47 w48 w49 => ?_) (fun h50 w51 w52 w53 w54 w55 w56 w57 w58 => ?_) (fun h59 y60 w61 w62 w63 w64 w65 w66 w67 w68 => ?_))
    ·
      have I_h47 : LInv h47 := ⟨Ln_ag (my_ag.fr w48 rfl) I_h6.pLn, Mw_ag (my_ag.fr w48 rfl) I_h6.pMw, Mw3_ag (my_ag.fr w48 rfl) I_h6.pMw3, Rws_ag (my_ag.fr w48 rfl) I_h6.pRws, Wrd_ag (my_ag.fr w48 rfl) I_h6.pWrd, Ceq_ag (my_ag.fr w48 rfl) I_h6.pCeq, Wd9_ag (my_ag.fr w48 rfl) I_h6.pWd9, Teq_ag (my_ag.fr w48 rfl) I_h6.pTeq, Wnq_ag (my_ag.fr w48 rfl) I_h6.pWnq⟩
      show lwp p l e s m below meth c b D tys sg rho 1563 [(3, 0), (2, 0), (2, 151), (2, 203), (0, i), (9, 0), (9, 0)] [(0, (-1))] h47 kn
      refine lw_pop gz_0_1563 rfl ?_
      refine lw_goto (t := 1878) gz_0_1564 rfl ?_
      exact K h47 I_h47
    ·
      have I_h50 : LInv h50 := ⟨Ln_ag (my_ag.fr w51 rfl) I_h6.pLn, Mw_ag (my_ag.fr w51 rfl) I_h6.pMw, Mw3_ag (my_ag.fr w51 rfl) I_h6.pMw3, Rws_ag (my_ag.fr w51 rfl) I_h6.pRws, Wrd_ag (my_ag.fr w51 rfl) I_h6.pWrd, Ceq_ag (my_ag.fr w51 rfl) I_h6.pCeq, Wd9_ag (my_ag.fr w51 rfl) I_h6.pWd9, Teq_ag (my_ag.fr w51 rfl) I_h6.pTeq, Wnq_ag (my_ag.fr w51 rfl) I_h6.pWnq⟩
      show lwp p l e s m below meth c b D tys sg rho 1563 [(3, 0), (2, 0), (2, 151), (2, 203), (0, i), (9, 0), (9, 0)] [(0, 0)] h50 kn
      refine lw_pop gz_0_1563 rfl ?_
      refine lw_goto (t := 1878) gz_0_1564 rfl ?_
      exact K h50 I_h50
    ·
      have I_h59 : LInv h59 := ⟨Ln_ag (my_ag.fr w61 rfl) I_h6.pLn, Mw_ag (my_ag.fr w61 rfl) I_h6.pMw, Mw3_ag (my_ag.fr w61 rfl) I_h6.pMw3, Rws_ag (my_ag.fr w61 rfl) I_h6.pRws, Wrd_ag (my_ag.fr w61 rfl) I_h6.pWrd, Ceq_ag (my_ag.fr w61 rfl) I_h6.pCeq, Wd9_ag (my_ag.fr w61 rfl) I_h6.pWd9, Teq_ag (my_ag.fr w61 rfl) I_h6.pTeq, Wnq_ag (my_ag.fr w61 rfl) I_h6.pWnq⟩
      show lwp p l e s m below meth c b D tys sg rho 1563 [(3, 0), (2, 0), (2, 151), (2, 203), (0, i), (9, 0), (9, 0)] [(0, y60)] h59 kn
      refine lw_pop gz_0_1563 rfl ?_
      refine lw_goto (t := 1878) gz_0_1564 rfl ?_
      exact K h59 I_h59
  ·
    have I_h13 : LInv h13 := ⟨w20, Mw_ag (my_ag.fr w15 rfl) I.pMw, Mw3_ag (my_ag.fr w15 rfl) I.pMw3, Rws_ag (my_ag.fr w15 rfl) I.pRws, Wrd_ag (my_ag.fr w15 rfl) I.pWrd, Ceq_ag (my_ag.fr w15 rfl) I.pCeq, Wd9_ag (my_ag.fr w15 rfl) I.pWd9, Teq_ag (my_ag.fr w15 rfl) I.pTeq, Wnq_ag (my_ag.fr w15 rfl) I.pWnq⟩
    show lwp p l e s m below meth c b D tys sg rho 1546 [(3, 0), (2, 0), (2, 151), (2, 203), (0, i), (9, 0), (9, 0)] [(0, y14)] h13 kn
    refine lw_pop gz_0_1546 rfl ?_
    refine lw_aload_n gz_0_1547 rfl ?_
    refine lw_aload3_n gz_0_1548 rfl ?_
    refine lw_iload gz_0_1549 rfl ?_
    refine lw_iconst gz_0_1551 (by decide) ?_
    refine lw_iadd gz_0_1552 ⟨by omega, by omega⟩ ?_
    refine lw_sl gz_0_1553 hL4 hL (by omega) (by omega) (fun z69 ez69 pz69 qz69 => ?_)
    refine lw_aload3_n gz_0_1554 rfl ?_
    refine lw_iload gz_0_1555 rfl ?_
    refine lw_iconst gz_0_1557 (by decide) ?_
    refine lw_iadd gz_0_1558 ⟨by omega, by omega⟩ ?_
    refine lw_sl gz_0_1559 hL4 hL (by omega) (by omega) (fun z70 ez70 pz70 qz70 => ?_)
    refine lw_inv (kz := 2) (as := [(0, z70), (0, z69)]) (r := []) (x := 151) (ls0 := [(2, 151), (0, z69), (0, z70), (9, 0), (9, 0)]) gz_0_1560 gm_236 rfl is_151 rd_10 rfl rfl rfl rfl rfl (c_Model_fits (d := 19) (x1 := z69) (x2 := z70) I_h13.pMw I_h13.pMw3 I_h13.pRws (fun h71 w72 w73 => ?_) (fun h74 w75 w76 w77 w78 w79 w80 w81 w82 => ?_) (fun h83 y84 w85 w86 w87 w88 w89 w90 w91 w92 => ?_))
    ·
      have I_h71 : LInv h71 := ⟨Ln_ag (my_ag.fr w72 rfl) I_h13.pLn, Mw_ag (my_ag.fr w72 rfl) I_h13.pMw, Mw3_ag (my_ag.fr w72 rfl) I_h13.pMw3, Rws_ag (my_ag.fr w72 rfl) I_h13.pRws, Wrd_ag (my_ag.fr w72 rfl) I_h13.pWrd, Ceq_ag (my_ag.fr w72 rfl) I_h13.pCeq, Wd9_ag (my_ag.fr w72 rfl) I_h13.pWd9, Teq_ag (my_ag.fr w72 rfl) I_h13.pTeq, Wnq_ag (my_ag.fr w72 rfl) I_h13.pWnq⟩
      show lwp p l e s m below meth c b D tys sg rho 1563 [(3, 0), (2, 0), (2, 151), (2, 203), (0, i), (9, 0), (9, 0)] [(0, (-1))] h71 kn
      refine lw_pop gz_0_1563 rfl ?_
      refine lw_goto (t := 1878) gz_0_1564 rfl ?_
      exact K h71 I_h71
    ·
      have I_h74 : LInv h74 := ⟨Ln_ag (my_ag.fr w75 rfl) I_h13.pLn, Mw_ag (my_ag.fr w75 rfl) I_h13.pMw, Mw3_ag (my_ag.fr w75 rfl) I_h13.pMw3, Rws_ag (my_ag.fr w75 rfl) I_h13.pRws, Wrd_ag (my_ag.fr w75 rfl) I_h13.pWrd, Ceq_ag (my_ag.fr w75 rfl) I_h13.pCeq, Wd9_ag (my_ag.fr w75 rfl) I_h13.pWd9, Teq_ag (my_ag.fr w75 rfl) I_h13.pTeq, Wnq_ag (my_ag.fr w75 rfl) I_h13.pWnq⟩
      show lwp p l e s m below meth c b D tys sg rho 1563 [(3, 0), (2, 0), (2, 151), (2, 203), (0, i), (9, 0), (9, 0)] [(0, 0)] h74 kn
      refine lw_pop gz_0_1563 rfl ?_
      refine lw_goto (t := 1878) gz_0_1564 rfl ?_
      exact K h74 I_h74
    ·
      have I_h83 : LInv h83 := ⟨Ln_ag (my_ag.fr w85 rfl) I_h13.pLn, Mw_ag (my_ag.fr w85 rfl) I_h13.pMw, Mw3_ag (my_ag.fr w85 rfl) I_h13.pMw3, Rws_ag (my_ag.fr w85 rfl) I_h13.pRws, Wrd_ag (my_ag.fr w85 rfl) I_h13.pWrd, Ceq_ag (my_ag.fr w85 rfl) I_h13.pCeq, Wd9_ag (my_ag.fr w85 rfl) I_h13.pWd9, Teq_ag (my_ag.fr w85 rfl) I_h13.pTeq, Wnq_ag (my_ag.fr w85 rfl) I_h13.pWnq⟩
      show lwp p l e s m below meth c b D tys sg rho 1563 [(3, 0), (2, 0), (2, 151), (2, 203), (0, i), (9, 0), (9, 0)] [(0, y84)] h83 kn
      refine lw_pop gz_0_1563 rfl ?_
      refine lw_goto (t := 1878) gz_0_1564 rfl ?_
      exact K h83 I_h83
theorem lcase_22 (hL4 : L4 ≤ 4096) (hL : rho 4096 = Int32.ofNat L4) (I : LInv h) (i0 : 0 ≤ i) (i8 : i + 8 ≤ L4) (K : ∀ h' : my_H, LInv h' → lwp p l e s m below meth c b D tys sg rho 1878 [(3, 0), (2, 0), (2, 151), (2, 203), (0, i), (9, 0), (9, 0)] [] h' kn) : lwp p l e s m below meth c b D tys sg rho 1567 [(3, 0), (2, 0), (2, 151), (2, 203), (0, i), (9, 0), (9, 0)] [] h kn := by
  refine lw_aload_n gz_0_1567 rfl ?_
  refine lw_aload3_n gz_0_1568 rfl ?_
  refine lw_iload gz_0_1569 rfl ?_
  refine lw_iconst gz_0_1571 (by decide) ?_
  refine lw_iadd gz_0_1572 ⟨by omega, by omega⟩ ?_
  refine lw_sl gz_0_1573 hL4 hL (by omega) (by omega) (fun z1 ez1 pz1 qz1 => ?_)
  refine lw_aload3_n gz_0_1574 rfl ?_
  refine lw_iload gz_0_1575 rfl ?_
  refine lw_iconst gz_0_1577 (by decide) ?_
  refine lw_iadd gz_0_1578 ⟨by omega, by omega⟩ ?_
  refine lw_sl gz_0_1579 hL4 hL (by omega) (by omega) (fun z2 ez2 pz2 qz2 => ?_)
  refine lw_aload3_n gz_0_1580 rfl ?_
  refine lw_iload gz_0_1581 rfl ?_
  refine lw_iconst gz_0_1583 (by decide) ?_
  refine lw_iadd gz_0_1584 ⟨by omega, by omega⟩ ?_
  refine lw_sl gz_0_1585 hL4 hL (by omega) (by omega) (fun z3 ez3 pz3 qz3 => ?_)
  refine lw_aload3_n gz_0_1586 rfl ?_
  refine lw_iload gz_0_1587 rfl ?_
  refine lw_iconst gz_0_1589 (by decide) ?_
  refine lw_iadd gz_0_1590 ⟨by omega, by omega⟩ ?_
  refine lw_sl gz_0_1591 hL4 hL (by omega) (by omega) (fun z4 ez4 pz4 qz4 => ?_)
  refine lw_inv (kz := 0) (as := [(0, z4), (0, z3), (0, z2), (0, z1)]) (r := []) (x := 0) (ls0 := [(2, 0), (0, z1), (0, z2), (0, z3), (0, z4)]) gz_0_1592 gm_127 rfl is_0 rd_9 rfl rfl rfl rfl rfl (c_ThroughWindow_clerk9 (d := 28) (x1 := z1) (x2 := z2) (x3 := z3) (x4 := z4)  (fun h5 w6 w7 => ?_) (fun h8 w9 w10 w11 w12 w13 w14 => ?_))
  ·
    have I_h5 : LInv h5 := ⟨Ln_ag (my_ag.fr w6 rfl) I.pLn, Mw_ag (my_ag.fr w6 rfl) I.pMw, Mw3_ag (my_ag.fr w6 rfl) I.pMw3, Rws_ag (my_ag.fr w6 rfl) I.pRws, Wrd_ag (my_ag.fr w6 rfl) I.pWrd, Ceq_ag (my_ag.fr w6 rfl) I.pCeq, Wd9_ag (my_ag.fr w6 rfl) I.pWd9, Teq_ag (my_ag.fr w6 rfl) I.pTeq, Wnq_ag (my_ag.fr w6 rfl) I.pWnq⟩
    show lwp p l e s m below meth c b D tys sg rho 1595 [(3, 0), (2, 0), (2, 151), (2, 203), (0, i), (9, 0), (9, 0)] [(0, 0)] h5 kn
    refine lw_aload_n gz_0_1595 rfl ?_
    refine lw_aload3_n gz_0_1596 rfl ?_
    refine lw_iload gz_0_1597 rfl ?_
    refine lw_iconst gz_0_1599 (by decide) ?_
    refine lw_iadd gz_0_1600 ⟨by omega, by omega⟩ ?_
    refine lw_sl gz_0_1601 hL4 hL (by omega) (by omega) (fun z15 ez15 pz15 qz15 => ?_)
    refine lw_aload3_n gz_0_1602 rfl ?_
    refine lw_iload gz_0_1603 rfl ?_
    refine lw_iconst gz_0_1605 (by decide) ?_
    refine lw_iadd gz_0_1606 ⟨by omega, by omega⟩ ?_
    refine lw_sl gz_0_1607 hL4 hL (by omega) (by omega) (fun z16 ez16 pz16 qz16 => ?_)
    refine lw_aload3_n gz_0_1608 rfl ?_
    refine lw_iload gz_0_1609 rfl ?_
    refine lw_iconst gz_0_1611 (by decide) ?_
    refine lw_iadd gz_0_1612 ⟨by omega, by omega⟩ ?_
    refine lw_sl gz_0_1613 hL4 hL (by omega) (by omega) (fun z17 ez17 pz17 qz17 => ?_)
    refine lw_aload3_n gz_0_1614 rfl ?_
    refine lw_iload gz_0_1615 rfl ?_
    refine lw_iconst gz_0_1617 (by decide) ?_
    refine lw_iadd gz_0_1618 ⟨by omega, by omega⟩ ?_
    refine lw_sl gz_0_1619 hL4 hL (by omega) (by omega) (fun z18 ez18 pz18 qz18 => ?_)
    refine lw_inv (kz := 0) (as := [(0, z18), (0, z17), (0, z16), (0, z15)]) (r := [(0, 0)]) (x := 151) (ls0 := [(2, 151), (0, z15), (0, z16), (0, z17), (0, z18)]) gz_0_1620 gm_241 rfl is_151 rd_10 rfl rfl rfl rfl rfl (c_Model_clerk9 (d := 28) (x1 := z15) (x2 := z16) (x3 := z17) (x4 := z18)  (fun h19 w20 w21 w22 => ?_) (fun h23 w24 w25 w26 w27 w28 w29 w30 => ?_))
    ·
      have q0 : z15 = z1 := ez15.trans ez1.symm
      have q1 : z16 = z2 := ez16.trans ez2.symm
      have q2 : z17 = z3 := ez17.trans ez3.symm
      have q3 : z18 = z4 := ez18.trans ez4.symm
      have I_h19 : LInv h19 := ⟨Ln_ag (my_ag.fr w20 rfl) I_h5.pLn, Mw_ag (my_ag.fr w20 rfl) I_h5.pMw, Mw3_ag (my_ag.fr w20 rfl) I_h5.pMw3, Rws_ag (my_ag.fr w20 rfl) I_h5.pRws, Wrd_ag (my_ag.fr w20 rfl) I_h5.pWrd, Ceq_ag (my_ag.fr w20 rfl) I_h5.pCeq, Wd9_ag (my_ag.fr w20 rfl) I_h5.pWd9, Teq_ag (my_ag.fr w20 rfl) I_h5.pTeq, Wnq_ag (my_ag.fr w20 rfl) I_h5.pWnq⟩
      show lwp p l e s m below meth c b D tys sg rho 1623 [(3, 0), (2, 0), (2, 151), (2, 203), (0, i), (9, 0), (9, 0)] [(0, 0), (0, 0)] h19 kn
      refine lw_iceq (t := 1878) gz_0_1623 rfl (fun u31 => ?_) (fun u31 => ?_)
      ·
        exact K h19 I_h19
      · exfalso; first | omega | exact absurd (by assumption) (by assumption)
    ·
      have q0 : z15 = z1 := ez15.trans ez1.symm
      have q1 : z16 = z2 := ez16.trans ez2.symm
      have q2 : z17 = z3 := ez17.trans ez3.symm
      have q3 : z18 = z4 := ez18.trans ez4.symm
      exfalso
      rw [q0, q1, q2, q3] at w30
      rw [show h5 164 z2 = h 164 z2 from my_fr.at w6 is_164 rfl] at w30
      by_cases qq : 0 ≤ z2 ∧ z2 ≤ 5
      · have w9 := I.pWnq.2.1 z2 qq.1 qq.2
        omega
      · omega
  ·
    have I_h8 : LInv h8 := ⟨Ln_ag (my_ag.fr w9 rfl) I.pLn, Mw_ag (my_ag.fr w9 rfl) I.pMw, Mw3_ag (my_ag.fr w9 rfl) I.pMw3, Rws_ag (my_ag.fr w9 rfl) I.pRws, Wrd_ag (my_ag.fr w9 rfl) I.pWrd, Ceq_ag (my_ag.fr w9 rfl) I.pCeq, Wd9_ag (my_ag.fr w9 rfl) I.pWd9, Teq_ag (my_ag.fr w9 rfl) I.pTeq, Wnq_ag (my_ag.fr w9 rfl) I.pWnq⟩
    show lwp p l e s m below meth c b D tys sg rho 1595 [(3, 0), (2, 0), (2, 151), (2, 203), (0, i), (9, 0), (9, 0)] [(0, 1)] h8 kn
    refine lw_aload_n gz_0_1595 rfl ?_
    refine lw_aload3_n gz_0_1596 rfl ?_
    refine lw_iload gz_0_1597 rfl ?_
    refine lw_iconst gz_0_1599 (by decide) ?_
    refine lw_iadd gz_0_1600 ⟨by omega, by omega⟩ ?_
    refine lw_sl gz_0_1601 hL4 hL (by omega) (by omega) (fun z32 ez32 pz32 qz32 => ?_)
    refine lw_aload3_n gz_0_1602 rfl ?_
    refine lw_iload gz_0_1603 rfl ?_
    refine lw_iconst gz_0_1605 (by decide) ?_
    refine lw_iadd gz_0_1606 ⟨by omega, by omega⟩ ?_
    refine lw_sl gz_0_1607 hL4 hL (by omega) (by omega) (fun z33 ez33 pz33 qz33 => ?_)
    refine lw_aload3_n gz_0_1608 rfl ?_
    refine lw_iload gz_0_1609 rfl ?_
    refine lw_iconst gz_0_1611 (by decide) ?_
    refine lw_iadd gz_0_1612 ⟨by omega, by omega⟩ ?_
    refine lw_sl gz_0_1613 hL4 hL (by omega) (by omega) (fun z34 ez34 pz34 qz34 => ?_)
    refine lw_aload3_n gz_0_1614 rfl ?_
    refine lw_iload gz_0_1615 rfl ?_
    refine lw_iconst gz_0_1617 (by decide) ?_
    refine lw_iadd gz_0_1618 ⟨by omega, by omega⟩ ?_
    refine lw_sl gz_0_1619 hL4 hL (by omega) (by omega) (fun z35 ez35 pz35 qz35 => ?_)
    refine lw_inv (kz := 0) (as := [(0, z35), (0, z34), (0, z33), (0, z32)]) (r := [(0, 1)]) (x := 151) (ls0 := [(2, 151), (0, z32), (0, z33), (0, z34), (0, z35)]) gz_0_1620 gm_241 rfl is_151 rd_10 rfl rfl rfl rfl rfl (c_Model_clerk9 (d := 28) (x1 := z32) (x2 := z33) (x3 := z34) (x4 := z35)  (fun h36 w37 w38 w39 => ?_) (fun h40 w41 w42 w43 w44 w45 w46 w47 => ?_))
    ·
      have q0 : z32 = z1 := ez32.trans ez1.symm
      have q1 : z33 = z2 := ez33.trans ez2.symm
      have q2 : z34 = z3 := ez34.trans ez3.symm
      have q3 : z35 = z4 := ez35.trans ez4.symm
      exfalso
      rw [q0, q1, q2, q3] at w39
      rw [show h8 164 z2 = h 164 z2 from my_fr.at w9 is_164 rfl] at w39
      by_cases qq : 0 ≤ z2 ∧ z2 ≤ 5
      · have w9 := I.pWnq.2.1 z2 qq.1 qq.2
        omega
      · omega
    ·
      have q0 : z32 = z1 := ez32.trans ez1.symm
      have q1 : z33 = z2 := ez33.trans ez2.symm
      have q2 : z34 = z3 := ez34.trans ez3.symm
      have q3 : z35 = z4 := ez35.trans ez4.symm
      have I_h40 : LInv h40 := ⟨Ln_ag (my_ag.fr w41 rfl) I_h8.pLn, Mw_ag (my_ag.fr w41 rfl) I_h8.pMw, Mw3_ag (my_ag.fr w41 rfl) I_h8.pMw3, Rws_ag (my_ag.fr w41 rfl) I_h8.pRws, Wrd_ag (my_ag.fr w41 rfl) I_h8.pWrd, Ceq_ag (my_ag.fr w41 rfl) I_h8.pCeq, Wd9_ag (my_ag.fr w41 rfl) I_h8.pWd9, Teq_ag (my_ag.fr w41 rfl) I_h8.pTeq, Wnq_ag (my_ag.fr w41 rfl) I_h8.pWnq⟩
      show lwp p l e s m below meth c b D tys sg rho 1623 [(3, 0), (2, 0), (2, 151), (2, 203), (0, i), (9, 0), (9, 0)] [(0, 1), (0, 1)] h40 kn
      refine lw_iceq (t := 1878) gz_0_1623 rfl (fun u48 => ?_) (fun u48 => ?_)
      ·
        exact K h40 I_h40
      · exfalso; first | omega | exact absurd (by assumption) (by assumption)
theorem lcase_23 (hL4 : L4 ≤ 4096) (hL : rho 4096 = Int32.ofNat L4) (I : LInv h) (i0 : 0 ≤ i) (i8 : i + 8 ≤ L4) (K : ∀ h' : my_H, LInv h' → lwp p l e s m below meth c b D tys sg rho 1878 [(3, 0), (2, 0), (2, 151), (2, 203), (0, i), (9, 0), (9, 0)] [] h' kn) : lwp p l e s m below meth c b D tys sg rho 1628 [(3, 0), (2, 0), (2, 151), (2, 203), (0, i), (9, 0), (9, 0)] [] h kn := by
  refine lw_aload_n gz_0_1628 rfl ?_
  refine lw_aload3_n gz_0_1629 rfl ?_
  refine lw_iload gz_0_1630 rfl ?_
  refine lw_iconst gz_0_1632 (by decide) ?_
  refine lw_iadd gz_0_1633 ⟨by omega, by omega⟩ ?_
  refine lw_sl gz_0_1634 hL4 hL (by omega) (by omega) (fun z1 ez1 pz1 qz1 => ?_)
  refine lw_inv (kz := 6) (as := [(0, z1)]) (r := []) (x := 0) (ls0 := [(2, 0), (0, z1), (9, 0), (9, 0), (9, 0), (9, 0), (9, 0), (9, 0)]) gz_0_1635 gm_128 rfl is_0 rd_9 rfl rfl rfl rfl rfl (c_ThroughWindow_night (d := 22) (x1 := z1) I.pLn (fun h2 w3 w4 => ?_) (fun h5 y6 w7 w8 w9 w10 => ?_))
  ·
    have I_h2 : LInv h2 := ⟨w4, Mw_ag (my_ag.fr w3 rfl) I.pMw, Mw3_ag (my_ag.fr w3 rfl) I.pMw3, Rws_ag (my_ag.fr w3 rfl) I.pRws, Wrd_ag (my_ag.fr w3 rfl) I.pWrd, Ceq_ag (my_ag.fr w3 rfl) I.pCeq, Wd9_ag (my_ag.fr w3 rfl) I.pWd9, Teq_ag (my_ag.fr w3 rfl) I.pTeq, Wnq_ag (my_ag.fr w3 rfl) I.pWnq⟩
    show lwp p l e s m below meth c b D tys sg rho 1638 [(3, 0), (2, 0), (2, 151), (2, 203), (0, i), (9, 0), (9, 0)] [(0, (-1))] h2 kn
    refine lw_pop gz_0_1638 rfl ?_
    refine lw_aload_n gz_0_1639 rfl ?_
    refine lw_aload3_n gz_0_1640 rfl ?_
    refine lw_iload gz_0_1641 rfl ?_
    refine lw_iconst gz_0_1643 (by decide) ?_
    refine lw_iadd gz_0_1644 ⟨by omega, by omega⟩ ?_
    refine lw_sl gz_0_1645 hL4 hL (by omega) (by omega) (fun z11 ez11 pz11 qz11 => ?_)
    refine lw_inv (kz := 4) (as := [(0, z11)]) (r := []) (x := 151) (ls0 := [(2, 151), (0, z11), (9, 0), (9, 0), (9, 0), (9, 0)]) gz_0_1646 gm_242 rfl is_151 rd_10 rfl rfl rfl rfl rfl (c_Model_night (d := 20) (x1 := z11) I_h2.pMw I_h2.pMw3 I_h2.pRws (fun h12 w13 w14 w15 => ?_) (fun h16 w17 w18 w19 w20 w21 w22 w23 w24 w25 => ?_) (fun h26 y27 w28 w29 w30 w31 w32 w33 => ?_))
    ·
      have I_h12 : LInv h12 := ⟨Ln_ag (my_ag.fr w13 rfl) I_h2.pLn, Mw_ag (my_ag.fr w13 rfl) I_h2.pMw, Mw3_ag (my_ag.fr w13 rfl) I_h2.pMw3, w15, Wrd_ag (my_ag.fr w13 rfl) I_h2.pWrd, Ceq_ag (my_ag.fr w13 rfl) I_h2.pCeq, Wd9_ag (my_ag.fr w13 rfl) I_h2.pWd9, Teq_ag (my_ag.fr w13 rfl) I_h2.pTeq, Wnq_ag (my_ag.fr w13 rfl) I_h2.pWnq⟩
      show lwp p l e s m below meth c b D tys sg rho 1649 [(3, 0), (2, 0), (2, 151), (2, 203), (0, i), (9, 0), (9, 0)] [(0, (-1))] h12 kn
      refine lw_pop gz_0_1649 rfl ?_
      refine lw_goto (t := 1878) gz_0_1650 rfl ?_
      exact K h12 I_h12
    ·
      have I_h16 : LInv h16 := ⟨Ln_ag (my_ag.fr w17 rfl) I_h2.pLn, Mw_ag (my_ag.fr w17 rfl) I_h2.pMw, Mw3_ag (my_ag.fr w17 rfl) I_h2.pMw3, w25, Wrd_ag (my_ag.fr w17 rfl) I_h2.pWrd, Ceq_ag (my_ag.fr w17 rfl) I_h2.pCeq, Wd9_ag (my_ag.fr w17 rfl) I_h2.pWd9, Teq_ag (my_ag.fr w17 rfl) I_h2.pTeq, Wnq_ag (my_ag.fr w17 rfl) I_h2.pWnq⟩
      show lwp p l e s m below meth c b D tys sg rho 1649 [(3, 0), (2, 0), (2, 151), (2, 203), (0, i), (9, 0), (9, 0)] [(0, 0)] h16 kn
      refine lw_pop gz_0_1649 rfl ?_
      refine lw_goto (t := 1878) gz_0_1650 rfl ?_
      exact K h16 I_h16
    ·
      have I_h26 : LInv h26 := ⟨Ln_ag (my_ag.fr w28 rfl) I_h2.pLn, Mw_ag (my_ag.fr w28 rfl) I_h2.pMw, Mw3_ag (my_ag.fr w28 rfl) I_h2.pMw3, w33, Wrd_ag (my_ag.fr w28 rfl) I_h2.pWrd, Ceq_ag (my_ag.fr w28 rfl) I_h2.pCeq, Wd9_ag (my_ag.fr w28 rfl) I_h2.pWd9, Teq_ag (my_ag.fr w28 rfl) I_h2.pTeq, Wnq_ag (my_ag.fr w28 rfl) I_h2.pWnq⟩
      show lwp p l e s m below meth c b D tys sg rho 1649 [(3, 0), (2, 0), (2, 151), (2, 203), (0, i), (9, 0), (9, 0)] [(0, y27)] h26 kn
      refine lw_pop gz_0_1649 rfl ?_
      refine lw_goto (t := 1878) gz_0_1650 rfl ?_
      exact K h26 I_h26
  ·
    have I_h5 : LInv h5 := ⟨w10, Mw_ag (my_ag.fr w7 rfl) I.pMw, Mw3_ag (my_ag.fr w7 rfl) I.pMw3, Rws_ag (my_ag.fr w7 rfl) I.pRws, Wrd_ag (my_ag.fr w7 rfl) I.pWrd, Ceq_ag (my_ag.fr w7 rfl) I.pCeq, Wd9_ag (my_ag.fr w7 rfl) I.pWd9, Teq_ag (my_ag.fr w7 rfl) I.pTeq, Wnq_ag (my_ag.fr w7 rfl) I.pWnq⟩
    show lwp p l e s m below meth c b D tys sg rho 1638 [(3, 0), (2, 0), (2, 151), (2, 203), (0, i), (9, 0), (9, 0)] [(0, y6)] h5 kn
    refine lw_pop gz_0_1638 rfl ?_
    refine lw_aload_n gz_0_1639 rfl ?_
    refine lw_aload3_n gz_0_1640 rfl ?_
    refine lw_iload gz_0_1641 rfl ?_
    refine lw_iconst gz_0_1643 (by decide) ?_
    refine lw_iadd gz_0_1644 ⟨by omega, by omega⟩ ?_
    refine lw_sl gz_0_1645 hL4 hL (by omega) (by omega) (fun z34 ez34 pz34 qz34 => ?_)
    refine lw_inv (kz := 4) (as := [(0, z34)]) (r := []) (x := 151) (ls0 := [(2, 151), (0, z34), (9, 0), (9, 0), (9, 0), (9, 0)]) gz_0_1646 gm_242 rfl is_151 rd_10 rfl rfl rfl rfl rfl (c_Model_night (d := 20) (x1 := z34) I_h5.pMw I_h5.pMw3 I_h5.pRws (fun h35 w36 w37 w38 => ?_) (fun h39 w40 w41 w42 w43 w44 w45 w46 w47 w48 => ?_) (fun h49 y50 w51 w52 w53 w54 w55 w56 => ?_))
    ·
      have I_h35 : LInv h35 := ⟨Ln_ag (my_ag.fr w36 rfl) I_h5.pLn, Mw_ag (my_ag.fr w36 rfl) I_h5.pMw, Mw3_ag (my_ag.fr w36 rfl) I_h5.pMw3, w38, Wrd_ag (my_ag.fr w36 rfl) I_h5.pWrd, Ceq_ag (my_ag.fr w36 rfl) I_h5.pCeq, Wd9_ag (my_ag.fr w36 rfl) I_h5.pWd9, Teq_ag (my_ag.fr w36 rfl) I_h5.pTeq, Wnq_ag (my_ag.fr w36 rfl) I_h5.pWnq⟩
      show lwp p l e s m below meth c b D tys sg rho 1649 [(3, 0), (2, 0), (2, 151), (2, 203), (0, i), (9, 0), (9, 0)] [(0, (-1))] h35 kn
      refine lw_pop gz_0_1649 rfl ?_
      refine lw_goto (t := 1878) gz_0_1650 rfl ?_
      exact K h35 I_h35
    ·
      have I_h39 : LInv h39 := ⟨Ln_ag (my_ag.fr w40 rfl) I_h5.pLn, Mw_ag (my_ag.fr w40 rfl) I_h5.pMw, Mw3_ag (my_ag.fr w40 rfl) I_h5.pMw3, w48, Wrd_ag (my_ag.fr w40 rfl) I_h5.pWrd, Ceq_ag (my_ag.fr w40 rfl) I_h5.pCeq, Wd9_ag (my_ag.fr w40 rfl) I_h5.pWd9, Teq_ag (my_ag.fr w40 rfl) I_h5.pTeq, Wnq_ag (my_ag.fr w40 rfl) I_h5.pWnq⟩
      show lwp p l e s m below meth c b D tys sg rho 1649 [(3, 0), (2, 0), (2, 151), (2, 203), (0, i), (9, 0), (9, 0)] [(0, 0)] h39 kn
      refine lw_pop gz_0_1649 rfl ?_
      refine lw_goto (t := 1878) gz_0_1650 rfl ?_
      exact K h39 I_h39
    ·
      have I_h49 : LInv h49 := ⟨Ln_ag (my_ag.fr w51 rfl) I_h5.pLn, Mw_ag (my_ag.fr w51 rfl) I_h5.pMw, Mw3_ag (my_ag.fr w51 rfl) I_h5.pMw3, w56, Wrd_ag (my_ag.fr w51 rfl) I_h5.pWrd, Ceq_ag (my_ag.fr w51 rfl) I_h5.pCeq, Wd9_ag (my_ag.fr w51 rfl) I_h5.pWd9, Teq_ag (my_ag.fr w51 rfl) I_h5.pTeq, Wnq_ag (my_ag.fr w51 rfl) I_h5.pWnq⟩
      show lwp p l e s m below meth c b D tys sg rho 1649 [(3, 0), (2, 0), (2, 151), (2, 203), (0, i), (9, 0), (9, 0)] [(0, y50)] h49 kn
      refine lw_pop gz_0_1649 rfl ?_
      refine lw_goto (t := 1878) gz_0_1650 rfl ?_
      exact K h49 I_h49
theorem lcase_24 (hL4 : L4 ≤ 4096) (hL : rho 4096 = Int32.ofNat L4) (I : LInv h) (i0 : 0 ≤ i) (i8 : i + 8 ≤ L4) (K : ∀ h' : my_H, LInv h' → lwp p l e s m below meth c b D tys sg rho 1878 [(3, 0), (2, 0), (2, 151), (2, 203), (0, i), (9, 0), (9, 0)] [] h' kn) : lwp p l e s m below meth c b D tys sg rho 1653 [(3, 0), (2, 0), (2, 151), (2, 203), (0, i), (9, 0), (9, 0)] [] h kn := by
  refine lw_aload_n gz_0_1653 rfl ?_
  refine lw_aload3_n gz_0_1654 rfl ?_
  refine lw_iload gz_0_1655 rfl ?_
  refine lw_iconst gz_0_1657 (by decide) ?_
  refine lw_iadd gz_0_1658 ⟨by omega, by omega⟩ ?_
  refine lw_sl gz_0_1659 hL4 hL (by omega) (by omega) (fun z1 ez1 pz1 qz1 => ?_)
  refine lw_aload3_n gz_0_1660 rfl ?_
  refine lw_iload gz_0_1661 rfl ?_
  refine lw_iconst gz_0_1663 (by decide) ?_
  refine lw_iadd gz_0_1664 ⟨by omega, by omega⟩ ?_
  refine lw_sl gz_0_1665 hL4 hL (by omega) (by omega) (fun z2 ez2 pz2 qz2 => ?_)
  refine lw_inv (kz := 2) (as := [(0, z2), (0, z1)]) (r := []) (x := 0) (ls0 := [(2, 0), (0, z1), (0, z2), (9, 0), (9, 0)]) gz_0_1666 gm_133 rfl is_0 rd_9 rfl rfl rfl rfl rfl (c_ThroughWindow_carried (d := 24) (x1 := z1) (x2 := z2) I.pLn (fun h3 w4 w5 => ?_) (fun h6 w7 w8 w9 w10 w11 w12 w13 => ?_) (fun h14 y15 w16 w17 w18 w19 w20 w21 w22 w23 w24 => ?_))
  ·
    have I_h3 : LInv h3 := ⟨w5, Mw_ag (my_ag.fr w4 rfl) I.pMw, Mw3_ag (my_ag.fr w4 rfl) I.pMw3, Rws_ag (my_ag.fr w4 rfl) I.pRws, Wrd_ag (my_ag.fr w4 rfl) I.pWrd, Ceq_ag (my_ag.fr w4 rfl) I.pCeq, Wd9_ag (my_ag.fr w4 rfl) I.pWd9, Teq_ag (my_ag.fr w4 rfl) I.pTeq, Wnq_ag (my_ag.fr w4 rfl) I.pWnq⟩
    show lwp p l e s m below meth c b D tys sg rho 1669 [(3, 0), (2, 0), (2, 151), (2, 203), (0, i), (9, 0), (9, 0)] [(0, (-1))] h3 kn
    refine lw_pop gz_0_1669 rfl ?_
    refine lw_aload_n gz_0_1670 rfl ?_
    refine lw_aload3_n gz_0_1671 rfl ?_
    refine lw_iload gz_0_1672 rfl ?_
    refine lw_iconst gz_0_1674 (by decide) ?_
    refine lw_iadd gz_0_1675 ⟨by omega, by omega⟩ ?_
    refine lw_sl gz_0_1676 hL4 hL (by omega) (by omega) (fun z25 ez25 pz25 qz25 => ?_)
    refine lw_aload3_n gz_0_1677 rfl ?_
    refine lw_iload gz_0_1678 rfl ?_
    refine lw_iconst gz_0_1680 (by decide) ?_
    refine lw_iadd gz_0_1681 ⟨by omega, by omega⟩ ?_
    refine lw_sl gz_0_1682 hL4 hL (by omega) (by omega) (fun z26 ez26 pz26 qz26 => ?_)
    refine lw_inv (kz := 0) (as := [(0, z26), (0, z25)]) (r := []) (x := 151) (ls0 := [(2, 151), (0, z25), (0, z26)]) gz_0_1683 gm_246 rfl is_151 rd_10 rfl rfl rfl rfl rfl (c_Model_carried (d := 24) (x1 := z25) (x2 := z26) I_h3.pMw I_h3.pMw3 I_h3.pRws (fun h27 w28 w29 => ?_) (fun h30 y31 w32 w33 w34 w35 w36 w37 w38 w39 w40 => ?_))
    ·
      have I_h27 : LInv h27 := ⟨Ln_ag (my_ag.fr w28 rfl) I_h3.pLn, Mw_ag (my_ag.fr w28 rfl) I_h3.pMw, Mw3_ag (my_ag.fr w28 rfl) I_h3.pMw3, Rws_ag (my_ag.fr w28 rfl) I_h3.pRws, Wrd_ag (my_ag.fr w28 rfl) I_h3.pWrd, Ceq_ag (my_ag.fr w28 rfl) I_h3.pCeq, Wd9_ag (my_ag.fr w28 rfl) I_h3.pWd9, Teq_ag (my_ag.fr w28 rfl) I_h3.pTeq, Wnq_ag (my_ag.fr w28 rfl) I_h3.pWnq⟩
      show lwp p l e s m below meth c b D tys sg rho 1686 [(3, 0), (2, 0), (2, 151), (2, 203), (0, i), (9, 0), (9, 0)] [(0, (-1))] h27 kn
      refine lw_pop gz_0_1686 rfl ?_
      refine lw_goto (t := 1878) gz_0_1687 rfl ?_
      exact K h27 I_h27
    ·
      have I_h30 : LInv h30 := ⟨Ln_ag (my_ag.fr w32 rfl) I_h3.pLn, Mw_ag (my_ag.fr w32 rfl) I_h3.pMw, Mw3_ag (my_ag.fr w32 rfl) I_h3.pMw3, Rws_ag (my_ag.fr w32 rfl) I_h3.pRws, Wrd_ag (my_ag.fr w32 rfl) I_h3.pWrd, Ceq_ag (my_ag.fr w32 rfl) I_h3.pCeq, Wd9_ag (my_ag.fr w32 rfl) I_h3.pWd9, Teq_ag (my_ag.fr w32 rfl) I_h3.pTeq, Wnq_ag (my_ag.fr w32 rfl) I_h3.pWnq⟩
      show lwp p l e s m below meth c b D tys sg rho 1686 [(3, 0), (2, 0), (2, 151), (2, 203), (0, i), (9, 0), (9, 0)] [(0, y31)] h30 kn
      refine lw_pop gz_0_1686 rfl ?_
      refine lw_goto (t := 1878) gz_0_1687 rfl ?_
      exact K h30 I_h30
  ·
    have I_h6 : LInv h6 := ⟨w13, Mw_ag (my_ag.fr w7 rfl) I.pMw, Mw3_ag (my_ag.fr w7 rfl) I.pMw3, Rws_ag (my_ag.fr w7 rfl) I.pRws, Wrd_ag (my_ag.fr w7 rfl) I.pWrd, Ceq_ag (my_ag.fr w7 rfl) I.pCeq, Wd9_ag (my_ag.fr w7 rfl) I.pWd9, Teq_ag (my_ag.fr w7 rfl) I.pTeq, Wnq_ag (my_ag.fr w7 rfl) I.pWnq⟩
    show lwp p l e s m below meth c b D tys sg rho 1669 [(3, 0), (2, 0), (2, 151), (2, 203), (0, i), (9, 0), (9, 0)] [(0, 0)] h6 kn
    refine lw_pop gz_0_1669 rfl ?_
    refine lw_aload_n gz_0_1670 rfl ?_
    refine lw_aload3_n gz_0_1671 rfl ?_
    refine lw_iload gz_0_1672 rfl ?_
    refine lw_iconst gz_0_1674 (by decide) ?_
    refine lw_iadd gz_0_1675 ⟨by omega, by omega⟩ ?_
    refine lw_sl gz_0_1676 hL4 hL (by omega) (by omega) (fun z41 ez41 pz41 qz41 => ?_)
    refine lw_aload3_n gz_0_1677 rfl ?_
    refine lw_iload gz_0_1678 rfl ?_
    refine lw_iconst gz_0_1680 (by decide) ?_
    refine lw_iadd gz_0_1681 ⟨by omega, by omega⟩ ?_
    refine lw_sl gz_0_1682 hL4 hL (by omega) (by omega) (fun z42 ez42 pz42 qz42 => ?_)
    refine lw_inv (kz := 0) (as := [(0, z42), (0, z41)]) (r := []) (x := 151) (ls0 := [(2, 151), (0, z41), (0, z42)]) gz_0_1683 gm_246 rfl is_151 rd_10 rfl rfl rfl rfl rfl (c_Model_carried (d := 24) (x1 := z41) (x2 := z42) I_h6.pMw I_h6.pMw3 I_h6.pRws (fun h43 w44 w45 => ?_) (fun h46 y47 w48 w49 w50 w51 w52 w53 w54 w55 w56 => ?_))
    ·
      have I_h43 : LInv h43 := ⟨Ln_ag (my_ag.fr w44 rfl) I_h6.pLn, Mw_ag (my_ag.fr w44 rfl) I_h6.pMw, Mw3_ag (my_ag.fr w44 rfl) I_h6.pMw3, Rws_ag (my_ag.fr w44 rfl) I_h6.pRws, Wrd_ag (my_ag.fr w44 rfl) I_h6.pWrd, Ceq_ag (my_ag.fr w44 rfl) I_h6.pCeq, Wd9_ag (my_ag.fr w44 rfl) I_h6.pWd9, Teq_ag (my_ag.fr w44 rfl) I_h6.pTeq, Wnq_ag (my_ag.fr w44 rfl) I_h6.pWnq⟩
      show lwp p l e s m below meth c b D tys sg rho 1686 [(3, 0), (2, 0), (2, 151), (2, 203), (0, i), (9, 0), (9, 0)] [(0, (-1))] h43 kn
      refine lw_pop gz_0_1686 rfl ?_
      refine lw_goto (t := 1878) gz_0_1687 rfl ?_
      exact K h43 I_h43
    ·
      have I_h46 : LInv h46 := ⟨Ln_ag (my_ag.fr w48 rfl) I_h6.pLn, Mw_ag (my_ag.fr w48 rfl) I_h6.pMw, Mw3_ag (my_ag.fr w48 rfl) I_h6.pMw3, Rws_ag (my_ag.fr w48 rfl) I_h6.pRws, Wrd_ag (my_ag.fr w48 rfl) I_h6.pWrd, Ceq_ag (my_ag.fr w48 rfl) I_h6.pCeq, Wd9_ag (my_ag.fr w48 rfl) I_h6.pWd9, Teq_ag (my_ag.fr w48 rfl) I_h6.pTeq, Wnq_ag (my_ag.fr w48 rfl) I_h6.pWnq⟩
      show lwp p l e s m below meth c b D tys sg rho 1686 [(3, 0), (2, 0), (2, 151), (2, 203), (0, i), (9, 0), (9, 0)] [(0, y47)] h46 kn
      refine lw_pop gz_0_1686 rfl ?_
      refine lw_goto (t := 1878) gz_0_1687 rfl ?_
      exact K h46 I_h46
  ·
    have I_h14 : LInv h14 := ⟨w24, Mw_ag (my_ag.fr w16 rfl) I.pMw, Mw3_ag (my_ag.fr w16 rfl) I.pMw3, Rws_ag (my_ag.fr w16 rfl) I.pRws, Wrd_ag (my_ag.fr w16 rfl) I.pWrd, Ceq_ag (my_ag.fr w16 rfl) I.pCeq, Wd9_ag (my_ag.fr w16 rfl) I.pWd9, Teq_ag (my_ag.fr w16 rfl) I.pTeq, Wnq_ag (my_ag.fr w16 rfl) I.pWnq⟩
    show lwp p l e s m below meth c b D tys sg rho 1669 [(3, 0), (2, 0), (2, 151), (2, 203), (0, i), (9, 0), (9, 0)] [(0, y15)] h14 kn
    refine lw_pop gz_0_1669 rfl ?_
    refine lw_aload_n gz_0_1670 rfl ?_
    refine lw_aload3_n gz_0_1671 rfl ?_
    refine lw_iload gz_0_1672 rfl ?_
    refine lw_iconst gz_0_1674 (by decide) ?_
    refine lw_iadd gz_0_1675 ⟨by omega, by omega⟩ ?_
    refine lw_sl gz_0_1676 hL4 hL (by omega) (by omega) (fun z57 ez57 pz57 qz57 => ?_)
    refine lw_aload3_n gz_0_1677 rfl ?_
    refine lw_iload gz_0_1678 rfl ?_
    refine lw_iconst gz_0_1680 (by decide) ?_
    refine lw_iadd gz_0_1681 ⟨by omega, by omega⟩ ?_
    refine lw_sl gz_0_1682 hL4 hL (by omega) (by omega) (fun z58 ez58 pz58 qz58 => ?_)
    refine lw_inv (kz := 0) (as := [(0, z58), (0, z57)]) (r := []) (x := 151) (ls0 := [(2, 151), (0, z57), (0, z58)]) gz_0_1683 gm_246 rfl is_151 rd_10 rfl rfl rfl rfl rfl (c_Model_carried (d := 24) (x1 := z57) (x2 := z58) I_h14.pMw I_h14.pMw3 I_h14.pRws (fun h59 w60 w61 => ?_) (fun h62 y63 w64 w65 w66 w67 w68 w69 w70 w71 w72 => ?_))
    ·
      have I_h59 : LInv h59 := ⟨Ln_ag (my_ag.fr w60 rfl) I_h14.pLn, Mw_ag (my_ag.fr w60 rfl) I_h14.pMw, Mw3_ag (my_ag.fr w60 rfl) I_h14.pMw3, Rws_ag (my_ag.fr w60 rfl) I_h14.pRws, Wrd_ag (my_ag.fr w60 rfl) I_h14.pWrd, Ceq_ag (my_ag.fr w60 rfl) I_h14.pCeq, Wd9_ag (my_ag.fr w60 rfl) I_h14.pWd9, Teq_ag (my_ag.fr w60 rfl) I_h14.pTeq, Wnq_ag (my_ag.fr w60 rfl) I_h14.pWnq⟩
      show lwp p l e s m below meth c b D tys sg rho 1686 [(3, 0), (2, 0), (2, 151), (2, 203), (0, i), (9, 0), (9, 0)] [(0, (-1))] h59 kn
      refine lw_pop gz_0_1686 rfl ?_
      refine lw_goto (t := 1878) gz_0_1687 rfl ?_
      exact K h59 I_h59
    ·
      have I_h62 : LInv h62 := ⟨Ln_ag (my_ag.fr w64 rfl) I_h14.pLn, Mw_ag (my_ag.fr w64 rfl) I_h14.pMw, Mw3_ag (my_ag.fr w64 rfl) I_h14.pMw3, Rws_ag (my_ag.fr w64 rfl) I_h14.pRws, Wrd_ag (my_ag.fr w64 rfl) I_h14.pWrd, Ceq_ag (my_ag.fr w64 rfl) I_h14.pCeq, Wd9_ag (my_ag.fr w64 rfl) I_h14.pWd9, Teq_ag (my_ag.fr w64 rfl) I_h14.pTeq, Wnq_ag (my_ag.fr w64 rfl) I_h14.pWnq⟩
      show lwp p l e s m below meth c b D tys sg rho 1686 [(3, 0), (2, 0), (2, 151), (2, 203), (0, i), (9, 0), (9, 0)] [(0, y63)] h62 kn
      refine lw_pop gz_0_1686 rfl ?_
      refine lw_goto (t := 1878) gz_0_1687 rfl ?_
      exact K h62 I_h62
theorem lcase_25 (hL4 : L4 ≤ 4096) (hL : rho 4096 = Int32.ofNat L4) (I : LInv h) (i0 : 0 ≤ i) (i8 : i + 8 ≤ L4) (K : ∀ h' : my_H, LInv h' → lwp p l e s m below meth c b D tys sg rho 1878 [(3, 0), (2, 0), (2, 151), (2, 203), (0, i), (9, 0), (9, 0)] [] h' kn) : lwp p l e s m below meth c b D tys sg rho 1690 [(3, 0), (2, 0), (2, 151), (2, 203), (0, i), (9, 0), (9, 0)] [] h kn := by
  refine lw_aload_n gz_0_1690 rfl ?_
  refine lw_aload3_n gz_0_1691 rfl ?_
  refine lw_iload gz_0_1692 rfl ?_
  refine lw_iconst gz_0_1694 (by decide) ?_
  refine lw_iadd gz_0_1695 ⟨by omega, by omega⟩ ?_
  refine lw_sl gz_0_1696 hL4 hL (by omega) (by omega) (fun z1 ez1 pz1 qz1 => ?_)
  refine lw_aload3_n gz_0_1697 rfl ?_
  refine lw_iload gz_0_1698 rfl ?_
  refine lw_iconst gz_0_1700 (by decide) ?_
  refine lw_iadd gz_0_1701 ⟨by omega, by omega⟩ ?_
  refine lw_sl gz_0_1702 hL4 hL (by omega) (by omega) (fun z2 ez2 pz2 qz2 => ?_)
  refine lw_aload3_n gz_0_1703 rfl ?_
  refine lw_iload gz_0_1704 rfl ?_
  refine lw_iconst gz_0_1706 (by decide) ?_
  refine lw_iadd gz_0_1707 ⟨by omega, by omega⟩ ?_
  refine lw_sl gz_0_1708 hL4 hL (by omega) (by omega) (fun z3 ez3 pz3 qz3 => ?_)
  refine lw_inv (kz := 0) (as := [(0, z3), (0, z2), (0, z1)]) (r := []) (x := 0) (ls0 := [(2, 0), (0, z1), (0, z2), (0, z3)]) gz_0_1709 gm_135 rfl is_0 rd_9 rfl rfl rfl rfl rfl (c_ThroughWindow_cuts (d := 26) (x1 := z1) (x2 := z2) (x3 := z3)  (fun h4 w5 => ?_) (fun h6 w7 w8 w9 w10 w11 w12 w13 => ?_) (fun h14 y15 w16 w17 w18 w19 w20 w21 w22 => ?_))
  ·
    have I_h4 : LInv h4 := ⟨Ln_ag (my_ag.fr w5 rfl) I.pLn, Mw_ag (my_ag.fr w5 rfl) I.pMw, Mw3_ag (my_ag.fr w5 rfl) I.pMw3, Rws_ag (my_ag.fr w5 rfl) I.pRws, Wrd_ag (my_ag.fr w5 rfl) I.pWrd, Ceq_ag (my_ag.fr w5 rfl) I.pCeq, Wd9_ag (my_ag.fr w5 rfl) I.pWd9, Teq_ag (my_ag.fr w5 rfl) I.pTeq, Wnq_ag (my_ag.fr w5 rfl) I.pWnq⟩
    show lwp p l e s m below meth c b D tys sg rho 1712 [(3, 0), (2, 0), (2, 151), (2, 203), (0, i), (9, 0), (9, 0)] [(0, (-1))] h4 kn
    refine lw_pop gz_0_1712 rfl ?_
    refine lw_aload_n gz_0_1713 rfl ?_
    refine lw_aload3_n gz_0_1714 rfl ?_
    refine lw_iload gz_0_1715 rfl ?_
    refine lw_iconst gz_0_1717 (by decide) ?_
    refine lw_iadd gz_0_1718 ⟨by omega, by omega⟩ ?_
    refine lw_sl gz_0_1719 hL4 hL (by omega) (by omega) (fun z23 ez23 pz23 qz23 => ?_)
    refine lw_aload3_n gz_0_1720 rfl ?_
    refine lw_iload gz_0_1721 rfl ?_
    refine lw_iconst gz_0_1723 (by decide) ?_
    refine lw_iadd gz_0_1724 ⟨by omega, by omega⟩ ?_
    refine lw_sl gz_0_1725 hL4 hL (by omega) (by omega) (fun z24 ez24 pz24 qz24 => ?_)
    refine lw_aload3_n gz_0_1726 rfl ?_
    refine lw_iload gz_0_1727 rfl ?_
    refine lw_iconst gz_0_1729 (by decide) ?_
    refine lw_iadd gz_0_1730 ⟨by omega, by omega⟩ ?_
    refine lw_sl gz_0_1731 hL4 hL (by omega) (by omega) (fun z25 ez25 pz25 qz25 => ?_)
    refine lw_inv (kz := 3) (as := [(0, z25), (0, z24), (0, z23)]) (r := []) (x := 151) (ls0 := [(2, 151), (0, z23), (0, z24), (0, z25), (9, 0), (9, 0), (9, 0)]) gz_0_1732 gm_234 rfl is_151 rd_10 rfl rfl rfl rfl rfl (c_Model_cuts (d := 26) (x1 := z23) (x2 := z24) (x3 := z25)  (fun h26 w27 w28 => ?_) (fun h29 w30 w31 w32 w33 w34 w35 w36 w37 => ?_) (fun h38 y39 w40 w41 w42 w43 w44 w45 w46 w47 => ?_))
    ·
      have I_h26 : LInv h26 := ⟨Ln_ag (my_ag.fr w27 rfl) I_h4.pLn, Mw_ag (my_ag.fr w27 rfl) I_h4.pMw, Mw3_ag (my_ag.fr w27 rfl) I_h4.pMw3, Rws_ag (my_ag.fr w27 rfl) I_h4.pRws, Wrd_ag (my_ag.fr w27 rfl) I_h4.pWrd, Ceq_ag (my_ag.fr w27 rfl) I_h4.pCeq, Wd9_ag (my_ag.fr w27 rfl) I_h4.pWd9, Teq_ag (my_ag.fr w27 rfl) I_h4.pTeq, Wnq_ag (my_ag.fr w27 rfl) I_h4.pWnq⟩
      show lwp p l e s m below meth c b D tys sg rho 1735 [(3, 0), (2, 0), (2, 151), (2, 203), (0, i), (9, 0), (9, 0)] [(0, (-1))] h26 kn
      refine lw_pop gz_0_1735 rfl ?_
      refine lw_goto (t := 1878) gz_0_1736 rfl ?_
      exact K h26 I_h26
    ·
      have I_h29 : LInv h29 := ⟨Ln_ag (my_ag.fr w30 rfl) I_h4.pLn, Mw_ag (my_ag.fr w30 rfl) I_h4.pMw, Mw3_ag (my_ag.fr w30 rfl) I_h4.pMw3, Rws_ag (my_ag.fr w30 rfl) I_h4.pRws, Wrd_ag (my_ag.fr w30 rfl) I_h4.pWrd, Ceq_ag (my_ag.fr w30 rfl) I_h4.pCeq, Wd9_ag (my_ag.fr w30 rfl) I_h4.pWd9, Teq_ag (my_ag.fr w30 rfl) I_h4.pTeq, Wnq_ag (my_ag.fr w30 rfl) I_h4.pWnq⟩
      show lwp p l e s m below meth c b D tys sg rho 1735 [(3, 0), (2, 0), (2, 151), (2, 203), (0, i), (9, 0), (9, 0)] [(0, 0)] h29 kn
      refine lw_pop gz_0_1735 rfl ?_
      refine lw_goto (t := 1878) gz_0_1736 rfl ?_
      exact K h29 I_h29
    ·
      have I_h38 : LInv h38 := ⟨Ln_ag (my_ag.fr w40 rfl) I_h4.pLn, Mw_ag (my_ag.fr w40 rfl) I_h4.pMw, Mw3_ag (my_ag.fr w40 rfl) I_h4.pMw3, Rws_ag (my_ag.fr w40 rfl) I_h4.pRws, Wrd_ag (my_ag.fr w40 rfl) I_h4.pWrd, Ceq_ag (my_ag.fr w40 rfl) I_h4.pCeq, Wd9_ag (my_ag.fr w40 rfl) I_h4.pWd9, Teq_ag (my_ag.fr w40 rfl) I_h4.pTeq, Wnq_ag (my_ag.fr w40 rfl) I_h4.pWnq⟩
      show lwp p l e s m below meth c b D tys sg rho 1735 [(3, 0), (2, 0), (2, 151), (2, 203), (0, i), (9, 0), (9, 0)] [(0, y39)] h38 kn
      refine lw_pop gz_0_1735 rfl ?_
      refine lw_goto (t := 1878) gz_0_1736 rfl ?_
      exact K h38 I_h38
  ·
    have I_h6 : LInv h6 := ⟨Ln_ag (my_ag.fr w7 rfl) I.pLn, Mw_ag (my_ag.fr w7 rfl) I.pMw, Mw3_ag (my_ag.fr w7 rfl) I.pMw3, Rws_ag (my_ag.fr w7 rfl) I.pRws, Wrd_ag (my_ag.fr w7 rfl) I.pWrd, Ceq_ag (my_ag.fr w7 rfl) I.pCeq, Wd9_ag (my_ag.fr w7 rfl) I.pWd9, Teq_ag (my_ag.fr w7 rfl) I.pTeq, Wnq_ag (my_ag.fr w7 rfl) I.pWnq⟩
    show lwp p l e s m below meth c b D tys sg rho 1712 [(3, 0), (2, 0), (2, 151), (2, 203), (0, i), (9, 0), (9, 0)] [(0, 0)] h6 kn
    refine lw_pop gz_0_1712 rfl ?_
    refine lw_aload_n gz_0_1713 rfl ?_
    refine lw_aload3_n gz_0_1714 rfl ?_
    refine lw_iload gz_0_1715 rfl ?_
    refine lw_iconst gz_0_1717 (by decide) ?_
    refine lw_iadd gz_0_1718 ⟨by omega, by omega⟩ ?_
    refine lw_sl gz_0_1719 hL4 hL (by omega) (by omega) (fun z48 ez48 pz48 qz48 => ?_)
    refine lw_aload3_n gz_0_1720 rfl ?_
    refine lw_iload gz_0_1721 rfl ?_
    refine lw_iconst gz_0_1723 (by decide) ?_
    refine lw_iadd gz_0_1724 ⟨by omega, by omega⟩ ?_
    refine lw_sl gz_0_1725 hL4 hL (by omega) (by omega) (fun z49 ez49 pz49 qz49 => ?_)
    refine lw_aload3_n gz_0_1726 rfl ?_
    refine lw_iload gz_0_1727 rfl ?_
    refine lw_iconst gz_0_1729 (by decide) ?_
    refine lw_iadd gz_0_1730 ⟨by omega, by omega⟩ ?_
    refine lw_sl gz_0_1731 hL4 hL (by omega) (by omega) (fun z50 ez50 pz50 qz50 => ?_)
    refine lw_inv (kz := 3) (as := [(0, z50), (0, z49), (0, z48)]) (r := []) (x := 151) (ls0 := [(2, 151), (0, z48), (0, z49), (0, z50), (9, 0), (9, 0), (9, 0)]) gz_0_1732 gm_234 rfl is_151 rd_10 rfl rfl rfl rfl rfl (c_Model_cuts (d := 26) (x1 := z48) (x2 := z49) (x3 := z50)  (fun h51 w52 w53 => ?_) (fun h54 w55 w56 w57 w58 w59 w60 w61 w62 => ?_) (fun h63 y64 w65 w66 w67 w68 w69 w70 w71 w72 => ?_))
    ·
      have I_h51 : LInv h51 := ⟨Ln_ag (my_ag.fr w52 rfl) I_h6.pLn, Mw_ag (my_ag.fr w52 rfl) I_h6.pMw, Mw3_ag (my_ag.fr w52 rfl) I_h6.pMw3, Rws_ag (my_ag.fr w52 rfl) I_h6.pRws, Wrd_ag (my_ag.fr w52 rfl) I_h6.pWrd, Ceq_ag (my_ag.fr w52 rfl) I_h6.pCeq, Wd9_ag (my_ag.fr w52 rfl) I_h6.pWd9, Teq_ag (my_ag.fr w52 rfl) I_h6.pTeq, Wnq_ag (my_ag.fr w52 rfl) I_h6.pWnq⟩
      show lwp p l e s m below meth c b D tys sg rho 1735 [(3, 0), (2, 0), (2, 151), (2, 203), (0, i), (9, 0), (9, 0)] [(0, (-1))] h51 kn
      refine lw_pop gz_0_1735 rfl ?_
      refine lw_goto (t := 1878) gz_0_1736 rfl ?_
      exact K h51 I_h51
    ·
      have I_h54 : LInv h54 := ⟨Ln_ag (my_ag.fr w55 rfl) I_h6.pLn, Mw_ag (my_ag.fr w55 rfl) I_h6.pMw, Mw3_ag (my_ag.fr w55 rfl) I_h6.pMw3, Rws_ag (my_ag.fr w55 rfl) I_h6.pRws, Wrd_ag (my_ag.fr w55 rfl) I_h6.pWrd, Ceq_ag (my_ag.fr w55 rfl) I_h6.pCeq, Wd9_ag (my_ag.fr w55 rfl) I_h6.pWd9, Teq_ag (my_ag.fr w55 rfl) I_h6.pTeq, Wnq_ag (my_ag.fr w55 rfl) I_h6.pWnq⟩
      show lwp p l e s m below meth c b D tys sg rho 1735 [(3, 0), (2, 0), (2, 151), (2, 203), (0, i), (9, 0), (9, 0)] [(0, 0)] h54 kn
      refine lw_pop gz_0_1735 rfl ?_
      refine lw_goto (t := 1878) gz_0_1736 rfl ?_
      exact K h54 I_h54
    ·
      have I_h63 : LInv h63 := ⟨Ln_ag (my_ag.fr w65 rfl) I_h6.pLn, Mw_ag (my_ag.fr w65 rfl) I_h6.pMw, Mw3_ag (my_ag.fr w65 rfl) I_h6.pMw3, Rws_ag (my_ag.fr w65 rfl) I_h6.pRws, Wrd_ag (my_ag.fr w65 rfl) I_h6.pWrd, Ceq_ag (my_ag.fr w65 rfl) I_h6.pCeq, Wd9_ag (my_ag.fr w65 rfl) I_h6.pWd9, Teq_ag (my_ag.fr w65 rfl) I_h6.pTeq, Wnq_ag (my_ag.fr w65 rfl) I_h6.pWnq⟩
      show lwp p l e s m below meth c b D tys sg rho 1735 [(3, 0), (2, 0), (2, 151), (2, 203), (0, i), (9, 0), (9, 0)] [(0, y64)] h63 kn
      refine lw_pop gz_0_1735 rfl ?_
      refine lw_goto (t := 1878) gz_0_1736 rfl ?_
      exact K h63 I_h63
  ·
    have I_h14 : LInv h14 := ⟨Ln_ag (my_ag.fr w16 rfl) I.pLn, Mw_ag (my_ag.fr w16 rfl) I.pMw, Mw3_ag (my_ag.fr w16 rfl) I.pMw3, Rws_ag (my_ag.fr w16 rfl) I.pRws, Wrd_ag (my_ag.fr w16 rfl) I.pWrd, Ceq_ag (my_ag.fr w16 rfl) I.pCeq, Wd9_ag (my_ag.fr w16 rfl) I.pWd9, Teq_ag (my_ag.fr w16 rfl) I.pTeq, Wnq_ag (my_ag.fr w16 rfl) I.pWnq⟩
    show lwp p l e s m below meth c b D tys sg rho 1712 [(3, 0), (2, 0), (2, 151), (2, 203), (0, i), (9, 0), (9, 0)] [(0, y15)] h14 kn
    refine lw_pop gz_0_1712 rfl ?_
    refine lw_aload_n gz_0_1713 rfl ?_
    refine lw_aload3_n gz_0_1714 rfl ?_
    refine lw_iload gz_0_1715 rfl ?_
    refine lw_iconst gz_0_1717 (by decide) ?_
    refine lw_iadd gz_0_1718 ⟨by omega, by omega⟩ ?_
    refine lw_sl gz_0_1719 hL4 hL (by omega) (by omega) (fun z73 ez73 pz73 qz73 => ?_)
    refine lw_aload3_n gz_0_1720 rfl ?_
    refine lw_iload gz_0_1721 rfl ?_
    refine lw_iconst gz_0_1723 (by decide) ?_
    refine lw_iadd gz_0_1724 ⟨by omega, by omega⟩ ?_
    refine lw_sl gz_0_1725 hL4 hL (by omega) (by omega) (fun z74 ez74 pz74 qz74 => ?_)
    refine lw_aload3_n gz_0_1726 rfl ?_
    refine lw_iload gz_0_1727 rfl ?_
    refine lw_iconst gz_0_1729 (by decide) ?_
    refine lw_iadd gz_0_1730 ⟨by omega, by omega⟩ ?_
    refine lw_sl gz_0_1731 hL4 hL (by omega) (by omega) (fun z75 ez75 pz75 qz75 => ?_)
    refine lw_inv (kz := 3) (as := [(0, z75), (0, z74), (0, z73)]) (r := []) (x := 151) (ls0 := [(2, 151), (0, z73), (0, z74), (0, z75), (9, 0), (9, 0), (9, 0)]) gz_0_1732 gm_234 rfl is_151 rd_10 rfl rfl rfl rfl rfl (c_Model_cuts (d := 26) (x1 := z73) (x2 := z74) (x3 := z75)  (fun h76 w77 w78 => ?_) (fun h79 w80 w81 w82 w83 w84 w85 w86 w87 => ?_) (fun h88 y89 w90 w91 w92 w93 w94 w95 w96 w97 => ?_))
    ·
      have I_h76 : LInv h76 := ⟨Ln_ag (my_ag.fr w77 rfl) I_h14.pLn, Mw_ag (my_ag.fr w77 rfl) I_h14.pMw, Mw3_ag (my_ag.fr w77 rfl) I_h14.pMw3, Rws_ag (my_ag.fr w77 rfl) I_h14.pRws, Wrd_ag (my_ag.fr w77 rfl) I_h14.pWrd, Ceq_ag (my_ag.fr w77 rfl) I_h14.pCeq, Wd9_ag (my_ag.fr w77 rfl) I_h14.pWd9, Teq_ag (my_ag.fr w77 rfl) I_h14.pTeq, Wnq_ag (my_ag.fr w77 rfl) I_h14.pWnq⟩
      show lwp p l e s m below meth c b D tys sg rho 1735 [(3, 0), (2, 0), (2, 151), (2, 203), (0, i), (9, 0), (9, 0)] [(0, (-1))] h76 kn
      refine lw_pop gz_0_1735 rfl ?_
      refine lw_goto (t := 1878) gz_0_1736 rfl ?_
      exact K h76 I_h76
    ·
      have I_h79 : LInv h79 := ⟨Ln_ag (my_ag.fr w80 rfl) I_h14.pLn, Mw_ag (my_ag.fr w80 rfl) I_h14.pMw, Mw3_ag (my_ag.fr w80 rfl) I_h14.pMw3, Rws_ag (my_ag.fr w80 rfl) I_h14.pRws, Wrd_ag (my_ag.fr w80 rfl) I_h14.pWrd, Ceq_ag (my_ag.fr w80 rfl) I_h14.pCeq, Wd9_ag (my_ag.fr w80 rfl) I_h14.pWd9, Teq_ag (my_ag.fr w80 rfl) I_h14.pTeq, Wnq_ag (my_ag.fr w80 rfl) I_h14.pWnq⟩
      show lwp p l e s m below meth c b D tys sg rho 1735 [(3, 0), (2, 0), (2, 151), (2, 203), (0, i), (9, 0), (9, 0)] [(0, 0)] h79 kn
      refine lw_pop gz_0_1735 rfl ?_
      refine lw_goto (t := 1878) gz_0_1736 rfl ?_
      exact K h79 I_h79
    ·
      have I_h88 : LInv h88 := ⟨Ln_ag (my_ag.fr w90 rfl) I_h14.pLn, Mw_ag (my_ag.fr w90 rfl) I_h14.pMw, Mw3_ag (my_ag.fr w90 rfl) I_h14.pMw3, Rws_ag (my_ag.fr w90 rfl) I_h14.pRws, Wrd_ag (my_ag.fr w90 rfl) I_h14.pWrd, Ceq_ag (my_ag.fr w90 rfl) I_h14.pCeq, Wd9_ag (my_ag.fr w90 rfl) I_h14.pWd9, Teq_ag (my_ag.fr w90 rfl) I_h14.pTeq, Wnq_ag (my_ag.fr w90 rfl) I_h14.pWnq⟩
      show lwp p l e s m below meth c b D tys sg rho 1735 [(3, 0), (2, 0), (2, 151), (2, 203), (0, i), (9, 0), (9, 0)] [(0, y89)] h88 kn
      refine lw_pop gz_0_1735 rfl ?_
      refine lw_goto (t := 1878) gz_0_1736 rfl ?_
      exact K h88 I_h88
theorem lcase_26 (hL4 : L4 ≤ 4096) (hL : rho 4096 = Int32.ofNat L4) (I : LInv h) (i0 : 0 ≤ i) (i8 : i + 8 ≤ L4) (K : ∀ h' : my_H, LInv h' → lwp p l e s m below meth c b D tys sg rho 1878 [(3, 0), (2, 0), (2, 151), (2, 203), (0, i), (9, 0), (9, 0)] [] h' kn) : lwp p l e s m below meth c b D tys sg rho 1739 [(3, 0), (2, 0), (2, 151), (2, 203), (0, i), (9, 0), (9, 0)] [] h kn := by
  refine lw_aload_n gz_0_1739 rfl ?_
  refine lw_aload3_n gz_0_1740 rfl ?_
  refine lw_iload gz_0_1741 rfl ?_
  refine lw_iconst gz_0_1743 (by decide) ?_
  refine lw_iadd gz_0_1744 ⟨by omega, by omega⟩ ?_
  refine lw_sl gz_0_1745 hL4 hL (by omega) (by omega) (fun z1 ez1 pz1 qz1 => ?_)
  refine lw_aload3_n gz_0_1746 rfl ?_
  refine lw_iload gz_0_1747 rfl ?_
  refine lw_iconst gz_0_1749 (by decide) ?_
  refine lw_iadd gz_0_1750 ⟨by omega, by omega⟩ ?_
  refine lw_sl gz_0_1751 hL4 hL (by omega) (by omega) (fun z2 ez2 pz2 qz2 => ?_)
  refine lw_aload3_n gz_0_1752 rfl ?_
  refine lw_iload gz_0_1753 rfl ?_
  refine lw_iconst gz_0_1755 (by decide) ?_
  refine lw_iadd gz_0_1756 ⟨by omega, by omega⟩ ?_
  refine lw_sl gz_0_1757 hL4 hL (by omega) (by omega) (fun z3 ez3 pz3 qz3 => ?_)
  refine lw_aload3_n gz_0_1758 rfl ?_
  refine lw_iload gz_0_1759 rfl ?_
  refine lw_iconst gz_0_1761 (by decide) ?_
  refine lw_iadd gz_0_1762 ⟨by omega, by omega⟩ ?_
  refine lw_sl gz_0_1763 hL4 hL (by omega) (by omega) (fun z4 ez4 pz4 qz4 => ?_)
  refine lw_inv (kz := 0) (as := [(0, z4), (0, z3), (0, z2), (0, z1)]) (r := []) (x := 0) (ls0 := [(2, 0), (0, z1), (0, z2), (0, z3), (0, z4)]) gz_0_1764 gm_137 rfl is_0 rd_9 rfl rfl rfl rfl rfl (c_ThroughWindow_moves (d := 27) (x1 := z1) (x2 := z2) (x3 := z3) (x4 := z4)  ?_ (fun y5 w6 w7 w8 w9 w10 w11 w12 w13 w14 w15 => ?_))
  ·
    show lwp p l e s m below meth c b D tys sg rho 1767 [(3, 0), (2, 0), (2, 151), (2, 203), (0, i), (9, 0), (9, 0)] [(0, (-1))] h kn
    refine lw_pop gz_0_1767 rfl ?_
    refine lw_aload_n gz_0_1768 rfl ?_
    refine lw_aload3_n gz_0_1769 rfl ?_
    refine lw_iload gz_0_1770 rfl ?_
    refine lw_iconst gz_0_1772 (by decide) ?_
    refine lw_iadd gz_0_1773 ⟨by omega, by omega⟩ ?_
    refine lw_sl gz_0_1774 hL4 hL (by omega) (by omega) (fun z16 ez16 pz16 qz16 => ?_)
    refine lw_aload3_n gz_0_1775 rfl ?_
    refine lw_iload gz_0_1776 rfl ?_
    refine lw_iconst gz_0_1778 (by decide) ?_
    refine lw_iadd gz_0_1779 ⟨by omega, by omega⟩ ?_
    refine lw_sl gz_0_1780 hL4 hL (by omega) (by omega) (fun z17 ez17 pz17 qz17 => ?_)
    refine lw_aload3_n gz_0_1781 rfl ?_
    refine lw_iload gz_0_1782 rfl ?_
    refine lw_iconst gz_0_1784 (by decide) ?_
    refine lw_iadd gz_0_1785 ⟨by omega, by omega⟩ ?_
    refine lw_sl gz_0_1786 hL4 hL (by omega) (by omega) (fun z18 ez18 pz18 qz18 => ?_)
    refine lw_aload3_n gz_0_1787 rfl ?_
    refine lw_iload gz_0_1788 rfl ?_
    refine lw_iconst gz_0_1790 (by decide) ?_
    refine lw_iadd gz_0_1791 ⟨by omega, by omega⟩ ?_
    refine lw_sl gz_0_1792 hL4 hL (by omega) (by omega) (fun z19 ez19 pz19 qz19 => ?_)
    refine lw_inv (kz := 0) (as := [(0, z19), (0, z18), (0, z17), (0, z16)]) (r := []) (x := 151) (ls0 := [(2, 151), (0, z16), (0, z17), (0, z18), (0, z19)]) gz_0_1793 gm_164 rfl is_151 rd_10 rfl rfl rfl rfl rfl (c_Model_moves (d := 26) (x1 := z16) (x2 := z17) (x3 := z18) (x4 := z19)  (fun h20 w21 w22 => ?_) (fun h23 y24 w25 w26 w27 w28 w29 w30 w31 w32 w33 w34 w35 w36 => ?_))
    ·
      have I_h20 : LInv h20 := ⟨Ln_ag (my_ag.fr w21 rfl) I.pLn, Mw_ag (my_ag.fr w21 rfl) I.pMw, Mw3_ag (my_ag.fr w21 rfl) I.pMw3, Rws_ag (my_ag.fr w21 rfl) I.pRws, Wrd_ag (my_ag.fr w21 rfl) I.pWrd, Ceq_ag (my_ag.fr w21 rfl) I.pCeq, Wd9_ag (my_ag.fr w21 rfl) I.pWd9, Teq_ag (my_ag.fr w21 rfl) I.pTeq, Wnq_ag (my_ag.fr w21 rfl) I.pWnq⟩
      show lwp p l e s m below meth c b D tys sg rho 1796 [(3, 0), (2, 0), (2, 151), (2, 203), (0, i), (9, 0), (9, 0)] [(0, (-1))] h20 kn
      refine lw_pop gz_0_1796 rfl ?_
      refine lw_goto (t := 1878) gz_0_1797 rfl ?_
      exact K h20 I_h20
    ·
      have I_h23 : LInv h23 := ⟨Ln_ag (my_ag.fr w25 rfl) I.pLn, Mw_ag (my_ag.fr w25 rfl) I.pMw, Mw3_ag (my_ag.fr w25 rfl) I.pMw3, Rws_ag (my_ag.fr w25 rfl) I.pRws, Wrd_ag (my_ag.fr w25 rfl) I.pWrd, Ceq_ag (my_ag.fr w25 rfl) I.pCeq, Wd9_ag (my_ag.fr w25 rfl) I.pWd9, Teq_ag (my_ag.fr w25 rfl) I.pTeq, Wnq_ag (my_ag.fr w25 rfl) I.pWnq⟩
      show lwp p l e s m below meth c b D tys sg rho 1796 [(3, 0), (2, 0), (2, 151), (2, 203), (0, i), (9, 0), (9, 0)] [(0, y24)] h23 kn
      refine lw_pop gz_0_1796 rfl ?_
      refine lw_goto (t := 1878) gz_0_1797 rfl ?_
      exact K h23 I_h23
  ·
    show lwp p l e s m below meth c b D tys sg rho 1767 [(3, 0), (2, 0), (2, 151), (2, 203), (0, i), (9, 0), (9, 0)] [(0, y5)] h kn
    refine lw_pop gz_0_1767 rfl ?_
    refine lw_aload_n gz_0_1768 rfl ?_
    refine lw_aload3_n gz_0_1769 rfl ?_
    refine lw_iload gz_0_1770 rfl ?_
    refine lw_iconst gz_0_1772 (by decide) ?_
    refine lw_iadd gz_0_1773 ⟨by omega, by omega⟩ ?_
    refine lw_sl gz_0_1774 hL4 hL (by omega) (by omega) (fun z37 ez37 pz37 qz37 => ?_)
    refine lw_aload3_n gz_0_1775 rfl ?_
    refine lw_iload gz_0_1776 rfl ?_
    refine lw_iconst gz_0_1778 (by decide) ?_
    refine lw_iadd gz_0_1779 ⟨by omega, by omega⟩ ?_
    refine lw_sl gz_0_1780 hL4 hL (by omega) (by omega) (fun z38 ez38 pz38 qz38 => ?_)
    refine lw_aload3_n gz_0_1781 rfl ?_
    refine lw_iload gz_0_1782 rfl ?_
    refine lw_iconst gz_0_1784 (by decide) ?_
    refine lw_iadd gz_0_1785 ⟨by omega, by omega⟩ ?_
    refine lw_sl gz_0_1786 hL4 hL (by omega) (by omega) (fun z39 ez39 pz39 qz39 => ?_)
    refine lw_aload3_n gz_0_1787 rfl ?_
    refine lw_iload gz_0_1788 rfl ?_
    refine lw_iconst gz_0_1790 (by decide) ?_
    refine lw_iadd gz_0_1791 ⟨by omega, by omega⟩ ?_
    refine lw_sl gz_0_1792 hL4 hL (by omega) (by omega) (fun z40 ez40 pz40 qz40 => ?_)
    refine lw_inv (kz := 0) (as := [(0, z40), (0, z39), (0, z38), (0, z37)]) (r := []) (x := 151) (ls0 := [(2, 151), (0, z37), (0, z38), (0, z39), (0, z40)]) gz_0_1793 gm_164 rfl is_151 rd_10 rfl rfl rfl rfl rfl (c_Model_moves (d := 26) (x1 := z37) (x2 := z38) (x3 := z39) (x4 := z40)  (fun h41 w42 w43 => ?_) (fun h44 y45 w46 w47 w48 w49 w50 w51 w52 w53 w54 w55 w56 w57 => ?_))
    ·
      have I_h41 : LInv h41 := ⟨Ln_ag (my_ag.fr w42 rfl) I.pLn, Mw_ag (my_ag.fr w42 rfl) I.pMw, Mw3_ag (my_ag.fr w42 rfl) I.pMw3, Rws_ag (my_ag.fr w42 rfl) I.pRws, Wrd_ag (my_ag.fr w42 rfl) I.pWrd, Ceq_ag (my_ag.fr w42 rfl) I.pCeq, Wd9_ag (my_ag.fr w42 rfl) I.pWd9, Teq_ag (my_ag.fr w42 rfl) I.pTeq, Wnq_ag (my_ag.fr w42 rfl) I.pWnq⟩
      show lwp p l e s m below meth c b D tys sg rho 1796 [(3, 0), (2, 0), (2, 151), (2, 203), (0, i), (9, 0), (9, 0)] [(0, (-1))] h41 kn
      refine lw_pop gz_0_1796 rfl ?_
      refine lw_goto (t := 1878) gz_0_1797 rfl ?_
      exact K h41 I_h41
    ·
      have I_h44 : LInv h44 := ⟨Ln_ag (my_ag.fr w46 rfl) I.pLn, Mw_ag (my_ag.fr w46 rfl) I.pMw, Mw3_ag (my_ag.fr w46 rfl) I.pMw3, Rws_ag (my_ag.fr w46 rfl) I.pRws, Wrd_ag (my_ag.fr w46 rfl) I.pWrd, Ceq_ag (my_ag.fr w46 rfl) I.pCeq, Wd9_ag (my_ag.fr w46 rfl) I.pWd9, Teq_ag (my_ag.fr w46 rfl) I.pTeq, Wnq_ag (my_ag.fr w46 rfl) I.pWnq⟩
      show lwp p l e s m below meth c b D tys sg rho 1796 [(3, 0), (2, 0), (2, 151), (2, 203), (0, i), (9, 0), (9, 0)] [(0, y45)] h44 kn
      refine lw_pop gz_0_1796 rfl ?_
      refine lw_goto (t := 1878) gz_0_1797 rfl ?_
      exact K h44 I_h44
theorem lcase_27 (hL4 : L4 ≤ 4096) (hL : rho 4096 = Int32.ofNat L4) (I : LInv h) (i0 : 0 ≤ i) (i8 : i + 8 ≤ L4) (K : ∀ h' : my_H, LInv h' → lwp p l e s m below meth c b D tys sg rho 1878 [(3, 0), (2, 0), (2, 151), (2, 203), (0, i), (9, 0), (9, 0)] [] h' kn) : lwp p l e s m below meth c b D tys sg rho 1800 [(3, 0), (2, 0), (2, 151), (2, 203), (0, i), (9, 0), (9, 0)] [] h kn := by
  refine lw_aload_n gz_0_1800 rfl ?_
  refine lw_aload3_n gz_0_1801 rfl ?_
  refine lw_iload gz_0_1802 rfl ?_
  refine lw_iconst gz_0_1804 (by decide) ?_
  refine lw_iadd gz_0_1805 ⟨by omega, by omega⟩ ?_
  refine lw_sl gz_0_1806 hL4 hL (by omega) (by omega) (fun z1 ez1 pz1 qz1 => ?_)
  refine lw_aload3_n gz_0_1807 rfl ?_
  refine lw_iload gz_0_1808 rfl ?_
  refine lw_iconst gz_0_1810 (by decide) ?_
  refine lw_iadd gz_0_1811 ⟨by omega, by omega⟩ ?_
  refine lw_sl gz_0_1812 hL4 hL (by omega) (by omega) (fun z2 ez2 pz2 qz2 => ?_)
  refine lw_ifeq (t := 1820) gz_0_1813 rfl (fun u3 => ?_) (fun u3 => ?_)
  ·
    refine lw_iconst gz_0_1820 (by decide) ?_
    refine lw_inv (kz := 0) (as := [(0, 0), (0, z1)]) (r := []) (x := 0) (ls0 := [(2, 0), (0, z1), (0, 0)]) gz_0_1821 gm_138 rfl is_0 rd_9 rfl rfl rfl rfl rfl (c_ThroughWindow_mark (d := 25) (x1 := z1) (x2 := 0) (by omega) (by omega) (fun h4 w5 => ?_) (fun h6 w7 w8 w9 => ?_))
    ·
      have I_h4 : LInv h4 := ⟨Ln_ag (my_ag.fr w5 rfl) I.pLn, Mw_ag (my_ag.fr w5 rfl) I.pMw, Mw3_ag (my_ag.fr w5 rfl) I.pMw3, Rws_ag (my_ag.fr w5 rfl) I.pRws, Wrd_ag (my_ag.fr w5 rfl) I.pWrd, Ceq_ag (my_ag.fr w5 rfl) I.pCeq, Wd9_ag (my_ag.fr w5 rfl) I.pWd9, Teq_ag (my_ag.fr w5 rfl) I.pTeq, Wnq_ag (my_ag.fr w5 rfl) I.pWnq⟩
      show lwp p l e s m below meth c b D tys sg rho 1824 [(3, 0), (2, 0), (2, 151), (2, 203), (0, i), (9, 0), (9, 0)] [(0, 0)] h4 kn
      refine lw_pop gz_0_1824 rfl ?_
      refine lw_aload_n gz_0_1825 rfl ?_
      refine lw_aload3_n gz_0_1826 rfl ?_
      refine lw_iload gz_0_1827 rfl ?_
      refine lw_iconst gz_0_1829 (by decide) ?_
      refine lw_iadd gz_0_1830 ⟨by omega, by omega⟩ ?_
      refine lw_sl gz_0_1831 hL4 hL (by omega) (by omega) (fun z10 ez10 pz10 qz10 => ?_)
      refine lw_aload3_n gz_0_1832 rfl ?_
      refine lw_iload gz_0_1833 rfl ?_
      refine lw_iconst gz_0_1835 (by decide) ?_
      refine lw_iadd gz_0_1836 ⟨by omega, by omega⟩ ?_
      refine lw_sl gz_0_1837 hL4 hL (by omega) (by omega) (fun z11 ez11 pz11 qz11 => ?_)
      refine lw_ifeq (t := 1845) gz_0_1838 rfl (fun u12 => ?_) (fun u12 => ?_)
      ·
        refine lw_iconst gz_0_1845 (by decide) ?_
        refine lw_inv (kz := 0) (as := [(0, 0), (0, z10)]) (r := []) (x := 151) (ls0 := [(2, 151), (0, z10), (0, 0)]) gz_0_1846 gm_248 rfl is_151 rd_10 rfl rfl rfl rfl rfl (c_Model_mark2 (d := 25) (x1 := z10) (x2 := 0) (by omega) (by omega) I_h4.pRws (fun h13 w14 w15 w16 => ?_) (fun h17 w18 w19 w20 w21 w22 => ?_))
        ·
          have I_h13 : LInv h13 := ⟨Ln_ag (my_ag.fr w14 rfl) I_h4.pLn, Mw_ag (my_ag.fr w14 rfl) I_h4.pMw, Mw3_ag (my_ag.fr w14 rfl) I_h4.pMw3, w16, Wrd_ag (my_ag.fr w14 rfl) I_h4.pWrd, Ceq_ag (my_ag.fr w14 rfl) I_h4.pCeq, Wd9_ag (my_ag.fr w14 rfl) I_h4.pWd9, Teq_ag (my_ag.fr w14 rfl) I_h4.pTeq, Wnq_ag (my_ag.fr w14 rfl) I_h4.pWnq⟩
          show lwp p l e s m below meth c b D tys sg rho 1849 [(3, 0), (2, 0), (2, 151), (2, 203), (0, i), (9, 0), (9, 0)] [(0, 0)] h13 kn
          refine lw_pop gz_0_1849 rfl ?_
          refine lw_goto (t := 1878) gz_0_1850 rfl ?_
          exact K h13 I_h13
        ·
          have I_h17 : LInv h17 := ⟨Ln_ag (my_ag.fr w18 rfl) I_h4.pLn, Mw_ag (my_ag.fr w18 rfl) I_h4.pMw, Mw3_ag (my_ag.fr w18 rfl) I_h4.pMw3, w22, Wrd_ag (my_ag.fr w18 rfl) I_h4.pWrd, Ceq_ag (my_ag.fr w18 rfl) I_h4.pCeq, Wd9_ag (my_ag.fr w18 rfl) I_h4.pWd9, Teq_ag (my_ag.fr w18 rfl) I_h4.pTeq, Wnq_ag (my_ag.fr w18 rfl) I_h4.pWnq⟩
          show lwp p l e s m below meth c b D tys sg rho 1849 [(3, 0), (2, 0), (2, 151), (2, 203), (0, i), (9, 0), (9, 0)] [(0, 1)] h17 kn
          refine lw_pop gz_0_1849 rfl ?_
          refine lw_goto (t := 1878) gz_0_1850 rfl ?_
          exact K h17 I_h17
      ·
        refine lw_iconst gz_0_1841 (by decide) ?_
        refine lw_goto (t := 1846) gz_0_1842 rfl ?_
        refine lw_inv (kz := 0) (as := [(0, 1), (0, z10)]) (r := []) (x := 151) (ls0 := [(2, 151), (0, z10), (0, 1)]) gz_0_1846 gm_248 rfl is_151 rd_10 rfl rfl rfl rfl rfl (c_Model_mark2 (d := 25) (x1 := z10) (x2 := 1) (by omega) (by omega) I_h4.pRws (fun h23 w24 w25 w26 => ?_) (fun h27 w28 w29 w30 w31 w32 => ?_))
        ·
          have I_h23 : LInv h23 := ⟨Ln_ag (my_ag.fr w24 rfl) I_h4.pLn, Mw_ag (my_ag.fr w24 rfl) I_h4.pMw, Mw3_ag (my_ag.fr w24 rfl) I_h4.pMw3, w26, Wrd_ag (my_ag.fr w24 rfl) I_h4.pWrd, Ceq_ag (my_ag.fr w24 rfl) I_h4.pCeq, Wd9_ag (my_ag.fr w24 rfl) I_h4.pWd9, Teq_ag (my_ag.fr w24 rfl) I_h4.pTeq, Wnq_ag (my_ag.fr w24 rfl) I_h4.pWnq⟩
          show lwp p l e s m below meth c b D tys sg rho 1849 [(3, 0), (2, 0), (2, 151), (2, 203), (0, i), (9, 0), (9, 0)] [(0, 0)] h23 kn
          refine lw_pop gz_0_1849 rfl ?_
          refine lw_goto (t := 1878) gz_0_1850 rfl ?_
          exact K h23 I_h23
        ·
          have I_h27 : LInv h27 := ⟨Ln_ag (my_ag.fr w28 rfl) I_h4.pLn, Mw_ag (my_ag.fr w28 rfl) I_h4.pMw, Mw3_ag (my_ag.fr w28 rfl) I_h4.pMw3, w32, Wrd_ag (my_ag.fr w28 rfl) I_h4.pWrd, Ceq_ag (my_ag.fr w28 rfl) I_h4.pCeq, Wd9_ag (my_ag.fr w28 rfl) I_h4.pWd9, Teq_ag (my_ag.fr w28 rfl) I_h4.pTeq, Wnq_ag (my_ag.fr w28 rfl) I_h4.pWnq⟩
          show lwp p l e s m below meth c b D tys sg rho 1849 [(3, 0), (2, 0), (2, 151), (2, 203), (0, i), (9, 0), (9, 0)] [(0, 1)] h27 kn
          refine lw_pop gz_0_1849 rfl ?_
          refine lw_goto (t := 1878) gz_0_1850 rfl ?_
          exact K h27 I_h27
    ·
      have I_h6 : LInv h6 := ⟨Ln_ag (my_ag.fr w7 rfl) I.pLn, Mw_ag (my_ag.fr w7 rfl) I.pMw, Mw3_ag (my_ag.fr w7 rfl) I.pMw3, Rws_ag (my_ag.fr w7 rfl) I.pRws, Wrd_ag (my_ag.fr w7 rfl) I.pWrd, Ceq_ag (my_ag.fr w7 rfl) I.pCeq, Wd9_ag (my_ag.fr w7 rfl) I.pWd9, Teq_ag (my_ag.fr w7 rfl) I.pTeq, Wnq_ag (my_ag.fr w7 rfl) I.pWnq⟩
      show lwp p l e s m below meth c b D tys sg rho 1824 [(3, 0), (2, 0), (2, 151), (2, 203), (0, i), (9, 0), (9, 0)] [(0, 1)] h6 kn
      refine lw_pop gz_0_1824 rfl ?_
      refine lw_aload_n gz_0_1825 rfl ?_
      refine lw_aload3_n gz_0_1826 rfl ?_
      refine lw_iload gz_0_1827 rfl ?_
      refine lw_iconst gz_0_1829 (by decide) ?_
      refine lw_iadd gz_0_1830 ⟨by omega, by omega⟩ ?_
      refine lw_sl gz_0_1831 hL4 hL (by omega) (by omega) (fun z33 ez33 pz33 qz33 => ?_)
      refine lw_aload3_n gz_0_1832 rfl ?_
      refine lw_iload gz_0_1833 rfl ?_
      refine lw_iconst gz_0_1835 (by decide) ?_
      refine lw_iadd gz_0_1836 ⟨by omega, by omega⟩ ?_
      refine lw_sl gz_0_1837 hL4 hL (by omega) (by omega) (fun z34 ez34 pz34 qz34 => ?_)
      refine lw_ifeq (t := 1845) gz_0_1838 rfl (fun u35 => ?_) (fun u35 => ?_)
      ·
        refine lw_iconst gz_0_1845 (by decide) ?_
        refine lw_inv (kz := 0) (as := [(0, 0), (0, z33)]) (r := []) (x := 151) (ls0 := [(2, 151), (0, z33), (0, 0)]) gz_0_1846 gm_248 rfl is_151 rd_10 rfl rfl rfl rfl rfl (c_Model_mark2 (d := 25) (x1 := z33) (x2 := 0) (by omega) (by omega) I_h6.pRws (fun h36 w37 w38 w39 => ?_) (fun h40 w41 w42 w43 w44 w45 => ?_))
        ·
          have I_h36 : LInv h36 := ⟨Ln_ag (my_ag.fr w37 rfl) I_h6.pLn, Mw_ag (my_ag.fr w37 rfl) I_h6.pMw, Mw3_ag (my_ag.fr w37 rfl) I_h6.pMw3, w39, Wrd_ag (my_ag.fr w37 rfl) I_h6.pWrd, Ceq_ag (my_ag.fr w37 rfl) I_h6.pCeq, Wd9_ag (my_ag.fr w37 rfl) I_h6.pWd9, Teq_ag (my_ag.fr w37 rfl) I_h6.pTeq, Wnq_ag (my_ag.fr w37 rfl) I_h6.pWnq⟩
          show lwp p l e s m below meth c b D tys sg rho 1849 [(3, 0), (2, 0), (2, 151), (2, 203), (0, i), (9, 0), (9, 0)] [(0, 0)] h36 kn
          refine lw_pop gz_0_1849 rfl ?_
          refine lw_goto (t := 1878) gz_0_1850 rfl ?_
          exact K h36 I_h36
        ·
          have I_h40 : LInv h40 := ⟨Ln_ag (my_ag.fr w41 rfl) I_h6.pLn, Mw_ag (my_ag.fr w41 rfl) I_h6.pMw, Mw3_ag (my_ag.fr w41 rfl) I_h6.pMw3, w45, Wrd_ag (my_ag.fr w41 rfl) I_h6.pWrd, Ceq_ag (my_ag.fr w41 rfl) I_h6.pCeq, Wd9_ag (my_ag.fr w41 rfl) I_h6.pWd9, Teq_ag (my_ag.fr w41 rfl) I_h6.pTeq, Wnq_ag (my_ag.fr w41 rfl) I_h6.pWnq⟩
          show lwp p l e s m below meth c b D tys sg rho 1849 [(3, 0), (2, 0), (2, 151), (2, 203), (0, i), (9, 0), (9, 0)] [(0, 1)] h40 kn
          refine lw_pop gz_0_1849 rfl ?_
          refine lw_goto (t := 1878) gz_0_1850 rfl ?_
          exact K h40 I_h40
      ·
        refine lw_iconst gz_0_1841 (by decide) ?_
        refine lw_goto (t := 1846) gz_0_1842 rfl ?_
        refine lw_inv (kz := 0) (as := [(0, 1), (0, z33)]) (r := []) (x := 151) (ls0 := [(2, 151), (0, z33), (0, 1)]) gz_0_1846 gm_248 rfl is_151 rd_10 rfl rfl rfl rfl rfl (c_Model_mark2 (d := 25) (x1 := z33) (x2 := 1) (by omega) (by omega) I_h6.pRws (fun h46 w47 w48 w49 => ?_) (fun h50 w51 w52 w53 w54 w55 => ?_))
        ·
          have I_h46 : LInv h46 := ⟨Ln_ag (my_ag.fr w47 rfl) I_h6.pLn, Mw_ag (my_ag.fr w47 rfl) I_h6.pMw, Mw3_ag (my_ag.fr w47 rfl) I_h6.pMw3, w49, Wrd_ag (my_ag.fr w47 rfl) I_h6.pWrd, Ceq_ag (my_ag.fr w47 rfl) I_h6.pCeq, Wd9_ag (my_ag.fr w47 rfl) I_h6.pWd9, Teq_ag (my_ag.fr w47 rfl) I_h6.pTeq, Wnq_ag (my_ag.fr w47 rfl) I_h6.pWnq⟩
          show lwp p l e s m below meth c b D tys sg rho 1849 [(3, 0), (2, 0), (2, 151), (2, 203), (0, i), (9, 0), (9, 0)] [(0, 0)] h46 kn
          refine lw_pop gz_0_1849 rfl ?_
          refine lw_goto (t := 1878) gz_0_1850 rfl ?_
          exact K h46 I_h46
        ·
          have I_h50 : LInv h50 := ⟨Ln_ag (my_ag.fr w51 rfl) I_h6.pLn, Mw_ag (my_ag.fr w51 rfl) I_h6.pMw, Mw3_ag (my_ag.fr w51 rfl) I_h6.pMw3, w55, Wrd_ag (my_ag.fr w51 rfl) I_h6.pWrd, Ceq_ag (my_ag.fr w51 rfl) I_h6.pCeq, Wd9_ag (my_ag.fr w51 rfl) I_h6.pWd9, Teq_ag (my_ag.fr w51 rfl) I_h6.pTeq, Wnq_ag (my_ag.fr w51 rfl) I_h6.pWnq⟩
          show lwp p l e s m below meth c b D tys sg rho 1849 [(3, 0), (2, 0), (2, 151), (2, 203), (0, i), (9, 0), (9, 0)] [(0, 1)] h50 kn
          refine lw_pop gz_0_1849 rfl ?_
          refine lw_goto (t := 1878) gz_0_1850 rfl ?_
          exact K h50 I_h50
  ·
    refine lw_iconst gz_0_1816 (by decide) ?_
    refine lw_goto (t := 1821) gz_0_1817 rfl ?_
    refine lw_inv (kz := 0) (as := [(0, 1), (0, z1)]) (r := []) (x := 0) (ls0 := [(2, 0), (0, z1), (0, 1)]) gz_0_1821 gm_138 rfl is_0 rd_9 rfl rfl rfl rfl rfl (c_ThroughWindow_mark (d := 25) (x1 := z1) (x2 := 1) (by omega) (by omega) (fun h56 w57 => ?_) (fun h58 w59 w60 w61 => ?_))
    ·
      have I_h56 : LInv h56 := ⟨Ln_ag (my_ag.fr w57 rfl) I.pLn, Mw_ag (my_ag.fr w57 rfl) I.pMw, Mw3_ag (my_ag.fr w57 rfl) I.pMw3, Rws_ag (my_ag.fr w57 rfl) I.pRws, Wrd_ag (my_ag.fr w57 rfl) I.pWrd, Ceq_ag (my_ag.fr w57 rfl) I.pCeq, Wd9_ag (my_ag.fr w57 rfl) I.pWd9, Teq_ag (my_ag.fr w57 rfl) I.pTeq, Wnq_ag (my_ag.fr w57 rfl) I.pWnq⟩
      show lwp p l e s m below meth c b D tys sg rho 1824 [(3, 0), (2, 0), (2, 151), (2, 203), (0, i), (9, 0), (9, 0)] [(0, 0)] h56 kn
      refine lw_pop gz_0_1824 rfl ?_
      refine lw_aload_n gz_0_1825 rfl ?_
      refine lw_aload3_n gz_0_1826 rfl ?_
      refine lw_iload gz_0_1827 rfl ?_
      refine lw_iconst gz_0_1829 (by decide) ?_
      refine lw_iadd gz_0_1830 ⟨by omega, by omega⟩ ?_
      refine lw_sl gz_0_1831 hL4 hL (by omega) (by omega) (fun z62 ez62 pz62 qz62 => ?_)
      refine lw_aload3_n gz_0_1832 rfl ?_
      refine lw_iload gz_0_1833 rfl ?_
      refine lw_iconst gz_0_1835 (by decide) ?_
      refine lw_iadd gz_0_1836 ⟨by omega, by omega⟩ ?_
      refine lw_sl gz_0_1837 hL4 hL (by omega) (by omega) (fun z63 ez63 pz63 qz63 => ?_)
      refine lw_ifeq (t := 1845) gz_0_1838 rfl (fun u64 => ?_) (fun u64 => ?_)
      ·
        refine lw_iconst gz_0_1845 (by decide) ?_
        refine lw_inv (kz := 0) (as := [(0, 0), (0, z62)]) (r := []) (x := 151) (ls0 := [(2, 151), (0, z62), (0, 0)]) gz_0_1846 gm_248 rfl is_151 rd_10 rfl rfl rfl rfl rfl (c_Model_mark2 (d := 25) (x1 := z62) (x2 := 0) (by omega) (by omega) I_h56.pRws (fun h65 w66 w67 w68 => ?_) (fun h69 w70 w71 w72 w73 w74 => ?_))
        ·
          have I_h65 : LInv h65 := ⟨Ln_ag (my_ag.fr w66 rfl) I_h56.pLn, Mw_ag (my_ag.fr w66 rfl) I_h56.pMw, Mw3_ag (my_ag.fr w66 rfl) I_h56.pMw3, w68, Wrd_ag (my_ag.fr w66 rfl) I_h56.pWrd, Ceq_ag (my_ag.fr w66 rfl) I_h56.pCeq, Wd9_ag (my_ag.fr w66 rfl) I_h56.pWd9, Teq_ag (my_ag.fr w66 rfl) I_h56.pTeq, Wnq_ag (my_ag.fr w66 rfl) I_h56.pWnq⟩
          show lwp p l e s m below meth c b D tys sg rho 1849 [(3, 0), (2, 0), (2, 151), (2, 203), (0, i), (9, 0), (9, 0)] [(0, 0)] h65 kn
          refine lw_pop gz_0_1849 rfl ?_
          refine lw_goto (t := 1878) gz_0_1850 rfl ?_
          exact K h65 I_h65
        ·
          have I_h69 : LInv h69 := ⟨Ln_ag (my_ag.fr w70 rfl) I_h56.pLn, Mw_ag (my_ag.fr w70 rfl) I_h56.pMw, Mw3_ag (my_ag.fr w70 rfl) I_h56.pMw3, w74, Wrd_ag (my_ag.fr w70 rfl) I_h56.pWrd, Ceq_ag (my_ag.fr w70 rfl) I_h56.pCeq, Wd9_ag (my_ag.fr w70 rfl) I_h56.pWd9, Teq_ag (my_ag.fr w70 rfl) I_h56.pTeq, Wnq_ag (my_ag.fr w70 rfl) I_h56.pWnq⟩
          show lwp p l e s m below meth c b D tys sg rho 1849 [(3, 0), (2, 0), (2, 151), (2, 203), (0, i), (9, 0), (9, 0)] [(0, 1)] h69 kn
          refine lw_pop gz_0_1849 rfl ?_
          refine lw_goto (t := 1878) gz_0_1850 rfl ?_
          exact K h69 I_h69
      ·
        refine lw_iconst gz_0_1841 (by decide) ?_
        refine lw_goto (t := 1846) gz_0_1842 rfl ?_
        refine lw_inv (kz := 0) (as := [(0, 1), (0, z62)]) (r := []) (x := 151) (ls0 := [(2, 151), (0, z62), (0, 1)]) gz_0_1846 gm_248 rfl is_151 rd_10 rfl rfl rfl rfl rfl (c_Model_mark2 (d := 25) (x1 := z62) (x2 := 1) (by omega) (by omega) I_h56.pRws (fun h75 w76 w77 w78 => ?_) (fun h79 w80 w81 w82 w83 w84 => ?_))
        ·
          have I_h75 : LInv h75 := ⟨Ln_ag (my_ag.fr w76 rfl) I_h56.pLn, Mw_ag (my_ag.fr w76 rfl) I_h56.pMw, Mw3_ag (my_ag.fr w76 rfl) I_h56.pMw3, w78, Wrd_ag (my_ag.fr w76 rfl) I_h56.pWrd, Ceq_ag (my_ag.fr w76 rfl) I_h56.pCeq, Wd9_ag (my_ag.fr w76 rfl) I_h56.pWd9, Teq_ag (my_ag.fr w76 rfl) I_h56.pTeq, Wnq_ag (my_ag.fr w76 rfl) I_h56.pWnq⟩
          show lwp p l e s m below meth c b D tys sg rho 1849 [(3, 0), (2, 0), (2, 151), (2, 203), (0, i), (9, 0), (9, 0)] [(0, 0)] h75 kn
          refine lw_pop gz_0_1849 rfl ?_
          refine lw_goto (t := 1878) gz_0_1850 rfl ?_
          exact K h75 I_h75
        ·
          have I_h79 : LInv h79 := ⟨Ln_ag (my_ag.fr w80 rfl) I_h56.pLn, Mw_ag (my_ag.fr w80 rfl) I_h56.pMw, Mw3_ag (my_ag.fr w80 rfl) I_h56.pMw3, w84, Wrd_ag (my_ag.fr w80 rfl) I_h56.pWrd, Ceq_ag (my_ag.fr w80 rfl) I_h56.pCeq, Wd9_ag (my_ag.fr w80 rfl) I_h56.pWd9, Teq_ag (my_ag.fr w80 rfl) I_h56.pTeq, Wnq_ag (my_ag.fr w80 rfl) I_h56.pWnq⟩
          show lwp p l e s m below meth c b D tys sg rho 1849 [(3, 0), (2, 0), (2, 151), (2, 203), (0, i), (9, 0), (9, 0)] [(0, 1)] h79 kn
          refine lw_pop gz_0_1849 rfl ?_
          refine lw_goto (t := 1878) gz_0_1850 rfl ?_
          exact K h79 I_h79
    ·
      have I_h58 : LInv h58 := ⟨Ln_ag (my_ag.fr w59 rfl) I.pLn, Mw_ag (my_ag.fr w59 rfl) I.pMw, Mw3_ag (my_ag.fr w59 rfl) I.pMw3, Rws_ag (my_ag.fr w59 rfl) I.pRws, Wrd_ag (my_ag.fr w59 rfl) I.pWrd, Ceq_ag (my_ag.fr w59 rfl) I.pCeq, Wd9_ag (my_ag.fr w59 rfl) I.pWd9, Teq_ag (my_ag.fr w59 rfl) I.pTeq, Wnq_ag (my_ag.fr w59 rfl) I.pWnq⟩
      show lwp p l e s m below meth c b D tys sg rho 1824 [(3, 0), (2, 0), (2, 151), (2, 203), (0, i), (9, 0), (9, 0)] [(0, 1)] h58 kn
      refine lw_pop gz_0_1824 rfl ?_
      refine lw_aload_n gz_0_1825 rfl ?_
      refine lw_aload3_n gz_0_1826 rfl ?_
      refine lw_iload gz_0_1827 rfl ?_
      refine lw_iconst gz_0_1829 (by decide) ?_
      refine lw_iadd gz_0_1830 ⟨by omega, by omega⟩ ?_
      refine lw_sl gz_0_1831 hL4 hL (by omega) (by omega) (fun z85 ez85 pz85 qz85 => ?_)
      refine lw_aload3_n gz_0_1832 rfl ?_
      refine lw_iload gz_0_1833 rfl ?_
      refine lw_iconst gz_0_1835 (by decide) ?_
      refine lw_iadd gz_0_1836 ⟨by omega, by omega⟩ ?_
      refine lw_sl gz_0_1837 hL4 hL (by omega) (by omega) (fun z86 ez86 pz86 qz86 => ?_)
      refine lw_ifeq (t := 1845) gz_0_1838 rfl (fun u87 => ?_) (fun u87 => ?_)
      ·
        refine lw_iconst gz_0_1845 (by decide) ?_
        refine lw_inv (kz := 0) (as := [(0, 0), (0, z85)]) (r := []) (x := 151) (ls0 := [(2, 151), (0, z85), (0, 0)]) gz_0_1846 gm_248 rfl is_151 rd_10 rfl rfl rfl rfl rfl (c_Model_mark2 (d := 25) (x1 := z85) (x2 := 0) (by omega) (by omega) I_h58.pRws (fun h88 w89 w90 w91 => ?_) (fun h92 w93 w94 w95 w96 w97 => ?_))
        ·
          have I_h88 : LInv h88 := ⟨Ln_ag (my_ag.fr w89 rfl) I_h58.pLn, Mw_ag (my_ag.fr w89 rfl) I_h58.pMw, Mw3_ag (my_ag.fr w89 rfl) I_h58.pMw3, w91, Wrd_ag (my_ag.fr w89 rfl) I_h58.pWrd, Ceq_ag (my_ag.fr w89 rfl) I_h58.pCeq, Wd9_ag (my_ag.fr w89 rfl) I_h58.pWd9, Teq_ag (my_ag.fr w89 rfl) I_h58.pTeq, Wnq_ag (my_ag.fr w89 rfl) I_h58.pWnq⟩
          show lwp p l e s m below meth c b D tys sg rho 1849 [(3, 0), (2, 0), (2, 151), (2, 203), (0, i), (9, 0), (9, 0)] [(0, 0)] h88 kn
          refine lw_pop gz_0_1849 rfl ?_
          refine lw_goto (t := 1878) gz_0_1850 rfl ?_
          exact K h88 I_h88
        ·
          have I_h92 : LInv h92 := ⟨Ln_ag (my_ag.fr w93 rfl) I_h58.pLn, Mw_ag (my_ag.fr w93 rfl) I_h58.pMw, Mw3_ag (my_ag.fr w93 rfl) I_h58.pMw3, w97, Wrd_ag (my_ag.fr w93 rfl) I_h58.pWrd, Ceq_ag (my_ag.fr w93 rfl) I_h58.pCeq, Wd9_ag (my_ag.fr w93 rfl) I_h58.pWd9, Teq_ag (my_ag.fr w93 rfl) I_h58.pTeq, Wnq_ag (my_ag.fr w93 rfl) I_h58.pWnq⟩
          show lwp p l e s m below meth c b D tys sg rho 1849 [(3, 0), (2, 0), (2, 151), (2, 203), (0, i), (9, 0), (9, 0)] [(0, 1)] h92 kn
          refine lw_pop gz_0_1849 rfl ?_
          refine lw_goto (t := 1878) gz_0_1850 rfl ?_
          exact K h92 I_h92
      ·
        refine lw_iconst gz_0_1841 (by decide) ?_
        refine lw_goto (t := 1846) gz_0_1842 rfl ?_
        refine lw_inv (kz := 0) (as := [(0, 1), (0, z85)]) (r := []) (x := 151) (ls0 := [(2, 151), (0, z85), (0, 1)]) gz_0_1846 gm_248 rfl is_151 rd_10 rfl rfl rfl rfl rfl (c_Model_mark2 (d := 25) (x1 := z85) (x2 := 1) (by omega) (by omega) I_h58.pRws (fun h98 w99 w100 w101 => ?_) (fun h102 w103 w104 w105 w106 w107 => ?_))
        ·
          have I_h98 : LInv h98 := ⟨Ln_ag (my_ag.fr w99 rfl) I_h58.pLn, Mw_ag (my_ag.fr w99 rfl) I_h58.pMw, Mw3_ag (my_ag.fr w99 rfl) I_h58.pMw3, w101, Wrd_ag (my_ag.fr w99 rfl) I_h58.pWrd, Ceq_ag (my_ag.fr w99 rfl) I_h58.pCeq, Wd9_ag (my_ag.fr w99 rfl) I_h58.pWd9, Teq_ag (my_ag.fr w99 rfl) I_h58.pTeq, Wnq_ag (my_ag.fr w99 rfl) I_h58.pWnq⟩
          show lwp p l e s m below meth c b D tys sg rho 1849 [(3, 0), (2, 0), (2, 151), (2, 203), (0, i), (9, 0), (9, 0)] [(0, 0)] h98 kn
          refine lw_pop gz_0_1849 rfl ?_
          refine lw_goto (t := 1878) gz_0_1850 rfl ?_
          exact K h98 I_h98
        ·
          have I_h102 : LInv h102 := ⟨Ln_ag (my_ag.fr w103 rfl) I_h58.pLn, Mw_ag (my_ag.fr w103 rfl) I_h58.pMw, Mw3_ag (my_ag.fr w103 rfl) I_h58.pMw3, w107, Wrd_ag (my_ag.fr w103 rfl) I_h58.pWrd, Ceq_ag (my_ag.fr w103 rfl) I_h58.pCeq, Wd9_ag (my_ag.fr w103 rfl) I_h58.pWd9, Teq_ag (my_ag.fr w103 rfl) I_h58.pTeq, Wnq_ag (my_ag.fr w103 rfl) I_h58.pWnq⟩
          show lwp p l e s m below meth c b D tys sg rho 1849 [(3, 0), (2, 0), (2, 151), (2, 203), (0, i), (9, 0), (9, 0)] [(0, 1)] h102 kn
          refine lw_pop gz_0_1849 rfl ?_
          refine lw_goto (t := 1878) gz_0_1850 rfl ?_
          exact K h102 I_h102
theorem lcase_28 (hL4 : L4 ≤ 4096) (hL : rho 4096 = Int32.ofNat L4) (I : LInv h) (i0 : 0 ≤ i) (i8 : i + 8 ≤ L4) (K : ∀ h' : my_H, LInv h' → lwp p l e s m below meth c b D tys sg rho 1878 [(3, 0), (2, 0), (2, 151), (2, 203), (0, i), (9, 0), (9, 0)] [] h' kn) : lwp p l e s m below meth c b D tys sg rho 1853 [(3, 0), (2, 0), (2, 151), (2, 203), (0, i), (9, 0), (9, 0)] [] h kn := by
  refine lw_aload_n gz_0_1853 rfl ?_
  refine lw_aload3_n gz_0_1854 rfl ?_
  refine lw_iload gz_0_1855 rfl ?_
  refine lw_iconst gz_0_1857 (by decide) ?_
  refine lw_iadd gz_0_1858 ⟨by omega, by omega⟩ ?_
  refine lw_sl gz_0_1859 hL4 hL (by omega) (by omega) (fun z1 ez1 pz1 qz1 => ?_)
  refine lw_inv (kz := 0) (as := [(0, z1)]) (r := []) (x := 0) (ls0 := [(2, 0), (0, z1)]) gz_0_1860 gm_139 rfl is_0 rd_9 rfl rfl rfl rfl rfl (c_ThroughWindow_count (d := 28) (x1 := z1)  ?_ (fun y2 w3 w4 => ?_))
  ·
    show lwp p l e s m below meth c b D tys sg rho 1863 [(3, 0), (2, 0), (2, 151), (2, 203), (0, i), (9, 0), (9, 0)] [(0, (-1))] h kn
    refine lw_pop gz_0_1863 rfl ?_
    refine lw_aload_n gz_0_1864 rfl ?_
    refine lw_aload3_n gz_0_1865 rfl ?_
    refine lw_iload gz_0_1866 rfl ?_
    refine lw_iconst gz_0_1868 (by decide) ?_
    refine lw_iadd gz_0_1869 ⟨by omega, by omega⟩ ?_
    refine lw_sl gz_0_1870 hL4 hL (by omega) (by omega) (fun z5 ez5 pz5 qz5 => ?_)
    refine lw_inv (kz := 3) (as := [(0, z5)]) (r := []) (x := 151) (ls0 := [(2, 151), (0, z5), (9, 0), (9, 0), (9, 0)]) gz_0_1871 gm_249 rfl is_151 rd_10 rfl rfl rfl rfl rfl (c_Model_count (d := 27) (x1 := z5)  (fun h6 w7 w8 => ?_) (fun h9 y10 w11 w12 w13 w14 => ?_))
    ·
      have I_h6 : LInv h6 := ⟨Ln_ag (my_ag.fr w7 rfl) I.pLn, Mw_ag (my_ag.fr w7 rfl) I.pMw, Mw3_ag (my_ag.fr w7 rfl) I.pMw3, Rws_ag (my_ag.fr w7 rfl) I.pRws, Wrd_ag (my_ag.fr w7 rfl) I.pWrd, Ceq_ag (my_ag.fr w7 rfl) I.pCeq, Wd9_ag (my_ag.fr w7 rfl) I.pWd9, Teq_ag (my_ag.fr w7 rfl) I.pTeq, Wnq_ag (my_ag.fr w7 rfl) I.pWnq⟩
      show lwp p l e s m below meth c b D tys sg rho 1874 [(3, 0), (2, 0), (2, 151), (2, 203), (0, i), (9, 0), (9, 0)] [(0, (-1))] h6 kn
      refine lw_pop gz_0_1874 rfl ?_
      refine lw_goto (t := 1878) gz_0_1875 rfl ?_
      exact K h6 I_h6
    ·
      have I_h9 : LInv h9 := ⟨Ln_ag (my_ag.fr w11 rfl) I.pLn, Mw_ag (my_ag.fr w11 rfl) I.pMw, Mw3_ag (my_ag.fr w11 rfl) I.pMw3, Rws_ag (my_ag.fr w11 rfl) I.pRws, Wrd_ag (my_ag.fr w11 rfl) I.pWrd, Ceq_ag (my_ag.fr w11 rfl) I.pCeq, Wd9_ag (my_ag.fr w11 rfl) I.pWd9, Teq_ag (my_ag.fr w11 rfl) I.pTeq, Wnq_ag (my_ag.fr w11 rfl) I.pWnq⟩
      show lwp p l e s m below meth c b D tys sg rho 1874 [(3, 0), (2, 0), (2, 151), (2, 203), (0, i), (9, 0), (9, 0)] [(0, y10)] h9 kn
      refine lw_pop gz_0_1874 rfl ?_
      refine lw_goto (t := 1878) gz_0_1875 rfl ?_
      exact K h9 I_h9
  ·
    show lwp p l e s m below meth c b D tys sg rho 1863 [(3, 0), (2, 0), (2, 151), (2, 203), (0, i), (9, 0), (9, 0)] [(0, y2)] h kn
    refine lw_pop gz_0_1863 rfl ?_
    refine lw_aload_n gz_0_1864 rfl ?_
    refine lw_aload3_n gz_0_1865 rfl ?_
    refine lw_iload gz_0_1866 rfl ?_
    refine lw_iconst gz_0_1868 (by decide) ?_
    refine lw_iadd gz_0_1869 ⟨by omega, by omega⟩ ?_
    refine lw_sl gz_0_1870 hL4 hL (by omega) (by omega) (fun z15 ez15 pz15 qz15 => ?_)
    refine lw_inv (kz := 3) (as := [(0, z15)]) (r := []) (x := 151) (ls0 := [(2, 151), (0, z15), (9, 0), (9, 0), (9, 0)]) gz_0_1871 gm_249 rfl is_151 rd_10 rfl rfl rfl rfl rfl (c_Model_count (d := 27) (x1 := z15)  (fun h16 w17 w18 => ?_) (fun h19 y20 w21 w22 w23 w24 => ?_))
    ·
      have I_h16 : LInv h16 := ⟨Ln_ag (my_ag.fr w17 rfl) I.pLn, Mw_ag (my_ag.fr w17 rfl) I.pMw, Mw3_ag (my_ag.fr w17 rfl) I.pMw3, Rws_ag (my_ag.fr w17 rfl) I.pRws, Wrd_ag (my_ag.fr w17 rfl) I.pWrd, Ceq_ag (my_ag.fr w17 rfl) I.pCeq, Wd9_ag (my_ag.fr w17 rfl) I.pWd9, Teq_ag (my_ag.fr w17 rfl) I.pTeq, Wnq_ag (my_ag.fr w17 rfl) I.pWnq⟩
      show lwp p l e s m below meth c b D tys sg rho 1874 [(3, 0), (2, 0), (2, 151), (2, 203), (0, i), (9, 0), (9, 0)] [(0, (-1))] h16 kn
      refine lw_pop gz_0_1874 rfl ?_
      refine lw_goto (t := 1878) gz_0_1875 rfl ?_
      exact K h16 I_h16
    ·
      have I_h19 : LInv h19 := ⟨Ln_ag (my_ag.fr w21 rfl) I.pLn, Mw_ag (my_ag.fr w21 rfl) I.pMw, Mw3_ag (my_ag.fr w21 rfl) I.pMw3, Rws_ag (my_ag.fr w21 rfl) I.pRws, Wrd_ag (my_ag.fr w21 rfl) I.pWrd, Ceq_ag (my_ag.fr w21 rfl) I.pCeq, Wd9_ag (my_ag.fr w21 rfl) I.pWd9, Teq_ag (my_ag.fr w21 rfl) I.pTeq, Wnq_ag (my_ag.fr w21 rfl) I.pWnq⟩
      show lwp p l e s m below meth c b D tys sg rho 1874 [(3, 0), (2, 0), (2, 151), (2, 203), (0, i), (9, 0), (9, 0)] [(0, y20)] h19 kn
      refine lw_pop gz_0_1874 rfl ?_
      refine lw_goto (t := 1878) gz_0_1875 rfl ?_
      exact K h19 I_h19
end MRB
