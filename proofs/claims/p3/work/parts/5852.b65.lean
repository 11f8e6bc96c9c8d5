/-! contracts, printed by wip/gen/gy.py -/
section MYNModel_findWays5
theorem c_Model_findWays5 {l : Launch} {rho : Nat → Int32} {d : Nat} {h : my_H} {Q : my_H → my_V → Prop} {x1 x2 x3 x4 x5 x6 : Int} (a1 : 0 ≤ x1) (b1 : x1 ≤ 15) (a2 : 0 ≤ x2) (b2 : x2 ≤ 5) (a3 : 0 ≤ x3) (b3 : x3 ≤ 2) (n_Mw : Mw h) (n_Mw3 : Mw3 h) (n_Rws : Rws h) (n_Fp : Fp h x2) (hv : x3 = 0 → 0 ≤ x6) (s8 : x1 ≠ 8) (hlm : LmW h) (hlf : zqLf (zqMA h) (zqMS h x1)) (hmd : MdOk h x1 x2 x3 x4 x5 x6) (k0 : ∀ (h' : my_H), my_fr [(10, 27), (10, 32), (10, 33), (10, 37), (10, 46), (10, 48), (61, -1), (62, -1), (73, -1), (74, -1), (75, -1), (76, -1), (77, -1), (78, -1), (79, -1), (80, -1), (81, -1), (82, -1), (83, -1), (84, -1), (85, -1), (86, -1), (88, -1), (89, -1), (90, -1), (91, -1), (92, -1), (93, -1), (94, -1)] h h' → FwA h h' x1 x2 x3 x4 x5 x6 → FwZ h h' x1 x2 → Ot8 h h' → Rws h' → Wys h' → Q h' (9, 0)) : wp l rho (d + 6) 209 0 [(2, 151), (0, x1), (0, x2), (0, x3), (0, x4), (0, x5), (0, x6), (9, 0), (9, 0), (9, 0), (9, 0)] [] h Q := by
  refine v_knowA (x := 162) is_162 rd_61 (fun kT => ?_)
  refine v_knowA (x := 162) pis_162 rd_61 (fun kT0 => ?_)
  refine v_knowA (x := 163) pis_163 rd_62 (fun kV0 => ?_)
  refine v_knowA (x := 160) pis_160 rd_59 (fun kN0 => ?_)
  refine v_knowA (x := 157) pis_157 rd_56 (fun kC0 => ?_)
  have T0 : MTy h := ⟨kV0, kT0, kN0, kC0⟩
  refine v_knowA (x := 188) pis_188 rd_87 (fun kD0 => ?_)
  refine v_knowA (x := 173) pis_173 rd_72 (fun kF0 => ?_)
  refine v_knowA (x := 166) pis_166 rd_65 (fun kP0 => ?_)
  have tx : h 164 x2 = 1 := n_Fp.1 (by omega)
  have lm0 := hlm _ a2 b2 tx
  have cb0 := cmM_bd (c := 0) a2 b2 hlm tx (fun j a b => kD0 j a (by omega)) (fun j a b => (kF0 j a (by omega)).2) (fun j a b => by have q := kP0 j a (by omega); omega) (by omega) (by omega)
  have J136_0 : ∀ (n : Nat) (p136_0 p136_1 : Int) (h136_0 : my_H), my_fr [(10, 27), (10, 32), (10, 33), (10, 37), (10, 46), (10, 48), (61, -1), (62, -1), (73, -1), (74, -1), (75, -1), (76, -1), (77, -1), (78, -1), (79, -1), (80, -1), (81, -1), (82, -1), (83, -1), (84, -1), (85, -1), (86, -1), (88, -1), (89, -1), (90, -1), (91, -1), (92, -1), (93, -1), (94, -1)] h h136_0 → 0 ≤ p136_1 → p136_1 ≤ 60 → Mw h136_0 → Mw3 h136_0 → Rws h136_0 → Fp h136_0 x2 → (∀ j : Int, 60 * x1 ≤ j → j < 60 * x1 + 60 → h136_0 162 j = h 162 j) → (∀ j : Int, 0 ≤ j → j < 60 → h136_0 162 (480 + j) = h 162 (60 * x1 + j)) → h136_0 151 48 ≤ 1711 + rc h (60 * x1) p136_1.toNat → Wys h136_0 → FwA h h136_0 x1 x2 x3 x4 x5 x6 → zqAg (zqMS h x1) (zqMS h136_0 8) → UwB p136_0 (mBs h x2) (mCW h x2) → Ot8 h h136_0 → Fw2 h h136_0 x1 x2 p136_1 → 61 - p136_1 ≤ (n : Int) → wp l rho (d + 6) 209 136 [(2, 151), (0, x1), (0, x2), (0, x3), (0, x4), (0, x5), (0, x6), (0, p136_0), (0, p136_1), (9, 0), (9, 0)] [] h136_0 Q := by
    intro n
    induction n with
    | zero => intro p136_0 p136_1 h136_0 gh_136_0 q0_136_0 q1_136_0 n_Mw_136_0 n_Mw3_136_0 n_Rws_136_0 n_Fp_136_0 ts_136_0 tp8_136_0 wb_136_0 wy_136_0 fa_136_0 ms_136_0 uw_136_0 ot_136_0 f2_136_0 hm_136_0; exfalso; omega
    | succ n ih_136_0 =>
      intro p136_0 p136_1 h136_0 gh_136_0 q0_136_0 q1_136_0 n_Mw_136_0 n_Mw3_136_0 n_Rws_136_0 n_Fp_136_0 ts_136_0 tp8_136_0 wb_136_0 wy_136_0 fa_136_0 ms_136_0 uw_136_0 ot_136_0 f2_136_0 hm_136_0
      have Wys_h136_0t1 : Wys h136_0 := wy_136_0
      refine w_iload gz_209_136 rfl ?_
      refine w_bipush gz_209_138 (by decide) ?_
      refine w_icge (t := 238) gz_209_140 rfl (fun u2 => ?_) (fun u2 => ?_)
      ·
        have r3 := rc_60 (s := x1) kT n_Rws (by omega) (by omega) p136_1 (by omega) (by omega)
        have f2_136e : Fw2 h h136_0 x1 x2 60 := by
          have q := f2_136_0
          rw [show p136_1 = 60 by omega] at q
          exact q
        refine w_aload_n gz_209_238 rfl ?_
        refine w_bipush gz_209_239 (by decide) ?_
        refine w_iload_n gz_209_241 rfl ?_
        have ag242 : my_ag LmF h h136_0 := (my_ag.fr (F := LmF) gh_136_0 rfl)
        have e188q : ∀ j : Int, h136_0 188 j = h 188 j := fun j => my_fr.at gh_136_0 pis_188 rfl
        have cm242 := cmM_cg (w := x2) ag242 e188q
        have okI := CmOk_m ag242 e188q ms_136_0 lm0.2.1 lm0.2.2.1 cb0
        refine w_inv (k := 0) (as := [(0, x2), (0, 8)]) (r := []) (x := 151) (ls0 := [(2, 151), (0, 8), (0, x2)]) gz_209_242 gm_216 rfl is_151 rd_10 rfl rfl rfl rfl rfl (c_Model_comes6 (d := (d + 2)) (x1 := 8) (x2 := x2) (by omega) (by omega) (by omega) (by omega) n_Mw_136_0 n_Rws_136_0 (by first | assumption | exact n_Fp_136_0 | exact Fp_told (by omega) (by omega) | omega | (subst_vars; omega) | omega) (LmW_ag (my_ag.fr (F := LmF) gh_136_0 rfl) hlm) (fun h3 frh3 xp4 xp5 Rws_h3t6 => ?_) (fun h7 frh7 xp8 xp9 xp10 xp11 Rws_h7t12 => ?_))
        ·
          have gh3 : my_fr [(10, 27), (10, 32), (10, 33), (10, 37), (10, 46), (10, 48), (61, -1), (62, -1), (73, -1), (74, -1), (75, -1), (76, -1), (77, -1), (78, -1), (79, -1), (80, -1), (81, -1), (82, -1), (83, -1), (84, -1), (85, -1), (86, -1), (88, -1), (89, -1), (90, -1), (91, -1), (92, -1), (93, -1), (94, -1)] h h3 := my_fr.tr gh_136_0 (frh3.mo rfl)
          have Mw_h3 : Mw h3 := Mw_ag (my_ag.fr frh3 rfl) n_Mw_136_0
          have Mw3_h3 : Mw3 h3 := Mw3_ag (my_ag.fr frh3 rfl) n_Mw3_136_0
          have Fp_h3 : Fp h3 x2 := Fp_ag (my_ag.fr frh3 rfl) n_Fp_136_0
          have Wys_h3 : Wys h3 := Wys_ag (my_ag.fr frh3 rfl) Wys_h136_0t1
          show wp l rho (d + 6) 209 245 [(2, 151), (0, x1), (0, x2), (0, x3), (0, x4), (0, x5), (0, x6), (0, p136_0), (0, p136_1), (9, 0), (9, 0)] [(0, 0)] h3 Q
          have cok := xp4
          have fa242 := FwA_cg (g1 := h3) fa_136_0 (my_fr.at frh3 pis_151 rfl) (fun j => my_fr.at frh3 pis_189 rfl)
          have ot242 : Ot8 h h3 := by first | exact ot_136_0.cg (fun j _ => xp5.1 j) (fun j _ => xp5.2 j) | exact Ot8_ly ot_136_0 (by have q := xp5; rw [((Lm_e ag242).1 x2).2.1, cm242] at q; exact q) lm0.2.1 lm0.2.2.1 cb0.1 cb0.2
          refine w_ifeq (t := 284) gz_209_245 rfl (fun u13 => ?_) (fun u13 => by exfalso; omega)
          have ce14 : h3 151 48 = h136_0 151 48 := ((my_fr.at frh3 is_151 rfl).trans (rfl : h136_0 151 48 = h136_0 151 48))
          have ce15 : h3 151 46 = h136_0 151 46 := ((my_fr.at frh3 is_151 rfl).trans (rfl : h136_0 151 46 = h136_0 151 46))
          have a190 : ∀ j : Int, h3 190 j = h136_0 190 j := fun j => ((my_fr.at frh3 is_190 rfl).trans (rfl : h136_0 190 j = h136_0 190 j))
          have a191 : ∀ j : Int, h3 191 j = h136_0 191 j := fun j => ((my_fr.at frh3 is_191 rfl).trans (rfl : h136_0 191 j = h136_0 191 j))
          have a192 : ∀ j : Int, h3 192 j = h136_0 192 j := fun j => ((my_fr.at frh3 is_192 rfl).trans (rfl : h136_0 192 j = h136_0 192 j))
          have a193 : ∀ j : Int, h3 193 j = h136_0 193 j := fun j => ((my_fr.at frh3 is_193 rfl).trans (rfl : h136_0 193 j = h136_0 193 j))
          have a194 : ∀ j : Int, h3 194 j = h136_0 194 j := fun j => ((my_fr.at frh3 is_194 rfl).trans (rfl : h136_0 194 j = h136_0 194 j))
          have a189 : ∀ j : Int, h3 189 j = h136_0 189 j := fun j => ((my_fr.at frh3 is_189 rfl).trans (rfl : h136_0 189 j = h136_0 189 j))
          have z162 : ∀ j : Int, h3 162 j = h3 162 j := fun j => rfl
          have z163 : ∀ j : Int, h3 163 j = h3 163 j := fun j => rfl
          have wlq : WLm h3 (MWd h x2) = WLm h136_0 (MWd h x2) := (WLm_cg (by omega) a189).1
          have wyq : WyL h3 = WyL h136_0 := WyL_cg (by omega) a190 a191 a192 a193 a194
          exact w_vret gz_209_284 gm_209 (k0 h3 (gh3) (by first | exact (FwA_cg fa_136_0 (by omega) a189).1 | exact ot242 | exact ot242.cg (fun j _ => z162 j) (fun j _ => z163 j) | exact FwZ_n f2_136e wlq wyq (fun z => cok (okI.mpr ⟨z.1, z.2.1⟩)) | exact FwZ_n f2_136e wlq wyq (fun z => ml (laI.mpr z.2.2.1)) | exact FwZ_n f2_136e wlq wyq (fun z => by have q := iw.mpr (is9.mpr z.2.2.2); omega) | exact FwZ_y f2_136e wlq (wyF.trans (fw.trans (by rw [wyc]))) ar1 (by have z := n195 0; omega) ⟨(okI.mp cok).1, (okI.mp cok).2, laI.mp ml, is9.mp (iw.mp (by omega))⟩ | assumption | omega) (by first | exact (FwA_cg fa_136_0 (by omega) a189).1 | exact ot242 | exact ot242.cg (fun j _ => z162 j) (fun j _ => z163 j) | exact FwZ_n f2_136e wlq wyq (fun z => cok (okI.mpr ⟨z.1, z.2.1⟩)) | exact FwZ_n f2_136e wlq wyq (fun z => ml (laI.mpr z.2.2.1)) | exact FwZ_n f2_136e wlq wyq (fun z => by have q := iw.mpr (is9.mpr z.2.2.2); omega) | exact FwZ_y f2_136e wlq (wyF.trans (fw.trans (by rw [wyc]))) ar1 (by have z := n195 0; omega) ⟨(okI.mp cok).1, (okI.mp cok).2, laI.mp ml, is9.mp (iw.mp (by omega))⟩ | assumption | omega) (by first | exact (FwA_cg fa_136_0 (by omega) a189).1 | exact ot242 | exact ot242.cg (fun j _ => z162 j) (fun j _ => z163 j) | exact FwZ_n f2_136e wlq wyq (fun z => cok (okI.mpr ⟨z.1, z.2.1⟩)) | exact FwZ_n f2_136e wlq wyq (fun z => ml (laI.mpr z.2.2.1)) | exact FwZ_n f2_136e wlq wyq (fun z => by have q := iw.mpr (is9.mpr z.2.2.2); omega) | exact FwZ_y f2_136e wlq (wyF.trans (fw.trans (by rw [wyc]))) ar1 (by have z := n195 0; omega) ⟨(okI.mp cok).1, (okI.mp cok).2, laI.mp ml, is9.mp (iw.mp (by omega))⟩ | assumption | omega) Rws_h3t6 Wys_h3)
        ·
          have gh7 : my_fr [(10, 27), (10, 32), (10, 33), (10, 37), (10, 46), (10, 48), (61, -1), (62, -1), (73, -1), (74, -1), (75, -1), (76, -1), (77, -1), (78, -1), (79, -1), (80, -1), (81, -1), (82, -1), (83, -1), (84, -1), (85, -1), (86, -1), (88, -1), (89, -1), (90, -1), (91, -1), (92, -1), (93, -1), (94, -1)] h h7 := my_fr.tr gh_136_0 (frh7.mo rfl)
          have Mw_h7 : Mw h7 := Mw_ag (my_ag.fr frh7 rfl) n_Mw_136_0
          have Mw3_h7 : Mw3 h7 := Mw3_ag (my_ag.fr frh7 rfl) n_Mw3_136_0
          have Fp_h7 : Fp h7 x2 := Fp_ag (my_ag.fr frh7 rfl) n_Fp_136_0
          have Wys_h7 : Wys h7 := Wys_ag (my_ag.fr frh7 rfl) Wys_h136_0t1
          show wp l rho (d + 6) 209 245 [(2, 151), (0, x1), (0, x2), (0, x3), (0, x4), (0, x5), (0, x6), (0, p136_0), (0, p136_1), (9, 0), (9, 0)] [(0, 1)] h7 Q
          have cok := xp8
          have fa242 := FwA_cg (g1 := h7) fa_136_0 (my_fr.at frh7 pis_151 rfl) (fun j => my_fr.at frh7 pis_189 rfl)
          have ot242 : Ot8 h h7 := by first | exact ot_136_0.cg (fun j _ => xp9.1 j) (fun j _ => xp9.2 j) | exact Ot8_ly ot_136_0 (by have q := xp9; rw [((Lm_e ag242).1 x2).2.1, cm242] at q; exact q) lm0.2.1 lm0.2.2.1 cb0.1 cb0.2
          have b3c := xp11
          have ad8 : zqAg (zqAdd (zqMS h x1) (mBs h x2) (cmM h x2 0) (cmM h x2)) (zqMS h7 8) := by -- xp11
            have q := xp9
            rw [((Lm_e ag242).1 x2).2.1, cm242] at q
            exact zqAg.tr (zqAdd_a ms_136_0) (LyP_add (s := 8) rfl lm0.2.1 lm0.2.2.1 cb0.1 cb0.2 q rfl rfl rfl rfl)
          rw [((Lm_e ag242).1 x2).2.1, cm242] at b3c -- xp11
          refine w_ifeq (t := 284) gz_209_245 rfl (fun u16 => by exfalso; omega) (fun u16 => ?_)
          refine w_aload_n gz_209_248 rfl ?_
          refine w_bipush gz_209_249 (by decide) ?_
          refine v_knowA (x := 162) pis_162 rd_61 (fun kT9 => ?_)
          refine v_knowA (x := 163) pis_163 rd_62 (fun kV9 => ?_)
          refine v_knowA (x := 160) pis_160 rd_59 (fun kN9 => ?_)
          refine v_knowA (x := 157) pis_157 rd_56 (fun kC9 => ?_)
          have T8 : MTy h7 := ⟨kV9, kT9, kN9, kC9⟩
          have ma9 : zqMA h7 = zqMA h := zqMA_e (fun j => my_fr.at gh7 pis_157 rfl) (fun j => my_fr.at gh7 pis_158 rfl) (fun j => my_fr.at gh7 pis_159 rfl) (fun j => my_fr.at gh7 pis_160 rfl) (fun j => my_fr.at gh7 pis_161 rfl)
          have laI := La_m ad8 ma9 T0 T8
          refine w_inv (k := 2) (as := [(0, 8)]) (r := []) (x := 151) (ls0 := [(2, 151), (0, 8), (9, 0), (9, 0)]) gz_209_251 gm_155 rfl is_151 rd_10 rfl rfl rfl rfl rfl (c_Model_isLawful5 (d := (d + 2)) (x1 := 8) (by omega) (by omega) (fun xp17 => ?_) (fun xp18 => ?_))
          ·
            show wp l rho (d + 6) 209 254 [(2, 151), (0, x1), (0, x2), (0, x3), (0, x4), (0, x5), (0, x6), (0, p136_0), (0, p136_1), (9, 0), (9, 0)] [(0, 0)] h7 Q
            have ml := xp17
            refine w_ifeq (t := 284) gz_209_254 rfl (fun u19 => ?_) (fun u19 => by exfalso; omega)
            have ce20 : h7 151 48 = h136_0 151 48 := ((my_fr.at frh7 is_151 rfl).trans (rfl : h136_0 151 48 = h136_0 151 48))
            have ce21 : h7 151 46 = h136_0 151 46 := ((my_fr.at frh7 is_151 rfl).trans (rfl : h136_0 151 46 = h136_0 151 46))
            have a190 : ∀ j : Int, h7 190 j = h136_0 190 j := fun j => ((my_fr.at frh7 is_190 rfl).trans (rfl : h136_0 190 j = h136_0 190 j))
            have a191 : ∀ j : Int, h7 191 j = h136_0 191 j := fun j => ((my_fr.at frh7 is_191 rfl).trans (rfl : h136_0 191 j = h136_0 191 j))
            have a192 : ∀ j : Int, h7 192 j = h136_0 192 j := fun j => ((my_fr.at frh7 is_192 rfl).trans (rfl : h136_0 192 j = h136_0 192 j))
            have a193 : ∀ j : Int, h7 193 j = h136_0 193 j := fun j => ((my_fr.at frh7 is_193 rfl).trans (rfl : h136_0 193 j = h136_0 193 j))
            have a194 : ∀ j : Int, h7 194 j = h136_0 194 j := fun j => ((my_fr.at frh7 is_194 rfl).trans (rfl : h136_0 194 j = h136_0 194 j))
            have a189 : ∀ j : Int, h7 189 j = h136_0 189 j := fun j => ((my_fr.at frh7 is_189 rfl).trans (rfl : h136_0 189 j = h136_0 189 j))
            have z162 : ∀ j : Int, h7 162 j = h7 162 j := fun j => rfl
            have z163 : ∀ j : Int, h7 163 j = h7 163 j := fun j => rfl
            have wlq : WLm h7 (MWd h x2) = WLm h136_0 (MWd h x2) := (WLm_cg (by omega) a189).1
            have wyq : WyL h7 = WyL h136_0 := WyL_cg (by omega) a190 a191 a192 a193 a194
            exact w_vret gz_209_284 gm_209 (k0 h7 (gh7) (by first | exact (FwA_cg fa_136_0 (by omega) a189).1 | exact ot242 | exact ot242.cg (fun j _ => z162 j) (fun j _ => z163 j) | exact FwZ_n f2_136e wlq wyq (fun z => cok (okI.mpr ⟨z.1, z.2.1⟩)) | exact FwZ_n f2_136e wlq wyq (fun z => ml (laI.mpr z.2.2.1)) | exact FwZ_n f2_136e wlq wyq (fun z => by have q := iw.mpr (is9.mpr z.2.2.2); omega) | exact FwZ_y f2_136e wlq (wyF.trans (fw.trans (by rw [wyc]))) ar1 (by have z := n195 0; omega) ⟨(okI.mp cok).1, (okI.mp cok).2, laI.mp ml, is9.mp (iw.mp (by omega))⟩ | assumption | omega) (by first | exact (FwA_cg fa_136_0 (by omega) a189).1 | exact ot242 | exact ot242.cg (fun j _ => z162 j) (fun j _ => z163 j) | exact FwZ_n f2_136e wlq wyq (fun z => cok (okI.mpr ⟨z.1, z.2.1⟩)) | exact FwZ_n f2_136e wlq wyq (fun z => ml (laI.mpr z.2.2.1)) | exact FwZ_n f2_136e wlq wyq (fun z => by have q := iw.mpr (is9.mpr z.2.2.2); omega) | exact FwZ_y f2_136e wlq (wyF.trans (fw.trans (by rw [wyc]))) ar1 (by have z := n195 0; omega) ⟨(okI.mp cok).1, (okI.mp cok).2, laI.mp ml, is9.mp (iw.mp (by omega))⟩ | assumption | omega) (by first | exact (FwA_cg fa_136_0 (by omega) a189).1 | exact ot242 | exact ot242.cg (fun j _ => z162 j) (fun j _ => z163 j) | exact FwZ_n f2_136e wlq wyq (fun z => cok (okI.mpr ⟨z.1, z.2.1⟩)) | exact FwZ_n f2_136e wlq wyq (fun z => ml (laI.mpr z.2.2.1)) | exact FwZ_n f2_136e wlq wyq (fun z => by have q := iw.mpr (is9.mpr z.2.2.2); omega) | exact FwZ_y f2_136e wlq (wyF.trans (fw.trans (by rw [wyc]))) ar1 (by have z := n195 0; omega) ⟨(okI.mp cok).1, (okI.mp cok).2, laI.mp ml, is9.mp (iw.mp (by omega))⟩ | assumption | omega) Rws_h7t12 Wys_h7)
          ·
            show wp l rho (d + 6) 209 254 [(2, 151), (0, x1), (0, x2), (0, x3), (0, x4), (0, x5), (0, x6), (0, p136_0), (0, p136_1), (9, 0), (9, 0)] [(0, 1)] h7 Q
            have ml := xp18
            refine w_ifeq (t := 284) gz_209_254 rfl (fun u22 => by exfalso; omega) (fun u22 => ?_)
            refine w_aload_n gz_209_257 rfl ?_
            refine w_bipush gz_209_258 (by decide) ?_
            refine w_iload_n gz_209_260 rfl ?_
            have agE : my_ag LmF h h7 := (my_ag.fr (F := LmF) gh7 rfl)
            have is9 := Is_m (my_ag.fr (F := LmF) gh7 rfl) ad8 hlm a2 b2 tx fa242.2
            have x195 : h7 195 0 = cmM h x2 0 := b3c.2
            refine w_inv (k := 3) (as := [(0, x2), (0, 8)]) (r := []) (x := 151) (ls0 := [(2, 151), (0, 8), (0, x2), (9, 0), (9, 0), (9, 0)]) gz_209_261 gm_213 rfl is_151 rd_10 rfl rfl rfl rfl rfl (c_Model_isWanted6 (d := (d + 1)) (x1 := 8) (x2 := x2) (by omega) (by omega) (by omega) (by omega) Mw_h7 Mw3_h7 Rws_h7t12 Fp_h7 (LmW_ag (my_ag.fr (F := LmF) gh7 rfl) hlm) ((by rw [((Lm_e (my_ag.fr (F := LmF) gh7 rfl)).1 x2).2.2]; exact fa242.1.2)) (fun h23 v24 frh23 w25 w26 xp27 xp28 => ?_))
            have gh23 : my_fr [(10, 27), (10, 32), (10, 33), (10, 37), (10, 46), (10, 48), (61, -1), (62, -1), (73, -1), (74, -1), (75, -1), (76, -1), (77, -1), (78, -1), (79, -1), (80, -1), (81, -1), (82, -1), (83, -1), (84, -1), (85, -1), (86, -1), (88, -1), (89, -1), (90, -1), (91, -1), (92, -1), (93, -1), (94, -1)] h h23 := my_fr.tr gh7 (frh23.mo rfl)
            have Mw_h23 : Mw h23 := Mw_ag (my_ag.fr frh23 rfl) Mw_h7
            have Mw3_h23 : Mw3 h23 := Mw3_ag (my_ag.fr frh23 rfl) Mw3_h7
            have Fp_h23 : Fp h23 x2 := Fp_ag (my_ag.fr frh23 rfl) Fp_h7
            have Wys_h23 : Wys h23 := Wys_ag (my_ag.fr frh23 rfl) Wys_h7
            have Rws_h23 : Rws h23 := Rws_ag (my_ag.fr frh23 rfl) Rws_h7t12
            show wp l rho (d + 6) 209 264 [(2, 151), (0, x1), (0, x2), (0, x3), (0, x4), (0, x5), (0, x6), (0, p136_0), (0, p136_1), (9, 0), (9, 0)] [(0, v24)] h23 Q
            have iw := xp27
            have b3d := xp28
            rw [((Lm_e agE).1 x2).2.1] at b3d
            refine w_ifeq (t := 284) gz_209_264 rfl (fun u29 => ?_) (fun u29 => ?_)
            ·
              have ce30 : h23 151 48 = h136_0 151 48 := ((my_fr.at frh23 is_151 rfl).trans ((my_fr.at frh7 is_151 rfl).trans (rfl : h136_0 151 48 = h136_0 151 48)))
              have ce31 : h23 151 46 = h136_0 151 46 := ((my_fr.at frh23 is_151 rfl).trans ((my_fr.at frh7 is_151 rfl).trans (rfl : h136_0 151 46 = h136_0 151 46)))
              have a190 : ∀ j : Int, h23 190 j = h136_0 190 j := fun j => ((my_fr.at frh23 is_190 rfl).trans ((my_fr.at frh7 is_190 rfl).trans (rfl : h136_0 190 j = h136_0 190 j)))
              have a191 : ∀ j : Int, h23 191 j = h136_0 191 j := fun j => ((my_fr.at frh23 is_191 rfl).trans ((my_fr.at frh7 is_191 rfl).trans (rfl : h136_0 191 j = h136_0 191 j)))
              have a192 : ∀ j : Int, h23 192 j = h136_0 192 j := fun j => ((my_fr.at frh23 is_192 rfl).trans ((my_fr.at frh7 is_192 rfl).trans (rfl : h136_0 192 j = h136_0 192 j)))
              have a193 : ∀ j : Int, h23 193 j = h136_0 193 j := fun j => ((my_fr.at frh23 is_193 rfl).trans ((my_fr.at frh7 is_193 rfl).trans (rfl : h136_0 193 j = h136_0 193 j)))
              have a194 : ∀ j : Int, h23 194 j = h136_0 194 j := fun j => ((my_fr.at frh23 is_194 rfl).trans ((my_fr.at frh7 is_194 rfl).trans (rfl : h136_0 194 j = h136_0 194 j)))
              have a189 : ∀ j : Int, h23 189 j = h136_0 189 j := fun j => ((my_fr.at frh23 is_189 rfl).trans ((my_fr.at frh7 is_189 rfl).trans (rfl : h136_0 189 j = h136_0 189 j)))
              have z162 : ∀ j : Int, h23 162 j = h7 162 j := fun j => ((my_fr.at frh23 is_162 rfl).trans (rfl : h7 162 j = h7 162 j))
              have z163 : ∀ j : Int, h23 163 j = h7 163 j := fun j => ((my_fr.at frh23 is_163 rfl).trans (rfl : h7 163 j = h7 163 j))
              have wlq : WLm h23 (MWd h x2) = WLm h136_0 (MWd h x2) := (WLm_cg (by omega) a189).1
              have wyq : WyL h23 = WyL h136_0 := WyL_cg (by omega) a190 a191 a192 a193 a194
              exact w_vret gz_209_284 gm_209 (k0 h23 (gh23) (by first | exact (FwA_cg fa_136_0 (by omega) a189).1 | exact ot242 | exact ot242.cg (fun j _ => z162 j) (fun j _ => z163 j) | exact FwZ_n f2_136e wlq wyq (fun z => cok (okI.mpr ⟨z.1, z.2.1⟩)) | exact FwZ_n f2_136e wlq wyq (fun z => ml (laI.mpr z.2.2.1)) | exact FwZ_n f2_136e wlq wyq (fun z => by have q := iw.mpr (is9.mpr z.2.2.2); omega) | exact FwZ_y f2_136e wlq (wyF.trans (fw.trans (by rw [wyc]))) ar1 (by have z := n195 0; omega) ⟨(okI.mp cok).1, (okI.mp cok).2, laI.mp ml, is9.mp (iw.mp (by omega))⟩ | assumption | omega) (by first | exact (FwA_cg fa_136_0 (by omega) a189).1 | exact ot242 | exact ot242.cg (fun j _ => z162 j) (fun j _ => z163 j) | exact FwZ_n f2_136e wlq wyq (fun z => cok (okI.mpr ⟨z.1, z.2.1⟩)) | exact FwZ_n f2_136e wlq wyq (fun z => ml (laI.mpr z.2.2.1)) | exact FwZ_n f2_136e wlq wyq (fun z => by have q := iw.mpr (is9.mpr z.2.2.2); omega) | exact FwZ_y f2_136e wlq (wyF.trans (fw.trans (by rw [wyc]))) ar1 (by have z := n195 0; omega) ⟨(okI.mp cok).1, (okI.mp cok).2, laI.mp ml, is9.mp (iw.mp (by omega))⟩ | assumption | omega) (by first | exact (FwA_cg fa_136_0 (by omega) a189).1 | exact ot242 | exact ot242.cg (fun j _ => z162 j) (fun j _ => z163 j) | exact FwZ_n f2_136e wlq wyq (fun z => cok (okI.mpr ⟨z.1, z.2.1⟩)) | exact FwZ_n f2_136e wlq wyq (fun z => ml (laI.mpr z.2.2.1)) | exact FwZ_n f2_136e wlq wyq (fun z => by have q := iw.mpr (is9.mpr z.2.2.2); omega) | exact FwZ_y f2_136e wlq (wyF.trans (fw.trans (by rw [wyc]))) ar1 (by have z := n195 0; omega) ⟨(okI.mp cok).1, (okI.mp cok).2, laI.mp ml, is9.mp (iw.mp (by omega))⟩ | assumption | omega) Rws_h23 Wys_h23)
            ·
              refine w_aload_n gz_209_267 rfl ?_
              refine w_iconst gz_209_268 (by decide) ?_
              refine w_aload_n gz_209_269 rfl ?_
              refine v_getI (j := 33) gz_209_270 rfl is_151 rd_10 rfl (fun v32 ev32 pv32 qv32 => ?_)
              refine w_aload_n gz_209_273 rfl ?_
              refine w_getX (v := 195) gz_209_274 is_151 rd_10 rfl (by decide) rfl ?_
              refine w_iconst gz_209_277 (by decide) ?_
              refine w_iald gz_209_278 is_195 rd_94 (by omega) (by omega) (fun v34 ev34 pv34 qv34 => ?_)
              refine w_iconst gz_209_279 (by decide) ?_
              refine w_iconst gz_209_280 (by decide) ?_
              have ce35 : h23 151 48 = h136_0 151 48 := ((my_fr.at frh23 is_151 rfl).trans ((my_fr.at frh7 is_151 rfl).trans (rfl : h136_0 151 48 = h136_0 151 48)))
              have ce36 : h23 151 48 = h136_0 151 48 := ((my_fr.at frh23 is_151 rfl).trans ((my_fr.at frh7 is_151 rfl).trans (rfl : h136_0 151 48 = h136_0 151 48)))
              have a190 : ∀ j : Int, h23 190 j = h136_0 190 j := fun j => ((my_fr.at frh23 is_190 rfl).trans ((my_fr.at frh7 is_190 rfl).trans (rfl : h136_0 190 j = h136_0 190 j)))
              have a191 : ∀ j : Int, h23 191 j = h136_0 191 j := fun j => ((my_fr.at frh23 is_191 rfl).trans ((my_fr.at frh7 is_191 rfl).trans (rfl : h136_0 191 j = h136_0 191 j)))
              have a192 : ∀ j : Int, h23 192 j = h136_0 192 j := fun j => ((my_fr.at frh23 is_192 rfl).trans ((my_fr.at frh7 is_192 rfl).trans (rfl : h136_0 192 j = h136_0 192 j)))
              have a193 : ∀ j : Int, h23 193 j = h136_0 193 j := fun j => ((my_fr.at frh23 is_193 rfl).trans ((my_fr.at frh7 is_193 rfl).trans (rfl : h136_0 193 j = h136_0 193 j)))
              have a194 : ∀ j : Int, h23 194 j = h136_0 194 j := fun j => ((my_fr.at frh23 is_194 rfl).trans ((my_fr.at frh7 is_194 rfl).trans (rfl : h136_0 194 j = h136_0 194 j)))
              have n195 : ∀ j : Int, h23 195 j = h7 195 j := fun j => ((my_fr.at frh23 is_195 rfl).trans (rfl : h7 195 j = h7 195 j))
              have wyc : WyL h23 = WyL h136_0 := WyL_cg (by omega) a190 a191 a192 a193 a194
              have ar1 : v32 = mBs h x2 := by omega
              refine w_inv (k := 0) (as := [(0, (-1)), (0, (-1)), (0, v34), (0, v32), (0, 3)]) (r := []) (x := 151) (ls0 := [(2, 151), (0, 3), (0, v32), (0, v34), (0, (-1)), (0, (-1))]) gz_209_281 gm_214 rfl is_151 rd_10 rfl rfl rfl rfl rfl (c_Model_finds5 (d := (d + 5)) (x1 := 3) (x2 := v32) (x3 := v34) (x4 := (-1)) (x5 := (-1)) (by omega) (by omega) (by omega) (by omega) (by omega) (by omega) (by omega) (by omega) (by omega) (by omega) Wys_h23 (by first | assumption | exact Fp_h23 | exact Fp_told (by omega) (by omega) | omega | (subst_vars; omega) | omega) (by first | assumption | exact Fp_h23 | exact Fp_told (by omega) (by omega) | omega | (subst_vars; omega) | omega) (by first | assumption | exact Fp_h23 | exact Fp_told (by omega) (by omega) | omega | (subst_vars; omega) | omega) (fun h37 frh37 w38 w39 xp40 xp41 Wys_h37t42 => ?_))
              have gh37 : my_fr [(10, 27), (10, 32), (10, 33), (10, 37), (10, 46), (10, 48), (61, -1), (62, -1), (73, -1), (74, -1), (75, -1), (76, -1), (77, -1), (78, -1), (79, -1), (80, -1), (81, -1), (82, -1), (83, -1), (84, -1), (85, -1), (86, -1), (88, -1), (89, -1), (90, -1), (91, -1), (92, -1), (93, -1), (94, -1)] h h37 := my_fr.tr gh23 (frh37.mo rfl)
              have Mw_h37 : Mw h37 := Mw_ag (my_ag.fr frh37 rfl) Mw_h23
              have Mw3_h37 : Mw3 h37 := Mw3_ag (my_ag.fr frh37 rfl) Mw3_h23
              have Fp_h37 : Fp h37 x2 := Fp_ag (my_ag.fr frh37 rfl) Fp_h23
              have Rws_h37 : Rws h37 := Rws_ag (my_ag.fr frh37 rfl) Rws_h23
              show wp l rho (d + 6) 209 284 [(2, 151), (0, x1), (0, x2), (0, x3), (0, x4), (0, x5), (0, x6), (0, p136_0), (0, p136_1), (9, 0), (9, 0)] [] h37 Q
              have fw := xp41
              have ce43 : h37 151 48 = (h37 151 48) := (rfl : h37 151 48 = h37 151 48)
              have ce44 : h37 151 46 = h136_0 151 46 := ((my_fr.at frh37 is_151 rfl).trans ((my_fr.at frh23 is_151 rfl).trans ((my_fr.at frh7 is_151 rfl).trans (rfl : h136_0 151 46 = h136_0 151 46))))
              have a190 : ∀ j : Int, h37 190 j = h37 190 j := fun j => rfl
              have a191 : ∀ j : Int, h37 191 j = h37 191 j := fun j => rfl
              have a192 : ∀ j : Int, h37 192 j = h37 192 j := fun j => rfl
              have a193 : ∀ j : Int, h37 193 j = h37 193 j := fun j => rfl
              have a194 : ∀ j : Int, h37 194 j = h37 194 j := fun j => rfl
              have a189 : ∀ j : Int, h37 189 j = h136_0 189 j := fun j => ((my_fr.at frh37 is_189 rfl).trans ((my_fr.at frh23 is_189 rfl).trans ((my_fr.at frh7 is_189 rfl).trans (rfl : h136_0 189 j = h136_0 189 j))))
              have z162 : ∀ j : Int, h37 162 j = h7 162 j := fun j => ((my_fr.at frh37 is_162 rfl).trans ((my_fr.at frh23 is_162 rfl).trans (rfl : h7 162 j = h7 162 j)))
              have z163 : ∀ j : Int, h37 163 j = h7 163 j := fun j => ((my_fr.at frh37 is_163 rfl).trans ((my_fr.at frh23 is_163 rfl).trans (rfl : h7 163 j = h7 163 j)))
              have wlq : WLm h37 (MWd h x2) = WLm h136_0 (MWd h x2) := (WLm_cg (by omega) a189).1
              have wyF : WyL h37 = WyL h37 := rfl
              exact w_vret gz_209_284 gm_209 (k0 h37 (gh37) (by first | exact (FwA_cg fa_136_0 (by omega) a189).1 | exact ot242 | exact ot242.cg (fun j _ => z162 j) (fun j _ => z163 j) | exact FwZ_n f2_136e wlq wyq (fun z => cok (okI.mpr ⟨z.1, z.2.1⟩)) | exact FwZ_n f2_136e wlq wyq (fun z => ml (laI.mpr z.2.2.1)) | exact FwZ_n f2_136e wlq wyq (fun z => by have q := iw.mpr (is9.mpr z.2.2.2); omega) | exact FwZ_y f2_136e wlq (wyF.trans (fw.trans (by rw [wyc]))) ar1 (by have z := n195 0; omega) ⟨(okI.mp cok).1, (okI.mp cok).2, laI.mp ml, is9.mp (iw.mp (by omega))⟩ | assumption | omega) (by first | exact (FwA_cg fa_136_0 (by omega) a189).1 | exact ot242 | exact ot242.cg (fun j _ => z162 j) (fun j _ => z163 j) | exact FwZ_n f2_136e wlq wyq (fun z => cok (okI.mpr ⟨z.1, z.2.1⟩)) | exact FwZ_n f2_136e wlq wyq (fun z => ml (laI.mpr z.2.2.1)) | exact FwZ_n f2_136e wlq wyq (fun z => by have q := iw.mpr (is9.mpr z.2.2.2); omega) | exact FwZ_y f2_136e wlq (wyF.trans (fw.trans (by rw [wyc]))) ar1 (by have z := n195 0; omega) ⟨(okI.mp cok).1, (okI.mp cok).2, laI.mp ml, is9.mp (iw.mp (by omega))⟩ | assumption | omega) (by first | exact (FwA_cg fa_136_0 (by omega) a189).1 | exact ot242 | exact ot242.cg (fun j _ => z162 j) (fun j _ => z163 j) | exact FwZ_n f2_136e wlq wyq (fun z => cok (okI.mpr ⟨z.1, z.2.1⟩)) | exact FwZ_n f2_136e wlq wyq (fun z => ml (laI.mpr z.2.2.1)) | exact FwZ_n f2_136e wlq wyq (fun z => by have q := iw.mpr (is9.mpr z.2.2.2); omega) | exact FwZ_y f2_136e wlq (wyF.trans (fw.trans (by rw [wyc]))) ar1 (by have z := n195 0; omega) ⟨(okI.mp cok).1, (okI.mp cok).2, laI.mp ml, is9.mp (iw.mp (by omega))⟩ | assumption | omega) Rws_h37 Wys_h37t42)
      ·
        refine w_iload gz_209_143 rfl ?_
        refine w_iload gz_209_145 rfl ?_
        refine w_bipush gz_209_147 (by decide) ?_
        refine w_idiv gz_209_149 (by omega) (by decide) ?_
        refine w_ishrX gz_209_150 (fun v45 ev45 pv45 qv45 => ?_)
        refine w_iconst gz_209_151 (by decide) ?_
        refine w_iandXM gz_209_152 (by decide) (fun v46 ev46 pv46 qv46 => ?_)
        refine w_iconst gz_209_153 (by decide) ?_
        have bi9 := bsr_bit (y := p136_0) (u := p136_1 / 20) (z := v46) (by omega) (by omega) (by assumption) (by assumption)
        refine w_icne (t := 232) gz_209_154 rfl (fun u47 => ?_) (fun u47 => ?_)
        ·
          have r1 := rc_60s (h := h) (s := x1) (k := p136_1) (by omega)
          have r4 := kT (60 * x1 + p136_1) (by omega) (by omega)
          refine w_iinc (ls' := [(2, 151), (0, x1), (0, x2), (0, x3), (0, x4), (0, x5), (0, x6), (0, p136_0), (0, (p136_1 + 1)), (9, 0), (9, 0)]) gz_209_232 rfl gm_209 rfl rfl rfl ⟨by omega, by omega⟩ ?_
          refine w_goto (t := 136) gz_209_235 rfl ?_
          have a162 : ∀ j : Int, h136_0 162 j = h136_0 162 j := fun _ => rfl
          have a190 : ∀ j : Int, h136_0 190 j = h136_0 190 j := fun _ => rfl
          have a191 : ∀ j : Int, h136_0 191 j = h136_0 191 j := fun _ => rfl
          have a192 : ∀ j : Int, h136_0 192 j = h136_0 192 j := fun _ => rfl
          have a193 : ∀ j : Int, h136_0 193 j = h136_0 193 j := fun _ => rfl
          have a194 : ∀ j : Int, h136_0 194 j = h136_0 194 j := fun _ => rfl
          have a189 : ∀ j : Int, h136_0 189 j = h136_0 189 j := fun _ => rfl
          have wlq : WLm h136_0 (MWd h x2) = WLm h136_0 (MWd h x2) := rfl
          have wyq : WyL h136_0 = WyL h136_0 := rfl
          exact ih_136_0 (p136_0) ((p136_1 + 1)) h136_0 (gh_136_0) (by omega) (by omega) n_Mw_136_0 n_Mw3_136_0 n_Rws_136_0 n_Fp_136_0 (by first | (intro j a b; rw [a162]; first | exact ts_74_0 j a b | exact ts_57_0 j a b | exact ts_136_0 j a b) | (intro j a b; rw [Row_back f183 b162 f231 (by omega) (by have z := tp8_136_0 p136_1 (by omega) (by omega); omega)]; exact ts_136_0 j a b) | (intro j a b; exact (cp8.2 j (by omega)).trans (c162 j)) | omega) (by first | (intro j a b; rw [a162]; first | exact tp8_74_0 j a b | exact tp8_57_0 j a b | exact tp8_136_0 j a b) | (intro j a b; rw [Row_back f183 b162 f231 (by omega) (by have z := tp8_136_0 p136_1 (by omega) (by omega); omega)]; exact tp8_136_0 j a b) | (intro j a b; rw [show (480 : Int) + j = 60 * 8 + j by omega, cp8.1 j a b]; exact c162 _) | omega) (by first | omega | (show _ ≤ 1 + 57 * (0 : Int); omega) | (rw [r1]; omega) | (show _ ≤ 1711 + (0 : Int); omega) | omega) (Wys_h136_0t1) (by first | exact fa_57_0 | exact fa_74_0 | exact fa_136_0 | exact faq.1 | exact (FwA_cg fa_136_0 (by omega) a189).1 | assumption | omega) (by first | exact ms8 | exact msn | exact ms_57_0 | exact ms_74_0 | exact ms_136_0 | exact MS_back ms_136_0 f183 b162 b163 f231 (by omega) (by have z := tp8_136_0 p136_1 (by omega) (by omega); have z2 := ts_136_0 (60 * x1 + p136_1) (by omega) (by omega); omega) | assumption | omega) (by first | exact uw8 | exact uw_57_0 | exact uw_74_0 | exact uw_136_0 | assumption | omega) (by first | exact ot8 | exact otn | exact ot_57_0 | exact ot_74_0 | exact ot_136_0 | exact ot_136_0.cg (fun j a => (my_up_ne f231 (by omega)).trans ((b162 j).trans (my_up_ne f183 (by omega)))) (fun j a => (my_up_ne f231 (by omega)).trans (b163 j)) | assumption | omega) (by first | exact Fw2_0 (Fw1_to f1_57_0 (by omega)) | exact Fw2_n (by omega) f2_136_0 rfl rfl (fun z => absurd (bi9.mpr ((uw_136_0 _ (by omega) (by omega)).mpr z.1)) (by omega)) | exact Fw2_n (by omega) f2_136_0 rfl rfl (fun z => absurd ((MS_has T0 a1 b1 (by omega) (by omega) (by omega) (by omega)).mp z.2.1.2.2) (by rw [show 60 * x1 + 20 * (p136_1 / 20) + p136_1 % 20 = 60 * x1 + p136_1 by omega]; omega)) | exact Fw2_n (by omega) f2_136_0 wlq wyq (fun z => ml (laI.mpr z.2.2.1)) | exact Fw2_n (by omega) f2_136_0 wlq wyq (fun z => by have q := iw.mpr (is9.mpr z.2.2.2); omega) | exact Fw2_y (by omega) f2_136_0 wlq (wyF.trans (fw.trans (by rw [wyc]))) (by omega) (by omega) ⟨un9, hr9, laI.mp ml, is9.mp (iw.mp (by omega))⟩ | assumption | omega) (by omega)
        ·
          refine w_aload_n gz_209_157 rfl ?_
          refine w_getX (v := 162) gz_209_158 is_151 rd_10 rfl (by decide) rfl ?_
          refine w_bipush gz_209_161 (by decide) ?_
          refine w_iload_n gz_209_163 rfl ?_
          refine w_imul gz_209_164 ⟨by omega, by omega⟩ ?_
          refine w_iload gz_209_165 rfl ?_
          refine w_iadd gz_209_167 ⟨by omega, by omega⟩ ?_
          refine w_bald gz_209_168 is_162 rd_61 (by omega) (by omega) (fun v49 ev49 pv49 qv49 => ?_)
          have rt := ts_136_0 (60 * x1 + p136_1) (by omega) (by omega)
          have it9 : v49 = h 162 (60 * x1 + p136_1) := by omega
          refine w_ifeq (t := 232) gz_209_169 rfl (fun u50 => ?_) (fun u50 => ?_)
          ·
            have r1 := rc_60s (h := h) (s := x1) (k := p136_1) (by omega)
            have r4 := kT (60 * x1 + p136_1) (by omega) (by omega)
            refine w_iinc (ls' := [(2, 151), (0, x1), (0, x2), (0, x3), (0, x4), (0, x5), (0, x6), (0, p136_0), (0, (p136_1 + 1)), (9, 0), (9, 0)]) gz_209_232 rfl gm_209 rfl rfl rfl ⟨by omega, by omega⟩ ?_
            refine w_goto (t := 136) gz_209_235 rfl ?_
            have a162 : ∀ j : Int, h136_0 162 j = h136_0 162 j := fun _ => rfl
            have a190 : ∀ j : Int, h136_0 190 j = h136_0 190 j := fun _ => rfl
            have a191 : ∀ j : Int, h136_0 191 j = h136_0 191 j := fun _ => rfl
            have a192 : ∀ j : Int, h136_0 192 j = h136_0 192 j := fun _ => rfl
            have a193 : ∀ j : Int, h136_0 193 j = h136_0 193 j := fun _ => rfl
            have a194 : ∀ j : Int, h136_0 194 j = h136_0 194 j := fun _ => rfl
            have a189 : ∀ j : Int, h136_0 189 j = h136_0 189 j := fun _ => rfl
            have wlq : WLm h136_0 (MWd h x2) = WLm h136_0 (MWd h x2) := rfl
            have wyq : WyL h136_0 = WyL h136_0 := rfl
            exact ih_136_0 (p136_0) ((p136_1 + 1)) h136_0 (gh_136_0) (by omega) (by omega) n_Mw_136_0 n_Mw3_136_0 n_Rws_136_0 n_Fp_136_0 (by first | (intro j a b; rw [a162]; first | exact ts_74_0 j a b | exact ts_57_0 j a b | exact ts_136_0 j a b) | (intro j a b; rw [Row_back f183 b162 f231 (by omega) (by have z := tp8_136_0 p136_1 (by omega) (by omega); omega)]; exact ts_136_0 j a b) | (intro j a b; exact (cp8.2 j (by omega)).trans (c162 j)) | omega) (by first | (intro j a b; rw [a162]; first | exact tp8_74_0 j a b | exact tp8_57_0 j a b | exact tp8_136_0 j a b) | (intro j a b; rw [Row_back f183 b162 f231 (by omega) (by have z := tp8_136_0 p136_1 (by omega) (by omega); omega)]; exact tp8_136_0 j a b) | (intro j a b; rw [show (480 : Int) + j = 60 * 8 + j by omega, cp8.1 j a b]; exact c162 _) | omega) (by first | omega | (show _ ≤ 1 + 57 * (0 : Int); omega) | (rw [r1]; omega) | (show _ ≤ 1711 + (0 : Int); omega) | omega) (Wys_h136_0t1) (by first | exact fa_57_0 | exact fa_74_0 | exact fa_136_0 | exact faq.1 | exact (FwA_cg fa_136_0 (by omega) a189).1 | assumption | omega) (by first | exact ms8 | exact msn | exact ms_57_0 | exact ms_74_0 | exact ms_136_0 | exact MS_back ms_136_0 f183 b162 b163 f231 (by omega) (by have z := tp8_136_0 p136_1 (by omega) (by omega); have z2 := ts_136_0 (60 * x1 + p136_1) (by omega) (by omega); omega) | assumption | omega) (by first | exact uw8 | exact uw_57_0 | exact uw_74_0 | exact uw_136_0 | assumption | omega) (by first | exact ot8 | exact otn | exact ot_57_0 | exact ot_74_0 | exact ot_136_0 | exact ot_136_0.cg (fun j a => (my_up_ne f231 (by omega)).trans ((b162 j).trans (my_up_ne f183 (by omega)))) (fun j a => (my_up_ne f231 (by omega)).trans (b163 j)) | assumption | omega) (by first | exact Fw2_0 (Fw1_to f1_57_0 (by omega)) | exact Fw2_n (by omega) f2_136_0 rfl rfl (fun z => absurd (bi9.mpr ((uw_136_0 _ (by omega) (by omega)).mpr z.1)) (by omega)) | exact Fw2_n (by omega) f2_136_0 rfl rfl (fun z => absurd ((MS_has T0 a1 b1 (by omega) (by omega) (by omega) (by omega)).mp z.2.1.2.2) (by rw [show 60 * x1 + 20 * (p136_1 / 20) + p136_1 % 20 = 60 * x1 + p136_1 by omega]; omega)) | exact Fw2_n (by omega) f2_136_0 wlq wyq (fun z => ml (laI.mpr z.2.2.1)) | exact Fw2_n (by omega) f2_136_0 wlq wyq (fun z => by have q := iw.mpr (is9.mpr z.2.2.2); omega) | exact Fw2_y (by omega) f2_136_0 wlq (wyF.trans (fw.trans (by rw [wyc]))) (by omega) (by omega) ⟨un9, hr9, laI.mp ml, is9.mp (iw.mp (by omega))⟩ | assumption | omega) (by omega)
          ·
            refine w_aload_n gz_209_172 rfl ?_
            refine w_getX (v := 162) gz_209_173 is_151 rd_10 rfl (by decide) rfl ?_
            refine w_sipush gz_209_176 (by decide) ?_
            refine w_iload gz_209_179 rfl ?_
            refine w_iadd gz_209_181 ⟨by omega, by omega⟩ ?_
            refine w_iconst gz_209_182 (by decide) ?_
            refine w_bast gz_209_183 is_162 rd_61 (by omega) (by omega) (by omega) (by omega) (fun h52 fh52 => ?_)
            have gh52 : my_fr [(10, 27), (10, 32), (10, 33), (10, 37), (10, 46), (10, 48), (61, -1), (62, -1), (73, -1), (74, -1), (75, -1), (76, -1), (77, -1), (78, -1), (79, -1), (80, -1), (81, -1), (82, -1), (83, -1), (84, -1), (85, -1), (86, -1), (88, -1), (89, -1), (90, -1), (91, -1), (92, -1), (93, -1), (94, -1)] h h52 := my_fr.up gh_136_0 is_162 fh52 rfl
            have Mw_h52 : Mw h52 := Mw_ag (my_ag.up fh52 is_162 rfl) n_Mw_136_0
            have Mw3_h52 : Mw3 h52 := Mw3_ag (my_ag.up fh52 is_162 rfl) n_Mw3_136_0
            have Fp_h52 : Fp h52 x2 := Fp_ag (my_ag.up fh52 is_162 rfl) n_Fp_136_0
            have Wys_h52 : Wys h52 := Wys_ag (my_ag.up fh52 is_162 rfl) Wys_h136_0t1
            have f183 := fh52
            have Rws_h52t53 : Rws h52 := Rws_off fh52 (by have z := tp8_136_0 p136_1 (by omega) (by omega); have z2 := (kT (60 * x1 + p136_1) (by omega) (by omega)).1; omega) n_Rws_136_0
            have fa183 := FwA_cg (g1 := h52) fa_136_0 (my_up_ne fh52 (by omega)) (fun j => my_up_ne fh52 (by omega))
            refine w_aload_n gz_209_184 rfl ?_
            refine w_bipush gz_209_185 (by decide) ?_
            refine v_knowA (x := 162) pis_162 rd_61 (fun kT9 => ?_)
            refine v_knowA (x := 163) pis_163 rd_62 (fun kV9 => ?_)
            refine v_knowA (x := 160) pis_160 rd_59 (fun kN9 => ?_)
            refine v_knowA (x := 157) pis_157 rd_56 (fun kC9 => ?_)
            have T8 : MTy h52 := ⟨kV9, kT9, kN9, kC9⟩
            have un9 : zqUw (mBs h x2) (mCW h x2) (p136_1 / 20) := (uw_136_0 _ (by omega) (by omega)).mp (bi9.mp (by omega))
            have hr9 : zqHas (zqMS h x1) (p136_1 / 20) (p136_1 % 20) := ⟨by omega, by omega, (MS_has T0 a1 b1 (by omega) (by omega) (by omega) (by omega)).mpr (by rw [show 60 * x1 + 20 * (p136_1 / 20) + p136_1 % 20 = 60 * x1 + p136_1 by omega]; omega)⟩
            have msd := MS_drop (r := p136_1) ms_136_0 f183 (by omega) (by omega) (by omega)
            have ma9 : zqMA h52 = zqMA h := zqMA_e (fun j => my_fr.at gh52 pis_157 rfl) (fun j => my_fr.at gh52 pis_158 rfl) (fun j => my_fr.at gh52 pis_159 rfl) (fun j => my_fr.at gh52 pis_160 rfl) (fun j => my_fr.at gh52 pis_161 rfl)
            have laI := La_m msd ma9 T0 T8
            refine w_inv (k := 2) (as := [(0, 8)]) (r := []) (x := 151) (ls0 := [(2, 151), (0, 8), (9, 0), (9, 0)]) gz_209_187 gm_155 rfl is_151 rd_10 rfl rfl rfl rfl rfl (c_Model_isLawful5 (d := (d + 2)) (x1 := 8) (by omega) (by omega) (fun xp54 => ?_) (fun xp55 => ?_))
            ·
              show wp l rho (d + 6) 209 190 [(2, 151), (0, x1), (0, x2), (0, x3), (0, x4), (0, x5), (0, x6), (0, p136_0), (0, p136_1), (9, 0), (9, 0)] [(0, 0)] h52 Q
              have ml := xp54
              refine w_ifeq (t := 220) gz_209_190 rfl (fun u56 => ?_) (fun u56 => by exfalso; omega)
              refine w_aload_n gz_209_220 rfl ?_
              refine w_getX (v := 162) gz_209_221 is_151 rd_10 rfl (by decide) rfl ?_
              refine w_sipush gz_209_224 (by decide) ?_
              refine w_iload gz_209_227 rfl ?_
              refine w_iadd gz_209_229 ⟨by omega, by omega⟩ ?_
              refine w_iconst gz_209_230 (by decide) ?_
              have b162 : ∀ j : Int, h52 162 j = h52 162 j := fun j => rfl
              have b163 : ∀ j : Int, h52 163 j = h136_0 163 j := fun j => ((my_up_role fh52 is_163 is_162 rfl).trans (rfl : h136_0 163 j = h136_0 163 j))
              refine w_bast gz_209_231 is_162 rd_61 (by omega) (by omega) (by omega) (by omega) (fun h58 fh58 => ?_)
              have gh58 : my_fr [(10, 27), (10, 32), (10, 33), (10, 37), (10, 46), (10, 48), (61, -1), (62, -1), (73, -1), (74, -1), (75, -1), (76, -1), (77, -1), (78, -1), (79, -1), (80, -1), (81, -1), (82, -1), (83, -1), (84, -1), (85, -1), (86, -1), (88, -1), (89, -1), (90, -1), (91, -1), (92, -1), (93, -1), (94, -1)] h h58 := my_fr.up gh52 is_162 fh58 rfl
              have Mw_h58 : Mw h58 := Mw_ag (my_ag.up fh58 is_162 rfl) Mw_h52
              have Mw3_h58 : Mw3 h58 := Mw3_ag (my_ag.up fh58 is_162 rfl) Mw3_h52
              have Fp_h58 : Fp h58 x2 := Fp_ag (my_ag.up fh58 is_162 rfl) Fp_h52
              have Wys_h58 : Wys h58 := Wys_ag (my_ag.up fh58 is_162 rfl) Wys_h52
              have Rws_h58t59 : Rws h58 := Rws_eq (Row_back f183 b162 fh58 (by omega) (by have z := tp8_136_0 p136_1 (by omega) (by omega); have z2 := ts_136_0 (60 * x1 + p136_1) (by omega) (by omega); omega)) n_Rws_136_0
              have f231 := fh58
              have r1 := rc_60s (h := h) (s := x1) (k := p136_1) (by omega)
              have r4 := kT (60 * x1 + p136_1) (by omega) (by omega)
              refine w_iinc (ls' := [(2, 151), (0, x1), (0, x2), (0, x3), (0, x4), (0, x5), (0, x6), (0, p136_0), (0, (p136_1 + 1)), (9, 0), (9, 0)]) gz_209_232 rfl gm_209 rfl rfl rfl ⟨by omega, by omega⟩ ?_
              refine w_goto (t := 136) gz_209_235 rfl ?_
              have ce60 : h58 151 48 = h136_0 151 48 := ((my_up_role fh58 is_151 is_162 rfl).trans ((my_up_role fh52 is_151 is_162 rfl).trans (rfl : h136_0 151 48 = h136_0 151 48)))
              have a162 : ∀ j : Int, h58 162 j = h58 162 j := fun j => rfl
              have ce61 : h58 151 48 = h136_0 151 48 := ((my_up_role fh58 is_151 is_162 rfl).trans ((my_up_role fh52 is_151 is_162 rfl).trans (rfl : h136_0 151 48 = h136_0 151 48)))
              have ce62 : h58 151 46 = h136_0 151 46 := ((my_up_role fh58 is_151 is_162 rfl).trans ((my_up_role fh52 is_151 is_162 rfl).trans (rfl : h136_0 151 46 = h136_0 151 46)))
              have a190 : ∀ j : Int, h58 190 j = h136_0 190 j := fun j => ((my_up_role fh58 is_190 is_162 rfl).trans ((my_up_role fh52 is_190 is_162 rfl).trans (rfl : h136_0 190 j = h136_0 190 j)))
              have a191 : ∀ j : Int, h58 191 j = h136_0 191 j := fun j => ((my_up_role fh58 is_191 is_162 rfl).trans ((my_up_role fh52 is_191 is_162 rfl).trans (rfl : h136_0 191 j = h136_0 191 j)))
              have a192 : ∀ j : Int, h58 192 j = h136_0 192 j := fun j => ((my_up_role fh58 is_192 is_162 rfl).trans ((my_up_role fh52 is_192 is_162 rfl).trans (rfl : h136_0 192 j = h136_0 192 j)))
              have a193 : ∀ j : Int, h58 193 j = h136_0 193 j := fun j => ((my_up_role fh58 is_193 is_162 rfl).trans ((my_up_role fh52 is_193 is_162 rfl).trans (rfl : h136_0 193 j = h136_0 193 j)))
              have a194 : ∀ j : Int, h58 194 j = h136_0 194 j := fun j => ((my_up_role fh58 is_194 is_162 rfl).trans ((my_up_role fh52 is_194 is_162 rfl).trans (rfl : h136_0 194 j = h136_0 194 j)))
              have a189 : ∀ j : Int, h58 189 j = h136_0 189 j := fun j => ((my_up_role fh58 is_189 is_162 rfl).trans ((my_up_role fh52 is_189 is_162 rfl).trans (rfl : h136_0 189 j = h136_0 189 j)))
              have wlq : WLm h58 (MWd h x2) = WLm h136_0 (MWd h x2) := (WLm_cg (by omega) a189).1
              have wyq : WyL h58 = WyL h136_0 := WyL_cg (by omega) a190 a191 a192 a193 a194
              exact ih_136_0 (p136_0) ((p136_1 + 1)) h58 (gh58) (by omega) (by omega) Mw_h58 Mw3_h58 Rws_h58t59 Fp_h58 (by first | (intro j a b; rw [a162]; first | exact ts_74_0 j a b | exact ts_57_0 j a b | exact ts_136_0 j a b) | (intro j a b; rw [Row_back f183 b162 f231 (by omega) (by have z := tp8_136_0 p136_1 (by omega) (by omega); omega)]; exact ts_136_0 j a b) | (intro j a b; exact (cp8.2 j (by omega)).trans (c162 j)) | omega) (by first | (intro j a b; rw [a162]; first | exact tp8_74_0 j a b | exact tp8_57_0 j a b | exact tp8_136_0 j a b) | (intro j a b; rw [Row_back f183 b162 f231 (by omega) (by have z := tp8_136_0 p136_1 (by omega) (by omega); omega)]; exact tp8_136_0 j a b) | (intro j a b; rw [show (480 : Int) + j = 60 * 8 + j by omega, cp8.1 j a b]; exact c162 _) | omega) (by first | omega | (show _ ≤ 1 + 57 * (0 : Int); omega) | (rw [r1]; omega) | (show _ ≤ 1711 + (0 : Int); omega) | omega) (Wys_h58) (by first | exact fa_57_0 | exact fa_74_0 | exact fa_136_0 | exact faq.1 | exact (FwA_cg fa_136_0 (by omega) a189).1 | assumption | omega) (by first | exact ms8 | exact msn | exact ms_57_0 | exact ms_74_0 | exact ms_136_0 | exact MS_back ms_136_0 f183 b162 b163 f231 (by omega) (by have z := tp8_136_0 p136_1 (by omega) (by omega); have z2 := ts_136_0 (60 * x1 + p136_1) (by omega) (by omega); omega) | assumption | omega) (by first | exact uw8 | exact uw_57_0 | exact uw_74_0 | exact uw_136_0 | assumption | omega) (by first | exact ot8 | exact otn | exact ot_57_0 | exact ot_74_0 | exact ot_136_0 | exact ot_136_0.cg (fun j a => (my_up_ne f231 (by omega)).trans ((b162 j).trans (my_up_ne f183 (by omega)))) (fun j a => (my_up_ne f231 (by omega)).trans (b163 j)) | assumption | omega) (by first | exact Fw2_0 (Fw1_to f1_57_0 (by omega)) | exact Fw2_n (by omega) f2_136_0 rfl rfl (fun z => absurd (bi9.mpr ((uw_136_0 _ (by omega) (by omega)).mpr z.1)) (by omega)) | exact Fw2_n (by omega) f2_136_0 rfl rfl (fun z => absurd ((MS_has T0 a1 b1 (by omega) (by omega) (by omega) (by omega)).mp z.2.1.2.2) (by rw [show 60 * x1 + 20 * (p136_1 / 20) + p136_1 % 20 = 60 * x1 + p136_1 by omega]; omega)) | exact Fw2_n (by omega) f2_136_0 wlq wyq (fun z => ml (laI.mpr z.2.2.1)) | exact Fw2_n (by omega) f2_136_0 wlq wyq (fun z => by have q := iw.mpr (is9.mpr z.2.2.2); omega) | exact Fw2_y (by omega) f2_136_0 wlq (wyF.trans (fw.trans (by rw [wyc]))) (by omega) (by omega) ⟨un9, hr9, laI.mp ml, is9.mp (iw.mp (by omega))⟩ | assumption | omega) (by omega)
            ·
              show wp l rho (d + 6) 209 190 [(2, 151), (0, x1), (0, x2), (0, x3), (0, x4), (0, x5), (0, x6), (0, p136_0), (0, p136_1), (9, 0), (9, 0)] [(0, 1)] h52 Q
              have ml := xp55
              refine w_ifeq (t := 220) gz_209_190 rfl (fun u63 => by exfalso; omega) (fun u63 => ?_)
              refine w_aload_n gz_209_193 rfl ?_
              refine w_bipush gz_209_194 (by decide) ?_
              refine w_iload_n gz_209_196 rfl ?_
              have is9 := Is_m (my_ag.fr (F := LmF) gh52 rfl) msd hlm a2 b2 tx fa183.2
              refine w_inv (k := 3) (as := [(0, x2), (0, 8)]) (r := []) (x := 151) (ls0 := [(2, 151), (0, 8), (0, x2), (9, 0), (9, 0), (9, 0)]) gz_209_197 gm_213 rfl is_151 rd_10 rfl rfl rfl rfl rfl (c_Model_isWanted6 (d := (d + 1)) (x1 := 8) (x2 := x2) (by omega) (by omega) (by omega) (by omega) Mw_h52 Mw3_h52 Rws_h52t53 Fp_h52 (LmW_ag (my_ag.fr (F := LmF) gh52 rfl) hlm) ((by rw [((Lm_e (my_ag.fr (F := LmF) gh52 rfl)).1 x2).2.2]; exact fa183.1.2)) (fun h64 v65 frh64 w66 w67 xp68 xp69 => ?_))
              have gh64 : my_fr [(10, 27), (10, 32), (10, 33), (10, 37), (10, 46), (10, 48), (61, -1), (62, -1), (73, -1), (74, -1), (75, -1), (76, -1), (77, -1), (78, -1), (79, -1), (80, -1), (81, -1), (82, -1), (83, -1), (84, -1), (85, -1), (86, -1), (88, -1), (89, -1), (90, -1), (91, -1), (92, -1), (93, -1), (94, -1)] h h64 := my_fr.tr gh52 (frh64.mo rfl)
              have Mw_h64 : Mw h64 := Mw_ag (my_ag.fr frh64 rfl) Mw_h52
              have Mw3_h64 : Mw3 h64 := Mw3_ag (my_ag.fr frh64 rfl) Mw3_h52
              have Fp_h64 : Fp h64 x2 := Fp_ag (my_ag.fr frh64 rfl) Fp_h52
              have Wys_h64 : Wys h64 := Wys_ag (my_ag.fr frh64 rfl) Wys_h52
              have Rws_h64 : Rws h64 := Rws_ag (my_ag.fr frh64 rfl) Rws_h52t53
              show wp l rho (d + 6) 209 200 [(2, 151), (0, x1), (0, x2), (0, x3), (0, x4), (0, x5), (0, x6), (0, p136_0), (0, p136_1), (9, 0), (9, 0)] [(0, v65)] h64 Q
              have iw := xp68
              refine w_ifeq (t := 220) gz_209_200 rfl (fun u70 => ?_) (fun u70 => ?_)
              ·
                refine w_aload_n gz_209_220 rfl ?_
                refine w_getX (v := 162) gz_209_221 is_151 rd_10 rfl (by decide) rfl ?_
                refine w_sipush gz_209_224 (by decide) ?_
                refine w_iload gz_209_227 rfl ?_
                refine w_iadd gz_209_229 ⟨by omega, by omega⟩ ?_
                refine w_iconst gz_209_230 (by decide) ?_
                have b162 : ∀ j : Int, h64 162 j = h52 162 j := fun j => ((my_fr.at frh64 is_162 rfl).trans (rfl : h52 162 j = h52 162 j))
                have b163 : ∀ j : Int, h64 163 j = h136_0 163 j := fun j => ((my_fr.at frh64 is_163 rfl).trans ((my_up_role fh52 is_163 is_162 rfl).trans (rfl : h136_0 163 j = h136_0 163 j)))
                refine w_bast gz_209_231 is_162 rd_61 (by omega) (by omega) (by omega) (by omega) (fun h72 fh72 => ?_)
                have gh72 : my_fr [(10, 27), (10, 32), (10, 33), (10, 37), (10, 46), (10, 48), (61, -1), (62, -1), (73, -1), (74, -1), (75, -1), (76, -1), (77, -1), (78, -1), (79, -1), (80, -1), (81, -1), (82, -1), (83, -1), (84, -1), (85, -1), (86, -1), (88, -1), (89, -1), (90, -1), (91, -1), (92, -1), (93, -1), (94, -1)] h h72 := my_fr.up gh64 is_162 fh72 rfl
                have Mw_h72 : Mw h72 := Mw_ag (my_ag.up fh72 is_162 rfl) Mw_h64
                have Mw3_h72 : Mw3 h72 := Mw3_ag (my_ag.up fh72 is_162 rfl) Mw3_h64
                have Fp_h72 : Fp h72 x2 := Fp_ag (my_ag.up fh72 is_162 rfl) Fp_h64
                have Wys_h72 : Wys h72 := Wys_ag (my_ag.up fh72 is_162 rfl) Wys_h64
                have Rws_h72t73 : Rws h72 := Rws_eq (Row_back f183 b162 fh72 (by omega) (by have z := tp8_136_0 p136_1 (by omega) (by omega); have z2 := ts_136_0 (60 * x1 + p136_1) (by omega) (by omega); omega)) n_Rws_136_0
                have f231 := fh72
                have r1 := rc_60s (h := h) (s := x1) (k := p136_1) (by omega)
                have r4 := kT (60 * x1 + p136_1) (by omega) (by omega)
                refine w_iinc (ls' := [(2, 151), (0, x1), (0, x2), (0, x3), (0, x4), (0, x5), (0, x6), (0, p136_0), (0, (p136_1 + 1)), (9, 0), (9, 0)]) gz_209_232 rfl gm_209 rfl rfl rfl ⟨by omega, by omega⟩ ?_
                refine w_goto (t := 136) gz_209_235 rfl ?_
                have ce74 : h72 151 48 = h136_0 151 48 := ((my_up_role fh72 is_151 is_162 rfl).trans ((my_fr.at frh64 is_151 rfl).trans ((my_up_role fh52 is_151 is_162 rfl).trans (rfl : h136_0 151 48 = h136_0 151 48))))
                have a162 : ∀ j : Int, h72 162 j = h72 162 j := fun j => rfl
                have ce75 : h72 151 48 = h136_0 151 48 := ((my_up_role fh72 is_151 is_162 rfl).trans ((my_fr.at frh64 is_151 rfl).trans ((my_up_role fh52 is_151 is_162 rfl).trans (rfl : h136_0 151 48 = h136_0 151 48))))
                have ce76 : h72 151 46 = h136_0 151 46 := ((my_up_role fh72 is_151 is_162 rfl).trans ((my_fr.at frh64 is_151 rfl).trans ((my_up_role fh52 is_151 is_162 rfl).trans (rfl : h136_0 151 46 = h136_0 151 46))))
                have a190 : ∀ j : Int, h72 190 j = h136_0 190 j := fun j => ((my_up_role fh72 is_190 is_162 rfl).trans ((my_fr.at frh64 is_190 rfl).trans ((my_up_role fh52 is_190 is_162 rfl).trans (rfl : h136_0 190 j = h136_0 190 j))))
                have a191 : ∀ j : Int, h72 191 j = h136_0 191 j := fun j => ((my_up_role fh72 is_191 is_162 rfl).trans ((my_fr.at frh64 is_191 rfl).trans ((my_up_role fh52 is_191 is_162 rfl).trans (rfl : h136_0 191 j = h136_0 191 j))))
                have a192 : ∀ j : Int, h72 192 j = h136_0 192 j := fun j => ((my_up_role fh72 is_192 is_162 rfl).trans ((my_fr.at frh64 is_192 rfl).trans ((my_up_role fh52 is_192 is_162 rfl).trans (rfl : h136_0 192 j = h136_0 192 j))))
                have a193 : ∀ j : Int, h72 193 j = h136_0 193 j := fun j => ((my_up_role fh72 is_193 is_162 rfl).trans ((my_fr.at frh64 is_193 rfl).trans ((my_up_role fh52 is_193 is_162 rfl).trans (rfl : h136_0 193 j = h136_0 193 j))))
                have a194 : ∀ j : Int, h72 194 j = h136_0 194 j := fun j => ((my_up_role fh72 is_194 is_162 rfl).trans ((my_fr.at frh64 is_194 rfl).trans ((my_up_role fh52 is_194 is_162 rfl).trans (rfl : h136_0 194 j = h136_0 194 j))))
                have a189 : ∀ j : Int, h72 189 j = h136_0 189 j := fun j => ((my_up_role fh72 is_189 is_162 rfl).trans ((my_fr.at frh64 is_189 rfl).trans ((my_up_role fh52 is_189 is_162 rfl).trans (rfl : h136_0 189 j = h136_0 189 j))))
                have wlq : WLm h72 (MWd h x2) = WLm h136_0 (MWd h x2) := (WLm_cg (by omega) a189).1
                have wyq : WyL h72 = WyL h136_0 := WyL_cg (by omega) a190 a191 a192 a193 a194
                exact ih_136_0 (p136_0) ((p136_1 + 1)) h72 (gh72) (by omega) (by omega) Mw_h72 Mw3_h72 Rws_h72t73 Fp_h72 (by first | (intro j a b; rw [a162]; first | exact ts_74_0 j a b | exact ts_57_0 j a b | exact ts_136_0 j a b) | (intro j a b; rw [Row_back f183 b162 f231 (by omega) (by have z := tp8_136_0 p136_1 (by omega) (by omega); omega)]; exact ts_136_0 j a b) | (intro j a b; exact (cp8.2 j (by omega)).trans (c162 j)) | omega) (by first | (intro j a b; rw [a162]; first | exact tp8_74_0 j a b | exact tp8_57_0 j a b | exact tp8_136_0 j a b) | (intro j a b; rw [Row_back f183 b162 f231 (by omega) (by have z := tp8_136_0 p136_1 (by omega) (by omega); omega)]; exact tp8_136_0 j a b) | (intro j a b; rw [show (480 : Int) + j = 60 * 8 + j by omega, cp8.1 j a b]; exact c162 _) | omega) (by first | omega | (show _ ≤ 1 + 57 * (0 : Int); omega) | (rw [r1]; omega) | (show _ ≤ 1711 + (0 : Int); omega) | omega) (Wys_h72) (by first | exact fa_57_0 | exact fa_74_0 | exact fa_136_0 | exact faq.1 | exact (FwA_cg fa_136_0 (by omega) a189).1 | assumption | omega) (by first | exact ms8 | exact msn | exact ms_57_0 | exact ms_74_0 | exact ms_136_0 | exact MS_back ms_136_0 f183 b162 b163 f231 (by omega) (by have z := tp8_136_0 p136_1 (by omega) (by omega); have z2 := ts_136_0 (60 * x1 + p136_1) (by omega) (by omega); omega) | assumption | omega) (by first | exact uw8 | exact uw_57_0 | exact uw_74_0 | exact uw_136_0 | assumption | omega) (by first | exact ot8 | exact otn | exact ot_57_0 | exact ot_74_0 | exact ot_136_0 | exact ot_136_0.cg (fun j a => (my_up_ne f231 (by omega)).trans ((b162 j).trans (my_up_ne f183 (by omega)))) (fun j a => (my_up_ne f231 (by omega)).trans (b163 j)) | assumption | omega) (by first | exact Fw2_0 (Fw1_to f1_57_0 (by omega)) | exact Fw2_n (by omega) f2_136_0 rfl rfl (fun z => absurd (bi9.mpr ((uw_136_0 _ (by omega) (by omega)).mpr z.1)) (by omega)) | exact Fw2_n (by omega) f2_136_0 rfl rfl (fun z => absurd ((MS_has T0 a1 b1 (by omega) (by omega) (by omega) (by omega)).mp z.2.1.2.2) (by rw [show 60 * x1 + 20 * (p136_1 / 20) + p136_1 % 20 = 60 * x1 + p136_1 by omega]; omega)) | exact Fw2_n (by omega) f2_136_0 wlq wyq (fun z => ml (laI.mpr z.2.2.1)) | exact Fw2_n (by omega) f2_136_0 wlq wyq (fun z => by have q := iw.mpr (is9.mpr z.2.2.2); omega) | exact Fw2_y (by omega) f2_136_0 wlq (wyF.trans (fw.trans (by rw [wyc]))) (by omega) (by omega) ⟨un9, hr9, laI.mp ml, is9.mp (iw.mp (by omega))⟩ | assumption | omega) (by omega)
              ·
                have r3 := rc_60 (s := x1) kT n_Rws (by omega) (by omega) p136_1 (by omega) (by omega)
                refine w_aload_n gz_209_203 rfl ?_
                refine w_iconst gz_209_204 (by decide) ?_
                refine w_iload gz_209_205 rfl ?_
                refine w_bipush gz_209_207 (by decide) ?_
                refine w_idiv gz_209_209 (by omega) (by decide) ?_
                refine w_iload gz_209_210 rfl ?_
                refine w_bipush gz_209_212 (by decide) ?_
                refine w_irem gz_209_214 (by omega) (by decide) ?_
                refine w_iconst gz_209_215 (by decide) ?_
                refine w_iconst gz_209_216 (by decide) ?_
                have ce77 : h64 151 48 = h136_0 151 48 := ((my_fr.at frh64 is_151 rfl).trans ((my_up_role fh52 is_151 is_162 rfl).trans (rfl : h136_0 151 48 = h136_0 151 48)))
                have ce78 : h64 151 48 = h136_0 151 48 := ((my_fr.at frh64 is_151 rfl).trans ((my_up_role fh52 is_151 is_162 rfl).trans (rfl : h136_0 151 48 = h136_0 151 48)))
                have a190 : ∀ j : Int, h64 190 j = h136_0 190 j := fun j => ((my_fr.at frh64 is_190 rfl).trans ((my_up_role fh52 is_190 is_162 rfl).trans (rfl : h136_0 190 j = h136_0 190 j)))
                have a191 : ∀ j : Int, h64 191 j = h136_0 191 j := fun j => ((my_fr.at frh64 is_191 rfl).trans ((my_up_role fh52 is_191 is_162 rfl).trans (rfl : h136_0 191 j = h136_0 191 j)))
                have a192 : ∀ j : Int, h64 192 j = h136_0 192 j := fun j => ((my_fr.at frh64 is_192 rfl).trans ((my_up_role fh52 is_192 is_162 rfl).trans (rfl : h136_0 192 j = h136_0 192 j)))
                have a193 : ∀ j : Int, h64 193 j = h136_0 193 j := fun j => ((my_fr.at frh64 is_193 rfl).trans ((my_up_role fh52 is_193 is_162 rfl).trans (rfl : h136_0 193 j = h136_0 193 j)))
                have a194 : ∀ j : Int, h64 194 j = h136_0 194 j := fun j => ((my_fr.at frh64 is_194 rfl).trans ((my_up_role fh52 is_194 is_162 rfl).trans (rfl : h136_0 194 j = h136_0 194 j)))
                have wyc : WyL h64 = WyL h136_0 := WyL_cg (by omega) a190 a191 a192 a193 a194
                refine w_inv (k := 0) (as := [(0, (-1)), (0, (-1)), (0, (p136_1 % 20)), (0, (p136_1 / 20)), (0, 2)]) (r := []) (x := 151) (ls0 := [(2, 151), (0, 2), (0, (p136_1 / 20)), (0, (p136_1 % 20)), (0, (-1)), (0, (-1))]) gz_209_217 gm_214 rfl is_151 rd_10 rfl rfl rfl rfl rfl (c_Model_finds5 (d := (d + 5)) (x1 := 2) (x2 := (p136_1 / 20)) (x3 := (p136_1 % 20)) (x4 := (-1)) (x5 := (-1)) (by omega) (by omega) (by omega) (by omega) (by omega) (by omega) (by omega) (by omega) (by omega) (by omega) Wys_h64 (by first | assumption | exact Fp_h64 | exact Fp_told (by omega) (by omega) | omega | (subst_vars; omega) | omega) (by first | assumption | exact Fp_h64 | exact Fp_told (by omega) (by omega) | omega | (subst_vars; omega) | omega) (by first | assumption | exact Fp_h64 | exact Fp_told (by omega) (by omega) | omega | (subst_vars; omega) | omega) (fun h79 frh79 w80 w81 xp82 xp83 Wys_h79t84 => ?_))
                have gh79 : my_fr [(10, 27), (10, 32), (10, 33), (10, 37), (10, 46), (10, 48), (61, -1), (62, -1), (73, -1), (74, -1), (75, -1), (76, -1), (77, -1), (78, -1), (79, -1), (80, -1), (81, -1), (82, -1), (83, -1), (84, -1), (85, -1), (86, -1), (88, -1), (89, -1), (90, -1), (91, -1), (92, -1), (93, -1), (94, -1)] h h79 := my_fr.tr gh64 (frh79.mo rfl)
                have Mw_h79 : Mw h79 := Mw_ag (my_ag.fr frh79 rfl) Mw_h64
                have Mw3_h79 : Mw3 h79 := Mw3_ag (my_ag.fr frh79 rfl) Mw3_h64
                have Fp_h79 : Fp h79 x2 := Fp_ag (my_ag.fr frh79 rfl) Fp_h64
                have Rws_h79 : Rws h79 := Rws_ag (my_ag.fr frh79 rfl) Rws_h64
                show wp l rho (d + 6) 209 220 [(2, 151), (0, x1), (0, x2), (0, x3), (0, x4), (0, x5), (0, x6), (0, p136_0), (0, p136_1), (9, 0), (9, 0)] [] h79 Q
                have fw := xp83
                refine w_aload_n gz_209_220 rfl ?_
                refine w_getX (v := 162) gz_209_221 is_151 rd_10 rfl (by decide) rfl ?_
                refine w_sipush gz_209_224 (by decide) ?_
                refine w_iload gz_209_227 rfl ?_
                refine w_iadd gz_209_229 ⟨by omega, by omega⟩ ?_
                refine w_iconst gz_209_230 (by decide) ?_
                have b162 : ∀ j : Int, h79 162 j = h52 162 j := fun j => ((my_fr.at frh79 is_162 rfl).trans ((my_fr.at frh64 is_162 rfl).trans (rfl : h52 162 j = h52 162 j)))
                have b163 : ∀ j : Int, h79 163 j = h136_0 163 j := fun j => ((my_fr.at frh79 is_163 rfl).trans ((my_fr.at frh64 is_163 rfl).trans ((my_up_role fh52 is_163 is_162 rfl).trans (rfl : h136_0 163 j = h136_0 163 j))))
                refine w_bast gz_209_231 is_162 rd_61 (by omega) (by omega) (by omega) (by omega) (fun h86 fh86 => ?_)
                have gh86 : my_fr [(10, 27), (10, 32), (10, 33), (10, 37), (10, 46), (10, 48), (61, -1), (62, -1), (73, -1), (74, -1), (75, -1), (76, -1), (77, -1), (78, -1), (79, -1), (80, -1), (81, -1), (82, -1), (83, -1), (84, -1), (85, -1), (86, -1), (88, -1), (89, -1), (90, -1), (91, -1), (92, -1), (93, -1), (94, -1)] h h86 := my_fr.up gh79 is_162 fh86 rfl
                have Mw_h86 : Mw h86 := Mw_ag (my_ag.up fh86 is_162 rfl) Mw_h79
                have Mw3_h86 : Mw3 h86 := Mw3_ag (my_ag.up fh86 is_162 rfl) Mw3_h79
                have Fp_h86 : Fp h86 x2 := Fp_ag (my_ag.up fh86 is_162 rfl) Fp_h79
                have Wys_h86 : Wys h86 := Wys_ag (my_ag.up fh86 is_162 rfl) Wys_h79t84
                have Rws_h86t87 : Rws h86 := Rws_eq (Row_back f183 b162 fh86 (by omega) (by have z := tp8_136_0 p136_1 (by omega) (by omega); have z2 := ts_136_0 (60 * x1 + p136_1) (by omega) (by omega); omega)) n_Rws_136_0
                have f231 := fh86
                have r1 := rc_60s (h := h) (s := x1) (k := p136_1) (by omega)
                have r4 := kT (60 * x1 + p136_1) (by omega) (by omega)
                refine w_iinc (ls' := [(2, 151), (0, x1), (0, x2), (0, x3), (0, x4), (0, x5), (0, x6), (0, p136_0), (0, (p136_1 + 1)), (9, 0), (9, 0)]) gz_209_232 rfl gm_209 rfl rfl rfl ⟨by omega, by omega⟩ ?_
                refine w_goto (t := 136) gz_209_235 rfl ?_
                have ce88 : h86 151 48 = (h79 151 48) := ((my_up_role fh86 is_151 is_162 rfl).trans (rfl : h79 151 48 = h79 151 48))
                have a162 : ∀ j : Int, h86 162 j = h86 162 j := fun j => rfl
                have ce89 : h86 151 48 = (h79 151 48) := ((my_up_role fh86 is_151 is_162 rfl).trans (rfl : h79 151 48 = h79 151 48))
                have ce90 : h86 151 46 = h136_0 151 46 := ((my_up_role fh86 is_151 is_162 rfl).trans ((my_fr.at frh79 is_151 rfl).trans ((my_fr.at frh64 is_151 rfl).trans ((my_up_role fh52 is_151 is_162 rfl).trans (rfl : h136_0 151 46 = h136_0 151 46)))))
                have a190 : ∀ j : Int, h86 190 j = h79 190 j := fun j => ((my_up_role fh86 is_190 is_162 rfl).trans (rfl : h79 190 j = h79 190 j))
                have a191 : ∀ j : Int, h86 191 j = h79 191 j := fun j => ((my_up_role fh86 is_191 is_162 rfl).trans (rfl : h79 191 j = h79 191 j))
                have a192 : ∀ j : Int, h86 192 j = h79 192 j := fun j => ((my_up_role fh86 is_192 is_162 rfl).trans (rfl : h79 192 j = h79 192 j))
                have a193 : ∀ j : Int, h86 193 j = h79 193 j := fun j => ((my_up_role fh86 is_193 is_162 rfl).trans (rfl : h79 193 j = h79 193 j))
                have a194 : ∀ j : Int, h86 194 j = h79 194 j := fun j => ((my_up_role fh86 is_194 is_162 rfl).trans (rfl : h79 194 j = h79 194 j))
                have a189 : ∀ j : Int, h86 189 j = h136_0 189 j := fun j => ((my_up_role fh86 is_189 is_162 rfl).trans ((my_fr.at frh79 is_189 rfl).trans ((my_fr.at frh64 is_189 rfl).trans ((my_up_role fh52 is_189 is_162 rfl).trans (rfl : h136_0 189 j = h136_0 189 j)))))
                have wlq : WLm h86 (MWd h x2) = WLm h136_0 (MWd h x2) := (WLm_cg (by omega) a189).1
                have wyF : WyL h86 = WyL h79 := WyL_cg (by omega) a190 a191 a192 a193 a194
                exact ih_136_0 (p136_0) ((p136_1 + 1)) h86 (gh86) (by omega) (by omega) Mw_h86 Mw3_h86 Rws_h86t87 Fp_h86 (by first | (intro j a b; rw [a162]; first | exact ts_74_0 j a b | exact ts_57_0 j a b | exact ts_136_0 j a b) | (intro j a b; rw [Row_back f183 b162 f231 (by omega) (by have z := tp8_136_0 p136_1 (by omega) (by omega); omega)]; exact ts_136_0 j a b) | (intro j a b; exact (cp8.2 j (by omega)).trans (c162 j)) | omega) (by first | (intro j a b; rw [a162]; first | exact tp8_74_0 j a b | exact tp8_57_0 j a b | exact tp8_136_0 j a b) | (intro j a b; rw [Row_back f183 b162 f231 (by omega) (by have z := tp8_136_0 p136_1 (by omega) (by omega); omega)]; exact tp8_136_0 j a b) | (intro j a b; rw [show (480 : Int) + j = 60 * 8 + j by omega, cp8.1 j a b]; exact c162 _) | omega) (by first | omega | (show _ ≤ 1 + 57 * (0 : Int); omega) | (rw [r1]; omega) | (show _ ≤ 1711 + (0 : Int); omega) | omega) (Wys_h86) (by first | exact fa_57_0 | exact fa_74_0 | exact fa_136_0 | exact faq.1 | exact (FwA_cg fa_136_0 (by omega) a189).1 | assumption | omega) (by first | exact ms8 | exact msn | exact ms_57_0 | exact ms_74_0 | exact ms_136_0 | exact MS_back ms_136_0 f183 b162 b163 f231 (by omega) (by have z := tp8_136_0 p136_1 (by omega) (by omega); have z2 := ts_136_0 (60 * x1 + p136_1) (by omega) (by omega); omega) | assumption | omega) (by first | exact uw8 | exact uw_57_0 | exact uw_74_0 | exact uw_136_0 | assumption | omega) (by first | exact ot8 | exact otn | exact ot_57_0 | exact ot_74_0 | exact ot_136_0 | exact ot_136_0.cg (fun j a => (my_up_ne f231 (by omega)).trans ((b162 j).trans (my_up_ne f183 (by omega)))) (fun j a => (my_up_ne f231 (by omega)).trans (b163 j)) | assumption | omega) (by first | exact Fw2_0 (Fw1_to f1_57_0 (by omega)) | exact Fw2_n (by omega) f2_136_0 rfl rfl (fun z => absurd (bi9.mpr ((uw_136_0 _ (by omega) (by omega)).mpr z.1)) (by omega)) | exact Fw2_n (by omega) f2_136_0 rfl rfl (fun z => absurd ((MS_has T0 a1 b1 (by omega) (by omega) (by omega) (by omega)).mp z.2.1.2.2) (by rw [show 60 * x1 + 20 * (p136_1 / 20) + p136_1 % 20 = 60 * x1 + p136_1 by omega]; omega)) | exact Fw2_n (by omega) f2_136_0 wlq wyq (fun z => ml (laI.mpr z.2.2.1)) | exact Fw2_n (by omega) f2_136_0 wlq wyq (fun z => by have q := iw.mpr (is9.mpr z.2.2.2); omega) | exact Fw2_y (by omega) f2_136_0 wlq (wyF.trans (fw.trans (by rw [wyc]))) (by omega) (by omega) ⟨un9, hr9, laI.mp ml, is9.mp (iw.mp (by omega))⟩ | assumption | omega) (by omega)
  have J57_0 : ∀ (n : Nat) (p57_0 p57_1 : Int) (h57_0 : my_H), my_fr [(10, 27), (10, 32), (10, 33), (10, 37), (10, 46), (10, 48), (61, -1), (62, -1), (73, -1), (74, -1), (75, -1), (76, -1), (77, -1), (78, -1), (79, -1), (80, -1), (81, -1), (82, -1), (83, -1), (84, -1), (85, -1), (86, -1), (88, -1), (89, -1), (90, -1), (91, -1), (92, -1), (93, -1), (94, -1)] h h57_0 → 0 ≤ p57_1 → p57_1 ≤ 60 → Mw h57_0 → Mw3 h57_0 → Rws h57_0 → Fp h57_0 x2 → (∀ j : Int, 60 * x1 ≤ j → j < 60 * x1 + 60 → h57_0 162 j = h 162 j) → (∀ j : Int, 0 ≤ j → j < 60 → h57_0 162 (480 + j) = h 162 (60 * x1 + j)) → h57_0 151 48 ≤ 1 + 57 * rc h (60 * x1) p57_1.toNat → Wys h57_0 → FwA h h57_0 x1 x2 x3 x4 x5 x6 → zqAg (zqMS h x1) (zqMS h57_0 8) → UwB p57_0 (mBs h x2) (mCW h x2) → Ot8 h h57_0 → Fw1 h h57_0 x1 x2 (4 * p57_1) → 61 - p57_1 ≤ (n : Int) → wp l rho (d + 6) 209 57 [(2, 151), (0, x1), (0, x2), (0, x3), (0, x4), (0, x5), (0, x6), (0, p57_0), (0, p57_1), (9, 0), (9, 0)] [] h57_0 Q := by
    intro n
    induction n with
    | zero => intro p57_0 p57_1 h57_0 gh_57_0 q0_57_0 q1_57_0 n_Mw_57_0 n_Mw3_57_0 n_Rws_57_0 n_Fp_57_0 ts_57_0 tp8_57_0 wb_57_0 wy_57_0 fa_57_0 ms_57_0 uw_57_0 ot_57_0 f1_57_0 hm_57_0; exfalso; omega
    | succ n ih_57_0 =>
      intro p57_0 p57_1 h57_0 gh_57_0 q0_57_0 q1_57_0 n_Mw_57_0 n_Mw3_57_0 n_Rws_57_0 n_Fp_57_0 ts_57_0 tp8_57_0 wb_57_0 wy_57_0 fa_57_0 ms_57_0 uw_57_0 ot_57_0 f1_57_0 hm_57_0
      have Wys_h57_0t91 : Wys h57_0 := wy_57_0
      have J74_0 : ∀ (n : Nat) (p74_0 p74_1 : Int) (h74_0 : my_H), my_fr [(10, 27), (10, 32), (10, 33), (10, 37), (10, 46), (10, 48), (61, -1), (62, -1), (73, -1), (74, -1), (75, -1), (76, -1), (77, -1), (78, -1), (79, -1), (80, -1), (81, -1), (82, -1), (83, -1), (84, -1), (85, -1), (86, -1), (88, -1), (89, -1), (90, -1), (91, -1), (92, -1), (93, -1), (94, -1)] h h74_0 → p57_1 ≤ 59 → 0 ≤ p74_0 → p74_0 ≤ 2 → 1 ≤ p74_1 → p74_1 ≤ 4 → Mw h74_0 → Mw3 h74_0 → Rws h74_0 → Fp h74_0 x2 → (∀ j : Int, 60 * x1 ≤ j → j < 60 * x1 + 60 → h74_0 162 j = h 162 j) → (∀ j : Int, 0 ≤ j → j < 60 → h74_0 162 (480 + j) = h 162 (60 * x1 + j)) → h74_0 151 48 ≤ 1 + 57 * rc h (60 * x1) p57_1.toNat + 19 * (p74_1 - 1) → p74_1 = 1 ∨ h 162 (60 * x1 + p57_1) = 1 → Wys h74_0 → FwA h h74_0 x1 x2 x3 x4 x5 x6 → zqAg (zqMS h x1) (zqMS h74_0 8) → UwB p57_0 (mBs h x2) (mCW h x2) → Ot8 h h74_0 → Fw1 h h74_0 x1 x2 (4 * p57_1 + p74_1) → p74_0 = p57_1 / 20 → 5 - p74_1 ≤ (n : Int) → wp l rho (d + 6) 209 74 [(2, 151), (0, x1), (0, x2), (0, x3), (0, x4), (0, x5), (0, x6), (0, p57_0), (0, p57_1), (0, p74_0), (0, p74_1)] [] h74_0 Q := by
        intro n
        induction n with
        | zero => intro p74_0 p74_1 h74_0 gh_74_0 q0_74_0 q1_74_0 q2_74_0 q3_74_0 q4_74_0 n_Mw_74_0 n_Mw3_74_0 n_Rws_74_0 n_Fp_74_0 ts_74_0 tp8_74_0 wb_74_0 wo_74_0 wy_74_0 fa_74_0 ms_74_0 uw_74_0 ot_74_0 f1_74_0 l9_74_0 hm_74_0; exfalso; omega
        | succ n ih_74_0 =>
          intro p74_0 p74_1 h74_0 gh_74_0 q0_74_0 q1_74_0 q2_74_0 q3_74_0 q4_74_0 n_Mw_74_0 n_Mw3_74_0 n_Rws_74_0 n_Fp_74_0 ts_74_0 tp8_74_0 wb_74_0 wo_74_0 wy_74_0 fa_74_0 ms_74_0 uw_74_0 ot_74_0 f1_74_0 l9_74_0 hm_74_0
          have Wys_h74_0t92 : Wys h74_0 := wy_74_0
          refine w_iload gz_209_74 rfl ?_
          refine w_aload_n gz_209_76 rfl ?_
          refine w_getX (v := 157) gz_209_77 is_151 rd_10 rfl (by decide) rfl ?_
          refine w_iload gz_209_80 rfl ?_
          refine w_iald gz_209_82 is_157 rd_56 (by omega) (by omega) (fun v94 ev94 pv94 qv94 => ?_)
          have co8 : v94 = h 157 (p57_1 / 20) := by
            have q : h74_0 157 (p57_1 / 20) = h 157 (p57_1 / 20) := my_fr.at gh_74_0 pis_157 rfl
            rw [← q, ← l9_74_0]
            omega
          refine w_icge (t := 127) gz_209_83 rfl (fun u95 => ?_) (fun u95 => ?_)
          ·
            have r1 := rc_60s (h := h) (s := x1) (k := p57_1) (by omega)
            have r4 := kT (60 * x1 + p57_1) (by omega) (by omega)
            have sk8 : ∀ y v : Int, 4 * p57_1 + p74_1 ≤ y → y < 4 * (p57_1 + 1) → ¬ FQ1 h h74_0 x1 x2 y v := fun y v a b z => by
              obtain ⟨⟨z1, z2, z3, z4⟩, -⟩ := z
              have ey : y / 80 = p57_1 / 20 := by omega
              have e4 : y / 4 % 20 = p57_1 % 20 := by omega
              first
              | (have q : y % 4 < h 157 (y / 80) := z2; rw [ey] at q; omega)
              | (rw [show y / 80 = p74_0 by omega] at z3; exact absurd (bi8.mpr ((uw_74_0 _ (by omega) (by omega)).mpr z3)) (by omega))
              | (rw [ey, e4] at z4; exact absurd ((MS_has T0 a1 b1 (by omega) (by omega) (by omega) (by omega)).mp z4.2.2) (by rw [show 60 * x1 + 20 * (p57_1 / 20) + p57_1 % 20 = 60 * x1 + p57_1 by omega]; omega))
            refine w_iinc (ls' := [(2, 151), (0, x1), (0, x2), (0, x3), (0, x4), (0, x5), (0, x6), (0, p57_0), (0, (p57_1 + 1)), (0, p74_0), (0, p74_1)]) gz_209_127 rfl gm_209 rfl rfl rfl ⟨by omega, by omega⟩ ?_
            refine w_goto (t := 57) gz_209_130 rfl ?_
            have a162 : ∀ j : Int, h74_0 162 j = h74_0 162 j := fun _ => rfl
            refine w_weak (ls' := [(2, 151), (0, x1), (0, x2), (0, x3), (0, x4), (0, x5), (0, x6), (0, p57_0), (0, (p57_1 + 1)), (9, 0), (9, 0)]) (wk_e (wk_e (wk_e (wk_e (wk_e (wk_e (wk_e (wk_e (wk_e (wk_9 (wk_9 wk_n))))))))))) ?_
            exact ih_57_0 (p57_0) ((p57_1 + 1)) h74_0 (gh_74_0) (by omega) (by omega) n_Mw_74_0 n_Mw3_74_0 n_Rws_74_0 n_Fp_74_0 (by first | (intro j a b; rw [a162]; first | exact ts_74_0 j a b | exact ts_57_0 j a b | exact ts_136_0 j a b) | (intro j a b; rw [Row_back f183 b162 f231 (by omega) (by have z := tp8_136_0 p57_1 (by omega) (by omega); omega)]; exact ts_136_0 j a b) | (intro j a b; exact (cp8.2 j (by omega)).trans (c162 j)) | omega) (by first | (intro j a b; rw [a162]; first | exact tp8_74_0 j a b | exact tp8_57_0 j a b | exact tp8_136_0 j a b) | (intro j a b; rw [Row_back f183 b162 f231 (by omega) (by have z := tp8_136_0 p57_1 (by omega) (by omega); omega)]; exact tp8_136_0 j a b) | (intro j a b; rw [show (480 : Int) + j = 60 * 8 + j by omega, cp8.1 j a b]; exact c162 _) | omega) (by first | omega | (show _ ≤ 1 + 57 * (0 : Int); omega) | (rw [r1]; omega) | (show _ ≤ 1711 + (0 : Int); omega) | omega) (Wys_h74_0t92) (by first | exact fa_57_0 | exact fa_74_0 | exact fa_136_0 | exact faq.1 | exact (FwA_cg fa_136_0 (by omega) a189).1 | assumption | omega) (by first | exact ms8 | exact msn | exact ms_57_0 | exact ms_74_0 | exact ms_136_0 | exact MS_back ms_136_0 f183 b162 b163 f231 (by omega) (by have z := tp8_136_0 p57_1 (by omega) (by omega); have z2 := ts_136_0 (60 * x1 + p57_1) (by omega) (by omega); omega) | assumption | omega) (by first | exact uw8 | exact uw_57_0 | exact uw_74_0 | exact uw_136_0 | assumption | omega) (by first | exact ot8 | exact otn | exact ot_57_0 | exact ot_74_0 | exact ot_136_0 | exact ot_136_0.cg (fun j a => (my_up_ne f231 (by omega)).trans ((b162 j).trans (my_up_ne f183 (by omega)))) (fun j a => (my_up_ne f231 (by omega)).trans (b163 j)) | assumption | omega) (by first | exact Fw1_to (Fw1_0 wlq0) (by omega) | exact Fw1_s (by omega) (by omega) f1_57_0 (fun y v a b z => by have q := z.1.1; omega) | exact Fw1_to f1n (by omega) | exact Fw1_s (by omega) (by omega) f1_74_0 sk8 | assumption | omega) (by omega)
          ·
            refine w_iload gz_209_86 rfl ?_
            refine w_iload gz_209_88 rfl ?_
            refine w_ishrX gz_209_90 (fun v96 ev96 pv96 qv96 => ?_)
            refine w_iconst gz_209_91 (by decide) ?_
            refine w_iandXM gz_209_92 (by decide) (fun v97 ev97 pv97 qv97 => ?_)
            refine w_iconst gz_209_93 (by decide) ?_
            have bi8 := bsr_bit (y := p57_0) (u := p74_0) (z := v97) (by omega) (by omega) (by assumption) (by assumption)
            refine w_icne (t := 127) gz_209_94 rfl (fun u98 => ?_) (fun u98 => ?_)
            ·
              have r1 := rc_60s (h := h) (s := x1) (k := p57_1) (by omega)
              have r4 := kT (60 * x1 + p57_1) (by omega) (by omega)
              have sk8 : ∀ y v : Int, 4 * p57_1 + p74_1 ≤ y → y < 4 * (p57_1 + 1) → ¬ FQ1 h h74_0 x1 x2 y v := fun y v a b z => by
                obtain ⟨⟨z1, z2, z3, z4⟩, -⟩ := z
                have ey : y / 80 = p57_1 / 20 := by omega
                have e4 : y / 4 % 20 = p57_1 % 20 := by omega
                first
                | (have q : y % 4 < h 157 (y / 80) := z2; rw [ey] at q; omega)
                | (rw [show y / 80 = p74_0 by omega] at z3; exact absurd (bi8.mpr ((uw_74_0 _ (by omega) (by omega)).mpr z3)) (by omega))
                | (rw [ey, e4] at z4; exact absurd ((MS_has T0 a1 b1 (by omega) (by omega) (by omega) (by omega)).mp z4.2.2) (by rw [show 60 * x1 + 20 * (p57_1 / 20) + p57_1 % 20 = 60 * x1 + p57_1 by omega]; omega))
              refine w_iinc (ls' := [(2, 151), (0, x1), (0, x2), (0, x3), (0, x4), (0, x5), (0, x6), (0, p57_0), (0, (p57_1 + 1)), (0, p74_0), (0, p74_1)]) gz_209_127 rfl gm_209 rfl rfl rfl ⟨by omega, by omega⟩ ?_
              refine w_goto (t := 57) gz_209_130 rfl ?_
              have a162 : ∀ j : Int, h74_0 162 j = h74_0 162 j := fun _ => rfl
              refine w_weak (ls' := [(2, 151), (0, x1), (0, x2), (0, x3), (0, x4), (0, x5), (0, x6), (0, p57_0), (0, (p57_1 + 1)), (9, 0), (9, 0)]) (wk_e (wk_e (wk_e (wk_e (wk_e (wk_e (wk_e (wk_e (wk_e (wk_9 (wk_9 wk_n))))))))))) ?_
              exact ih_57_0 (p57_0) ((p57_1 + 1)) h74_0 (gh_74_0) (by omega) (by omega) n_Mw_74_0 n_Mw3_74_0 n_Rws_74_0 n_Fp_74_0 (by first | (intro j a b; rw [a162]; first | exact ts_74_0 j a b | exact ts_57_0 j a b | exact ts_136_0 j a b) | (intro j a b; rw [Row_back f183 b162 f231 (by omega) (by have z := tp8_136_0 p57_1 (by omega) (by omega); omega)]; exact ts_136_0 j a b) | (intro j a b; exact (cp8.2 j (by omega)).trans (c162 j)) | omega) (by first | (intro j a b; rw [a162]; first | exact tp8_74_0 j a b | exact tp8_57_0 j a b | exact tp8_136_0 j a b) | (intro j a b; rw [Row_back f183 b162 f231 (by omega) (by have z := tp8_136_0 p57_1 (by omega) (by omega); omega)]; exact tp8_136_0 j a b) | (intro j a b; rw [show (480 : Int) + j = 60 * 8 + j by omega, cp8.1 j a b]; exact c162 _) | omega) (by first | omega | (show _ ≤ 1 + 57 * (0 : Int); omega) | (rw [r1]; omega) | (show _ ≤ 1711 + (0 : Int); omega) | omega) (Wys_h74_0t92) (by first | exact fa_57_0 | exact fa_74_0 | exact fa_136_0 | exact faq.1 | exact (FwA_cg fa_136_0 (by omega) a189).1 | assumption | omega) (by first | exact ms8 | exact msn | exact ms_57_0 | exact ms_74_0 | exact ms_136_0 | exact MS_back ms_136_0 f183 b162 b163 f231 (by omega) (by have z := tp8_136_0 p57_1 (by omega) (by omega); have z2 := ts_136_0 (60 * x1 + p57_1) (by omega) (by omega); omega) | assumption | omega) (by first | exact uw8 | exact uw_57_0 | exact uw_74_0 | exact uw_136_0 | assumption | omega) (by first | exact ot8 | exact otn | exact ot_57_0 | exact ot_74_0 | exact ot_136_0 | exact ot_136_0.cg (fun j a => (my_up_ne f231 (by omega)).trans ((b162 j).trans (my_up_ne f183 (by omega)))) (fun j a => (my_up_ne f231 (by omega)).trans (b163 j)) | assumption | omega) (by first | exact Fw1_to (Fw1_0 wlq0) (by omega) | exact Fw1_s (by omega) (by omega) f1_57_0 (fun y v a b z => by have q := z.1.1; omega) | exact Fw1_to f1n (by omega) | exact Fw1_s (by omega) (by omega) f1_74_0 sk8 | assumption | omega) (by omega)
            ·
              refine w_aload_n gz_209_97 rfl ?_
              refine w_getX (v := 162) gz_209_98 is_151 rd_10 rfl (by decide) rfl ?_
              refine w_bipush gz_209_101 (by decide) ?_
              refine w_iload_n gz_209_103 rfl ?_
              refine w_imul gz_209_104 ⟨by omega, by omega⟩ ?_
              refine w_iload gz_209_105 rfl ?_
              refine w_iadd gz_209_107 ⟨by omega, by omega⟩ ?_
              refine w_bald gz_209_108 is_162 rd_61 (by omega) (by omega) (fun v100 ev100 pv100 qv100 => ?_)
              have rt := ts_74_0 (60 * x1 + p57_1) (by omega) (by omega)
              have it8 : v100 = h 162 (60 * x1 + p57_1) := by omega
              refine w_ifeq (t := 127) gz_209_109 rfl (fun u101 => ?_) (fun u101 => ?_)
              ·
                have r1 := rc_60s (h := h) (s := x1) (k := p57_1) (by omega)
                have r4 := kT (60 * x1 + p57_1) (by omega) (by omega)
                have sk8 : ∀ y v : Int, 4 * p57_1 + p74_1 ≤ y → y < 4 * (p57_1 + 1) → ¬ FQ1 h h74_0 x1 x2 y v := fun y v a b z => by
                  obtain ⟨⟨z1, z2, z3, z4⟩, -⟩ := z
                  have ey : y / 80 = p57_1 / 20 := by omega
                  have e4 : y / 4 % 20 = p57_1 % 20 := by omega
                  first
                  | (have q : y % 4 < h 157 (y / 80) := z2; rw [ey] at q; omega)
                  | (rw [show y / 80 = p74_0 by omega] at z3; exact absurd (bi8.mpr ((uw_74_0 _ (by omega) (by omega)).mpr z3)) (by omega))
                  | (rw [ey, e4] at z4; exact absurd ((MS_has T0 a1 b1 (by omega) (by omega) (by omega) (by omega)).mp z4.2.2) (by rw [show 60 * x1 + 20 * (p57_1 / 20) + p57_1 % 20 = 60 * x1 + p57_1 by omega]; omega))
                refine w_iinc (ls' := [(2, 151), (0, x1), (0, x2), (0, x3), (0, x4), (0, x5), (0, x6), (0, p57_0), (0, (p57_1 + 1)), (0, p74_0), (0, p74_1)]) gz_209_127 rfl gm_209 rfl rfl rfl ⟨by omega, by omega⟩ ?_
                refine w_goto (t := 57) gz_209_130 rfl ?_
                have a162 : ∀ j : Int, h74_0 162 j = h74_0 162 j := fun _ => rfl
                refine w_weak (ls' := [(2, 151), (0, x1), (0, x2), (0, x3), (0, x4), (0, x5), (0, x6), (0, p57_0), (0, (p57_1 + 1)), (9, 0), (9, 0)]) (wk_e (wk_e (wk_e (wk_e (wk_e (wk_e (wk_e (wk_e (wk_e (wk_9 (wk_9 wk_n))))))))))) ?_
                exact ih_57_0 (p57_0) ((p57_1 + 1)) h74_0 (gh_74_0) (by omega) (by omega) n_Mw_74_0 n_Mw3_74_0 n_Rws_74_0 n_Fp_74_0 (by first | (intro j a b; rw [a162]; first | exact ts_74_0 j a b | exact ts_57_0 j a b | exact ts_136_0 j a b) | (intro j a b; rw [Row_back f183 b162 f231 (by omega) (by have z := tp8_136_0 p57_1 (by omega) (by omega); omega)]; exact ts_136_0 j a b) | (intro j a b; exact (cp8.2 j (by omega)).trans (c162 j)) | omega) (by first | (intro j a b; rw [a162]; first | exact tp8_74_0 j a b | exact tp8_57_0 j a b | exact tp8_136_0 j a b) | (intro j a b; rw [Row_back f183 b162 f231 (by omega) (by have z := tp8_136_0 p57_1 (by omega) (by omega); omega)]; exact tp8_136_0 j a b) | (intro j a b; rw [show (480 : Int) + j = 60 * 8 + j by omega, cp8.1 j a b]; exact c162 _) | omega) (by first | omega | (show _ ≤ 1 + 57 * (0 : Int); omega) | (rw [r1]; omega) | (show _ ≤ 1711 + (0 : Int); omega) | omega) (Wys_h74_0t92) (by first | exact fa_57_0 | exact fa_74_0 | exact fa_136_0 | exact faq.1 | exact (FwA_cg fa_136_0 (by omega) a189).1 | assumption | omega) (by first | exact ms8 | exact msn | exact ms_57_0 | exact ms_74_0 | exact ms_136_0 | exact MS_back ms_136_0 f183 b162 b163 f231 (by omega) (by have z := tp8_136_0 p57_1 (by omega) (by omega); have z2 := ts_136_0 (60 * x1 + p57_1) (by omega) (by omega); omega) | assumption | omega) (by first | exact uw8 | exact uw_57_0 | exact uw_74_0 | exact uw_136_0 | assumption | omega) (by first | exact ot8 | exact otn | exact ot_57_0 | exact ot_74_0 | exact ot_136_0 | exact ot_136_0.cg (fun j a => (my_up_ne f231 (by omega)).trans ((b162 j).trans (my_up_ne f183 (by omega)))) (fun j a => (my_up_ne f231 (by omega)).trans (b163 j)) | assumption | omega) (by first | exact Fw1_to (Fw1_0 wlq0) (by omega) | exact Fw1_s (by omega) (by omega) f1_57_0 (fun y v a b z => by have q := z.1.1; omega) | exact Fw1_to f1n (by omega) | exact Fw1_s (by omega) (by omega) f1_74_0 sk8 | assumption | omega) (by omega)
              ·
                have r1 := rc_60s (h := h) (s := x1) (k := p57_1) (by omega)
                have r2 := rc_60 (s := x1) kT n_Rws (by omega) (by omega) (p57_1 + 1) (by omega) (by omega)
                have r3 := rc_60 (s := x1) kT n_Rws (by omega) (by omega) p57_1 (by omega) (by omega)
                refine w_aload_n gz_209_112 rfl ?_
                refine w_iload_n gz_209_113 rfl ?_
                refine w_iload gz_209_114 rfl ?_
                refine w_iload gz_209_116 rfl ?_
                have ag74 : my_ag LmF h h74_0 := (my_ag.fr (F := LmF) gh_74_0 rfl)
                have ma74 : zqMA h74_0 = zqMA h := zqMA_e (fun j => my_fr.at gh_74_0 pis_157 rfl) (fun j => my_fr.at gh_74_0 pis_158 rfl) (fun j => my_fr.at gh_74_0 pis_159 rfl) (fun j => my_fr.at gh_74_0 pis_160 rfl) (fun j => my_fr.at gh_74_0 pis_161 rfl)
                have r480 : h74_0 162 (480 + p57_1) = 1 := by have q := tp8_74_0 p57_1 (by omega) (by omega); have q2 := ts_74_0 (60 * x1 + p57_1) (by omega) (by omega); omega
                have c28 : (4 * p57_1 + p74_1) % 4 < h 157 ((4 * p57_1 + p74_1) / 80) := by
                  rw [show (4 * p57_1 + p74_1) % 4 = p74_1 by omega, show (4 * p57_1 + p74_1) / 80 = p57_1 / 20 by omega]
                  omega
                have un8 : zqUw (mBs h x2) (mCW h x2) ((4 * p57_1 + p74_1) / 80) := by
                  rw [show (4 * p57_1 + p74_1) / 80 = p74_0 by omega]
                  exact (uw_74_0 _ (by omega) (by omega)).mp (bi8.mp (by omega))
                have hr8 : zqHas (zqMS h x1) ((4 * p57_1 + p74_1) / 80) ((4 * p57_1 + p74_1) / 4 % 20) := by
                  rw [show (4 * p57_1 + p74_1) / 80 = p57_1 / 20 by omega, show (4 * p57_1 + p74_1) / 4 % 20 = p57_1 % 20 by omega]
                  exact ⟨by omega, by omega, (MS_has T0 a1 b1 (by omega) (by omega) (by omega) (by omega)).mpr (by rw [show 60 * x1 + 20 * (p57_1 / 20) + p57_1 % 20 = 60 * x1 + p57_1 by omega]; omega)⟩
                refine w_inv (k := 3) (as := [(0, p74_1), (0, p57_1), (0, x2)]) (r := []) (x := 151) (ls0 := [(2, 151), (0, x2), (0, p57_1), (0, p74_1), (9, 0), (9, 0), (9, 0)]) gz_209_118 gm_215 rfl is_151 rd_10 rfl rfl rfl rfl rfl (c_Model_findValues5 (d := d) (x1 := x2) (x2 := p57_1) (x3 := p74_1) (by omega) (by omega) (by omega) (by omega) (by omega) (by omega) n_Mw_74_0 n_Mw3_74_0 n_Rws_74_0 n_Fp_74_0 Wys_h74_0t92 (by first | assumption | exact n_Fp_74_0 | exact Fp_told (by omega) (by omega) | omega | (subst_vars; omega) | omega) (LmW_ag (my_ag.fr (F := LmF) gh_74_0 rfl) hlm) ((by rw [((Lm_e (my_ag.fr (F := LmF) gh_74_0 rfl)).1 x2).2.2]; exact fa_74_0.2)) (r480) (fun h102 frh102 xp103 xp104 xp105 Wys_h102t106 => ?_))
                have gh102 : my_fr [(10, 27), (10, 32), (10, 33), (10, 37), (10, 46), (10, 48), (61, -1), (62, -1), (73, -1), (74, -1), (75, -1), (76, -1), (77, -1), (78, -1), (79, -1), (80, -1), (81, -1), (82, -1), (83, -1), (84, -1), (85, -1), (86, -1), (88, -1), (89, -1), (90, -1), (91, -1), (92, -1), (93, -1), (94, -1)] h h102 := my_fr.tr gh_74_0 (frh102.mo rfl)
                have Mw_h102 : Mw h102 := Mw_ag (my_ag.fr frh102 rfl) n_Mw_74_0
                have Mw3_h102 : Mw3 h102 := Mw3_ag (my_ag.fr frh102 rfl) n_Mw3_74_0
                have Rws_h102 : Rws h102 := Rws_ag (my_ag.fr frh102 rfl) n_Rws_74_0
                have Fp_h102 : Fp h102 x2 := Fp_ag (my_ag.fr frh102 rfl) n_Fp_74_0
                show wp l rho (d + 6) 209 121 [(2, 151), (0, x1), (0, x2), (0, x3), (0, x4), (0, x5), (0, x6), (0, p57_0), (0, p57_1), (0, p74_0), (0, p74_1)] [] h102 Q
                have fv := xp104
                have f163 := xp105
                have faq := FwA_cg (g1 := h102) fa_74_0 (my_fr.at frh102 pis_151 rfl) (fun j => my_fr.at frh102 pis_189 rfl)
                have f1n := Fw1_v (x := (4 * p57_1 + p74_1)) (by omega) f1_74_0 fv faq.2 (fun v => MQ_zq ag74 ma74 ms_74_0 hlm a2 b2 tx hlf T0 (by omega) (by omega) (by omega) c28 un8 hr8)
                have msn : zqAg (zqMS h x1) (zqMS h102 8) := fun j a b => by
                  rw [MS_eq (h := h74_0) (fun j => my_fr.at frh102 pis_162 rfl) f163]
                  exact ms_74_0 j a b
                have otn : Ot8 h h102 := ot_74_0.cg (fun j _ => my_fr.at frh102 pis_162 rfl) (fun j _ => f163 j)
                refine w_iinc (ls' := [(2, 151), (0, x1), (0, x2), (0, x3), (0, x4), (0, x5), (0, x6), (0, p57_0), (0, p57_1), (0, p74_0), (0, (p74_1 + 1))]) gz_209_121 rfl gm_209 rfl rfl rfl ⟨by omega, by omega⟩ ?_
                refine w_goto (t := 74) gz_209_124 rfl ?_
                have a162 : ∀ j : Int, h102 162 j = h74_0 162 j := fun j => ((my_fr.at frh102 is_162 rfl).trans (rfl : h74_0 162 j = h74_0 162 j))
                exact ih_74_0 (p74_0) ((p74_1 + 1)) h102 (gh102) (by omega) (by omega) (by omega) (by omega) (by omega) Mw_h102 Mw3_h102 Rws_h102 Fp_h102 (by first | (intro j a b; rw [a162]; first | exact ts_74_0 j a b | exact ts_57_0 j a b | exact ts_136_0 j a b) | (intro j a b; rw [Row_back f183 b162 f231 (by omega) (by have z := tp8_136_0 0 (by omega) (by omega); omega)]; exact ts_136_0 j a b) | (intro j a b; exact (cp8.2 j (by omega)).trans (c162 j)) | omega) (by first | (intro j a b; rw [a162]; first | exact tp8_74_0 j a b | exact tp8_57_0 j a b | exact tp8_136_0 j a b) | (intro j a b; rw [Row_back f183 b162 f231 (by omega) (by have z := tp8_136_0 0 (by omega) (by omega); omega)]; exact tp8_136_0 j a b) | (intro j a b; rw [show (480 : Int) + j = 60 * 8 + j by omega, cp8.1 j a b]; exact c162 _) | omega) (by first | omega | (show _ ≤ 1 + 57 * (0 : Int); omega) | (rw [r1]; omega) | (show _ ≤ 1711 + (0 : Int); omega) | omega) (by first | omega | (right; omega) | omega) (Wys_h102t106) (by first | exact fa_57_0 | exact fa_74_0 | exact fa_136_0 | exact faq.1 | exact (FwA_cg fa_136_0 (by omega) a189).1 | assumption | omega) (by first | exact ms8 | exact msn | exact ms_57_0 | exact ms_74_0 | exact ms_136_0 | exact MS_back ms_136_0 f183 b162 b163 f231 (by omega) (by have z := tp8_136_0 0 (by omega) (by omega); have z2 := ts_136_0 (60 * x1 + 0) (by omega) (by omega); omega) | assumption | omega) (by first | exact uw8 | exact uw_57_0 | exact uw_74_0 | exact uw_136_0 | assumption | omega) (by first | exact ot8 | exact otn | exact ot_57_0 | exact ot_74_0 | exact ot_136_0 | exact ot_136_0.cg (fun j a => (my_up_ne f231 (by omega)).trans ((b162 j).trans (my_up_ne f183 (by omega)))) (fun j a => (my_up_ne f231 (by omega)).trans (b163 j)) | assumption | omega) (by first | exact Fw1_to (Fw1_0 wlq0) (by omega) | exact Fw1_s (by omega) (by omega) f1_57_0 (fun y v a b z => by have q := z.1.1; omega) | exact Fw1_to f1n (by omega) | exact Fw1_s (by omega) (by omega) f1_74_0 sk8 | assumption | omega) (by omega) (by omega)
      refine w_iload gz_209_57 rfl ?_
      refine w_bipush gz_209_59 (by decide) ?_
      refine w_icge (t := 133) gz_209_61 rfl (fun u107 => ?_) (fun u107 => ?_)
      ·
        have r3 := rc_60 (s := x1) kT n_Rws (by omega) (by omega) p57_1 (by omega) (by omega)
        refine w_iconst gz_209_133 (by decide) ?_
        refine w_istore (ls' := [(2, 151), (0, x1), (0, x2), (0, x3), (0, x4), (0, x5), (0, x6), (0, p57_0), (0, 0), (9, 0), (9, 0)]) gz_209_134 gm_209 rfl rfl rfl ?_
        have a162 : ∀ j : Int, h57_0 162 j = h57_0 162 j := fun _ => rfl
        have a190 : ∀ j : Int, h57_0 190 j = h57_0 190 j := fun _ => rfl
        have a191 : ∀ j : Int, h57_0 191 j = h57_0 191 j := fun _ => rfl
        have a192 : ∀ j : Int, h57_0 192 j = h57_0 192 j := fun _ => rfl
        have a193 : ∀ j : Int, h57_0 193 j = h57_0 193 j := fun _ => rfl
        have a194 : ∀ j : Int, h57_0 194 j = h57_0 194 j := fun _ => rfl
        have a189 : ∀ j : Int, h57_0 189 j = h57_0 189 j := fun _ => rfl
        have wlq : WLm h57_0 (MWd h x2) = WLm h57_0 (MWd h x2) := rfl
        have wyq : WyL h57_0 = WyL h57_0 := rfl
        exact J136_0 61 (p57_0) (0) h57_0 (gh_57_0) (by omega) (by omega) n_Mw_57_0 n_Mw3_57_0 n_Rws_57_0 n_Fp_57_0 (by first | (intro j a b; rw [a162]; first | exact ts_74_0 j a b | exact ts_57_0 j a b | exact ts_136_0 j a b) | (intro j a b; rw [Row_back f183 b162 f231 (by omega) (by have z := tp8_136_0 p136_1 (by omega) (by omega); omega)]; exact ts_136_0 j a b) | (intro j a b; exact (cp8.2 j (by omega)).trans (c162 j)) | omega) (by first | (intro j a b; rw [a162]; first | exact tp8_74_0 j a b | exact tp8_57_0 j a b | exact tp8_136_0 j a b) | (intro j a b; rw [Row_back f183 b162 f231 (by omega) (by have z := tp8_136_0 p136_1 (by omega) (by omega); omega)]; exact tp8_136_0 j a b) | (intro j a b; rw [show (480 : Int) + j = 60 * 8 + j by omega, cp8.1 j a b]; exact c162 _) | omega) (by first | omega | (show _ ≤ 1 + 57 * (0 : Int); omega) | (rw [r1]; omega) | (show _ ≤ 1711 + (0 : Int); omega) | omega) (Wys_h57_0t91) (by first | exact fa_57_0 | exact fa_74_0 | exact fa_136_0 | exact faq.1 | exact (FwA_cg fa_136_0 (by omega) a189).1 | assumption | omega) (by first | exact ms8 | exact msn | exact ms_57_0 | exact ms_74_0 | exact ms_136_0 | exact MS_back ms_136_0 f183 b162 b163 f231 (by omega) (by have z := tp8_136_0 p136_1 (by omega) (by omega); have z2 := ts_136_0 (60 * x1 + p136_1) (by omega) (by omega); omega) | assumption | omega) (by first | exact uw8 | exact uw_57_0 | exact uw_74_0 | exact uw_136_0 | assumption | omega) (by first | exact ot8 | exact otn | exact ot_57_0 | exact ot_74_0 | exact ot_136_0 | exact ot_136_0.cg (fun j a => (my_up_ne f231 (by omega)).trans ((b162 j).trans (my_up_ne f183 (by omega)))) (fun j a => (my_up_ne f231 (by omega)).trans (b163 j)) | assumption | omega) (by first | exact Fw2_0 (Fw1_to f1_57_0 (by omega)) | exact Fw2_n (by omega) f2_136_0 rfl rfl (fun z => absurd (bi9.mpr ((uw_136_0 _ (by omega) (by omega)).mpr z.1)) (by omega)) | exact Fw2_n (by omega) f2_136_0 rfl rfl (fun z => absurd ((MS_has T0 a1 b1 (by omega) (by omega) (by omega) (by omega)).mp z.2.1.2.2) (by rw [show 60 * x1 + 20 * (p136_1 / 20) + p136_1 % 20 = 60 * x1 + p136_1 by omega]; omega)) | exact Fw2_n (by omega) f2_136_0 wlq wyq (fun z => ml (laI.mpr z.2.2.1)) | exact Fw2_n (by omega) f2_136_0 wlq wyq (fun z => by have q := iw.mpr (is9.mpr z.2.2.2); omega) | exact Fw2_y (by omega) f2_136_0 wlq (wyF.trans (fw.trans (by rw [wyc]))) (by omega) (by omega) ⟨un9, hr9, laI.mp ml, is9.mp (iw.mp (by omega))⟩ | assumption | omega) (by omega)
      ·
        refine w_iload gz_209_64 rfl ?_
        refine w_bipush gz_209_66 (by decide) ?_
        refine w_idiv gz_209_68 (by omega) (by decide) ?_
        refine w_istore (ls' := [(2, 151), (0, x1), (0, x2), (0, x3), (0, x4), (0, x5), (0, x6), (0, p57_0), (0, p57_1), (0, (p57_1 / 20)), (9, 0)]) gz_209_69 gm_209 rfl rfl rfl ?_
        refine w_iconst gz_209_71 (by decide) ?_
        refine w_istore (ls' := [(2, 151), (0, x1), (0, x2), (0, x3), (0, x4), (0, x5), (0, x6), (0, p57_0), (0, p57_1), (0, (p57_1 / 20)), (0, 1)]) gz_209_72 gm_209 rfl rfl rfl ?_
        have a162 : ∀ j : Int, h57_0 162 j = h57_0 162 j := fun _ => rfl
        exact J74_0 4 ((p57_1 / 20)) (1) h57_0 (gh_57_0) (by omega) (by omega) (by omega) (by omega) (by omega) n_Mw_57_0 n_Mw3_57_0 n_Rws_57_0 n_Fp_57_0 (by first | (intro j a b; rw [a162]; first | exact ts_74_0 j a b | exact ts_57_0 j a b | exact ts_136_0 j a b) | (intro j a b; rw [Row_back f183 b162 f231 (by omega) (by have z := tp8_136_0 0 (by omega) (by omega); omega)]; exact ts_136_0 j a b) | (intro j a b; exact (cp8.2 j (by omega)).trans (c162 j)) | omega) (by first | (intro j a b; rw [a162]; first | exact tp8_74_0 j a b | exact tp8_57_0 j a b | exact tp8_136_0 j a b) | (intro j a b; rw [Row_back f183 b162 f231 (by omega) (by have z := tp8_136_0 0 (by omega) (by omega); omega)]; exact tp8_136_0 j a b) | (intro j a b; rw [show (480 : Int) + j = 60 * 8 + j by omega, cp8.1 j a b]; exact c162 _) | omega) (by first | omega | (show _ ≤ 1 + 57 * (0 : Int); omega) | (rw [r1]; omega) | (show _ ≤ 1711 + (0 : Int); omega) | omega) (by first | omega | (right; omega) | omega) (Wys_h57_0t91) (by first | exact fa_57_0 | exact fa_74_0 | exact fa_136_0 | exact faq.1 | exact (FwA_cg fa_136_0 (by omega) a189).1 | assumption | omega) (by first | exact ms8 | exact msn | exact ms_57_0 | exact ms_74_0 | exact ms_136_0 | exact MS_back ms_136_0 f183 b162 b163 f231 (by omega) (by have z := tp8_136_0 0 (by omega) (by omega); have z2 := ts_136_0 (60 * x1 + 0) (by omega) (by omega); omega) | assumption | omega) (by first | exact uw8 | exact uw_57_0 | exact uw_74_0 | exact uw_136_0 | assumption | omega) (by first | exact ot8 | exact otn | exact ot_57_0 | exact ot_74_0 | exact ot_136_0 | exact ot_136_0.cg (fun j a => (my_up_ne f231 (by omega)).trans ((b162 j).trans (my_up_ne f183 (by omega)))) (fun j a => (my_up_ne f231 (by omega)).trans (b163 j)) | assumption | omega) (by first | exact Fw1_to (Fw1_0 wlq0) (by omega) | exact Fw1_s (by omega) (by omega) f1_57_0 (fun y v a b z => by have q := z.1.1; omega) | exact Fw1_to f1n (by omega) | exact Fw1_s (by omega) (by omega) f1_74_0 sk8 | assumption | omega) (by omega) (by omega)
  refine w_aload_n gz_209_0 rfl ?_
  refine w_iload_n gz_209_1 rfl ?_
  refine w_iload_n gz_209_2 rfl ?_
  refine w_inv (k := 5) (as := [(0, x2), (0, x1)]) (r := []) (x := 151) (ls0 := [(2, 151), (0, x1), (0, x2), (9, 0), (9, 0), (9, 0), (9, 0), (9, 0)]) gz_209_3 gm_194 rfl is_151 rd_10 rfl rfl rfl rfl rfl (c_Model_shows5 (d := (d + 2)) (x1 := x1) (x2 := x2) (by omega) (by omega) (by omega) (by omega) n_Mw n_Mw3 n_Rws (by first | assumption | exact n_Fp | exact Fp_told (by omega) (by omega) | omega | (subst_vars; omega) | omega) (fun h108 frh108 xp109 xp110 xp111 xp112 => ?_))
  have gh108 : my_fr [(10, 27), (10, 32), (10, 33), (10, 37), (10, 46), (10, 48), (61, -1), (62, -1), (73, -1), (74, -1), (75, -1), (76, -1), (77, -1), (78, -1), (79, -1), (80, -1), (81, -1), (82, -1), (83, -1), (84, -1), (85, -1), (86, -1), (88, -1), (89, -1), (90, -1), (91, -1), (92, -1), (93, -1), (94, -1)] h h108 := my_fr.tr my_fr.rf (frh108.mo rfl)
  have Mw_h108 : Mw h108 := Mw_ag (my_ag.fr frh108 rfl) n_Mw
  have Mw3_h108 : Mw3 h108 := Mw3_ag (my_ag.fr frh108 rfl) n_Mw3
  have Rws_h108 : Rws h108 := Rws_ag (my_ag.fr frh108 rfl) n_Rws
  have Fp_h108 : Fp h108 x2 := Fp_ag (my_ag.fr frh108 rfl) n_Fp
  show wp l rho (d + 6) 209 6 [(2, 151), (0, x1), (0, x2), (0, x3), (0, x4), (0, x5), (0, x6), (9, 0), (9, 0), (9, 0), (9, 0)] [] h108 Q
  have vm := xp110
  have vs := xp111
  have vl := VmI_len xp110
  have v27 := xp110.1
  refine w_aload_n gz_209_6 rfl ?_
  refine w_iload_n gz_209_7 rfl ?_
  refine w_iload gz_209_8 rfl ?_
  refine w_iload gz_209_10 rfl ?_
  refine w_iload gz_209_12 rfl ?_
  have gh14p := gh108
  refine w_inv (k := 2) (as := [(0, x6), (0, x5), (0, x4), (0, x3)]) (r := []) (x := 151) (ls0 := [(2, 151), (0, x3), (0, x4), (0, x5), (0, x6), (9, 0), (9, 0)]) gz_209_14 gm_210 rfl is_151 rd_10 rfl rfl rfl rfl rfl (c_Model_findWanted5 (d := (d + 4)) (x1 := x3) (x2 := x4) (x3 := x5) (x4 := x6) (by omega) (by omega) (by first | assumption | exact Fp_h108 | exact Fp_told (by omega) (by omega) | omega | (subst_vars; omega) | omega) ((fun z => by have q := hmd.2.2.1 (by omega); omega)) ((fun z => by have q := hmd.2.2.2 z; omega)) ((fun p q r => by omega)) (fun h113 frh113 xp114 xp115 => ?_))
  have gh113 : my_fr [(10, 27), (10, 32), (10, 33), (10, 37), (10, 46), (10, 48), (61, -1), (62, -1), (73, -1), (74, -1), (75, -1), (76, -1), (77, -1), (78, -1), (79, -1), (80, -1), (81, -1), (82, -1), (83, -1), (84, -1), (85, -1), (86, -1), (88, -1), (89, -1), (90, -1), (91, -1), (92, -1), (93, -1), (94, -1)] h h113 := my_fr.tr gh108 (frh113.mo rfl)
  have Mw_h113 : Mw h113 := Mw_ag (my_ag.fr frh113 rfl) Mw_h108
  have Mw3_h113 : Mw3 h113 := Mw3_ag (my_ag.fr frh113 rfl) Mw3_h108
  have Rws_h113 : Rws h113 := Rws_ag (my_ag.fr frh113 rfl) Rws_h108
  have Fp_h113 : Fp h113 x2 := Fp_ag (my_ag.fr frh113 rfl) Fp_h108
  show wp l rho (d + 6) 209 17 [(2, 151), (0, x1), (0, x2), (0, x3), (0, x4), (0, x5), (0, x6), (9, 0), (9, 0), (9, 0), (9, 0)] [] h113 Q
  refine v_know (x := 151) (j := 46) (b := 46) rfl pis_151 rd_10 rfl (fun k46 ek46 pk46 qk46 => ?_)
  have fa14 : FwA h h113 x1 x2 x3 x4 x5 x6 := FwA_mk vm vs xp114 xp115 (fun j => my_fr.at gh14p pis_188 rfl) (by omega)
  refine w_aload_n gz_209_17 rfl ?_
  refine w_iconst gz_209_18 (by decide) ?_
  refine v_putI (j := 48) gz_209_19 rfl is_151 rd_10 rfl (by omega) (by omega) rfl (fun h116 fh116 => ?_)
  have gh116 : my_fr [(10, 27), (10, 32), (10, 33), (10, 37), (10, 46), (10, 48), (61, -1), (62, -1), (73, -1), (74, -1), (75, -1), (76, -1), (77, -1), (78, -1), (79, -1), (80, -1), (81, -1), (82, -1), (83, -1), (84, -1), (85, -1), (86, -1), (88, -1), (89, -1), (90, -1), (91, -1), (92, -1), (93, -1), (94, -1)] h h116 := my_fr.up gh113 is_151 fh116 rfl
  have Mw_h116 : Mw h116 := Mw_ag (my_ag.up fh116 is_151 rfl) Mw_h113
  have Mw3_h116 : Mw3 h116 := Mw3_ag (my_ag.up fh116 is_151 rfl) Mw3_h113
  have Rws_h116 : Rws h116 := Rws_ag (my_ag.up fh116 is_151 rfl) Rws_h113
  have Fp_h116 : Fp h116 x2 := Fp_ag (my_ag.up fh116 is_151 rfl) Fp_h113
  have Wys_h116t117 : Wys h116 := Wys_0 fh116
  have k19 := my_up_self fh116
  have fa19 := FwA_cg (g1 := h116) fa14 (my_up_fld fh116 (by decide)) (fun j => my_up_ne fh116 (by omega))
  have wy0 : WyL h116 = [] := WyL_0 (my_up_self fh116)
  refine w_aload_n gz_209_22 rfl ?_
  refine w_iload_n gz_209_23 rfl ?_
  refine w_iload_n gz_209_24 rfl ?_
  have g162 : ∀ j : Int, h116 162 j = h 162 j := fun j => ((my_up_role fh116 is_162 is_151 rfl).trans ((my_fr.at frh113 is_162 rfl).trans ((my_fr.at frh108 is_162 rfl).trans (rfl : h 162 j = h 162 j))))
  have g163 : ∀ j : Int, h116 163 j = h 163 j := fun j => ((my_up_role fh116 is_163 is_151 rfl).trans ((my_fr.at frh113 is_163 rfl).trans ((my_fr.at frh108 is_163 rfl).trans (rfl : h 163 j = h 163 j))))
  have mg : zqAg (zqMS h x1) (zqMS h116 x1) := fun j _ _ => by rw [MS_eq g162 g163]
  have is25 := Is_m (my_ag.fr (F := LmF) gh116 rfl) mg hlm a2 b2 tx (rfl : WLm h116 (MWd h x2) = _)
  refine w_inv (k := 3) (as := [(0, x2), (0, x1)]) (r := []) (x := 151) (ls0 := [(2, 151), (0, x1), (0, x2), (9, 0), (9, 0), (9, 0)]) gz_209_25 gm_213 rfl is_151 rd_10 rfl rfl rfl rfl rfl (c_Model_isWanted6 (d := (d + 1)) (x1 := x1) (x2 := x2) (by omega) (by omega) (by omega) (by omega) Mw_h116 Mw3_h116 Rws_h116 Fp_h116 (LmW_ag (my_ag.fr (F := LmF) gh116 rfl) hlm) ((by rw [((Lm_e (my_ag.fr (F := LmF) gh116 rfl)).1 x2).2.2]; exact fa19.1.2)) (fun h118 v119 frh118 w120 w121 xp122 xp123 => ?_))
  have gh118 : my_fr [(10, 27), (10, 32), (10, 33), (10, 37), (10, 46), (10, 48), (61, -1), (62, -1), (73, -1), (74, -1), (75, -1), (76, -1), (77, -1), (78, -1), (79, -1), (80, -1), (81, -1), (82, -1), (83, -1), (84, -1), (85, -1), (86, -1), (88, -1), (89, -1), (90, -1), (91, -1), (92, -1), (93, -1), (94, -1)] h h118 := my_fr.tr gh116 (frh118.mo rfl)
  have Mw_h118 : Mw h118 := Mw_ag (my_ag.fr frh118 rfl) Mw_h116
  have Mw3_h118 : Mw3 h118 := Mw3_ag (my_ag.fr frh118 rfl) Mw3_h116
  have Rws_h118 : Rws h118 := Rws_ag (my_ag.fr frh118 rfl) Rws_h116
  have Fp_h118 : Fp h118 x2 := Fp_ag (my_ag.fr frh118 rfl) Fp_h116
  have Wys_h118 : Wys h118 := Wys_ag (my_ag.fr frh118 rfl) Wys_h116t117
  show wp l rho (d + 6) 209 28 [(2, 151), (0, x1), (0, x2), (0, x3), (0, x4), (0, x5), (0, x6), (9, 0), (9, 0), (9, 0), (9, 0)] [(0, v119)] h118 Q
  have iw := xp122
  have wy25 : WyL h118 = [] := (WyL_cg (my_fr.at frh118 pis_151 rfl) (fun j => my_fr.at frh118 pis_190 rfl) (fun j => my_fr.at frh118 pis_191 rfl) (fun j => my_fr.at frh118 pis_192 rfl) (fun j => my_fr.at frh118 pis_193 rfl) (fun j => my_fr.at frh118 pis_194 rfl)).trans wy0
  have faq := FwA_cg (g1 := h118) fa19.1 (my_fr.at frh118 pis_151 rfl) (fun j => my_fr.at frh118 pis_189 rfl)
  have isG : (zqRun (zqMS h x1) (h 157 (mBs h x2)) ((zqLd (zqMS h x1) (mBs h x2) (h 157 (mBs h x2)) 20).map Prod.snd) (mCW h x2)).Perm (WLm h118 (MWd h x2)) ↔ v119 = 1 := by
    rw [faq.2]
    exact is25.symm.trans iw.symm
  refine w_ifeq (t := 40) gz_209_28 rfl (fun u124 => ?_) (fun u124 => ?_)
  ·
    refine w_aload_n gz_209_40 rfl ?_
    refine w_iload_n gz_209_41 rfl ?_
    have ag42 : my_ag LmF h h118 := (my_ag.fr (F := LmF) gh118 rfl)
    have wyA : WyL h118 = FL0 h h118 x1 x2 := by first | exact FL_y fw37 wy25 faq.2 (isG.mpr (by omega)) | exact FL_n wy25 (fun z => by have q := isG.mp z; omega)
    refine w_inv (k := 4) (as := [(0, x2)]) (r := []) (x := 151) (ls0 := [(2, 151), (0, x2), (9, 0), (9, 0), (9, 0), (9, 0)]) gz_209_42 gm_205 rfl is_151 rd_10 rfl rfl rfl rfl rfl (c_Model_wallsUnder5 (d := (d + 4)) (x1 := x2) (by omega) (by omega) Mw_h118 (by first | assumption | exact Fp_h118 | exact Fp_told (by omega) (by omega) | omega | (subst_vars; omega) | omega) (LmW_ag (my_ag.fr (F := LmF) gh118 rfl) hlm) (fun h125 v126 frh125 xp127 => ?_))
    have gh125 : my_fr [(10, 27), (10, 32), (10, 33), (10, 37), (10, 46), (10, 48), (61, -1), (62, -1), (73, -1), (74, -1), (75, -1), (76, -1), (77, -1), (78, -1), (79, -1), (80, -1), (81, -1), (82, -1), (83, -1), (84, -1), (85, -1), (86, -1), (88, -1), (89, -1), (90, -1), (91, -1), (92, -1), (93, -1), (94, -1)] h h125 := my_fr.tr gh118 (frh125.mo rfl)
    have Mw_h125 : Mw h125 := Mw_ag (my_ag.fr frh125 rfl) Mw_h118
    have Mw3_h125 : Mw3 h125 := Mw3_ag (my_ag.fr frh125 rfl) Mw3_h118
    have Rws_h125 : Rws h125 := Rws_ag (my_ag.fr frh125 rfl) Rws_h118
    have Fp_h125 : Fp h125 x2 := Fp_ag (my_ag.fr frh125 rfl) Fp_h118
    have Wys_h125 : Wys h125 := Wys_ag (my_ag.fr frh125 rfl) Wys_h118
    show wp l rho (d + 6) 209 45 [(2, 151), (0, x1), (0, x2), (0, x3), (0, x4), (0, x5), (0, x6), (9, 0), (9, 0), (9, 0), (9, 0)] [(0, v126)] h125 Q
    have uw8 : UwB v126 (mBs h x2) (mCW h x2) := by
      have q := xp127
      rw [((Lm_e ag42).1 x2).1, ((Lm_e ag42).1 x2).2.1] at q
      exact q
    have faq := FwA_cg (g1 := h125) faq.1 (my_fr.at frh125 pis_151 rfl) (fun j => my_fr.at frh125 pis_189 rfl)
    have wlq0 : WyL h125 = FL0 h h125 x1 x2 := (WyL_cg (my_fr.at frh125 pis_151 rfl) (fun j => my_fr.at frh125 pis_190 rfl) (fun j => my_fr.at frh125 pis_191 rfl) (fun j => my_fr.at frh125 pis_192 rfl) (fun j => my_fr.at frh125 pis_193 rfl) (fun j => my_fr.at frh125 pis_194 rfl)).trans (wyA.trans (Fw_eq faq.2).1.symm)
    refine w_istore (ls' := [(2, 151), (0, x1), (0, x2), (0, x3), (0, x4), (0, x5), (0, x6), (0, v126), (9, 0), (9, 0), (9, 0)]) gz_209_45 gm_209 rfl rfl rfl ?_
    refine w_aload_n gz_209_47 rfl ?_
    refine w_iload_n gz_209_48 rfl ?_
    refine w_bipush gz_209_49 (by decide) ?_
    have c162 : ∀ j : Int, h125 162 j = h 162 j := fun j => ((my_fr.at frh125 is_162 rfl).trans ((my_fr.at frh118 is_162 rfl).trans ((my_up_role fh116 is_162 is_151 rfl).trans ((my_fr.at frh113 is_162 rfl).trans ((my_fr.at frh108 is_162 rfl).trans (rfl : h 162 j = h 162 j))))))
    have c163 : ∀ j : Int, h125 163 j = h 163 j := fun j => ((my_fr.at frh125 is_163 rfl).trans ((my_fr.at frh118 is_163 rfl).trans ((my_up_role fh116 is_163 is_151 rfl).trans ((my_fr.at frh113 is_163 rfl).trans ((my_fr.at frh108 is_163 rfl).trans (rfl : h 163 j = h 163 j))))))
    refine w_inv (k := 1) (as := [(0, 8), (0, x1)]) (r := []) (x := 151) (ls0 := [(2, 151), (0, x1), (0, 8), (9, 0)]) gz_209_51 gm_152 rfl is_151 rd_10 rfl rfl rfl rfl rfl (c_Model_copies5 (d := (d + 5)) (x1 := x1) (x2 := 8) (by omega) (by omega) (by omega) (by omega) Rws_h125 (fun h128 frh128 xp129 xp130 Rws_h128t131 => ?_))
    have gh128 : my_fr [(10, 27), (10, 32), (10, 33), (10, 37), (10, 46), (10, 48), (61, -1), (62, -1), (73, -1), (74, -1), (75, -1), (76, -1), (77, -1), (78, -1), (79, -1), (80, -1), (81, -1), (82, -1), (83, -1), (84, -1), (85, -1), (86, -1), (88, -1), (89, -1), (90, -1), (91, -1), (92, -1), (93, -1), (94, -1)] h h128 := my_fr.tr gh125 (frh128.mo rfl)
    have Mw_h128 : Mw h128 := Mw_ag (my_ag.fr frh128 rfl) Mw_h125
    have Mw3_h128 : Mw3 h128 := Mw3_ag (my_ag.fr frh128 rfl) Mw3_h125
    have Fp_h128 : Fp h128 x2 := Fp_ag (my_ag.fr frh128 rfl) Fp_h125
    have Wys_h128 : Wys h128 := Wys_ag (my_ag.fr frh128 rfl) Wys_h125
    show wp l rho (d + 6) 209 54 [(2, 151), (0, x1), (0, x2), (0, x3), (0, x4), (0, x5), (0, x6), (0, v126), (9, 0), (9, 0), (9, 0)] [] h128 Q
    have cp8 := xp129
    have ms8 : zqAg (zqMS h x1) (zqMS h128 8) := fun j a b => by
      rw [(Cp_MS xp129 xp130).1 j a b, MS_eq c162 c163]
    have ot8 := Ot8_cp c162 c163 xp129 xp130
    have faq := FwA_cg (g1 := h128) faq.1 (my_fr.at frh128 pis_151 rfl) (fun j => my_fr.at frh128 pis_189 rfl)
    have wlq0 : WyL h128 = FL0 h h128 x1 x2 := (WyL_cg (my_fr.at frh128 pis_151 rfl) (fun j => my_fr.at frh128 pis_190 rfl) (fun j => my_fr.at frh128 pis_191 rfl) (fun j => my_fr.at frh128 pis_192 rfl) (fun j => my_fr.at frh128 pis_193 rfl) (fun j => my_fr.at frh128 pis_194 rfl)).trans (wlq0.trans (Fw_eq faq.2).1.symm)
    refine w_iconst gz_209_54 (by decide) ?_
    refine w_istore (ls' := [(2, 151), (0, x1), (0, x2), (0, x3), (0, x4), (0, x5), (0, x6), (0, v126), (0, 0), (9, 0), (9, 0)]) gz_209_55 gm_209 rfl rfl rfl ?_
    have ce132 : h128 151 48 = 0 := ((my_fr.at frh128 is_151 rfl).trans ((my_fr.at frh125 is_151 rfl).trans ((my_fr.at frh118 is_151 rfl).trans (my_up_self fh116))))
    have a162 : ∀ j : Int, h128 162 j = h128 162 j := fun j => rfl
    exact J57_0 61 (v126) (0) h128 (gh128) (by omega) (by omega) Mw_h128 Mw3_h128 Rws_h128t131 Fp_h128 (by first | (intro j a b; rw [a162]; first | exact ts_74_0 j a b | exact ts_57_0 j a b | exact ts_136_0 j a b) | (intro j a b; rw [Row_back f183 b162 f231 (by omega) (by have z := tp8_136_0 p57_1 (by omega) (by omega); omega)]; exact ts_136_0 j a b) | (intro j a b; exact (cp8.2 j (by omega)).trans (c162 j)) | omega) (by first | (intro j a b; rw [a162]; first | exact tp8_74_0 j a b | exact tp8_57_0 j a b | exact tp8_136_0 j a b) | (intro j a b; rw [Row_back f183 b162 f231 (by omega) (by have z := tp8_136_0 p57_1 (by omega) (by omega); omega)]; exact tp8_136_0 j a b) | (intro j a b; rw [show (480 : Int) + j = 60 * 8 + j by omega, cp8.1 j a b]; exact c162 _) | omega) (by first | omega | (show _ ≤ 1 + 57 * (0 : Int); omega) | (rw [r1]; omega) | (show _ ≤ 1711 + (0 : Int); omega) | omega) (Wys_h128) (by first | exact fa_57_0 | exact fa_74_0 | exact fa_136_0 | exact faq.1 | exact (FwA_cg fa_136_0 (by omega) a189).1 | assumption | omega) (by first | exact ms8 | exact msn | exact ms_57_0 | exact ms_74_0 | exact ms_136_0 | exact MS_back ms_136_0 f183 b162 b163 f231 (by omega) (by have z := tp8_136_0 p57_1 (by omega) (by omega); have z2 := ts_136_0 (60 * x1 + p57_1) (by omega) (by omega); omega) | assumption | omega) (by first | exact uw8 | exact uw_57_0 | exact uw_74_0 | exact uw_136_0 | assumption | omega) (by first | exact ot8 | exact otn | exact ot_57_0 | exact ot_74_0 | exact ot_136_0 | exact ot_136_0.cg (fun j a => (my_up_ne f231 (by omega)).trans ((b162 j).trans (my_up_ne f183 (by omega)))) (fun j a => (my_up_ne f231 (by omega)).trans (b163 j)) | assumption | omega) (by first | exact Fw1_to (Fw1_0 wlq0) (by omega) | exact Fw1_s (by omega) (by omega) f1_57_0 (fun y v a b z => by have q := z.1.1; omega) | exact Fw1_to f1n (by omega) | exact Fw1_s (by omega) (by omega) f1_74_0 sk8 | assumption | omega) (by omega)
  ·
    refine w_aload_n gz_209_31 rfl ?_
    refine w_iconst gz_209_32 (by decide) ?_
    refine w_iconst gz_209_33 (by decide) ?_
    refine w_iconst gz_209_34 (by decide) ?_
    refine w_iconst gz_209_35 (by decide) ?_
    refine w_iconst gz_209_36 (by decide) ?_
    have ce133 : h118 151 48 = 0 := ((my_fr.at frh118 is_151 rfl).trans (my_up_self fh116))
    refine w_inv (k := 0) (as := [(0, (-1)), (0, (-1)), (0, (-1)), (0, (-1)), (0, 0)]) (r := []) (x := 151) (ls0 := [(2, 151), (0, 0), (0, (-1)), (0, (-1)), (0, (-1)), (0, (-1))]) gz_209_37 gm_214 rfl is_151 rd_10 rfl rfl rfl rfl rfl (c_Model_finds5 (d := (d + 5)) (x1 := 0) (x2 := (-1)) (x3 := (-1)) (x4 := (-1)) (x5 := (-1)) (by omega) (by omega) (by omega) (by omega) (by omega) (by omega) (by omega) (by omega) (by omega) (by omega) Wys_h118 (by first | assumption | exact Fp_h118 | exact Fp_told (by omega) (by omega) | omega | (subst_vars; omega) | omega) (by first | assumption | exact Fp_h118 | exact Fp_told (by omega) (by omega) | omega | (subst_vars; omega) | omega) (by first | assumption | exact Fp_h118 | exact Fp_told (by omega) (by omega) | omega | (subst_vars; omega) | omega) (fun h134 frh134 w135 w136 xp137 xp138 Wys_h134t139 => ?_))
    have gh134 : my_fr [(10, 27), (10, 32), (10, 33), (10, 37), (10, 46), (10, 48), (61, -1), (62, -1), (73, -1), (74, -1), (75, -1), (76, -1), (77, -1), (78, -1), (79, -1), (80, -1), (81, -1), (82, -1), (83, -1), (84, -1), (85, -1), (86, -1), (88, -1), (89, -1), (90, -1), (91, -1), (92, -1), (93, -1), (94, -1)] h h134 := my_fr.tr gh118 (frh134.mo rfl)
    have Mw_h134 : Mw h134 := Mw_ag (my_ag.fr frh134 rfl) Mw_h118
    have Mw3_h134 : Mw3 h134 := Mw3_ag (my_ag.fr frh134 rfl) Mw3_h118
    have Rws_h134 : Rws h134 := Rws_ag (my_ag.fr frh134 rfl) Rws_h118
    have Fp_h134 : Fp h134 x2 := Fp_ag (my_ag.fr frh134 rfl) Fp_h118
    show wp l rho (d + 6) 209 40 [(2, 151), (0, x1), (0, x2), (0, x3), (0, x4), (0, x5), (0, x6), (9, 0), (9, 0), (9, 0), (9, 0)] [] h134 Q
    have fw37 := xp138
    have faq := FwA_cg (g1 := h134) faq.1 (my_fr.at frh134 pis_151 rfl) (fun j => my_fr.at frh134 pis_189 rfl)
    refine w_aload_n gz_209_40 rfl ?_
    refine w_iload_n gz_209_41 rfl ?_
    have ag42 : my_ag LmF h h134 := (my_ag.fr (F := LmF) gh134 rfl)
    have wyA : WyL h134 = FL0 h h134 x1 x2 := by first | exact FL_y fw37 wy25 faq.2 (isG.mpr (by omega)) | exact FL_n wy25 (fun z => by have q := isG.mp z; omega)
    refine w_inv (k := 4) (as := [(0, x2)]) (r := []) (x := 151) (ls0 := [(2, 151), (0, x2), (9, 0), (9, 0), (9, 0), (9, 0)]) gz_209_42 gm_205 rfl is_151 rd_10 rfl rfl rfl rfl rfl (c_Model_wallsUnder5 (d := (d + 4)) (x1 := x2) (by omega) (by omega) Mw_h134 (by first | assumption | exact Fp_h134 | exact Fp_told (by omega) (by omega) | omega | (subst_vars; omega) | omega) (LmW_ag (my_ag.fr (F := LmF) gh134 rfl) hlm) (fun h140 v141 frh140 xp142 => ?_))
    have gh140 : my_fr [(10, 27), (10, 32), (10, 33), (10, 37), (10, 46), (10, 48), (61, -1), (62, -1), (73, -1), (74, -1), (75, -1), (76, -1), (77, -1), (78, -1), (79, -1), (80, -1), (81, -1), (82, -1), (83, -1), (84, -1), (85, -1), (86, -1), (88, -1), (89, -1), (90, -1), (91, -1), (92, -1), (93, -1), (94, -1)] h h140 := my_fr.tr gh134 (frh140.mo rfl)
    have Mw_h140 : Mw h140 := Mw_ag (my_ag.fr frh140 rfl) Mw_h134
    have Mw3_h140 : Mw3 h140 := Mw3_ag (my_ag.fr frh140 rfl) Mw3_h134
    have Rws_h140 : Rws h140 := Rws_ag (my_ag.fr frh140 rfl) Rws_h134
    have Fp_h140 : Fp h140 x2 := Fp_ag (my_ag.fr frh140 rfl) Fp_h134
    have Wys_h140 : Wys h140 := Wys_ag (my_ag.fr frh140 rfl) Wys_h134t139
    show wp l rho (d + 6) 209 45 [(2, 151), (0, x1), (0, x2), (0, x3), (0, x4), (0, x5), (0, x6), (9, 0), (9, 0), (9, 0), (9, 0)] [(0, v141)] h140 Q
    have uw8 : UwB v141 (mBs h x2) (mCW h x2) := by
      have q := xp142
      rw [((Lm_e ag42).1 x2).1, ((Lm_e ag42).1 x2).2.1] at q
      exact q
    have faq := FwA_cg (g1 := h140) faq.1 (my_fr.at frh140 pis_151 rfl) (fun j => my_fr.at frh140 pis_189 rfl)
    have wlq0 : WyL h140 = FL0 h h140 x1 x2 := (WyL_cg (my_fr.at frh140 pis_151 rfl) (fun j => my_fr.at frh140 pis_190 rfl) (fun j => my_fr.at frh140 pis_191 rfl) (fun j => my_fr.at frh140 pis_192 rfl) (fun j => my_fr.at frh140 pis_193 rfl) (fun j => my_fr.at frh140 pis_194 rfl)).trans (wyA.trans (Fw_eq faq.2).1.symm)
    refine w_istore (ls' := [(2, 151), (0, x1), (0, x2), (0, x3), (0, x4), (0, x5), (0, x6), (0, v141), (9, 0), (9, 0), (9, 0)]) gz_209_45 gm_209 rfl rfl rfl ?_
    refine w_aload_n gz_209_47 rfl ?_
    refine w_iload_n gz_209_48 rfl ?_
    refine w_bipush gz_209_49 (by decide) ?_
    have c162 : ∀ j : Int, h140 162 j = h 162 j := fun j => ((my_fr.at frh140 is_162 rfl).trans ((my_fr.at frh134 is_162 rfl).trans ((my_fr.at frh118 is_162 rfl).trans ((my_up_role fh116 is_162 is_151 rfl).trans ((my_fr.at frh113 is_162 rfl).trans ((my_fr.at frh108 is_162 rfl).trans (rfl : h 162 j = h 162 j)))))))
    have c163 : ∀ j : Int, h140 163 j = h 163 j := fun j => ((my_fr.at frh140 is_163 rfl).trans ((my_fr.at frh134 is_163 rfl).trans ((my_fr.at frh118 is_163 rfl).trans ((my_up_role fh116 is_163 is_151 rfl).trans ((my_fr.at frh113 is_163 rfl).trans ((my_fr.at frh108 is_163 rfl).trans (rfl : h 163 j = h 163 j)))))))
    refine w_inv (k := 1) (as := [(0, 8), (0, x1)]) (r := []) (x := 151) (ls0 := [(2, 151), (0, x1), (0, 8), (9, 0)]) gz_209_51 gm_152 rfl is_151 rd_10 rfl rfl rfl rfl rfl (c_Model_copies5 (d := (d + 5)) (x1 := x1) (x2 := 8) (by omega) (by omega) (by omega) (by omega) Rws_h140 (fun h143 frh143 xp144 xp145 Rws_h143t146 => ?_))
    have gh143 : my_fr [(10, 27), (10, 32), (10, 33), (10, 37), (10, 46), (10, 48), (61, -1), (62, -1), (73, -1), (74, -1), (75, -1), (76, -1), (77, -1), (78, -1), (79, -1), (80, -1), (81, -1), (82, -1), (83, -1), (84, -1), (85, -1), (86, -1), (88, -1), (89, -1), (90, -1), (91, -1), (92, -1), (93, -1), (94, -1)] h h143 := my_fr.tr gh140 (frh143.mo rfl)
    have Mw_h143 : Mw h143 := Mw_ag (my_ag.fr frh143 rfl) Mw_h140
    have Mw3_h143 : Mw3 h143 := Mw3_ag (my_ag.fr frh143 rfl) Mw3_h140
    have Fp_h143 : Fp h143 x2 := Fp_ag (my_ag.fr frh143 rfl) Fp_h140
    have Wys_h143 : Wys h143 := Wys_ag (my_ag.fr frh143 rfl) Wys_h140
    show wp l rho (d + 6) 209 54 [(2, 151), (0, x1), (0, x2), (0, x3), (0, x4), (0, x5), (0, x6), (0, v141), (9, 0), (9, 0), (9, 0)] [] h143 Q
    have cp8 := xp144
    have ms8 : zqAg (zqMS h x1) (zqMS h143 8) := fun j a b => by
      rw [(Cp_MS xp144 xp145).1 j a b, MS_eq c162 c163]
    have ot8 := Ot8_cp c162 c163 xp144 xp145
    have faq := FwA_cg (g1 := h143) faq.1 (my_fr.at frh143 pis_151 rfl) (fun j => my_fr.at frh143 pis_189 rfl)
    have wlq0 : WyL h143 = FL0 h h143 x1 x2 := (WyL_cg (my_fr.at frh143 pis_151 rfl) (fun j => my_fr.at frh143 pis_190 rfl) (fun j => my_fr.at frh143 pis_191 rfl) (fun j => my_fr.at frh143 pis_192 rfl) (fun j => my_fr.at frh143 pis_193 rfl) (fun j => my_fr.at frh143 pis_194 rfl)).trans (wlq0.trans (Fw_eq faq.2).1.symm)
    refine w_iconst gz_209_54 (by decide) ?_
    refine w_istore (ls' := [(2, 151), (0, x1), (0, x2), (0, x3), (0, x4), (0, x5), (0, x6), (0, v141), (0, 0), (9, 0), (9, 0)]) gz_209_55 gm_209 rfl rfl rfl ?_
    have ce147 : h143 151 48 = (h134 151 48) := ((my_fr.at frh143 is_151 rfl).trans ((my_fr.at frh140 is_151 rfl).trans (rfl : h134 151 48 = h134 151 48)))
    have a162 : ∀ j : Int, h143 162 j = h143 162 j := fun j => rfl
    exact J57_0 61 (v141) (0) h143 (gh143) (by omega) (by omega) Mw_h143 Mw3_h143 Rws_h143t146 Fp_h143 (by first | (intro j a b; rw [a162]; first | exact ts_74_0 j a b | exact ts_57_0 j a b | exact ts_136_0 j a b) | (intro j a b; rw [Row_back f183 b162 f231 (by omega) (by have z := tp8_136_0 p57_1 (by omega) (by omega); omega)]; exact ts_136_0 j a b) | (intro j a b; exact (cp8.2 j (by omega)).trans (c162 j)) | omega) (by first | (intro j a b; rw [a162]; first | exact tp8_74_0 j a b | exact tp8_57_0 j a b | exact tp8_136_0 j a b) | (intro j a b; rw [Row_back f183 b162 f231 (by omega) (by have z := tp8_136_0 p57_1 (by omega) (by omega); omega)]; exact tp8_136_0 j a b) | (intro j a b; rw [show (480 : Int) + j = 60 * 8 + j by omega, cp8.1 j a b]; exact c162 _) | omega) (by first | omega | (show _ ≤ 1 + 57 * (0 : Int); omega) | (rw [r1]; omega) | (show _ ≤ 1711 + (0 : Int); omega) | omega) (Wys_h143) (by first | exact fa_57_0 | exact fa_74_0 | exact fa_136_0 | exact faq.1 | exact (FwA_cg fa_136_0 (by omega) a189).1 | assumption | omega) (by first | exact ms8 | exact msn | exact ms_57_0 | exact ms_74_0 | exact ms_136_0 | exact MS_back ms_136_0 f183 b162 b163 f231 (by omega) (by have z := tp8_136_0 p57_1 (by omega) (by omega); have z2 := ts_136_0 (60 * x1 + p57_1) (by omega) (by omega); omega) | assumption | omega) (by first | exact uw8 | exact uw_57_0 | exact uw_74_0 | exact uw_136_0 | assumption | omega) (by first | exact ot8 | exact otn | exact ot_57_0 | exact ot_74_0 | exact ot_136_0 | exact ot_136_0.cg (fun j a => (my_up_ne f231 (by omega)).trans ((b162 j).trans (my_up_ne f183 (by omega)))) (fun j a => (my_up_ne f231 (by omega)).trans (b163 j)) | assumption | omega) (by first | exact Fw1_to (Fw1_0 wlq0) (by omega) | exact Fw1_s (by omega) (by omega) f1_57_0 (fun y v a b z => by have q := z.1.1; omega) | exact Fw1_to f1n (by omega) | exact Fw1_s (by omega) (by omega) f1_74_0 sk8 | assumption | omega) (by omega)
end MYNModel_findWays5
