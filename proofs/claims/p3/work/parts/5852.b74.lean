/-! contracts, printed by wip/gen/gy.py -/
section MYNThroughWindow_row5
theorem c_ThroughWindow_row5 {l : Launch} {rho : Nat → Int32} {d : Nat} {h : my_H} {Q : my_H → my_V → Prop} {x1 x2 x3 x4 x5 : Int} (hwo : WOk h 7) (k0 : ∀ (h' : my_H), my_fr [(24, -1), (30, -1), (31, -1)] h h' → ¬ zyRow (zqCA h) (h 8) x1 x2 x3 x4 x5 → zqAg (h 8) (h' 8) ∧ WOk h' 7 → (∀ k j : Int, 0 ≤ k → k < 94 → (k < 7 ∨ 9 < k) → h' k j = h k j) → Q h' (0, 0)) (k1 : ∀ (h' : my_H), my_fr [(24, -1), (30, -1), (31, -1)] h h' → 0 ≤ x1 → x1 ≤ 2 → zyRow (zqCA h) (h 8) x1 x2 x3 x4 x5 → zqAg (zqAdd (h 8) x1 x2 (zyF (h 2 x1) x2 x3 x4 x5)) (h' 8) ∧ WOk h' 7 → (∀ k j : Int, 0 ≤ k → k < 94 → (k < 7 ∨ 9 < k) → h' k j = h k j) → Q h' (0, 1)) : wp l rho (d + 4) 14 0 [(2, 0), (0, x1), (0, x2), (0, x3), (0, x4), (0, x5), (9, 0)] [] h Q := by
  have J60_0 : ∀ (n : Nat) (p60_0 : Int) (h60_0 : my_H), my_fr [(24, -1), (30, -1), (31, -1)] h h60_0 → 0 ≤ x1 → x1 ≤ 2 → 0 ≤ p60_0 → p60_0 ≤ 4 → (∀ j : Int, 0 ≤ j → j < p60_0 → 0 ≤ h60_0 144 j ∧ h60_0 144 j ≤ 19) → (p60_0 = 0 → h60_0 144 0 = x2) → (1 ≤ p60_0 → 0 ≤ x2 ∧ x2 ≤ 19) → 1 ≤ h60_0 2 x1 → (∀ j : Int, 0 ≤ j → j < p60_0 → h60_0 144 j = zyF (h 2 x1) x2 x3 x4 x5 j) → (∀ j : Int, p60_0 ≤ j → j ≤ 3 → h60_0 144 j = zyF 4 x2 x3 x4 x5 j) → (∀ j : Int, 0 ≤ j → j < p60_0 → j < h 2 x1 → 0 ≤ zyF 4 x2 x3 x4 x5 j ∧ zyF 4 x2 x3 x4 x5 j ≤ 19) → ((∀ j : Int, h60_0 8 j = h 8 j) ∧ ∀ j : Int, h60_0 9 j = h 9 j) → 1 ≤ h 2 x1 ∧ zqCn (h 8) x1 20 < 10 → (∀ k j : Int, 0 ≤ k → k < 94 → (k < 7 ∨ 9 < k) → h60_0 k j = h k j) → 5 - p60_0 ≤ (n : Int) → wp l rho (d + 4) 14 60 [(2, 0), (0, x1), (0, x2), (0, x3), (0, x4), (0, x5), (0, p60_0)] [] h60_0 Q := by
    intro n
    induction n with
    | zero => intro p60_0 h60_0 gh_60_0 q0_60_0 q1_60_0 q2_60_0 q3_60_0 fr1_60_0 f0_60_0 f1_60_0 cw_60_0 fn_60_0 fo_60_0 fv_60_0 e89_60_0 cz_60_0 bf_60_0 hm_60_0; exfalso; omega
    | succ n ih_60_0 =>
      intro p60_0 h60_0 gh_60_0 q0_60_0 q1_60_0 q2_60_0 q3_60_0 fr1_60_0 f0_60_0 f1_60_0 cw_60_0 fn_60_0 fo_60_0 fv_60_0 e89_60_0 cz_60_0 bf_60_0 hm_60_0
      refine w_iload gz_14_60 rfl ?_
      refine w_iconst gz_14_62 (by decide) ?_
      refine w_icge (t := 121) gz_14_63 rfl (fun u1 => ?_) (fun u1 => ?_)
      ·
        refine w_aload_n gz_14_121 rfl ?_
        refine w_getX (v := 7) gz_14_122 is_0 rd_9 rfl (by decide) rfl ?_
        have c2e : h60_0 2 x1 = h 2 x1 := bf_60_0 2 x1 (by omega) (by omega) (by omega)
        have n8 := e89_60_0.1 (80 * x1 + 4 * x2)
        have V9 : zyV (zqCA h) x1 x2 x3 x4 x5 := zyV_f ⟨by omega, by omega, cz_60_0.1⟩ (fun j a b c => fv_60_0 j a (by omega) c)
        have v92 := V9.2.1
        have fn9 : ∀ j : Int, 0 ≤ j → j < 4 → h60_0 144 j = zyF (h 2 x1) x2 x3 x4 x5 j := fun j a b => fn_60_0 j a (by omega)
        have n144 : h60_0 144 0 = x2 := (fn9 0 (by omega) (by omega)).trans zyF_v.1
        have hf9 : ∀ c : Int, 0 ≤ c → c ≤ 3 → 0 ≤ (zyF (h 2 x1) x2 x3 x4 x5) c ∧ (zyF (h 2 x1) x2 x3 x4 x5) c ≤ 19 := fun c a b => by
          rw [← fn9 c a (by omega)]
          exact fr1_60_0 c a (by omega)
        have st9 := cA_st hwo v92.1 v92.2 cz_60_0.1 zyF_v.1 hf9 (fun c a b => zyF_ge cz_60_0.1 b a)
        refine w_iload_n gz_14_125 rfl ?_
        refine w_iload_n gz_14_126 rfl ?_
        refine w_inv (k := 0) (as := [(0, x2), (0, x1)]) (r := []) (x := 7) (ls0 := [(2, 7), (0, x1), (0, x2)]) gz_14_127 gm_15 rfl is_7 rd_6 rfl rfl rfl rfl rfl ?_
        refine w_iload_n gz_15_0 rfl ?_
        refine w_iflt (t := 31) gz_15_1 rfl (fun u3 => ?_) (fun u3 => ?_)
        ·
          refine w_iconst gz_15_31 (by decide) ?_
          refine w_bret gz_15_32 gm_15 (by omega) (by omega) ?_
          show wp l rho (d + 4) 14 130 [(2, 0), (0, x1), (0, x2), (0, x3), (0, x4), (0, x5), (0, p60_0)] [(0, 0)] h60_0 Q
          refine w_ifeq (t := 135) gz_14_130 rfl (fun u4 => ?_) (fun u4 => by exfalso; omega)
          refine w_aload_n gz_14_135 rfl ?_
          refine w_getX (v := 7) gz_14_136 is_0 rd_9 rfl (by decide) rfl ?_
          refine w_iload_n gz_14_139 rfl ?_
          refine w_aload_n gz_14_140 rfl ?_
          refine w_getX (v := 144) gz_14_141 is_0 rd_9 rfl (by decide) rfl ?_
          have hrow : ∀ j : Int, 0 ≤ j → j < 4 → 0 ≤ h60_0 144 j ∧ h60_0 144 j ≤ 19 := fun j a b => fr1_60_0 j a (by omega)
          refine w_inv (k := 0) (as := [(2, 144), (0, x1)]) (r := []) (x := 7) (ls0 := [(2, 7), (0, x1), (2, 144)]) gz_14_144 gm_16 rfl is_7 rd_6 rfl rfl rfl rfl rfl ?_
          refine w_aload_n gz_16_0 rfl ?_
          refine w_iconst gz_16_1 (by decide) ?_
          refine w_aload_n gz_16_2 rfl ?_
          refine w_getX (v := 8) gz_16_3 is_7 rd_6 rfl (by decide) rfl ?_
          refine w_iload_n gz_16_6 rfl ?_
          refine w_aload_n gz_16_7 rfl ?_
          refine w_iconst gz_16_8 (by decide) ?_
          refine w_iald gz_16_9 is_144 rd_24 (by omega) (by omega) (fun v8 ev8 pv8 qv8 => ?_)
          have hi9 : 0 ≤ v8 := by first | omega | (have q := hrow 0 (by decide) (by decide); omega) | omega
          have hi10 : v8 ≤ 19 := by first | omega | (have q := hrow 0 (by decide) (by decide); omega) | omega
          refine w_inS (k := 0) (as := [(0, v8), (0, x1)]) (r := [(2, 8), (0, 0), (2, 144)]) (ls0 := [(0, x1), (0, v8)]) gz_16_10 gm_17 rfl rfl rfl rfl rfl rfl ?_
          refine w_iload_n gz_17_0 rfl ?_
          refine w_bipush gz_17_1 (by decide) ?_
          refine w_imul gz_17_3 ⟨by omega, by omega⟩ ?_
          refine w_iload_n gz_17_4 rfl ?_
          refine w_iadd gz_17_5 ⟨by omega, by omega⟩ ?_
          refine w_iconst gz_17_6 (by decide) ?_
          refine w_imul gz_17_7 ⟨by omega, by omega⟩ ?_
          refine w_iret gz_17_8 gm_17 ?_
          show wp l rho (d + 3) 16 13 [(2, 7), (0, x1), (2, 144)] [(0, (((x1 * 20) + v8) * 4)), (2, 8), (0, 0), (2, 144)] h60_0 _
          refine w_iconst gz_16_13 (by decide) ?_
          refine w_cpR gz_16_14 is_144 rd_24 is_8 rd_30 (by omega) (by omega) (by omega) (by omega) (by omega) rfl (fun j a b => by have q := hrow j a b; rw [Int.zero_add]; omega) (fun h11 fh11 => ?_)
          have gh11 : my_fr [(24, -1), (30, -1), (31, -1)] h h11 := my_fr.cp gh_60_0 is_8 fh11 rfl
          have fad := fh11
          refine w_aload_n gz_16_17 rfl ?_
          refine w_getX (v := 9) gz_16_18 is_7 rd_6 rfl (by decide) rfl ?_
          refine w_iload_n gz_16_21 rfl ?_
          refine w_dup2 gz_16_22 rfl rfl ?_
          refine w_iald gz_16_23 is_9 rd_31 (by omega) (by omega) (fun v13 ev13 pv13 qv13 => ?_)
          refine w_iconst gz_16_24 (by decide) ?_
          refine w_iaddX gz_16_25 (fun v14 xv14 pv14 qv14 => ?_)
          refine w_iastA gz_16_26 is_9 rd_31 (by omega) (by omega) (fun h15 fh15 => ?_)
          have gh15 : my_fr [(24, -1), (30, -1), (31, -1)] h h15 := my_fr.up gh11 is_9 fh15 rfl
          have fsz := fh15
          refine w_vret gz_16_27 gm_16 ?_
          show wp l rho (d + 4) 14 147 [(2, 0), (0, x1), (0, x2), (0, x3), (0, x4), (0, x5), (0, p60_0)] [] h15 Q
          refine w_aload_n gz_14_147 rfl ?_
          refine w_getX (v := 1) gz_14_148 is_0 rd_9 rfl (by decide) rfl ?_
          refine w_aload_n gz_14_151 rfl ?_
          refine w_getX (v := 7) gz_14_152 is_0 rd_9 rfl (by decide) rfl ?_
          have cA1 := cA_1 (w := x1) e89_60_0.1 fn9 fad (by omega)
          have e8A : ∀ j : Int, h15 8 j = zqAdd (h 8) x1 x2 (zyF (h 2 x1) x2 x3 x4 x5) j := fun j => (my_up_ne fsz (by omega)).trans (cA1 j)
          have e9A := cA_9 (w := x1) (fun j => (my_cp_ne fad (by omega)).trans (e89_60_0.2 j)) fsz rfl hwo (by omega) (by omega) (fun z => by omega)
          have ag9 : my_ag F5 h h15 := (my_ag.fr (F := F5) gh15 rfl)
          have la8 := cA_l hwo st9 (CA_ag ag9).1 e8A
          refine w_inv (k := 0) (as := [(2, 7)]) (r := []) (x := 1) (ls0 := [(2, 1), (2, 7)]) gz_14_155 gm_18 rfl is_1 rd_3 rfl rfl rfl rfl rfl (c_Laws_hold5 (d := d) (x1 := 7) is_7 (fun xp18 => ?_) (fun xp19 => ?_))
          ·
            show wp l rho (d + 4) 14 158 [(2, 0), (0, x1), (0, x2), (0, x3), (0, x4), (0, x5), (0, p60_0)] [(0, 0)] h15 Q
            have lf8 := xp18
            refine w_ifeq (t := 163) gz_14_158 rfl (fun u20 => ?_) (fun u20 => by exfalso; omega)
            refine w_aload_n gz_14_163 rfl ?_
            refine w_getX (v := 7) gz_14_164 is_0 rd_9 rfl (by decide) rfl ?_
            refine w_iload_n gz_14_167 rfl ?_
            refine w_iload_n gz_14_168 rfl ?_
            have hi22 : 0 ≤ x2 := by have q := f1_60_0 (by omega); omega
            have hi23 : x2 ≤ 19 := by have q := f1_60_0 (by omega); omega
            exfalso; omega
          ·
            show wp l rho (d + 4) 14 158 [(2, 0), (0, x1), (0, x2), (0, x3), (0, x4), (0, x5), (0, p60_0)] [(0, 1)] h15 Q
            have lf8 := xp19
            refine w_ifeq (t := 163) gz_14_158 rfl (fun u24 => by exfalso; omega) (fun u24 => ?_)
            refine w_iconst gz_14_161 (by decide) ?_
            have bfE : ∀ k j : Int, 0 ≤ k → k < 94 → (k < 7 ∨ 9 < k) → h15 k j = h k j := fun k j k0 k1 k2 => (((my_up_ne fh15 (by omega)).trans (my_cp_ne fh11 (by omega))).trans (bf_60_0 k j k0 k1 k2))
            have agE : my_ag F5 h h15 := (my_ag.fr (F := F5) gh15 rfl)
            exact w_bret gz_14_162 gm_14 (by omega) (by omega) (k1 h15 (gh15) (by omega) (by omega) (by first | exact bfE | exact ⟨V9, (show h 8 (80 * x1 + 4 * x2) = -1 by omega), cz_60_0.2, la8.mp lf8⟩ | exact cA_w agE hwo st9 v92.1 v92.2 (by omega) (by omega) cz_60_0.2 (by omega) hf9 (la8.mp lf8) e8A e9A | exact (fun z => lf8 (la8.mpr z.2.2.2)) | exact cA_b agE hwo v92.1 v92.2 (by omega) (by omega) (by omega) e8A e9A dr dz | exact (fun z => by have q : h 8 (80 * x1 + 4 * x2) = -1 := z.2.1; omega) | exact (fun z => by have z1 : 0 ≤ x1 ∧ x1 ≤ 2 ∧ 0 < h 2 x1 := z.1.1; omega) | exact (fun z => by have q := zyV_n z.1 (k := p60_0) (by omega) (by omega) (by show p60_0 < h 2 x1; omega) fo_60_0 (by assumption); omega) | exact (fun z => by have q : h 9 x1 = zqCn (h 8) x1 20 := hwo.2.2.2.2 x1 (by omega) (by omega); have q2 := z.2.2.1; omega) | exact ⟨zqAg.rf, hwo⟩ | exact ⟨fun j _ _ => e89_60_0.1 j, WOk_ag (x := 7) agE hwo (fun j _ _ => e89_60_0.1 j) (fun u _ _ => e89_60_0.2 u)⟩ | assumption | omega) (by first | exact bfE | exact ⟨V9, (show h 8 (80 * x1 + 4 * x2) = -1 by omega), cz_60_0.2, la8.mp lf8⟩ | exact cA_w agE hwo st9 v92.1 v92.2 (by omega) (by omega) cz_60_0.2 (by omega) hf9 (la8.mp lf8) e8A e9A | exact (fun z => lf8 (la8.mpr z.2.2.2)) | exact cA_b agE hwo v92.1 v92.2 (by omega) (by omega) (by omega) e8A e9A dr dz | exact (fun z => by have q : h 8 (80 * x1 + 4 * x2) = -1 := z.2.1; omega) | exact (fun z => by have z1 : 0 ≤ x1 ∧ x1 ≤ 2 ∧ 0 < h 2 x1 := z.1.1; omega) | exact (fun z => by have q := zyV_n z.1 (k := p60_0) (by omega) (by omega) (by show p60_0 < h 2 x1; omega) fo_60_0 (by assumption); omega) | exact (fun z => by have q : h 9 x1 = zqCn (h 8) x1 20 := hwo.2.2.2.2 x1 (by omega) (by omega); have q2 := z.2.2.1; omega) | exact ⟨zqAg.rf, hwo⟩ | exact ⟨fun j _ _ => e89_60_0.1 j, WOk_ag (x := 7) agE hwo (fun j _ _ => e89_60_0.1 j) (fun u _ _ => e89_60_0.2 u)⟩ | assumption | omega) (by first | exact bfE | exact ⟨V9, (show h 8 (80 * x1 + 4 * x2) = -1 by omega), cz_60_0.2, la8.mp lf8⟩ | exact cA_w agE hwo st9 v92.1 v92.2 (by omega) (by omega) cz_60_0.2 (by omega) hf9 (la8.mp lf8) e8A e9A | exact (fun z => lf8 (la8.mpr z.2.2.2)) | exact cA_b agE hwo v92.1 v92.2 (by omega) (by omega) (by omega) e8A e9A dr dz | exact (fun z => by have q : h 8 (80 * x1 + 4 * x2) = -1 := z.2.1; omega) | exact (fun z => by have z1 : 0 ≤ x1 ∧ x1 ≤ 2 ∧ 0 < h 2 x1 := z.1.1; omega) | exact (fun z => by have q := zyV_n z.1 (k := p60_0) (by omega) (by omega) (by show p60_0 < h 2 x1; omega) fo_60_0 (by assumption); omega) | exact (fun z => by have q : h 9 x1 = zqCn (h 8) x1 20 := hwo.2.2.2.2 x1 (by omega) (by omega); have q2 := z.2.2.1; omega) | exact ⟨zqAg.rf, hwo⟩ | exact ⟨fun j _ _ => e89_60_0.1 j, WOk_ag (x := 7) agE hwo (fun j _ _ => e89_60_0.1 j) (fun u _ _ => e89_60_0.2 u)⟩ | assumption | omega))
        ·
          refine w_iload_n gz_15_4 rfl ?_
          refine w_bipush gz_15_5 (by decide) ?_
          refine w_icge (t := 31) gz_15_7 rfl (fun u25 => ?_) (fun u25 => ?_)
          ·
            refine w_iconst gz_15_31 (by decide) ?_
            refine w_bret gz_15_32 gm_15 (by omega) (by omega) ?_
            show wp l rho (d + 4) 14 130 [(2, 0), (0, x1), (0, x2), (0, x3), (0, x4), (0, x5), (0, p60_0)] [(0, 0)] h60_0 Q
            refine w_ifeq (t := 135) gz_14_130 rfl (fun u26 => ?_) (fun u26 => by exfalso; omega)
            refine w_aload_n gz_14_135 rfl ?_
            refine w_getX (v := 7) gz_14_136 is_0 rd_9 rfl (by decide) rfl ?_
            refine w_iload_n gz_14_139 rfl ?_
            refine w_aload_n gz_14_140 rfl ?_
            refine w_getX (v := 144) gz_14_141 is_0 rd_9 rfl (by decide) rfl ?_
            have hrow : ∀ j : Int, 0 ≤ j → j < 4 → 0 ≤ h60_0 144 j ∧ h60_0 144 j ≤ 19 := fun j a b => fr1_60_0 j a (by omega)
            refine w_inv (k := 0) (as := [(2, 144), (0, x1)]) (r := []) (x := 7) (ls0 := [(2, 7), (0, x1), (2, 144)]) gz_14_144 gm_16 rfl is_7 rd_6 rfl rfl rfl rfl rfl ?_
            refine w_aload_n gz_16_0 rfl ?_
            refine w_iconst gz_16_1 (by decide) ?_
            refine w_aload_n gz_16_2 rfl ?_
            refine w_getX (v := 8) gz_16_3 is_7 rd_6 rfl (by decide) rfl ?_
            refine w_iload_n gz_16_6 rfl ?_
            refine w_aload_n gz_16_7 rfl ?_
            refine w_iconst gz_16_8 (by decide) ?_
            refine w_iald gz_16_9 is_144 rd_24 (by omega) (by omega) (fun v30 ev30 pv30 qv30 => ?_)
            have hi31 : 0 ≤ v30 := by first | omega | (have q := hrow 0 (by decide) (by decide); omega) | omega
            have hi32 : v30 ≤ 19 := by first | omega | (have q := hrow 0 (by decide) (by decide); omega) | omega
            refine w_inS (k := 0) (as := [(0, v30), (0, x1)]) (r := [(2, 8), (0, 0), (2, 144)]) (ls0 := [(0, x1), (0, v30)]) gz_16_10 gm_17 rfl rfl rfl rfl rfl rfl ?_
            refine w_iload_n gz_17_0 rfl ?_
            refine w_bipush gz_17_1 (by decide) ?_
            refine w_imul gz_17_3 ⟨by omega, by omega⟩ ?_
            refine w_iload_n gz_17_4 rfl ?_
            refine w_iadd gz_17_5 ⟨by omega, by omega⟩ ?_
            refine w_iconst gz_17_6 (by decide) ?_
            refine w_imul gz_17_7 ⟨by omega, by omega⟩ ?_
            refine w_iret gz_17_8 gm_17 ?_
            show wp l rho (d + 3) 16 13 [(2, 7), (0, x1), (2, 144)] [(0, (((x1 * 20) + v30) * 4)), (2, 8), (0, 0), (2, 144)] h60_0 _
            refine w_iconst gz_16_13 (by decide) ?_
            refine w_cpR gz_16_14 is_144 rd_24 is_8 rd_30 (by omega) (by omega) (by omega) (by omega) (by omega) rfl (fun j a b => by have q := hrow j a b; rw [Int.zero_add]; omega) (fun h33 fh33 => ?_)
            have gh33 : my_fr [(24, -1), (30, -1), (31, -1)] h h33 := my_fr.cp gh_60_0 is_8 fh33 rfl
            have fad := fh33
            refine w_aload_n gz_16_17 rfl ?_
            refine w_getX (v := 9) gz_16_18 is_7 rd_6 rfl (by decide) rfl ?_
            refine w_iload_n gz_16_21 rfl ?_
            refine w_dup2 gz_16_22 rfl rfl ?_
            refine w_iald gz_16_23 is_9 rd_31 (by omega) (by omega) (fun v35 ev35 pv35 qv35 => ?_)
            refine w_iconst gz_16_24 (by decide) ?_
            refine w_iaddX gz_16_25 (fun v36 xv36 pv36 qv36 => ?_)
            refine w_iastA gz_16_26 is_9 rd_31 (by omega) (by omega) (fun h37 fh37 => ?_)
            have gh37 : my_fr [(24, -1), (30, -1), (31, -1)] h h37 := my_fr.up gh33 is_9 fh37 rfl
            have fsz := fh37
            refine w_vret gz_16_27 gm_16 ?_
            show wp l rho (d + 4) 14 147 [(2, 0), (0, x1), (0, x2), (0, x3), (0, x4), (0, x5), (0, p60_0)] [] h37 Q
            refine w_aload_n gz_14_147 rfl ?_
            refine w_getX (v := 1) gz_14_148 is_0 rd_9 rfl (by decide) rfl ?_
            refine w_aload_n gz_14_151 rfl ?_
            refine w_getX (v := 7) gz_14_152 is_0 rd_9 rfl (by decide) rfl ?_
            have cA1 := cA_1 (w := x1) e89_60_0.1 fn9 fad (by omega)
            have e8A : ∀ j : Int, h37 8 j = zqAdd (h 8) x1 x2 (zyF (h 2 x1) x2 x3 x4 x5) j := fun j => (my_up_ne fsz (by omega)).trans (cA1 j)
            have e9A := cA_9 (w := x1) (fun j => (my_cp_ne fad (by omega)).trans (e89_60_0.2 j)) fsz rfl hwo (by omega) (by omega) (fun z => by omega)
            have ag9 : my_ag F5 h h37 := (my_ag.fr (F := F5) gh37 rfl)
            have la8 := cA_l hwo st9 (CA_ag ag9).1 e8A
            refine w_inv (k := 0) (as := [(2, 7)]) (r := []) (x := 1) (ls0 := [(2, 1), (2, 7)]) gz_14_155 gm_18 rfl is_1 rd_3 rfl rfl rfl rfl rfl (c_Laws_hold5 (d := d) (x1 := 7) is_7 (fun xp40 => ?_) (fun xp41 => ?_))
            ·
              show wp l rho (d + 4) 14 158 [(2, 0), (0, x1), (0, x2), (0, x3), (0, x4), (0, x5), (0, p60_0)] [(0, 0)] h37 Q
              have lf8 := xp40
              refine w_ifeq (t := 163) gz_14_158 rfl (fun u42 => ?_) (fun u42 => by exfalso; omega)
              refine w_aload_n gz_14_163 rfl ?_
              refine w_getX (v := 7) gz_14_164 is_0 rd_9 rfl (by decide) rfl ?_
              refine w_iload_n gz_14_167 rfl ?_
              refine w_iload_n gz_14_168 rfl ?_
              have hi44 : 0 ≤ x2 := by have q := f1_60_0 (by omega); omega
              have hi45 : x2 ≤ 19 := by have q := f1_60_0 (by omega); omega
              exfalso; omega
            ·
              show wp l rho (d + 4) 14 158 [(2, 0), (0, x1), (0, x2), (0, x3), (0, x4), (0, x5), (0, p60_0)] [(0, 1)] h37 Q
              have lf8 := xp41
              refine w_ifeq (t := 163) gz_14_158 rfl (fun u46 => by exfalso; omega) (fun u46 => ?_)
              refine w_iconst gz_14_161 (by decide) ?_
              have bfE : ∀ k j : Int, 0 ≤ k → k < 94 → (k < 7 ∨ 9 < k) → h37 k j = h k j := fun k j k0 k1 k2 => (((my_up_ne fh37 (by omega)).trans (my_cp_ne fh33 (by omega))).trans (bf_60_0 k j k0 k1 k2))
              have agE : my_ag F5 h h37 := (my_ag.fr (F := F5) gh37 rfl)
              exact w_bret gz_14_162 gm_14 (by omega) (by omega) (k1 h37 (gh37) (by omega) (by omega) (by first | exact bfE | exact ⟨V9, (show h 8 (80 * x1 + 4 * x2) = -1 by omega), cz_60_0.2, la8.mp lf8⟩ | exact cA_w agE hwo st9 v92.1 v92.2 (by omega) (by omega) cz_60_0.2 (by omega) hf9 (la8.mp lf8) e8A e9A | exact (fun z => lf8 (la8.mpr z.2.2.2)) | exact cA_b agE hwo v92.1 v92.2 (by omega) (by omega) (by omega) e8A e9A dr dz | exact (fun z => by have q : h 8 (80 * x1 + 4 * x2) = -1 := z.2.1; omega) | exact (fun z => by have z1 : 0 ≤ x1 ∧ x1 ≤ 2 ∧ 0 < h 2 x1 := z.1.1; omega) | exact (fun z => by have q := zyV_n z.1 (k := p60_0) (by omega) (by omega) (by show p60_0 < h 2 x1; omega) fo_60_0 (by assumption); omega) | exact (fun z => by have q : h 9 x1 = zqCn (h 8) x1 20 := hwo.2.2.2.2 x1 (by omega) (by omega); have q2 := z.2.2.1; omega) | exact ⟨zqAg.rf, hwo⟩ | exact ⟨fun j _ _ => e89_60_0.1 j, WOk_ag (x := 7) agE hwo (fun j _ _ => e89_60_0.1 j) (fun u _ _ => e89_60_0.2 u)⟩ | assumption | omega) (by first | exact bfE | exact ⟨V9, (show h 8 (80 * x1 + 4 * x2) = -1 by omega), cz_60_0.2, la8.mp lf8⟩ | exact cA_w agE hwo st9 v92.1 v92.2 (by omega) (by omega) cz_60_0.2 (by omega) hf9 (la8.mp lf8) e8A e9A | exact (fun z => lf8 (la8.mpr z.2.2.2)) | exact cA_b agE hwo v92.1 v92.2 (by omega) (by omega) (by omega) e8A e9A dr dz | exact (fun z => by have q : h 8 (80 * x1 + 4 * x2) = -1 := z.2.1; omega) | exact (fun z => by have z1 : 0 ≤ x1 ∧ x1 ≤ 2 ∧ 0 < h 2 x1 := z.1.1; omega) | exact (fun z => by have q := zyV_n z.1 (k := p60_0) (by omega) (by omega) (by show p60_0 < h 2 x1; omega) fo_60_0 (by assumption); omega) | exact (fun z => by have q : h 9 x1 = zqCn (h 8) x1 20 := hwo.2.2.2.2 x1 (by omega) (by omega); have q2 := z.2.2.1; omega) | exact ⟨zqAg.rf, hwo⟩ | exact ⟨fun j _ _ => e89_60_0.1 j, WOk_ag (x := 7) agE hwo (fun j _ _ => e89_60_0.1 j) (fun u _ _ => e89_60_0.2 u)⟩ | assumption | omega) (by first | exact bfE | exact ⟨V9, (show h 8 (80 * x1 + 4 * x2) = -1 by omega), cz_60_0.2, la8.mp lf8⟩ | exact cA_w agE hwo st9 v92.1 v92.2 (by omega) (by omega) cz_60_0.2 (by omega) hf9 (la8.mp lf8) e8A e9A | exact (fun z => lf8 (la8.mpr z.2.2.2)) | exact cA_b agE hwo v92.1 v92.2 (by omega) (by omega) (by omega) e8A e9A dr dz | exact (fun z => by have q : h 8 (80 * x1 + 4 * x2) = -1 := z.2.1; omega) | exact (fun z => by have z1 : 0 ≤ x1 ∧ x1 ≤ 2 ∧ 0 < h 2 x1 := z.1.1; omega) | exact (fun z => by have q := zyV_n z.1 (k := p60_0) (by omega) (by omega) (by show p60_0 < h 2 x1; omega) fo_60_0 (by assumption); omega) | exact (fun z => by have q : h 9 x1 = zqCn (h 8) x1 20 := hwo.2.2.2.2 x1 (by omega) (by omega); have q2 := z.2.2.1; omega) | exact ⟨zqAg.rf, hwo⟩ | exact ⟨fun j _ _ => e89_60_0.1 j, WOk_ag (x := 7) agE hwo (fun j _ _ => e89_60_0.1 j) (fun u _ _ => e89_60_0.2 u)⟩ | assumption | omega))
          ·
            refine w_aload_n gz_15_10 rfl ?_
            refine w_getX (v := 8) gz_15_11 is_7 rd_6 rfl (by decide) rfl ?_
            refine w_iload_n gz_15_14 rfl ?_
            refine w_bipush gz_15_15 (by decide) ?_
            refine w_imul gz_15_17 ⟨by omega, by omega⟩ ?_
            refine w_iload_n gz_15_18 rfl ?_
            refine w_iadd gz_15_19 ⟨by omega, by omega⟩ ?_
            refine w_iconst gz_15_20 (by decide) ?_
            refine w_imul gz_15_21 ⟨by omega, by omega⟩ ?_
            refine w_iald gz_15_22 is_8 rd_30 (by omega) (by omega) (fun v48 ev48 pv48 qv48 => ?_)
            have hhas : h60_0 8 (80 * x1 + 4 * x2) = v48 := by rw [show (80 * x1 + 4 * x2 : Int) = (((x1 * 20) + x2) * 4) by omega]; omega
            refine w_iconst gz_15_23 (by decide) ?_
            refine w_iceq (t := 31) gz_15_24 rfl (fun u49 => ?_) (fun u49 => ?_)
            ·
              refine w_iconst gz_15_31 (by decide) ?_
              refine w_bret gz_15_32 gm_15 (by omega) (by omega) ?_
              show wp l rho (d + 4) 14 130 [(2, 0), (0, x1), (0, x2), (0, x3), (0, x4), (0, x5), (0, p60_0)] [(0, 0)] h60_0 Q
              refine w_ifeq (t := 135) gz_14_130 rfl (fun u50 => ?_) (fun u50 => by exfalso; omega)
              refine w_aload_n gz_14_135 rfl ?_
              refine w_getX (v := 7) gz_14_136 is_0 rd_9 rfl (by decide) rfl ?_
              refine w_iload_n gz_14_139 rfl ?_
              refine w_aload_n gz_14_140 rfl ?_
              refine w_getX (v := 144) gz_14_141 is_0 rd_9 rfl (by decide) rfl ?_
              have hrow : ∀ j : Int, 0 ≤ j → j < 4 → 0 ≤ h60_0 144 j ∧ h60_0 144 j ≤ 19 := fun j a b => fr1_60_0 j a (by omega)
              refine w_inv (k := 0) (as := [(2, 144), (0, x1)]) (r := []) (x := 7) (ls0 := [(2, 7), (0, x1), (2, 144)]) gz_14_144 gm_16 rfl is_7 rd_6 rfl rfl rfl rfl rfl ?_
              refine w_aload_n gz_16_0 rfl ?_
              refine w_iconst gz_16_1 (by decide) ?_
              refine w_aload_n gz_16_2 rfl ?_
              refine w_getX (v := 8) gz_16_3 is_7 rd_6 rfl (by decide) rfl ?_
              refine w_iload_n gz_16_6 rfl ?_
              refine w_aload_n gz_16_7 rfl ?_
              refine w_iconst gz_16_8 (by decide) ?_
              refine w_iald gz_16_9 is_144 rd_24 (by omega) (by omega) (fun v54 ev54 pv54 qv54 => ?_)
              have hi55 : 0 ≤ v54 := by first | omega | (have q := hrow 0 (by decide) (by decide); omega) | omega
              have hi56 : v54 ≤ 19 := by first | omega | (have q := hrow 0 (by decide) (by decide); omega) | omega
              refine w_inS (k := 0) (as := [(0, v54), (0, x1)]) (r := [(2, 8), (0, 0), (2, 144)]) (ls0 := [(0, x1), (0, v54)]) gz_16_10 gm_17 rfl rfl rfl rfl rfl rfl ?_
              refine w_iload_n gz_17_0 rfl ?_
              refine w_bipush gz_17_1 (by decide) ?_
              refine w_imul gz_17_3 ⟨by omega, by omega⟩ ?_
              refine w_iload_n gz_17_4 rfl ?_
              refine w_iadd gz_17_5 ⟨by omega, by omega⟩ ?_
              refine w_iconst gz_17_6 (by decide) ?_
              refine w_imul gz_17_7 ⟨by omega, by omega⟩ ?_
              refine w_iret gz_17_8 gm_17 ?_
              show wp l rho (d + 3) 16 13 [(2, 7), (0, x1), (2, 144)] [(0, (((x1 * 20) + v54) * 4)), (2, 8), (0, 0), (2, 144)] h60_0 _
              refine w_iconst gz_16_13 (by decide) ?_
              refine w_cpR gz_16_14 is_144 rd_24 is_8 rd_30 (by omega) (by omega) (by omega) (by omega) (by omega) rfl (fun j a b => by have q := hrow j a b; rw [Int.zero_add]; omega) (fun h57 fh57 => ?_)
              have gh57 : my_fr [(24, -1), (30, -1), (31, -1)] h h57 := my_fr.cp gh_60_0 is_8 fh57 rfl
              have fad := fh57
              refine w_aload_n gz_16_17 rfl ?_
              refine w_getX (v := 9) gz_16_18 is_7 rd_6 rfl (by decide) rfl ?_
              refine w_iload_n gz_16_21 rfl ?_
              refine w_dup2 gz_16_22 rfl rfl ?_
              refine w_iald gz_16_23 is_9 rd_31 (by omega) (by omega) (fun v59 ev59 pv59 qv59 => ?_)
              refine w_iconst gz_16_24 (by decide) ?_
              refine w_iaddX gz_16_25 (fun v60 xv60 pv60 qv60 => ?_)
              refine w_iastA gz_16_26 is_9 rd_31 (by omega) (by omega) (fun h61 fh61 => ?_)
              have gh61 : my_fr [(24, -1), (30, -1), (31, -1)] h h61 := my_fr.up gh57 is_9 fh61 rfl
              have fsz := fh61
              refine w_vret gz_16_27 gm_16 ?_
              show wp l rho (d + 4) 14 147 [(2, 0), (0, x1), (0, x2), (0, x3), (0, x4), (0, x5), (0, p60_0)] [] h61 Q
              refine w_aload_n gz_14_147 rfl ?_
              refine w_getX (v := 1) gz_14_148 is_0 rd_9 rfl (by decide) rfl ?_
              refine w_aload_n gz_14_151 rfl ?_
              refine w_getX (v := 7) gz_14_152 is_0 rd_9 rfl (by decide) rfl ?_
              have cA1 := cA_1 (w := x1) e89_60_0.1 fn9 fad (by omega)
              have e8A : ∀ j : Int, h61 8 j = zqAdd (h 8) x1 x2 (zyF (h 2 x1) x2 x3 x4 x5) j := fun j => (my_up_ne fsz (by omega)).trans (cA1 j)
              have e9A := cA_9 (w := x1) (fun j => (my_cp_ne fad (by omega)).trans (e89_60_0.2 j)) fsz rfl hwo (by omega) (by omega) (fun z => by omega)
              have ag9 : my_ag F5 h h61 := (my_ag.fr (F := F5) gh61 rfl)
              have la8 := cA_l hwo st9 (CA_ag ag9).1 e8A
              refine w_inv (k := 0) (as := [(2, 7)]) (r := []) (x := 1) (ls0 := [(2, 1), (2, 7)]) gz_14_155 gm_18 rfl is_1 rd_3 rfl rfl rfl rfl rfl (c_Laws_hold5 (d := d) (x1 := 7) is_7 (fun xp64 => ?_) (fun xp65 => ?_))
              ·
                show wp l rho (d + 4) 14 158 [(2, 0), (0, x1), (0, x2), (0, x3), (0, x4), (0, x5), (0, p60_0)] [(0, 0)] h61 Q
                have lf8 := xp64
                refine w_ifeq (t := 163) gz_14_158 rfl (fun u66 => ?_) (fun u66 => by exfalso; omega)
                refine w_aload_n gz_14_163 rfl ?_
                refine w_getX (v := 7) gz_14_164 is_0 rd_9 rfl (by decide) rfl ?_
                refine w_iload_n gz_14_167 rfl ?_
                refine w_iload_n gz_14_168 rfl ?_
                have hi68 : 0 ≤ x2 := by have q := f1_60_0 (by omega); omega
                have hi69 : x2 ≤ 19 := by have q := f1_60_0 (by omega); omega
                refine w_inv (k := 2) (as := [(0, x2), (0, x1)]) (r := []) (x := 7) (ls0 := [(2, 7), (0, x1), (0, x2), (9, 0), (9, 0)]) gz_14_169 gm_23 rfl is_7 rd_6 rfl rfl rfl rfl rfl (c_Rows_drop5 (d := (d + 2)) (x0 := 7) (x1 := x1) (x2 := x2) is_7 (by omega) (by omega) (by omega) (by omega) ((by have q := e9A x1 (by omega) (by omega); have s : 0 ≤ h 9 x1 ∧ h 9 x1 ≤ 10 := WOk_sz (x := 7) hwo x1 (by omega) (by omega); have n : h 9 x1 = zqCn (h 8) x1 20 := hwo.2.2.2.2 x1 (by omega) (by omega); have c := cz_60_0.2; rw [if_pos rfl] at q; show 0 ≤ h61 9 x1 ∧ h61 9 x1 ≤ 10; omega)) (fun h70 frh70 fxh70 xp71 xp72 => ?_))
                have gh70 : my_fr [(24, -1), (30, -1), (31, -1)] h h70 := my_fr.tr gh61 (frh70.mo rfl)
                show wp l rho (d + 4) 14 172 [(2, 0), (0, x1), (0, x2), (0, x3), (0, x4), (0, x5), (0, p60_0)] [] h70 Q
                have dr := xp71
                have dz := xp72
                refine w_iconst gz_14_172 (by decide) ?_
                have bfE : ∀ k j : Int, 0 ≤ k → k < 94 → (k < 7 ∨ 9 < k) → h70 k j = h k j := fun k j k0 k1 k2 => (((my_fx.at fxh70 (by omega)).trans ((my_up_ne fh61 (by omega)).trans (my_cp_ne fh57 (by omega)))).trans (bf_60_0 k j k0 k1 k2))
                have agE : my_ag F5 h h70 := (my_ag.fr (F := F5) gh70 rfl)
                exact w_bret gz_14_173 gm_14 (by omega) (by omega) (k0 h70 (gh70) (by first | exact bfE | exact ⟨V9, (show h 8 (80 * x1 + 4 * x2) = -1 by omega), cz_60_0.2, la8.mp lf8⟩ | exact cA_w agE hwo st9 v92.1 v92.2 (by omega) (by omega) cz_60_0.2 (by omega) hf9 (la8.mp lf8) e8A e9A | exact (fun z => lf8 (la8.mpr z.2.2.2)) | exact cA_b agE hwo v92.1 v92.2 (by omega) (by omega) (by omega) e8A e9A dr dz | exact (fun z => by have q : h 8 (80 * x1 + 4 * x2) = -1 := z.2.1; omega) | exact (fun z => by have z1 : 0 ≤ x1 ∧ x1 ≤ 2 ∧ 0 < h 2 x1 := z.1.1; omega) | exact (fun z => by have q := zyV_n z.1 (k := p60_0) (by omega) (by omega) (by show p60_0 < h 2 x1; omega) fo_60_0 (by assumption); omega) | exact (fun z => by have q : h 9 x1 = zqCn (h 8) x1 20 := hwo.2.2.2.2 x1 (by omega) (by omega); have q2 := z.2.2.1; omega) | exact ⟨zqAg.rf, hwo⟩ | exact ⟨fun j _ _ => e89_60_0.1 j, WOk_ag (x := 7) agE hwo (fun j _ _ => e89_60_0.1 j) (fun u _ _ => e89_60_0.2 u)⟩ | assumption | omega) (by first | exact bfE | exact ⟨V9, (show h 8 (80 * x1 + 4 * x2) = -1 by omega), cz_60_0.2, la8.mp lf8⟩ | exact cA_w agE hwo st9 v92.1 v92.2 (by omega) (by omega) cz_60_0.2 (by omega) hf9 (la8.mp lf8) e8A e9A | exact (fun z => lf8 (la8.mpr z.2.2.2)) | exact cA_b agE hwo v92.1 v92.2 (by omega) (by omega) (by omega) e8A e9A dr dz | exact (fun z => by have q : h 8 (80 * x1 + 4 * x2) = -1 := z.2.1; omega) | exact (fun z => by have z1 : 0 ≤ x1 ∧ x1 ≤ 2 ∧ 0 < h 2 x1 := z.1.1; omega) | exact (fun z => by have q := zyV_n z.1 (k := p60_0) (by omega) (by omega) (by show p60_0 < h 2 x1; omega) fo_60_0 (by assumption); omega) | exact (fun z => by have q : h 9 x1 = zqCn (h 8) x1 20 := hwo.2.2.2.2 x1 (by omega) (by omega); have q2 := z.2.2.1; omega) | exact ⟨zqAg.rf, hwo⟩ | exact ⟨fun j _ _ => e89_60_0.1 j, WOk_ag (x := 7) agE hwo (fun j _ _ => e89_60_0.1 j) (fun u _ _ => e89_60_0.2 u)⟩ | assumption | omega) (by first | exact bfE | exact ⟨V9, (show h 8 (80 * x1 + 4 * x2) = -1 by omega), cz_60_0.2, la8.mp lf8⟩ | exact cA_w agE hwo st9 v92.1 v92.2 (by omega) (by omega) cz_60_0.2 (by omega) hf9 (la8.mp lf8) e8A e9A | exact (fun z => lf8 (la8.mpr z.2.2.2)) | exact cA_b agE hwo v92.1 v92.2 (by omega) (by omega) (by omega) e8A e9A dr dz | exact (fun z => by have q : h 8 (80 * x1 + 4 * x2) = -1 := z.2.1; omega) | exact (fun z => by have z1 : 0 ≤ x1 ∧ x1 ≤ 2 ∧ 0 < h 2 x1 := z.1.1; omega) | exact (fun z => by have q := zyV_n z.1 (k := p60_0) (by omega) (by omega) (by show p60_0 < h 2 x1; omega) fo_60_0 (by assumption); omega) | exact (fun z => by have q : h 9 x1 = zqCn (h 8) x1 20 := hwo.2.2.2.2 x1 (by omega) (by omega); have q2 := z.2.2.1; omega) | exact ⟨zqAg.rf, hwo⟩ | exact ⟨fun j _ _ => e89_60_0.1 j, WOk_ag (x := 7) agE hwo (fun j _ _ => e89_60_0.1 j) (fun u _ _ => e89_60_0.2 u)⟩ | assumption | omega))
              ·
                show wp l rho (d + 4) 14 158 [(2, 0), (0, x1), (0, x2), (0, x3), (0, x4), (0, x5), (0, p60_0)] [(0, 1)] h61 Q
                have lf8 := xp65
                refine w_ifeq (t := 163) gz_14_158 rfl (fun u73 => by exfalso; omega) (fun u73 => ?_)
                refine w_iconst gz_14_161 (by decide) ?_
                have bfE : ∀ k j : Int, 0 ≤ k → k < 94 → (k < 7 ∨ 9 < k) → h61 k j = h k j := fun k j k0 k1 k2 => (((my_up_ne fh61 (by omega)).trans (my_cp_ne fh57 (by omega))).trans (bf_60_0 k j k0 k1 k2))
                have agE : my_ag F5 h h61 := (my_ag.fr (F := F5) gh61 rfl)
                exact w_bret gz_14_162 gm_14 (by omega) (by omega) (k1 h61 (gh61) (by omega) (by omega) (by first | exact bfE | exact ⟨V9, (show h 8 (80 * x1 + 4 * x2) = -1 by omega), cz_60_0.2, la8.mp lf8⟩ | exact cA_w agE hwo st9 v92.1 v92.2 (by omega) (by omega) cz_60_0.2 (by omega) hf9 (la8.mp lf8) e8A e9A | exact (fun z => lf8 (la8.mpr z.2.2.2)) | exact cA_b agE hwo v92.1 v92.2 (by omega) (by omega) (by omega) e8A e9A dr dz | exact (fun z => by have q : h 8 (80 * x1 + 4 * x2) = -1 := z.2.1; omega) | exact (fun z => by have z1 : 0 ≤ x1 ∧ x1 ≤ 2 ∧ 0 < h 2 x1 := z.1.1; omega) | exact (fun z => by have q := zyV_n z.1 (k := p60_0) (by omega) (by omega) (by show p60_0 < h 2 x1; omega) fo_60_0 (by assumption); omega) | exact (fun z => by have q : h 9 x1 = zqCn (h 8) x1 20 := hwo.2.2.2.2 x1 (by omega) (by omega); have q2 := z.2.2.1; omega) | exact ⟨zqAg.rf, hwo⟩ | exact ⟨fun j _ _ => e89_60_0.1 j, WOk_ag (x := 7) agE hwo (fun j _ _ => e89_60_0.1 j) (fun u _ _ => e89_60_0.2 u)⟩ | assumption | omega) (by first | exact bfE | exact ⟨V9, (show h 8 (80 * x1 + 4 * x2) = -1 by omega), cz_60_0.2, la8.mp lf8⟩ | exact cA_w agE hwo st9 v92.1 v92.2 (by omega) (by omega) cz_60_0.2 (by omega) hf9 (la8.mp lf8) e8A e9A | exact (fun z => lf8 (la8.mpr z.2.2.2)) | exact cA_b agE hwo v92.1 v92.2 (by omega) (by omega) (by omega) e8A e9A dr dz | exact (fun z => by have q : h 8 (80 * x1 + 4 * x2) = -1 := z.2.1; omega) | exact (fun z => by have z1 : 0 ≤ x1 ∧ x1 ≤ 2 ∧ 0 < h 2 x1 := z.1.1; omega) | exact (fun z => by have q := zyV_n z.1 (k := p60_0) (by omega) (by omega) (by show p60_0 < h 2 x1; omega) fo_60_0 (by assumption); omega) | exact (fun z => by have q : h 9 x1 = zqCn (h 8) x1 20 := hwo.2.2.2.2 x1 (by omega) (by omega); have q2 := z.2.2.1; omega) | exact ⟨zqAg.rf, hwo⟩ | exact ⟨fun j _ _ => e89_60_0.1 j, WOk_ag (x := 7) agE hwo (fun j _ _ => e89_60_0.1 j) (fun u _ _ => e89_60_0.2 u)⟩ | assumption | omega) (by first | exact bfE | exact ⟨V9, (show h 8 (80 * x1 + 4 * x2) = -1 by omega), cz_60_0.2, la8.mp lf8⟩ | exact cA_w agE hwo st9 v92.1 v92.2 (by omega) (by omega) cz_60_0.2 (by omega) hf9 (la8.mp lf8) e8A e9A | exact (fun z => lf8 (la8.mpr z.2.2.2)) | exact cA_b agE hwo v92.1 v92.2 (by omega) (by omega) (by omega) e8A e9A dr dz | exact (fun z => by have q : h 8 (80 * x1 + 4 * x2) = -1 := z.2.1; omega) | exact (fun z => by have z1 : 0 ≤ x1 ∧ x1 ≤ 2 ∧ 0 < h 2 x1 := z.1.1; omega) | exact (fun z => by have q := zyV_n z.1 (k := p60_0) (by omega) (by omega) (by show p60_0 < h 2 x1; omega) fo_60_0 (by assumption); omega) | exact (fun z => by have q : h 9 x1 = zqCn (h 8) x1 20 := hwo.2.2.2.2 x1 (by omega) (by omega); have q2 := z.2.2.1; omega) | exact ⟨zqAg.rf, hwo⟩ | exact ⟨fun j _ _ => e89_60_0.1 j, WOk_ag (x := 7) agE hwo (fun j _ _ => e89_60_0.1 j) (fun u _ _ => e89_60_0.2 u)⟩ | assumption | omega))
            ·
              refine w_iconst gz_15_27 (by decide) ?_
              refine w_goto (t := 32) gz_15_28 rfl ?_
              refine w_bret gz_15_32 gm_15 (by omega) (by omega) ?_
              show wp l rho (d + 4) 14 130 [(2, 0), (0, x1), (0, x2), (0, x3), (0, x4), (0, x5), (0, p60_0)] [(0, 1)] h60_0 Q
              refine w_ifeq (t := 135) gz_14_130 rfl (fun u74 => by exfalso; omega) (fun u74 => ?_)
              refine w_iconst gz_14_133 (by decide) ?_
              have bfE : ∀ k j : Int, 0 ≤ k → k < 94 → (k < 7 ∨ 9 < k) → h60_0 k j = h k j := fun k j k0 k1 k2 => (bf_60_0 k j k0 k1 k2)
              have agE : my_ag F5 h h60_0 := (my_ag.fr (F := F5) gh_60_0 rfl)
              exact w_bret gz_14_134 gm_14 (by omega) (by omega) (k0 h60_0 (gh_60_0) (by first | exact bfE | exact ⟨V9, (show h 8 (80 * x1 + 4 * x2) = -1 by omega), cz_60_0.2, la8.mp lf8⟩ | exact cA_w agE hwo st9 v92.1 v92.2 (by omega) (by omega) cz_60_0.2 (by omega) hf9 (la8.mp lf8) e8A e9A | exact (fun z => lf8 (la8.mpr z.2.2.2)) | exact cA_b agE hwo v92.1 v92.2 (by omega) (by omega) (by omega) e8A e9A dr dz | exact (fun z => by have q : h 8 (80 * x1 + 4 * x2) = -1 := z.2.1; omega) | exact (fun z => by have z1 : 0 ≤ x1 ∧ x1 ≤ 2 ∧ 0 < h 2 x1 := z.1.1; omega) | exact (fun z => by have q := zyV_n z.1 (k := p60_0) (by omega) (by omega) (by show p60_0 < h 2 x1; omega) fo_60_0 (by assumption); omega) | exact (fun z => by have q : h 9 x1 = zqCn (h 8) x1 20 := hwo.2.2.2.2 x1 (by omega) (by omega); have q2 := z.2.2.1; omega) | exact ⟨zqAg.rf, hwo⟩ | exact ⟨fun j _ _ => e89_60_0.1 j, WOk_ag (x := 7) agE hwo (fun j _ _ => e89_60_0.1 j) (fun u _ _ => e89_60_0.2 u)⟩ | assumption | omega) (by first | exact bfE | exact ⟨V9, (show h 8 (80 * x1 + 4 * x2) = -1 by omega), cz_60_0.2, la8.mp lf8⟩ | exact cA_w agE hwo st9 v92.1 v92.2 (by omega) (by omega) cz_60_0.2 (by omega) hf9 (la8.mp lf8) e8A e9A | exact (fun z => lf8 (la8.mpr z.2.2.2)) | exact cA_b agE hwo v92.1 v92.2 (by omega) (by omega) (by omega) e8A e9A dr dz | exact (fun z => by have q : h 8 (80 * x1 + 4 * x2) = -1 := z.2.1; omega) | exact (fun z => by have z1 : 0 ≤ x1 ∧ x1 ≤ 2 ∧ 0 < h 2 x1 := z.1.1; omega) | exact (fun z => by have q := zyV_n z.1 (k := p60_0) (by omega) (by omega) (by show p60_0 < h 2 x1; omega) fo_60_0 (by assumption); omega) | exact (fun z => by have q : h 9 x1 = zqCn (h 8) x1 20 := hwo.2.2.2.2 x1 (by omega) (by omega); have q2 := z.2.2.1; omega) | exact ⟨zqAg.rf, hwo⟩ | exact ⟨fun j _ _ => e89_60_0.1 j, WOk_ag (x := 7) agE hwo (fun j _ _ => e89_60_0.1 j) (fun u _ _ => e89_60_0.2 u)⟩ | assumption | omega) (by first | exact bfE | exact ⟨V9, (show h 8 (80 * x1 + 4 * x2) = -1 by omega), cz_60_0.2, la8.mp lf8⟩ | exact cA_w agE hwo st9 v92.1 v92.2 (by omega) (by omega) cz_60_0.2 (by omega) hf9 (la8.mp lf8) e8A e9A | exact (fun z => lf8 (la8.mpr z.2.2.2)) | exact cA_b agE hwo v92.1 v92.2 (by omega) (by omega) (by omega) e8A e9A dr dz | exact (fun z => by have q : h 8 (80 * x1 + 4 * x2) = -1 := z.2.1; omega) | exact (fun z => by have z1 : 0 ≤ x1 ∧ x1 ≤ 2 ∧ 0 < h 2 x1 := z.1.1; omega) | exact (fun z => by have q := zyV_n z.1 (k := p60_0) (by omega) (by omega) (by show p60_0 < h 2 x1; omega) fo_60_0 (by assumption); omega) | exact (fun z => by have q : h 9 x1 = zqCn (h 8) x1 20 := hwo.2.2.2.2 x1 (by omega) (by omega); have q2 := z.2.2.1; omega) | exact ⟨zqAg.rf, hwo⟩ | exact ⟨fun j _ _ => e89_60_0.1 j, WOk_ag (x := 7) agE hwo (fun j _ _ => e89_60_0.1 j) (fun u _ _ => e89_60_0.2 u)⟩ | assumption | omega))
      ·
        refine w_iload gz_14_66 rfl ?_
        refine w_aload_n gz_14_68 rfl ?_
        refine w_getX (v := 1) gz_14_69 is_0 rd_9 rfl (by decide) rfl ?_
        refine w_getX (v := 2) gz_14_72 is_1 rd_3 rfl (by decide) rfl ?_
        refine w_iload_n gz_14_75 rfl ?_
        have c2e : h60_0 2 x1 = h 2 x1 := bf_60_0 2 x1 (by omega) (by omega) (by omega)
        refine w_iald gz_14_76 is_2 rd_25 (by omega) (by omega) (fun v77 ev77 pv77 qv77 => ?_)
        refine w_iclt (t := 91) gz_14_77 rfl (fun u78 => ?_) (fun u78 => ?_)
        ·
          refine w_aload_n gz_14_91 rfl ?_
          refine w_getX (v := 144) gz_14_92 is_0 rd_9 rfl (by decide) rfl ?_
          refine w_iload gz_14_95 rfl ?_
          refine w_iald gz_14_97 is_144 rd_24 (by omega) (by omega) (fun v80 ev80 pv80 qv80 => ?_)
          refine w_iflt (t := 113) gz_14_98 rfl (fun u81 => ?_) (fun u81 => ?_)
          ·
            refine w_iconst gz_14_113 (by decide) ?_
            have bfE : ∀ k j : Int, 0 ≤ k → k < 94 → (k < 7 ∨ 9 < k) → h60_0 k j = h k j := fun k j k0 k1 k2 => (bf_60_0 k j k0 k1 k2)
            have agE : my_ag F5 h h60_0 := (my_ag.fr (F := F5) gh_60_0 rfl)
            exact w_bret gz_14_114 gm_14 (by omega) (by omega) (k0 h60_0 (gh_60_0) (by first | exact bfE | exact ⟨V9, (show h 8 (80 * x1 + 4 * x2) = -1 by omega), cz_60_0.2, la8.mp lf8⟩ | exact cA_w agE hwo st9 v92.1 v92.2 (by omega) (by omega) cz_60_0.2 (by omega) hf9 (la8.mp lf8) e8A e9A | exact (fun z => lf8 (la8.mpr z.2.2.2)) | exact cA_b agE hwo v92.1 v92.2 (by omega) (by omega) (by omega) e8A e9A dr dz | exact (fun z => by have q : h 8 (80 * x1 + 4 * x2) = -1 := z.2.1; omega) | exact (fun z => by have z1 : 0 ≤ x1 ∧ x1 ≤ 2 ∧ 0 < h 2 x1 := z.1.1; omega) | exact (fun z => by have q := zyV_n z.1 (k := p60_0) (by omega) (by omega) (by show p60_0 < h 2 x1; omega) fo_60_0 (by assumption); omega) | exact (fun z => by have q : h 9 x1 = zqCn (h 8) x1 20 := hwo.2.2.2.2 x1 (by omega) (by omega); have q2 := z.2.2.1; omega) | exact ⟨zqAg.rf, hwo⟩ | exact ⟨fun j _ _ => e89_60_0.1 j, WOk_ag (x := 7) agE hwo (fun j _ _ => e89_60_0.1 j) (fun u _ _ => e89_60_0.2 u)⟩ | assumption | omega) (by first | exact bfE | exact ⟨V9, (show h 8 (80 * x1 + 4 * x2) = -1 by omega), cz_60_0.2, la8.mp lf8⟩ | exact cA_w agE hwo st9 v92.1 v92.2 (by omega) (by omega) cz_60_0.2 (by omega) hf9 (la8.mp lf8) e8A e9A | exact (fun z => lf8 (la8.mpr z.2.2.2)) | exact cA_b agE hwo v92.1 v92.2 (by omega) (by omega) (by omega) e8A e9A dr dz | exact (fun z => by have q : h 8 (80 * x1 + 4 * x2) = -1 := z.2.1; omega) | exact (fun z => by have z1 : 0 ≤ x1 ∧ x1 ≤ 2 ∧ 0 < h 2 x1 := z.1.1; omega) | exact (fun z => by have q := zyV_n z.1 (k := p60_0) (by omega) (by omega) (by show p60_0 < h 2 x1; omega) fo_60_0 (by assumption); omega) | exact (fun z => by have q : h 9 x1 = zqCn (h 8) x1 20 := hwo.2.2.2.2 x1 (by omega) (by omega); have q2 := z.2.2.1; omega) | exact ⟨zqAg.rf, hwo⟩ | exact ⟨fun j _ _ => e89_60_0.1 j, WOk_ag (x := 7) agE hwo (fun j _ _ => e89_60_0.1 j) (fun u _ _ => e89_60_0.2 u)⟩ | assumption | omega) (by first | exact bfE | exact ⟨V9, (show h 8 (80 * x1 + 4 * x2) = -1 by omega), cz_60_0.2, la8.mp lf8⟩ | exact cA_w agE hwo st9 v92.1 v92.2 (by omega) (by omega) cz_60_0.2 (by omega) hf9 (la8.mp lf8) e8A e9A | exact (fun z => lf8 (la8.mpr z.2.2.2)) | exact cA_b agE hwo v92.1 v92.2 (by omega) (by omega) (by omega) e8A e9A dr dz | exact (fun z => by have q : h 8 (80 * x1 + 4 * x2) = -1 := z.2.1; omega) | exact (fun z => by have z1 : 0 ≤ x1 ∧ x1 ≤ 2 ∧ 0 < h 2 x1 := z.1.1; omega) | exact (fun z => by have q := zyV_n z.1 (k := p60_0) (by omega) (by omega) (by show p60_0 < h 2 x1; omega) fo_60_0 (by assumption); omega) | exact (fun z => by have q : h 9 x1 = zqCn (h 8) x1 20 := hwo.2.2.2.2 x1 (by omega) (by omega); have q2 := z.2.2.1; omega) | exact ⟨zqAg.rf, hwo⟩ | exact ⟨fun j _ _ => e89_60_0.1 j, WOk_ag (x := 7) agE hwo (fun j _ _ => e89_60_0.1 j) (fun u _ _ => e89_60_0.2 u)⟩ | assumption | omega))
          ·
            refine w_aload_n gz_14_101 rfl ?_
            refine w_getX (v := 144) gz_14_102 is_0 rd_9 rfl (by decide) rfl ?_
            refine w_iload gz_14_105 rfl ?_
            refine w_iald gz_14_107 is_144 rd_24 (by omega) (by omega) (fun v83 ev83 pv83 qv83 => ?_)
            have zv83 := ev83.trans ev80.symm
            refine w_bipush gz_14_108 (by decide) ?_
            refine w_iclt (t := 115) gz_14_110 rfl (fun u84 => ?_) (fun u84 => ?_)
            ·
              refine w_iinc (ls' := [(2, 0), (0, x1), (0, x2), (0, x3), (0, x4), (0, x5), (0, (p60_0 + 1))]) gz_14_115 rfl gm_14 rfl rfl rfl ⟨by omega, by omega⟩ ?_
              refine w_goto (t := 60) gz_14_118 rfl ?_
              have c2 : ∀ j : Int, h60_0 2 j = h60_0 2 j := fun _ => rfl
              have c2x := c2 x1
              have bf9 : ∀ k j : Int, 0 ≤ k → k < 94 → (k < 7 ∨ 9 < k) → h60_0 k j = h k j := fun k j k0 k1 k2 => (bf_60_0 k j k0 k1 k2)
              have a8 : ∀ j : Int, h60_0 8 j = h60_0 8 j := fun _ => rfl
              have a9 : ∀ j : Int, h60_0 9 j = h60_0 9 j := fun _ => rfl
              exact ih_60_0 ((p60_0 + 1)) h60_0 (gh_60_0) (by omega) (by omega) (by omega) (by omega) (by first | (intro j a b; omega) | (intro j a b; rcases (by omega : j = p60_0 ∨ j < p60_0) with q | q <;> first | exact fr1_60_0 j a q | (rw [my_up_ne  (by omega)]; exact fr1_60_0 j a q) | (subst q; omega) | (subst q; rw [my_up_self ]; omega)) | omega) (by first | omega | (intro _; simp only [Int.add_zero, my_up]; simp) | grind | omega) (by first | omega | (have q := f1_60_0; have q2 := f0_60_0; omega) | grind | omega) (by first | assumption | omega | (subst_vars; omega) | omega) (by first | exact (fun j a b => absurd b (by omega)) | exact fr_s0 no_such_saying rfl (by omega) (by omega) cz_60_0.1 (by omega) fn_60_0 | exact fr_s1 (by omega) (by omega) (by omega) fn_60_0 fo_60_0 | assumption | omega) (by first | exact (fun j a b => fr_0 no_such_saying no_such_saying no_such_saying no_such_saying j a b) | exact (fun j a b => (my_up_ne no_such_saying (by omega)).trans (fo_60_0 j (by omega) b)) | exact (fun j a b => fo_60_0 j (by omega) b) | assumption | omega) (by first | exact (fun j a b => absurd b (by omega)) | exact (fun j a b c => fv_60_0 j a (by omega) c) | exact fv_s1 (by omega) (by omega) fo_60_0 (by omega) (by omega) (by omega) fv_60_0 | assumption | omega) (by first | exact e89_60_0 | exact ⟨fun j => (my_up_ne no_such_saying (by omega)).trans (e89_60_0.1 j), fun j => (my_up_ne no_such_saying (by omega)).trans (e89_60_0.2 j)⟩ | exact ⟨fun j => (my_up_ne no_such_saying (by omega)).trans ((my_up_ne no_such_saying (by omega)).trans ((my_up_ne no_such_saying (by omega)).trans (my_up_ne no_such_saying (by omega)))), fun j => (my_up_ne no_such_saying (by omega)).trans ((my_up_ne no_such_saying (by omega)).trans ((my_up_ne no_such_saying (by omega)).trans (my_up_ne no_such_saying (by omega))))⟩ | assumption | omega) (by first | exact cz_60_0 | exact ⟨by omega, by have q : h 9 x1 = zqCn (h 8) x1 20 := hwo.2.2.2.2 x1 (by omega) (by omega); omega⟩ | assumption | omega) (bf9) (by omega)
            ·
              refine w_iconst gz_14_113 (by decide) ?_
              have bfE : ∀ k j : Int, 0 ≤ k → k < 94 → (k < 7 ∨ 9 < k) → h60_0 k j = h k j := fun k j k0 k1 k2 => (bf_60_0 k j k0 k1 k2)
              have agE : my_ag F5 h h60_0 := (my_ag.fr (F := F5) gh_60_0 rfl)
              exact w_bret gz_14_114 gm_14 (by omega) (by omega) (k0 h60_0 (gh_60_0) (by first | exact bfE | exact ⟨V9, (show h 8 (80 * x1 + 4 * x2) = -1 by omega), cz_60_0.2, la8.mp lf8⟩ | exact cA_w agE hwo st9 v92.1 v92.2 (by omega) (by omega) cz_60_0.2 (by omega) hf9 (la8.mp lf8) e8A e9A | exact (fun z => lf8 (la8.mpr z.2.2.2)) | exact cA_b agE hwo v92.1 v92.2 (by omega) (by omega) (by omega) e8A e9A dr dz | exact (fun z => by have q : h 8 (80 * x1 + 4 * x2) = -1 := z.2.1; omega) | exact (fun z => by have z1 : 0 ≤ x1 ∧ x1 ≤ 2 ∧ 0 < h 2 x1 := z.1.1; omega) | exact (fun z => by have q := zyV_n z.1 (k := p60_0) (by omega) (by omega) (by show p60_0 < h 2 x1; omega) fo_60_0 (by assumption); omega) | exact (fun z => by have q : h 9 x1 = zqCn (h 8) x1 20 := hwo.2.2.2.2 x1 (by omega) (by omega); have q2 := z.2.2.1; omega) | exact ⟨zqAg.rf, hwo⟩ | exact ⟨fun j _ _ => e89_60_0.1 j, WOk_ag (x := 7) agE hwo (fun j _ _ => e89_60_0.1 j) (fun u _ _ => e89_60_0.2 u)⟩ | assumption | omega) (by first | exact bfE | exact ⟨V9, (show h 8 (80 * x1 + 4 * x2) = -1 by omega), cz_60_0.2, la8.mp lf8⟩ | exact cA_w agE hwo st9 v92.1 v92.2 (by omega) (by omega) cz_60_0.2 (by omega) hf9 (la8.mp lf8) e8A e9A | exact (fun z => lf8 (la8.mpr z.2.2.2)) | exact cA_b agE hwo v92.1 v92.2 (by omega) (by omega) (by omega) e8A e9A dr dz | exact (fun z => by have q : h 8 (80 * x1 + 4 * x2) = -1 := z.2.1; omega) | exact (fun z => by have z1 : 0 ≤ x1 ∧ x1 ≤ 2 ∧ 0 < h 2 x1 := z.1.1; omega) | exact (fun z => by have q := zyV_n z.1 (k := p60_0) (by omega) (by omega) (by show p60_0 < h 2 x1; omega) fo_60_0 (by assumption); omega) | exact (fun z => by have q : h 9 x1 = zqCn (h 8) x1 20 := hwo.2.2.2.2 x1 (by omega) (by omega); have q2 := z.2.2.1; omega) | exact ⟨zqAg.rf, hwo⟩ | exact ⟨fun j _ _ => e89_60_0.1 j, WOk_ag (x := 7) agE hwo (fun j _ _ => e89_60_0.1 j) (fun u _ _ => e89_60_0.2 u)⟩ | assumption | omega) (by first | exact bfE | exact ⟨V9, (show h 8 (80 * x1 + 4 * x2) = -1 by omega), cz_60_0.2, la8.mp lf8⟩ | exact cA_w agE hwo st9 v92.1 v92.2 (by omega) (by omega) cz_60_0.2 (by omega) hf9 (la8.mp lf8) e8A e9A | exact (fun z => lf8 (la8.mpr z.2.2.2)) | exact cA_b agE hwo v92.1 v92.2 (by omega) (by omega) (by omega) e8A e9A dr dz | exact (fun z => by have q : h 8 (80 * x1 + 4 * x2) = -1 := z.2.1; omega) | exact (fun z => by have z1 : 0 ≤ x1 ∧ x1 ≤ 2 ∧ 0 < h 2 x1 := z.1.1; omega) | exact (fun z => by have q := zyV_n z.1 (k := p60_0) (by omega) (by omega) (by show p60_0 < h 2 x1; omega) fo_60_0 (by assumption); omega) | exact (fun z => by have q : h 9 x1 = zqCn (h 8) x1 20 := hwo.2.2.2.2 x1 (by omega) (by omega); have q2 := z.2.2.1; omega) | exact ⟨zqAg.rf, hwo⟩ | exact ⟨fun j _ _ => e89_60_0.1 j, WOk_ag (x := 7) agE hwo (fun j _ _ => e89_60_0.1 j) (fun u _ _ => e89_60_0.2 u)⟩ | assumption | omega))
        ·
          refine w_aload_n gz_14_80 rfl ?_
          refine w_getX (v := 144) gz_14_81 is_0 rd_9 rfl (by decide) rfl ?_
          refine w_iload gz_14_84 rfl ?_
          refine w_iconst gz_14_86 (by decide) ?_
          refine w_iastA gz_14_87 is_144 rd_24 (by omega) (by omega) (fun h86 fh86 => ?_)
          have gh86 : my_fr [(24, -1), (30, -1), (31, -1)] h h86 := my_fr.up gh_60_0 is_144 fh86 rfl
          refine w_goto (t := 115) gz_14_88 rfl ?_
          refine w_iinc (ls' := [(2, 0), (0, x1), (0, x2), (0, x3), (0, x4), (0, x5), (0, (p60_0 + 1))]) gz_14_115 rfl gm_14 rfl rfl rfl ⟨by omega, by omega⟩ ?_
          refine w_goto (t := 60) gz_14_118 rfl ?_
          have c2 : ∀ j : Int, h86 2 j = h60_0 2 j := fun j => ((my_up_role fh86 is_2 is_144 rfl).trans (rfl : h60_0 2 j = h60_0 2 j))
          have c2x := c2 x1
          have bf9 : ∀ k j : Int, 0 ≤ k → k < 94 → (k < 7 ∨ 9 < k) → h86 k j = h k j := fun k j k0 k1 k2 => ((my_up_ne fh86 (by omega)).trans (bf_60_0 k j k0 k1 k2))
          have a8 : ∀ j : Int, h86 8 j = h60_0 8 j := fun j => ((my_up_role fh86 is_8 is_144 rfl).trans (rfl : h60_0 8 j = h60_0 8 j))
          have a9 : ∀ j : Int, h86 9 j = h60_0 9 j := fun j => ((my_up_role fh86 is_9 is_144 rfl).trans (rfl : h60_0 9 j = h60_0 9 j))
          exact ih_60_0 ((p60_0 + 1)) h86 (gh86) (by omega) (by omega) (by omega) (by omega) (by first | (intro j a b; omega) | (intro j a b; rcases (by omega : j = p60_0 ∨ j < p60_0) with q | q <;> first | exact fr1_60_0 j a q | (rw [my_up_ne fh86 (by omega)]; exact fr1_60_0 j a q) | (subst q; omega) | (subst q; rw [my_up_self fh86]; omega)) | omega) (by first | omega | (intro _; simp only [fh86, my_up]; simp) | grind | omega) (by first | omega | (have q := f1_60_0; have q2 := f0_60_0; omega) | grind | omega) (by first | assumption | omega | (subst_vars; omega) | omega) (by first | exact (fun j a b => absurd b (by omega)) | exact fr_s0 fh86 rfl (by omega) (by omega) cz_60_0.1 (by omega) fn_60_0 | exact fr_s1 (by omega) (by omega) (by omega) fn_60_0 fo_60_0 | assumption | omega) (by first | exact (fun j a b => fr_0 no_such_saying no_such_saying no_such_saying fh86 j a b) | exact (fun j a b => (my_up_ne fh86 (by omega)).trans (fo_60_0 j (by omega) b)) | exact (fun j a b => fo_60_0 j (by omega) b) | assumption | omega) (by first | exact (fun j a b => absurd b (by omega)) | exact (fun j a b c => fv_60_0 j a (by omega) c) | exact fv_s1 (by omega) (by omega) fo_60_0 (by omega) (by omega) (by omega) fv_60_0 | assumption | omega) (by first | exact e89_60_0 | exact ⟨fun j => (my_up_ne fh86 (by omega)).trans (e89_60_0.1 j), fun j => (my_up_ne fh86 (by omega)).trans (e89_60_0.2 j)⟩ | exact ⟨fun j => (my_up_ne fh86 (by omega)).trans ((my_up_ne no_such_saying (by omega)).trans ((my_up_ne no_such_saying (by omega)).trans (my_up_ne no_such_saying (by omega)))), fun j => (my_up_ne fh86 (by omega)).trans ((my_up_ne no_such_saying (by omega)).trans ((my_up_ne no_such_saying (by omega)).trans (my_up_ne no_such_saying (by omega))))⟩ | assumption | omega) (by first | exact cz_60_0 | exact ⟨by omega, by have q : h 9 x1 = zqCn (h 8) x1 20 := hwo.2.2.2.2 x1 (by omega) (by omega); omega⟩ | assumption | omega) (bf9) (by omega)
  refine w_aload_n gz_14_0 rfl ?_
  refine w_getX (v := 1) gz_14_1 is_0 rd_9 rfl (by decide) rfl ?_
  refine w_iload_n gz_14_4 rfl ?_
  refine w_inv (k := 0) (as := [(0, x1)]) (r := []) (x := 1) (ls0 := [(2, 1), (0, x1)]) gz_14_5 gm_13 rfl is_1 rd_3 rfl rfl rfl rfl rfl ?_
  refine w_iload_n gz_13_0 rfl ?_
  refine w_iflt (t := 22) gz_13_1 rfl (fun u88 => ?_) (fun u88 => ?_)
  ·
    refine w_iconst gz_13_22 (by decide) ?_
    refine w_bret gz_13_23 gm_13 (by omega) (by omega) ?_
    show wp l rho (d + 4) 14 8 [(2, 0), (0, x1), (0, x2), (0, x3), (0, x4), (0, x5), (9, 0)] [(0, 0)] h Q
    refine w_ifeq (t := 25) gz_14_8 rfl (fun u89 => ?_) (fun u89 => by exfalso; omega)
    refine w_iconst gz_14_25 (by decide) ?_
    have bfE : ∀ k j : Int, 0 ≤ k → k < 94 → (k < 7 ∨ 9 < k) → h k j = h k j := fun k j k0 k1 k2 => rfl
    have agE : my_ag F5 h h := fun _ _ _ => rfl
    exact w_bret gz_14_26 gm_14 (by omega) (by omega) (k0 h (my_fr.rf) (by first | exact bfE | exact ⟨V9, (show h 8 (80 * x1 + 4 * x2) = -1 by omega), cz_60_0.2, la8.mp lf8⟩ | exact cA_w agE hwo st9 v92.1 v92.2 (by omega) (by omega) cz_60_0.2 (by omega) hf9 (la8.mp lf8) e8A e9A | exact (fun z => lf8 (la8.mpr z.2.2.2)) | exact cA_b agE hwo v92.1 v92.2 (by omega) (by omega) (by omega) e8A e9A dr dz | exact (fun z => by have q : h 8 (80 * x1 + 4 * x2) = -1 := z.2.1; omega) | exact (fun z => by have z1 : 0 ≤ x1 ∧ x1 ≤ 2 ∧ 0 < h 2 x1 := z.1.1; omega) | exact (fun z => by have q := zyV_n z.1 (k := 0) (by omega) (by omega) (by show 0 < h 2 x1; omega) fo_60_0 (by assumption); omega) | exact (fun z => by have q : h 9 x1 = zqCn (h 8) x1 20 := hwo.2.2.2.2 x1 (by omega) (by omega); have q2 := z.2.2.1; omega) | exact ⟨zqAg.rf, hwo⟩ | exact ⟨fun j _ _ => e89_60_0.1 j, WOk_ag (x := 7) agE hwo (fun j _ _ => e89_60_0.1 j) (fun u _ _ => e89_60_0.2 u)⟩ | assumption | omega) (by first | exact bfE | exact ⟨V9, (show h 8 (80 * x1 + 4 * x2) = -1 by omega), cz_60_0.2, la8.mp lf8⟩ | exact cA_w agE hwo st9 v92.1 v92.2 (by omega) (by omega) cz_60_0.2 (by omega) hf9 (la8.mp lf8) e8A e9A | exact (fun z => lf8 (la8.mpr z.2.2.2)) | exact cA_b agE hwo v92.1 v92.2 (by omega) (by omega) (by omega) e8A e9A dr dz | exact (fun z => by have q : h 8 (80 * x1 + 4 * x2) = -1 := z.2.1; omega) | exact (fun z => by have z1 : 0 ≤ x1 ∧ x1 ≤ 2 ∧ 0 < h 2 x1 := z.1.1; omega) | exact (fun z => by have q := zyV_n z.1 (k := 0) (by omega) (by omega) (by show 0 < h 2 x1; omega) fo_60_0 (by assumption); omega) | exact (fun z => by have q : h 9 x1 = zqCn (h 8) x1 20 := hwo.2.2.2.2 x1 (by omega) (by omega); have q2 := z.2.2.1; omega) | exact ⟨zqAg.rf, hwo⟩ | exact ⟨fun j _ _ => e89_60_0.1 j, WOk_ag (x := 7) agE hwo (fun j _ _ => e89_60_0.1 j) (fun u _ _ => e89_60_0.2 u)⟩ | assumption | omega) (by first | exact bfE | exact ⟨V9, (show h 8 (80 * x1 + 4 * x2) = -1 by omega), cz_60_0.2, la8.mp lf8⟩ | exact cA_w agE hwo st9 v92.1 v92.2 (by omega) (by omega) cz_60_0.2 (by omega) hf9 (la8.mp lf8) e8A e9A | exact (fun z => lf8 (la8.mpr z.2.2.2)) | exact cA_b agE hwo v92.1 v92.2 (by omega) (by omega) (by omega) e8A e9A dr dz | exact (fun z => by have q : h 8 (80 * x1 + 4 * x2) = -1 := z.2.1; omega) | exact (fun z => by have z1 : 0 ≤ x1 ∧ x1 ≤ 2 ∧ 0 < h 2 x1 := z.1.1; omega) | exact (fun z => by have q := zyV_n z.1 (k := 0) (by omega) (by omega) (by show 0 < h 2 x1; omega) fo_60_0 (by assumption); omega) | exact (fun z => by have q : h 9 x1 = zqCn (h 8) x1 20 := hwo.2.2.2.2 x1 (by omega) (by omega); have q2 := z.2.2.1; omega) | exact ⟨zqAg.rf, hwo⟩ | exact ⟨fun j _ _ => e89_60_0.1 j, WOk_ag (x := 7) agE hwo (fun j _ _ => e89_60_0.1 j) (fun u _ _ => e89_60_0.2 u)⟩ | assumption | omega))
  ·
    refine w_iload_n gz_13_4 rfl ?_
    refine w_iconst gz_13_5 (by decide) ?_
    refine w_icge (t := 22) gz_13_6 rfl (fun u90 => ?_) (fun u90 => ?_)
    ·
      refine w_iconst gz_13_22 (by decide) ?_
      refine w_bret gz_13_23 gm_13 (by omega) (by omega) ?_
      show wp l rho (d + 4) 14 8 [(2, 0), (0, x1), (0, x2), (0, x3), (0, x4), (0, x5), (9, 0)] [(0, 0)] h Q
      refine w_ifeq (t := 25) gz_14_8 rfl (fun u91 => ?_) (fun u91 => by exfalso; omega)
      refine w_iconst gz_14_25 (by decide) ?_
      have bfE : ∀ k j : Int, 0 ≤ k → k < 94 → (k < 7 ∨ 9 < k) → h k j = h k j := fun k j k0 k1 k2 => rfl
      have agE : my_ag F5 h h := fun _ _ _ => rfl
      exact w_bret gz_14_26 gm_14 (by omega) (by omega) (k0 h (my_fr.rf) (by first | exact bfE | exact ⟨V9, (show h 8 (80 * x1 + 4 * x2) = -1 by omega), cz_60_0.2, la8.mp lf8⟩ | exact cA_w agE hwo st9 v92.1 v92.2 (by omega) (by omega) cz_60_0.2 (by omega) hf9 (la8.mp lf8) e8A e9A | exact (fun z => lf8 (la8.mpr z.2.2.2)) | exact cA_b agE hwo v92.1 v92.2 (by omega) (by omega) (by omega) e8A e9A dr dz | exact (fun z => by have q : h 8 (80 * x1 + 4 * x2) = -1 := z.2.1; omega) | exact (fun z => by have z1 : 0 ≤ x1 ∧ x1 ≤ 2 ∧ 0 < h 2 x1 := z.1.1; omega) | exact (fun z => by have q := zyV_n z.1 (k := 0) (by omega) (by omega) (by show 0 < h 2 x1; omega) fo_60_0 (by assumption); omega) | exact (fun z => by have q : h 9 x1 = zqCn (h 8) x1 20 := hwo.2.2.2.2 x1 (by omega) (by omega); have q2 := z.2.2.1; omega) | exact ⟨zqAg.rf, hwo⟩ | exact ⟨fun j _ _ => e89_60_0.1 j, WOk_ag (x := 7) agE hwo (fun j _ _ => e89_60_0.1 j) (fun u _ _ => e89_60_0.2 u)⟩ | assumption | omega) (by first | exact bfE | exact ⟨V9, (show h 8 (80 * x1 + 4 * x2) = -1 by omega), cz_60_0.2, la8.mp lf8⟩ | exact cA_w agE hwo st9 v92.1 v92.2 (by omega) (by omega) cz_60_0.2 (by omega) hf9 (la8.mp lf8) e8A e9A | exact (fun z => lf8 (la8.mpr z.2.2.2)) | exact cA_b agE hwo v92.1 v92.2 (by omega) (by omega) (by omega) e8A e9A dr dz | exact (fun z => by have q : h 8 (80 * x1 + 4 * x2) = -1 := z.2.1; omega) | exact (fun z => by have z1 : 0 ≤ x1 ∧ x1 ≤ 2 ∧ 0 < h 2 x1 := z.1.1; omega) | exact (fun z => by have q := zyV_n z.1 (k := 0) (by omega) (by omega) (by show 0 < h 2 x1; omega) fo_60_0 (by assumption); omega) | exact (fun z => by have q : h 9 x1 = zqCn (h 8) x1 20 := hwo.2.2.2.2 x1 (by omega) (by omega); have q2 := z.2.2.1; omega) | exact ⟨zqAg.rf, hwo⟩ | exact ⟨fun j _ _ => e89_60_0.1 j, WOk_ag (x := 7) agE hwo (fun j _ _ => e89_60_0.1 j) (fun u _ _ => e89_60_0.2 u)⟩ | assumption | omega) (by first | exact bfE | exact ⟨V9, (show h 8 (80 * x1 + 4 * x2) = -1 by omega), cz_60_0.2, la8.mp lf8⟩ | exact cA_w agE hwo st9 v92.1 v92.2 (by omega) (by omega) cz_60_0.2 (by omega) hf9 (la8.mp lf8) e8A e9A | exact (fun z => lf8 (la8.mpr z.2.2.2)) | exact cA_b agE hwo v92.1 v92.2 (by omega) (by omega) (by omega) e8A e9A dr dz | exact (fun z => by have q : h 8 (80 * x1 + 4 * x2) = -1 := z.2.1; omega) | exact (fun z => by have z1 : 0 ≤ x1 ∧ x1 ≤ 2 ∧ 0 < h 2 x1 := z.1.1; omega) | exact (fun z => by have q := zyV_n z.1 (k := 0) (by omega) (by omega) (by show 0 < h 2 x1; omega) fo_60_0 (by assumption); omega) | exact (fun z => by have q : h 9 x1 = zqCn (h 8) x1 20 := hwo.2.2.2.2 x1 (by omega) (by omega); have q2 := z.2.2.1; omega) | exact ⟨zqAg.rf, hwo⟩ | exact ⟨fun j _ _ => e89_60_0.1 j, WOk_ag (x := 7) agE hwo (fun j _ _ => e89_60_0.1 j) (fun u _ _ => e89_60_0.2 u)⟩ | assumption | omega))
    ·
      refine w_aload_n gz_13_9 rfl ?_
      refine w_getX (v := 2) gz_13_10 is_1 rd_3 rfl (by decide) rfl ?_
      refine w_iload_n gz_13_13 rfl ?_
      refine w_iald gz_13_14 is_2 rd_25 (by omega) (by omega) (fun v93 ev93 pv93 qv93 => ?_)
      refine w_ifle (t := 22) gz_13_15 rfl (fun u94 => ?_) (fun u94 => ?_)
      ·
        refine w_iconst gz_13_22 (by decide) ?_
        refine w_bret gz_13_23 gm_13 (by omega) (by omega) ?_
        show wp l rho (d + 4) 14 8 [(2, 0), (0, x1), (0, x2), (0, x3), (0, x4), (0, x5), (9, 0)] [(0, 0)] h Q
        refine w_ifeq (t := 25) gz_14_8 rfl (fun u95 => ?_) (fun u95 => by exfalso; omega)
        refine w_iconst gz_14_25 (by decide) ?_
        have bfE : ∀ k j : Int, 0 ≤ k → k < 94 → (k < 7 ∨ 9 < k) → h k j = h k j := fun k j k0 k1 k2 => rfl
        have agE : my_ag F5 h h := fun _ _ _ => rfl
        exact w_bret gz_14_26 gm_14 (by omega) (by omega) (k0 h (my_fr.rf) (by first | exact bfE | exact ⟨V9, (show h 8 (80 * x1 + 4 * x2) = -1 by omega), cz_60_0.2, la8.mp lf8⟩ | exact cA_w agE hwo st9 v92.1 v92.2 (by omega) (by omega) cz_60_0.2 (by omega) hf9 (la8.mp lf8) e8A e9A | exact (fun z => lf8 (la8.mpr z.2.2.2)) | exact cA_b agE hwo v92.1 v92.2 (by omega) (by omega) (by omega) e8A e9A dr dz | exact (fun z => by have q : h 8 (80 * x1 + 4 * x2) = -1 := z.2.1; omega) | exact (fun z => by have z1 : 0 ≤ x1 ∧ x1 ≤ 2 ∧ 0 < h 2 x1 := z.1.1; omega) | exact (fun z => by have q := zyV_n z.1 (k := 0) (by omega) (by omega) (by show 0 < h 2 x1; omega) fo_60_0 (by assumption); omega) | exact (fun z => by have q : h 9 x1 = zqCn (h 8) x1 20 := hwo.2.2.2.2 x1 (by omega) (by omega); have q2 := z.2.2.1; omega) | exact ⟨zqAg.rf, hwo⟩ | exact ⟨fun j _ _ => e89_60_0.1 j, WOk_ag (x := 7) agE hwo (fun j _ _ => e89_60_0.1 j) (fun u _ _ => e89_60_0.2 u)⟩ | assumption | omega) (by first | exact bfE | exact ⟨V9, (show h 8 (80 * x1 + 4 * x2) = -1 by omega), cz_60_0.2, la8.mp lf8⟩ | exact cA_w agE hwo st9 v92.1 v92.2 (by omega) (by omega) cz_60_0.2 (by omega) hf9 (la8.mp lf8) e8A e9A | exact (fun z => lf8 (la8.mpr z.2.2.2)) | exact cA_b agE hwo v92.1 v92.2 (by omega) (by omega) (by omega) e8A e9A dr dz | exact (fun z => by have q : h 8 (80 * x1 + 4 * x2) = -1 := z.2.1; omega) | exact (fun z => by have z1 : 0 ≤ x1 ∧ x1 ≤ 2 ∧ 0 < h 2 x1 := z.1.1; omega) | exact (fun z => by have q := zyV_n z.1 (k := 0) (by omega) (by omega) (by show 0 < h 2 x1; omega) fo_60_0 (by assumption); omega) | exact (fun z => by have q : h 9 x1 = zqCn (h 8) x1 20 := hwo.2.2.2.2 x1 (by omega) (by omega); have q2 := z.2.2.1; omega) | exact ⟨zqAg.rf, hwo⟩ | exact ⟨fun j _ _ => e89_60_0.1 j, WOk_ag (x := 7) agE hwo (fun j _ _ => e89_60_0.1 j) (fun u _ _ => e89_60_0.2 u)⟩ | assumption | omega) (by first | exact bfE | exact ⟨V9, (show h 8 (80 * x1 + 4 * x2) = -1 by omega), cz_60_0.2, la8.mp lf8⟩ | exact cA_w agE hwo st9 v92.1 v92.2 (by omega) (by omega) cz_60_0.2 (by omega) hf9 (la8.mp lf8) e8A e9A | exact (fun z => lf8 (la8.mpr z.2.2.2)) | exact cA_b agE hwo v92.1 v92.2 (by omega) (by omega) (by omega) e8A e9A dr dz | exact (fun z => by have q : h 8 (80 * x1 + 4 * x2) = -1 := z.2.1; omega) | exact (fun z => by have z1 : 0 ≤ x1 ∧ x1 ≤ 2 ∧ 0 < h 2 x1 := z.1.1; omega) | exact (fun z => by have q := zyV_n z.1 (k := 0) (by omega) (by omega) (by show 0 < h 2 x1; omega) fo_60_0 (by assumption); omega) | exact (fun z => by have q : h 9 x1 = zqCn (h 8) x1 20 := hwo.2.2.2.2 x1 (by omega) (by omega); have q2 := z.2.2.1; omega) | exact ⟨zqAg.rf, hwo⟩ | exact ⟨fun j _ _ => e89_60_0.1 j, WOk_ag (x := 7) agE hwo (fun j _ _ => e89_60_0.1 j) (fun u _ _ => e89_60_0.2 u)⟩ | assumption | omega))
      ·
        refine w_iconst gz_13_18 (by decide) ?_
        refine w_goto (t := 23) gz_13_19 rfl ?_
        refine w_bret gz_13_23 gm_13 (by omega) (by omega) ?_
        show wp l rho (d + 4) 14 8 [(2, 0), (0, x1), (0, x2), (0, x3), (0, x4), (0, x5), (9, 0)] [(0, 1)] h Q
        refine w_ifeq (t := 25) gz_14_8 rfl (fun u96 => by exfalso; omega) (fun u96 => ?_)
        refine w_aload_n gz_14_11 rfl ?_
        refine w_getX (v := 7) gz_14_12 is_0 rd_9 rfl (by decide) rfl ?_
        refine w_getX (v := 9) gz_14_15 is_7 rd_6 rfl (by decide) rfl ?_
        refine w_iload_n gz_14_18 rfl ?_
        refine w_iald gz_14_19 is_9 rd_31 (by omega) (by omega) (fun v99 ev99 pv99 qv99 => ?_)
        refine w_bipush gz_14_20 (by decide) ?_
        refine w_iclt (t := 27) gz_14_22 rfl (fun u100 => ?_) (fun u100 => ?_)
        ·
          refine w_aload_n gz_14_27 rfl ?_
          refine w_getX (v := 144) gz_14_28 is_0 rd_9 rfl (by decide) rfl ?_
          refine w_iconst gz_14_31 (by decide) ?_
          refine w_iload_n gz_14_32 rfl ?_
          refine w_iastA gz_14_33 is_144 rd_24 (by omega) (by omega) (fun h102 fh102 => ?_)
          have gh102 : my_fr [(24, -1), (30, -1), (31, -1)] h h102 := my_fr.up my_fr.rf is_144 fh102 rfl
          refine w_aload_n gz_14_34 rfl ?_
          refine w_getX (v := 144) gz_14_35 is_0 rd_9 rfl (by decide) rfl ?_
          refine w_iconst gz_14_38 (by decide) ?_
          refine w_iload_n gz_14_39 rfl ?_
          refine w_iastA gz_14_40 is_144 rd_24 (by omega) (by omega) (fun h104 fh104 => ?_)
          have gh104 : my_fr [(24, -1), (30, -1), (31, -1)] h h104 := my_fr.up gh102 is_144 fh104 rfl
          refine w_aload_n gz_14_41 rfl ?_
          refine w_getX (v := 144) gz_14_42 is_0 rd_9 rfl (by decide) rfl ?_
          refine w_iconst gz_14_45 (by decide) ?_
          refine w_iload gz_14_46 rfl ?_
          refine w_iastA gz_14_48 is_144 rd_24 (by omega) (by omega) (fun h106 fh106 => ?_)
          have gh106 : my_fr [(24, -1), (30, -1), (31, -1)] h h106 := my_fr.up gh104 is_144 fh106 rfl
          refine w_aload_n gz_14_49 rfl ?_
          refine w_getX (v := 144) gz_14_50 is_0 rd_9 rfl (by decide) rfl ?_
          refine w_iconst gz_14_53 (by decide) ?_
          refine w_iload gz_14_54 rfl ?_
          refine w_iastA gz_14_56 is_144 rd_24 (by omega) (by omega) (fun h108 fh108 => ?_)
          have gh108 : my_fr [(24, -1), (30, -1), (31, -1)] h h108 := my_fr.up gh106 is_144 fh108 rfl
          refine w_iconst gz_14_57 (by decide) ?_
          refine w_istore (ls' := [(2, 0), (0, x1), (0, x2), (0, x3), (0, x4), (0, x5), (0, 0)]) gz_14_58 gm_14 rfl rfl rfl ?_
          have c2 : ∀ j : Int, h108 2 j = h 2 j := fun j => ((my_up_role fh108 is_2 is_144 rfl).trans ((my_up_role fh106 is_2 is_144 rfl).trans ((my_up_role fh104 is_2 is_144 rfl).trans ((my_up_role fh102 is_2 is_144 rfl).trans (rfl : h 2 j = h 2 j)))))
          have c2x := c2 x1
          have bf9 : ∀ k j : Int, 0 ≤ k → k < 94 → (k < 7 ∨ 9 < k) → h108 k j = h k j := fun k j k0 k1 k2 => ((my_up_ne fh108 (by omega)).trans ((my_up_ne fh106 (by omega)).trans ((my_up_ne fh104 (by omega)).trans (my_up_ne fh102 (by omega)))))
          have a8 : ∀ j : Int, h108 8 j = h 8 j := fun j => ((my_up_role fh108 is_8 is_144 rfl).trans ((my_up_role fh106 is_8 is_144 rfl).trans ((my_up_role fh104 is_8 is_144 rfl).trans ((my_up_role fh102 is_8 is_144 rfl).trans (rfl : h 8 j = h 8 j)))))
          have a9 : ∀ j : Int, h108 9 j = h 9 j := fun j => ((my_up_role fh108 is_9 is_144 rfl).trans ((my_up_role fh106 is_9 is_144 rfl).trans ((my_up_role fh104 is_9 is_144 rfl).trans ((my_up_role fh102 is_9 is_144 rfl).trans (rfl : h 9 j = h 9 j)))))
          exact J60_0 5 (0) h108 (gh108) (by omega) (by omega) (by omega) (by omega) (by first | (intro j a b; omega) | (intro j a b; rcases (by omega : j = p60_0 ∨ j < p60_0) with q | q <;> first | exact fr1_60_0 j a q | (rw [my_up_ne fh108 (by omega)]; exact fr1_60_0 j a q) | (subst q; omega) | (subst q; rw [my_up_self fh108]; omega)) | omega) (by first | omega | (intro _; simp only [fh108, fh106, fh104, fh102, my_up]; simp) | grind | omega) (by first | omega | (have q := f1_60_0; have q2 := f0_60_0; omega) | grind | omega) (by first | assumption | omega | (subst_vars; omega) | omega) (by first | exact (fun j a b => absurd b (by omega)) | exact fr_s0 fh108 rfl (by omega) (by omega) cz_60_0.1 (by omega) fn_60_0 | exact fr_s1 (by omega) (by omega) (by omega) fn_60_0 fo_60_0 | assumption | omega) (by first | exact (fun j a b => fr_0 fh102 fh104 fh106 fh108 j a b) | exact (fun j a b => (my_up_ne fh108 (by omega)).trans (fo_60_0 j (by omega) b)) | exact (fun j a b => fo_60_0 j (by omega) b) | assumption | omega) (by first | exact (fun j a b => absurd b (by omega)) | exact (fun j a b c => fv_60_0 j a (by omega) c) | exact fv_s1 (by omega) (by omega) fo_60_0 (by omega) (by omega) (by omega) fv_60_0 | assumption | omega) (by first | exact e89_60_0 | exact ⟨fun j => (my_up_ne fh108 (by omega)).trans (e89_60_0.1 j), fun j => (my_up_ne fh108 (by omega)).trans (e89_60_0.2 j)⟩ | exact ⟨fun j => (my_up_ne fh108 (by omega)).trans ((my_up_ne fh106 (by omega)).trans ((my_up_ne fh104 (by omega)).trans (my_up_ne fh102 (by omega)))), fun j => (my_up_ne fh108 (by omega)).trans ((my_up_ne fh106 (by omega)).trans ((my_up_ne fh104 (by omega)).trans (my_up_ne fh102 (by omega))))⟩ | assumption | omega) (by first | exact cz_60_0 | exact ⟨by omega, by have q : h 9 x1 = zqCn (h 8) x1 20 := hwo.2.2.2.2 x1 (by omega) (by omega); omega⟩ | assumption | omega) (bf9) (by omega)
        ·
          refine w_iconst gz_14_25 (by decide) ?_
          have bfE : ∀ k j : Int, 0 ≤ k → k < 94 → (k < 7 ∨ 9 < k) → h k j = h k j := fun k j k0 k1 k2 => rfl
          have agE : my_ag F5 h h := fun _ _ _ => rfl
          exact w_bret gz_14_26 gm_14 (by omega) (by omega) (k0 h (my_fr.rf) (by first | exact bfE | exact ⟨V9, (show h 8 (80 * x1 + 4 * x2) = -1 by omega), cz_60_0.2, la8.mp lf8⟩ | exact cA_w agE hwo st9 v92.1 v92.2 (by omega) (by omega) cz_60_0.2 (by omega) hf9 (la8.mp lf8) e8A e9A | exact (fun z => lf8 (la8.mpr z.2.2.2)) | exact cA_b agE hwo v92.1 v92.2 (by omega) (by omega) (by omega) e8A e9A dr dz | exact (fun z => by have q : h 8 (80 * x1 + 4 * x2) = -1 := z.2.1; omega) | exact (fun z => by have z1 : 0 ≤ x1 ∧ x1 ≤ 2 ∧ 0 < h 2 x1 := z.1.1; omega) | exact (fun z => by have q := zyV_n z.1 (k := 0) (by omega) (by omega) (by show 0 < h 2 x1; omega) fo_60_0 (by assumption); omega) | exact (fun z => by have q : h 9 x1 = zqCn (h 8) x1 20 := hwo.2.2.2.2 x1 (by omega) (by omega); have q2 := z.2.2.1; omega) | exact ⟨zqAg.rf, hwo⟩ | exact ⟨fun j _ _ => e89_60_0.1 j, WOk_ag (x := 7) agE hwo (fun j _ _ => e89_60_0.1 j) (fun u _ _ => e89_60_0.2 u)⟩ | assumption | omega) (by first | exact bfE | exact ⟨V9, (show h 8 (80 * x1 + 4 * x2) = -1 by omega), cz_60_0.2, la8.mp lf8⟩ | exact cA_w agE hwo st9 v92.1 v92.2 (by omega) (by omega) cz_60_0.2 (by omega) hf9 (la8.mp lf8) e8A e9A | exact (fun z => lf8 (la8.mpr z.2.2.2)) | exact cA_b agE hwo v92.1 v92.2 (by omega) (by omega) (by omega) e8A e9A dr dz | exact (fun z => by have q : h 8 (80 * x1 + 4 * x2) = -1 := z.2.1; omega) | exact (fun z => by have z1 : 0 ≤ x1 ∧ x1 ≤ 2 ∧ 0 < h 2 x1 := z.1.1; omega) | exact (fun z => by have q := zyV_n z.1 (k := 0) (by omega) (by omega) (by show 0 < h 2 x1; omega) fo_60_0 (by assumption); omega) | exact (fun z => by have q : h 9 x1 = zqCn (h 8) x1 20 := hwo.2.2.2.2 x1 (by omega) (by omega); have q2 := z.2.2.1; omega) | exact ⟨zqAg.rf, hwo⟩ | exact ⟨fun j _ _ => e89_60_0.1 j, WOk_ag (x := 7) agE hwo (fun j _ _ => e89_60_0.1 j) (fun u _ _ => e89_60_0.2 u)⟩ | assumption | omega) (by first | exact bfE | exact ⟨V9, (show h 8 (80 * x1 + 4 * x2) = -1 by omega), cz_60_0.2, la8.mp lf8⟩ | exact cA_w agE hwo st9 v92.1 v92.2 (by omega) (by omega) cz_60_0.2 (by omega) hf9 (la8.mp lf8) e8A e9A | exact (fun z => lf8 (la8.mpr z.2.2.2)) | exact cA_b agE hwo v92.1 v92.2 (by omega) (by omega) (by omega) e8A e9A dr dz | exact (fun z => by have q : h 8 (80 * x1 + 4 * x2) = -1 := z.2.1; omega) | exact (fun z => by have z1 : 0 ≤ x1 ∧ x1 ≤ 2 ∧ 0 < h 2 x1 := z.1.1; omega) | exact (fun z => by have q := zyV_n z.1 (k := 0) (by omega) (by omega) (by show 0 < h 2 x1; omega) fo_60_0 (by assumption); omega) | exact (fun z => by have q : h 9 x1 = zqCn (h 8) x1 20 := hwo.2.2.2.2 x1 (by omega) (by omega); have q2 := z.2.2.1; omega) | exact ⟨zqAg.rf, hwo⟩ | exact ⟨fun j _ _ => e89_60_0.1 j, WOk_ag (x := 7) agE hwo (fun j _ _ => e89_60_0.1 j) (fun u _ _ => e89_60_0.2 u)⟩ | assumption | omega))
end MYNThroughWindow_row5
