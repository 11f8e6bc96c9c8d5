/-! contracts, printed by wip/gen/gy.py -/
section MYNModel_window9
set_option maxHeartbeats 4000000 in
theorem c_Model_window9 {l : Launch} {rho : Nat → Int32} {d : Nat} {h : my_H} {Q : my_H → my_V → Prop} {x1 : Int} (n_Mw : Mw h) (n_Mw3 : Mw3 h) (n_Wrd : Wrd h) (n_Wd9 : Wd9 h) (k0 : ∀ (h' : my_H), my_fr [(10, 0), (10, 2), (10, 3), (10, 7), (10, 8), (10, 27), (10, 32), (10, 33), (52, -1), (53, -1), (54, -1), (63, -1), (64, -1), (65, -1), (66, -1), (67, -1), (68, -1), (69, -1), (70, -1), (71, -1), (72, -1), (73, -1), (74, -1), (75, -1), (76, -1), (77, -1), (78, -1), (79, -1)] h h' → h' 151 0 = 0 → h' 151 2 = 0 → (((x1 < 0 ∨ 5 < x1) ∨ ∃ k : Int, 0 ≤ k ∧ k ≤ 5 ∧ h 164 k = 1 ∧ h 165 k = 0 ∧ h 166 k = x1)) → Ko h h' → (∀ k : Int, 0 ≤ k → k ≤ 6 → 0 ≤ h 167 k ∧ h 167 k ≤ 6) → Mw h' → Mw3 h' → Wrd h' → Wd9 h' → Q h' (0, (-1))) (k1 : ∀ (h' : my_H) (y : Int), my_fr [(10, 0), (10, 2), (10, 3), (10, 7), (10, 8), (10, 27), (10, 32), (10, 33), (52, -1), (53, -1), (54, -1), (63, -1), (64, -1), (65, -1), (66, -1), (67, -1), (68, -1), (69, -1), (70, -1), (71, -1), (72, -1), (73, -1), (74, -1), (75, -1), (76, -1), (77, -1), (78, -1), (79, -1)] h h' → 1 ≤ y → y ≤ 16005 → 0 ≤ x1 → x1 ≤ 5 → h' 151 0 = 0 → h' 151 2 = 0 → 1 ≤ h' 151 8 → h' 151 8 ≤ 16005 → (∀ k : Int, 0 ≤ k → k ≤ 5 → h 164 k = 1 → h 165 k = 0 → h 166 k ≠ x1) → (∃ n : Int, n ≤ 1000 ∧ Mt ((h 152, h 151 2) : (Int → Int) × Int) h' n ∧ rmF h h' x1 y) → Ko h h' → (∀ k : Int, 0 ≤ k → k ≤ 6 → 0 ≤ h 167 k ∧ h 167 k ≤ 6) → Mw h' → Mw3 h' → Wrd h' → Wd9 h' → Q h' (0, y)) (k2 : ∀ (h' : my_H), my_fr [(10, 0), (10, 2), (10, 3), (10, 7), (10, 8), (10, 27), (10, 32), (10, 33), (52, -1), (53, -1), (54, -1), (63, -1), (64, -1), (65, -1), (66, -1), (67, -1), (68, -1), (69, -1), (70, -1), (71, -1), (72, -1), (73, -1), (74, -1), (75, -1), (76, -1), (77, -1), (78, -1), (79, -1)] h h' → 0 ≤ x1 → x1 ≤ 5 → h' 151 0 = 0 → h' 151 2 = 0 → h' 151 8 = 0 → (∃ (g : my_H) (n : Int), KeepF g h' x1 ∧ Mq g x1 ∧ Ko h g ∧ (∀ j : Int, g 157 j = h 157 j) ∧ (∀ B : Int → Int, BwB h B → h 157 (g 151 33) = if g 165 6 = 1 then h 157 (g 166 6) else B (g 166 6)) ∧ n ≤ 1000 ∧ Mt ((h 152, h 151 2) : (Int → Int) × Int) h' n ∧ (∀ k : Int, 0 ≤ k → k ≤ 5 → h 164 k = 1 → h 165 k = 0 → h 166 k ≠ x1) ∧ ∀ W B : Int → Int, MwW h W → BwB h B → readR (sm h') (h 157) (h 164) W B x1 0 0 (g 151 27) (h 157 (g 151 33)) (ovo g 6)) → (∀ k : Int, 0 ≤ k → k ≤ 6 → 0 ≤ h 167 k ∧ h 167 k ≤ 6) → Mw h' → Mw3 h' → Wrd h' → Wd9 h' → Q h' (0, 0)) : wp l rho (d + 5) 168 0 [(2, 151), (0, x1), (9, 0), (9, 0)] [] h Q := by
  refine v_all is_167 rd_66 (fun a167 => ?_)
  have hwv : (0 : Int) ≤ 5 := by decide
  have t67 : ∀ k : Int, 0 ≤ k → k ≤ 6 → 0 ≤ h 167 k ∧ h 167 k ≤ 6 := fun k a b => a167 k a (by omega)
  have J119_0 : ∀ (n : Nat) (p119_0 : Int) (h119_0 : my_H), my_fr [(10, 0), (10, 2), (10, 3), (10, 7), (10, 8), (10, 27), (10, 32), (10, 33), (52, -1), (53, -1), (54, -1), (63, -1), (64, -1), (65, -1), (66, -1), (67, -1), (68, -1), (69, -1), (70, -1), (71, -1), (72, -1), (73, -1), (74, -1), (75, -1), (76, -1), (77, -1), (78, -1), (79, -1)] h h119_0 → 0 ≤ x1 → x1 ≤ 5 → 0 ≤ p119_0 → p119_0 ≤ 16005 → h119_0 151 0 = 0 → h119_0 151 2 = 0 → h119_0 151 8 = p119_0 → Mw h119_0 → Mw3 h119_0 → Wrd h119_0 → Wd9 h119_0 → Ko h h119_0 → (h119_0 151 8 = 0 → Mq h119_0 x1) → (h119_0 151 8 = 0 → ∀ k : Int, 0 ≤ k → k ≤ 5 → h119_0 164 k = 1 → h119_0 165 k = 0 → h119_0 166 k ≠ x1) → Tok h119_0 → 0 ≤ h119_0 151 7 ∧ h119_0 151 7 ≤ 1001 → (∀ j : Int, h119_0 164 j = h 164 j) → (∃ n : Int, n ≤ 1000 ∧ Mt ((h 152, h 151 2) : (Int → Int) × Int) h119_0 n) → (∀ k : Int, 0 ≤ k → k ≤ 5 → h 164 k = 1 → h 165 k = 0 → h 166 k ≠ x1) → (h119_0 151 8 = 0 → rmI h h119_0 x1) → (h119_0 151 8 ≠ 0 → rmF h h119_0 x1 (h119_0 151 8)) → (h119_0 151 8 = 0 → ∀ B : Int → Int, BwB h B → h 157 (h119_0 151 33) = if h119_0 165 6 = 1 then h 157 (h119_0 166 6) else B (h119_0 166 6)) → 17007 - h119_0 151 7 - h119_0 151 8 ≤ (n : Int) → wp l rho (d + 5) 168 119 [(2, 151), (0, x1), (0, 0), (0, 4)] [] h119_0 Q := by
    intro n
    induction n with
    | zero => intro p119_0 h119_0 gh_119_0 q0_119_0 q1_119_0 q2_119_0 q3_119_0 c151_0_119_0 c151_2_119_0 c151_8_119_0 n_Mw_119_0 n_Mw3_119_0 n_Wrd_119_0 n_Wd9_119_0 n_Ko_119_0 mq_119_0 s6_119_0 tk_119_0 a1_119_0 i4_119_0 mt_119_0 nv_119_0 ok_119_0 no_119_0 bs_119_0 hm_119_0; exfalso; omega
    | succ n ih_119_0 =>
      intro p119_0 h119_0 gh_119_0 q0_119_0 q1_119_0 q2_119_0 q3_119_0 c151_0_119_0 c151_2_119_0 c151_8_119_0 n_Mw_119_0 n_Mw3_119_0 n_Wrd_119_0 n_Wd9_119_0 n_Ko_119_0 mq_119_0 s6_119_0 tk_119_0 a1_119_0 i4_119_0 mt_119_0 nv_119_0 ok_119_0 no_119_0 bs_119_0 hm_119_0
      have Tok_h119_0t1 : Tok h119_0 := tk_119_0
      obtain ⟨n9, nl9, q9⟩ := mt_119_0
      refine w_aload_n gz_168_119 rfl ?_
      refine v_getI (j := 8) gz_168_120 rfl is_151 rd_10 rfl (fun v2 ev2 pv2 qv2 => ?_)
      have zv2 := ev2.trans c151_8_119_0
      refine w_ifne (t := 145) gz_168_123 rfl (fun u3 => ?_) (fun u3 => ?_)
      ·
        refine w_aload_n gz_168_145 rfl ?_
        refine v_getI (j := 8) gz_168_146 rfl is_151 rd_10 rfl (fun v4 ev4 pv4 qv4 => ?_)
        have zv4 := ev4.trans ev2.symm
        refine w_ifne (t := 157) gz_168_149 rfl (fun u5 => ?_) (fun u5 => by exfalso; omega)
        refine w_aload_n gz_168_157 rfl ?_
        refine v_getI (j := 8) gz_168_158 rfl is_151 rd_10 rfl (fun v6 ev6 pv6 qv6 => ?_)
        have zv6 := ev6.trans ev4.symm
        have c7 := c151_0_119_0
        have c8 := c151_2_119_0
        have c9 := ev6.symm
        exact w_iret gz_168_161 gm_168 (k1 h119_0 (v6) (gh_119_0) (by omega) (by omega) (by omega) (by omega) (by omega) (by omega) (by omega) (by omega) (by first | exact t67 | exact n_Ko_119_0 | exact Or.inl (by omega) | exact Or.inr (uy_9_0 (by omega)) | exact nv_119_0 | exact ⟨n9, nl9, q9, by have q := no_119_0 (by omega); rw [show v6 = h119_0 151 8 by omega]; exact q⟩ | exact ⟨h119_0, n9, kf, mq_119_0 (by omega), n_Ko_119_0, fun j => my_fr.at gh_119_0 is_157 rfl, bs_119_0 (by omega), nl9, mt9, nv_119_0, by rw [esm9]; exact rm_e (ok_119_0 (by omega)) (k9.1 (by omega))⟩ | omega) (by first | exact t67 | exact n_Ko_119_0 | exact Or.inl (by omega) | exact Or.inr (uy_9_0 (by omega)) | exact nv_119_0 | exact ⟨n9, nl9, q9, by have q := no_119_0 (by omega); rw [show v6 = h119_0 151 8 by omega]; exact q⟩ | exact ⟨h119_0, n9, kf, mq_119_0 (by omega), n_Ko_119_0, fun j => my_fr.at gh_119_0 is_157 rfl, bs_119_0 (by omega), nl9, mt9, nv_119_0, by rw [esm9]; exact rm_e (ok_119_0 (by omega)) (k9.1 (by omega))⟩ | omega) (by first | exact t67 | exact n_Ko_119_0 | exact Or.inl (by omega) | exact Or.inr (uy_9_0 (by omega)) | exact nv_119_0 | exact ⟨n9, nl9, q9, by have q := no_119_0 (by omega); rw [show v6 = h119_0 151 8 by omega]; exact q⟩ | exact ⟨h119_0, n9, kf, mq_119_0 (by omega), n_Ko_119_0, fun j => my_fr.at gh_119_0 is_157 rfl, bs_119_0 (by omega), nl9, mt9, nv_119_0, by rw [esm9]; exact rm_e (ok_119_0 (by omega)) (k9.1 (by omega))⟩ | omega) (by first | exact t67 | exact n_Ko_119_0 | exact Or.inl (by omega) | exact Or.inr (uy_9_0 (by omega)) | exact nv_119_0 | exact ⟨n9, nl9, q9, by have q := no_119_0 (by omega); rw [show v6 = h119_0 151 8 by omega]; exact q⟩ | exact ⟨h119_0, n9, kf, mq_119_0 (by omega), n_Ko_119_0, fun j => my_fr.at gh_119_0 is_157 rfl, bs_119_0 (by omega), nl9, mt9, nv_119_0, by rw [esm9]; exact rm_e (ok_119_0 (by omega)) (k9.1 (by omega))⟩ | omega) n_Mw_119_0 n_Mw3_119_0 n_Wrd_119_0 n_Wd9_119_0)
      ·
        refine w_aload_n gz_168_126 rfl ?_
        refine w_getX (v := 153) gz_168_127 is_151 rd_10 rfl (by decide) rfl ?_
        refine w_aload_n gz_168_130 rfl ?_
        refine v_getI (j := 7) gz_168_131 rfl is_151 rd_10 rfl (fun v11 ev11 pv11 qv11 => ?_)
        refine w_iald gz_168_134 is_153 rd_52 (by omega) (by omega) (fun v12 ev12 pv12 qv12 => ?_)
        have k9 := sK_0 (x := h119_0) (i := h119_0 151 7) (v := v12) (by rw [show h119_0 151 7 = v11 by omega]; omega)
        refine w_ifeq (t := 145) gz_168_135 rfl (fun u13 => ?_) (fun u13 => ?_)
        ·
          refine w_aload_n gz_168_145 rfl ?_
          refine v_getI (j := 8) gz_168_146 rfl is_151 rd_10 rfl (fun v14 ev14 pv14 qv14 => ?_)
          have zv14 := ev14.trans ev2.symm
          refine w_ifne (t := 157) gz_168_149 rfl (fun u15 => by exfalso; omega) (fun u15 => ?_)
          refine w_aload_n gz_168_152 rfl ?_
          refine w_iload_n gz_168_153 rfl ?_
          refine w_inv (k := 4) (as := [(0, x1)]) (r := []) (x := 151) (ls0 := [(2, 151), (0, x1), (9, 0), (9, 0), (9, 0), (9, 0)]) gz_168_154 gm_191 rfl is_151 rd_10 rfl rfl rfl rfl rfl (c_Model_keeps9_f0 (d := (d + 4)) (x1 := x1) (by omega) (by omega) (ev14.symm.trans (by omega)) (mq_119_0 (by omega)) (s6_119_0 (by omega)) (fun h16 frh16 w17 xp18 Mw3_h16t19 => ?_))
          have gh16 : my_fr [(10, 0), (10, 2), (10, 3), (10, 7), (10, 8), (10, 27), (10, 32), (10, 33), (52, -1), (53, -1), (54, -1), (63, -1), (64, -1), (65, -1), (66, -1), (67, -1), (68, -1), (69, -1), (70, -1), (71, -1), (72, -1), (73, -1), (74, -1), (75, -1), (76, -1), (77, -1), (78, -1), (79, -1)] h h16 := my_fr.tr gh_119_0 (frh16.mo rfl)
          have Wrd_h16 : Wrd h16 := Wrd_ag (my_ag.fr frh16 rfl) n_Wrd_119_0
          have Wd9_h16 : Wd9 h16 := Wd9_ag (my_ag.fr frh16 rfl) n_Wd9_119_0
          have Tok_h16 : Tok h16 := Tok_ag (my_ag.fr frh16 rfl) Tok_h119_0t1
          show wp l rho (d + 5) 168 157 [(2, 151), (0, x1), (0, 0), (0, 4)] [] h16 Q
          have Mw_h16t20 : Mw h16 := (Mw3_h16t19).mw
          have kf := xp18
          have esm9 : sm h16 = sm h119_0 := sm_eq (fun j => my_fr.at frh16 is_153 rfl) (fun j => my_fr.at frh16 is_154 rfl) (fun j => my_fr.at frh16 is_155 rfl)
          have mt9 := Mt_cg q9 (fun j => my_fr.at frh16 is_153 rfl) (fun j => my_fr.at frh16 is_154 rfl) (fun j => my_fr.at frh16 is_155 rfl)
          refine w_aload_n gz_168_157 rfl ?_
          refine v_getI (j := 8) gz_168_158 rfl is_151 rd_10 rfl (fun v21 ev21 pv21 qv21 => ?_)
          have zv21 := ev21.trans ((my_fr.at frh16 is_151 rfl).trans ev14.symm)
          have c22 := ((my_fr.at frh16 is_151 rfl).trans c151_0_119_0)
          have c23 := ((my_fr.at frh16 is_151 rfl).trans c151_2_119_0)
          have c24 := ev21.symm
          rw [show (v21 : Int) = 0 from by omega]
          exact w_iret gz_168_161 gm_168 (k2 h16 (gh16) (by omega) (by omega) (by omega) (by omega) (by omega) (by first | exact t67 | exact no_such_saying | exact Or.inl (by omega) | exact Or.inr (uy_9_0 (by omega)) | exact nv_119_0 | exact ⟨n9, nl9, q9, by have q := no_119_0 (by omega); rw [show v21 = h119_0 151 8 by omega]; exact q⟩ | exact ⟨h119_0, n9, kf, mq_119_0 (by omega), n_Ko_119_0, fun j => my_fr.at gh_119_0 is_157 rfl, bs_119_0 (by omega), nl9, mt9, nv_119_0, by rw [esm9]; exact rm_e (ok_119_0 (by omega)) (k9.1 (by omega))⟩ | omega) (by first | exact t67 | exact no_such_saying | exact Or.inl (by omega) | exact Or.inr (uy_9_0 (by omega)) | exact nv_119_0 | exact ⟨n9, nl9, q9, by have q := no_119_0 (by omega); rw [show v21 = h119_0 151 8 by omega]; exact q⟩ | exact ⟨h119_0, n9, kf, mq_119_0 (by omega), n_Ko_119_0, fun j => my_fr.at gh_119_0 is_157 rfl, bs_119_0 (by omega), nl9, mt9, nv_119_0, by rw [esm9]; exact rm_e (ok_119_0 (by omega)) (k9.1 (by omega))⟩ | omega) Mw_h16t20 Mw3_h16t19 Wrd_h16 Wd9_h16)
        ·
          refine w_aload_n gz_168_138 rfl ?_
          have Mq_h119_0t25 : Mq h119_0 x1 := mq_119_0 (by omega)
          have ce26 : h119_0 151 7 = v11 := ev11.symm
          refine w_inv (k := 7) (as := []) (r := []) (x := 151) (ls0 := [(2, 151), (9, 0), (9, 0), (9, 0), (9, 0), (9, 0), (9, 0), (9, 0)]) gz_168_139 gm_185 rfl is_151 rd_10 rfl rfl rfl rfl rfl (c_Model_readPane9_f0 (d := d)  (wv := x1) (ev2.symm.trans (by omega)) (by first | assumption | omega) (by first | assumption | omega) Tok_h119_0t1 Mq_h119_0t25 n_Wrd_119_0 n_Wd9_119_0 (fun h27 frh27 w28 w29 xp30 xp31 xp32 Tok_h27t33 Mq_h27t34 Wrd_h27t35 Wd9_h27t36 => ?_) (fun h37 frh37 w38 w39 w40 xp41 xp42 xp43 Tok_h37t44 Mq_h37t45 Wrd_h37t46 Wd9_h37t47 => ?_))
          ·
            have gh27 : my_fr [(10, 0), (10, 2), (10, 3), (10, 7), (10, 8), (10, 27), (10, 32), (10, 33), (52, -1), (53, -1), (54, -1), (63, -1), (64, -1), (65, -1), (66, -1), (67, -1), (68, -1), (69, -1), (70, -1), (71, -1), (72, -1), (73, -1), (74, -1), (75, -1), (76, -1), (77, -1), (78, -1), (79, -1)] h h27 := my_fr.tr gh_119_0 (frh27.mo rfl)
            have Wrd_h27 : Wrd h27 := Wrd_ag (my_ag.fr frh27 rfl) n_Wrd_119_0
            have Wd9_h27 : Wd9 h27 := Wd9_ag (my_ag.fr frh27 rfl) n_Wd9_119_0
            show wp l rho (d + 5) 168 142 [(2, 151), (0, x1), (0, 0), (0, 4)] [] h27 Q
            have Mw3_h27t48 : Mw3 h27 := (Mq_h27t34).mw3
            have Mw_h27t49 : Mw h27 := (Mq_h27t34).mw3.mw
            have pn := xp31
            have Ko_h27t50 : Ko h h27 := Ko_tr n_Ko_119_0 xp32
            have esm : sm h27 = sm h119_0 := sm_eq (fun j => my_fr.at frh27 is_153 rfl) (fun j => my_fr.at frh27 is_154 rfl) (fun j => my_fr.at frh27 is_155 rfl)
            have e33 : h27 151 33 = h119_0 151 33 := my_fr.at frh27 is_151 rfl
            have eo : ovo h27 6 = ovo h119_0 6 := by unfold ovo; rw [my_fr.at frh27 is_165 rfl, my_fr.at frh27 is_166 rfl]
            have p5 : h27 165 6 = h119_0 165 6 := my_fr.at frh27 is_165 rfl
            have p66 : h27 166 6 = h119_0 166 6 := my_fr.at frh27 is_166 rfl
            refine w_goto (t := 119) gz_168_142 rfl ?_
            have a164 : ∀ j : Int, h27 164 j = h119_0 164 j := fun j => ((my_fr.at frh27 is_164 rfl).trans (rfl : h119_0 164 j = h119_0 164 j))
            have a165 : ∀ j : Int, h27 165 j = h119_0 165 j := fun j => ((my_fr.at frh27 is_165 rfl).trans (rfl : h119_0 165 j = h119_0 165 j))
            have a166 : ∀ j : Int, h27 166 j = h119_0 166 j := fun j => ((my_fr.at frh27 is_166 rfl).trans (rfl : h119_0 166 j = h119_0 166 j))
            have ce51 : h27 151 8 = (h27 151 8) := (rfl : h27 151 8 = h27 151 8)
            have tq := Tok_at Tok_h27t33
            have m3 : ∀ j : Int, h27 153 j = h119_0 153 j := fun j => ((my_fr.at frh27 is_153 rfl).trans (rfl : h119_0 153 j = h119_0 153 j))
            have m4 : ∀ j : Int, h27 154 j = h119_0 154 j := fun j => ((my_fr.at frh27 is_154 rfl).trans (rfl : h119_0 154 j = h119_0 154 j))
            have m5 : ∀ j : Int, h27 155 j = h119_0 155 j := fun j => ((my_fr.at frh27 is_155 rfl).trans (rfl : h119_0 155 j = h119_0 155 j))
            exact ih_119_0 ((h27 151 8)) h27 (gh27) (by omega) (by omega) (by omega) (by omega) (((my_fr.at frh27 is_151 rfl).trans c151_0_119_0).trans (by omega)) (((my_fr.at frh27 is_151 rfl).trans c151_2_119_0).trans (by omega)) ((rfl : h27 151 8 = h27 151 8).trans (by omega)) Mw_h27t49 Mw3_h27t48 Wrd_h27t35 Wd9_h27t36 Ko_h27t50 (by first | (intro _; exact Mq_h27t34) | (intro q; exfalso; omega) | (intro _; assumption) | omega) (by first | (intro q; exfalso; omega) | (intro _ k a b c e; have z := s56 k b; rw [z.1] at e; rw [z.2]; exact u9_93_0 k a b (by rw [← a164]; exact c) e) | (intro _ k a b c e; rw [a164] at c; rw [a165] at e; rw [a166]; exact s6_119_0 (by omega) k a b c e) | omega) (Tok_h27t33) (by have q := Tok_at Tok_h27t33; omega) (by first | exact (fun j => a164 j) | exact (fun j => (a164 j).trans (i4_9_0 j)) | exact (fun j => (a164 j).trans (i4_93_0 j)) | exact (fun j => (a164 j).trans (i4_119_0 j)) | omega) (by first | (obtain ⟨n, nl, q⟩ := mt0; exact ⟨n, nl, Mt_cg q m3 m4 m5⟩) | (obtain ⟨n, nl, q⟩ := mt_93_0; exact ⟨n, nl, Mt_cg q m3 m4 m5⟩) | exact ⟨n9, nl9, Mt_cg q9 m3 m4 m5⟩ | omega) (by first | exact nu0 | exact nv_93_0 | exact nv_119_0 | omega) (by first | exact (fun _ => rm_0 ov koX (fun j => my_fr.at gh_93_0 is_157 rfl) e57G i4_93_0 t67 (by omega) a0_93_0 esm p6) | exact (fun _ => rm_s (ok_119_0 (by omega)) (k9.2 (by omega)) pn (fun j => my_fr.at gh_119_0 is_157 rfl) (by omega) esm e33 eo) | (intro q; exfalso; omega) | omega) (by first | exact (fun q => rm_f ov koX (fun j => my_fr.at gh_93_0 is_157 rfl) i4_93_0 t67 q a0_93_0 esm) | exact (fun q => rm_x (ok_119_0 (by omega)) (k9.2 (by omega)) pn (fun j => my_fr.at gh_119_0 is_157 rfl) q esm) | (intro q; exfalso; omega) | omega) (by first | exact (fun _ => bs1) | exact (fun _ B hB => by rw [e33, p5, p66]; exact bs_119_0 (by omega) B hB) | (intro q; exfalso; omega) | omega) (by omega)
          ·
            have gh37 : my_fr [(10, 0), (10, 2), (10, 3), (10, 7), (10, 8), (10, 27), (10, 32), (10, 33), (52, -1), (53, -1), (54, -1), (63, -1), (64, -1), (65, -1), (66, -1), (67, -1), (68, -1), (69, -1), (70, -1), (71, -1), (72, -1), (73, -1), (74, -1), (75, -1), (76, -1), (77, -1), (78, -1), (79, -1)] h h37 := my_fr.tr gh_119_0 (frh37.mo rfl)
            have Wrd_h37 : Wrd h37 := Wrd_ag (my_ag.fr frh37 rfl) n_Wrd_119_0
            have Wd9_h37 : Wd9 h37 := Wd9_ag (my_ag.fr frh37 rfl) n_Wd9_119_0
            show wp l rho (d + 5) 168 142 [(2, 151), (0, x1), (0, 0), (0, 4)] [] h37 Q
            have Mw3_h37t52 : Mw3 h37 := (Mq_h37t45).mw3
            have Mw_h37t53 : Mw h37 := (Mq_h37t45).mw3.mw
            have pn := xp42
            have Ko_h37t54 : Ko h h37 := Ko_tr n_Ko_119_0 xp43
            have esm : sm h37 = sm h119_0 := sm_eq (fun j => my_fr.at frh37 is_153 rfl) (fun j => my_fr.at frh37 is_154 rfl) (fun j => my_fr.at frh37 is_155 rfl)
            have e33 : h37 151 33 = h119_0 151 33 := my_fr.at frh37 is_151 rfl
            have eo : ovo h37 6 = ovo h119_0 6 := by unfold ovo; rw [my_fr.at frh37 is_165 rfl, my_fr.at frh37 is_166 rfl]
            have p5 : h37 165 6 = h119_0 165 6 := my_fr.at frh37 is_165 rfl
            have p66 : h37 166 6 = h119_0 166 6 := my_fr.at frh37 is_166 rfl
            refine w_goto (t := 119) gz_168_142 rfl ?_
            have a164 : ∀ j : Int, h37 164 j = h119_0 164 j := fun j => ((my_fr.at frh37 is_164 rfl).trans (rfl : h119_0 164 j = h119_0 164 j))
            have a165 : ∀ j : Int, h37 165 j = h119_0 165 j := fun j => ((my_fr.at frh37 is_165 rfl).trans (rfl : h119_0 165 j = h119_0 165 j))
            have a166 : ∀ j : Int, h37 166 j = h119_0 166 j := fun j => ((my_fr.at frh37 is_166 rfl).trans (rfl : h119_0 166 j = h119_0 166 j))
            have ce55 : h37 151 7 = (h37 151 7) := (rfl : h37 151 7 = h37 151 7)
            have ce56 : h37 151 8 = 0 := w40
            have tq := Tok_at Tok_h37t44
            have m3 : ∀ j : Int, h37 153 j = h119_0 153 j := fun j => ((my_fr.at frh37 is_153 rfl).trans (rfl : h119_0 153 j = h119_0 153 j))
            have m4 : ∀ j : Int, h37 154 j = h119_0 154 j := fun j => ((my_fr.at frh37 is_154 rfl).trans (rfl : h119_0 154 j = h119_0 154 j))
            have m5 : ∀ j : Int, h37 155 j = h119_0 155 j := fun j => ((my_fr.at frh37 is_155 rfl).trans (rfl : h119_0 155 j = h119_0 155 j))
            exact ih_119_0 (0) h37 (gh37) (by omega) (by omega) (by omega) (by omega) (((my_fr.at frh37 is_151 rfl).trans c151_0_119_0).trans (by omega)) (((my_fr.at frh37 is_151 rfl).trans c151_2_119_0).trans (by omega)) (w40.trans (by omega)) Mw_h37t53 Mw3_h37t52 Wrd_h37t46 Wd9_h37t47 Ko_h37t54 (by first | (intro _; exact Mq_h37t45) | (intro q; exfalso; omega) | (intro _; assumption) | omega) (by first | (intro q; exfalso; omega) | (intro _ k a b c e; have z := s56 k b; rw [z.1] at e; rw [z.2]; exact u9_93_0 k a b (by rw [← a164]; exact c) e) | (intro _ k a b c e; rw [a164] at c; rw [a165] at e; rw [a166]; exact s6_119_0 (by omega) k a b c e) | omega) (Tok_h37t44) (by have q := Tok_at Tok_h37t44; omega) (by first | exact (fun j => a164 j) | exact (fun j => (a164 j).trans (i4_9_0 j)) | exact (fun j => (a164 j).trans (i4_93_0 j)) | exact (fun j => (a164 j).trans (i4_119_0 j)) | omega) (by first | (obtain ⟨n, nl, q⟩ := mt0; exact ⟨n, nl, Mt_cg q m3 m4 m5⟩) | (obtain ⟨n, nl, q⟩ := mt_93_0; exact ⟨n, nl, Mt_cg q m3 m4 m5⟩) | exact ⟨n9, nl9, Mt_cg q9 m3 m4 m5⟩ | omega) (by first | exact nu0 | exact nv_93_0 | exact nv_119_0 | omega) (by first | exact (fun _ => rm_0 ov koX (fun j => my_fr.at gh_93_0 is_157 rfl) e57G i4_93_0 t67 (by omega) a0_93_0 esm p6) | exact (fun _ => rm_s (ok_119_0 (by omega)) (k9.2 (by omega)) pn (fun j => my_fr.at gh_119_0 is_157 rfl) (by omega) esm e33 eo) | (intro q; exfalso; omega) | omega) (by first | exact (fun q => rm_f ov koX (fun j => my_fr.at gh_93_0 is_157 rfl) i4_93_0 t67 q a0_93_0 esm) | exact (fun q => rm_x (ok_119_0 (by omega)) (k9.2 (by omega)) pn (fun j => my_fr.at gh_119_0 is_157 rfl) q esm) | (intro q; exfalso; omega) | omega) (by first | exact (fun _ => bs1) | exact (fun _ B hB => by rw [e33, p5, p66]; exact bs_119_0 (by omega) B hB) | (intro q; exfalso; omega) | omega) (by omega)
  have J93_0 : ∀ (n : Nat) (p93_0 : Int) (h93_0 : my_H), my_fr [(10, 0), (10, 2), (10, 3), (10, 7), (10, 8), (10, 27), (10, 32), (10, 33), (52, -1), (53, -1), (54, -1), (63, -1), (64, -1), (65, -1), (66, -1), (67, -1), (68, -1), (69, -1), (70, -1), (71, -1), (72, -1), (73, -1), (74, -1), (75, -1), (76, -1), (77, -1), (78, -1), (79, -1)] h h93_0 → 0 ≤ x1 → x1 ≤ 5 → 0 ≤ p93_0 → p93_0 ≤ 4 → h93_0 151 0 = 0 → h93_0 151 2 = 0 → h93_0 151 7 = 0 → h93_0 151 8 = 0 → Mw h93_0 → Mw3 h93_0 → Wrd h93_0 → Wd9 h93_0 → Ko h h93_0 → h93_0 167 6 = 0 → (∀ k : Int, 0 ≤ k → k ≤ 5 → h93_0 164 k = 1 → h93_0 165 k = 0 → h93_0 166 k ≠ x1) → Tok h93_0 → (∀ j : Int, h93_0 164 j = h 164 j) → (∃ n : Int, n ≤ 1000 ∧ Mt ((h 152, h 151 2) : (Int → Int) × Int) h93_0 n) → h93_0 151 7 = 0 → (∀ k : Int, 0 ≤ k → k ≤ 5 → h 164 k = 1 → h 165 k = 0 → h 166 k ≠ x1) → 5 - p93_0 ≤ (n : Int) → wp l rho (d + 5) 168 93 [(2, 151), (0, x1), (0, 0), (0, p93_0)] [] h93_0 Q := by
    intro n
    induction n with
    | zero => intro p93_0 h93_0 gh_93_0 q0_93_0 q1_93_0 q2_93_0 q3_93_0 c151_0_93_0 c151_2_93_0 c151_7_93_0 c151_8_93_0 n_Mw_93_0 n_Mw3_93_0 n_Wrd_93_0 n_Wd9_93_0 n_Ko_93_0 z6_93_0 u9_93_0 tk_93_0 i4_93_0 mt_93_0 a0_93_0 nv_93_0 hm_93_0; exfalso; omega
    | succ n ih_93_0 =>
      intro p93_0 h93_0 gh_93_0 q0_93_0 q1_93_0 q2_93_0 q3_93_0 c151_0_93_0 c151_2_93_0 c151_7_93_0 c151_8_93_0 n_Mw_93_0 n_Mw3_93_0 n_Wrd_93_0 n_Wd9_93_0 n_Ko_93_0 z6_93_0 u9_93_0 tk_93_0 i4_93_0 mt_93_0 a0_93_0 nv_93_0 hm_93_0
      have Tok_h93_0t57 : Tok h93_0 := tk_93_0
      refine w_iload_n gz_168_93 rfl ?_
      refine w_iconst gz_168_94 (by decide) ?_
      refine w_icge (t := 114) gz_168_95 rfl (fun u58 => ?_) (fun u58 => ?_)
      ·
        refine w_aload_n gz_168_114 rfl ?_
        refine w_iload_n gz_168_115 rfl ?_
        refine w_inv (k := 1) (as := [(0, x1)]) (r := []) (x := 151) (ls0 := [(2, 151), (0, x1), (9, 0)]) gz_168_116 gm_174 rfl is_151 rd_10 rfl rfl rfl rfl rfl (c_Model_readOver9_f0 (d := (d + 1)) (x1 := x1) (by omega) (by omega) (c151_8_93_0.trans (by omega)) Tok_h93_0t57 n_Mw_93_0 n_Mw3_93_0 n_Wd9_93_0 (by first | assumption | exact no_such_saying | exact Fp_told (by omega) (by omega) | omega | (subst_vars; omega) | omega) (fun h59 frh59 w60 w61 xp62 xp63 Tok_h59t64 Mw_h59t65 Mw3_h59t66 Wd9_h59t67 => ?_) (fun h68 frh68 w69 w70 w71 xp72 xp73 xp74 xp75 xp76 xp77 Tok_h68t78 Mw_h68t79 Mw3_h68t80 Wd9_h68t81 => ?_))
        ·
          have gh59 : my_fr [(10, 0), (10, 2), (10, 3), (10, 7), (10, 8), (10, 27), (10, 32), (10, 33), (52, -1), (53, -1), (54, -1), (63, -1), (64, -1), (65, -1), (66, -1), (67, -1), (68, -1), (69, -1), (70, -1), (71, -1), (72, -1), (73, -1), (74, -1), (75, -1), (76, -1), (77, -1), (78, -1), (79, -1)] h h59 := my_fr.tr gh_93_0 (frh59.mo rfl)
          have Wrd_h59 : Wrd h59 := Wrd_ag (my_ag.fr frh59 rfl) n_Wrd_93_0
          have Wd9_h59 : Wd9 h59 := Wd9_ag (my_ag.fr frh59 rfl) n_Wd9_93_0
          show wp l rho (d + 5) 168 119 [(2, 151), (0, x1), (0, 0), (0, p93_0)] [] h59 Q
          have koX := n_Ko_93_0
          have ov := xp62
          have Ko_h59t82 : Ko h h59 := Ko_tr n_Ko_93_0 xp63
          have esm : sm h59 = sm h93_0 := sm_eq (fun j => my_fr.at frh59 is_153 rfl) (fun j => my_fr.at frh59 is_154 rfl) (fun j => my_fr.at frh59 is_155 rfl)
          have a164 : ∀ j : Int, h59 164 j = h93_0 164 j := fun j => ((my_fr.at frh59 is_164 rfl).trans (rfl : h93_0 164 j = h93_0 164 j))
          have a165 : ∀ j : Int, h59 165 j = h59 165 j := fun j => rfl
          have a166 : ∀ j : Int, h59 166 j = h59 166 j := fun j => rfl
          have ce83 : h59 151 8 = (h59 151 8) := (rfl : h59 151 8 = h59 151 8)
          have tq := Tok_at Tok_h59t64
          have m3 : ∀ j : Int, h59 153 j = h93_0 153 j := fun j => ((my_fr.at frh59 is_153 rfl).trans (rfl : h93_0 153 j = h93_0 153 j))
          have m4 : ∀ j : Int, h59 154 j = h93_0 154 j := fun j => ((my_fr.at frh59 is_154 rfl).trans (rfl : h93_0 154 j = h93_0 154 j))
          have m5 : ∀ j : Int, h59 155 j = h93_0 155 j := fun j => ((my_fr.at frh59 is_155 rfl).trans (rfl : h93_0 155 j = h93_0 155 j))
          rw [show (p93_0 : Int) = 4 from by omega]
          exact J119_0 (17007) ((h59 151 8)) h59 (gh59) (by omega) (by omega) (by omega) (by omega) (((my_fr.at frh59 is_151 rfl).trans c151_0_93_0).trans (by omega)) (((my_fr.at frh59 is_151 rfl).trans c151_2_93_0).trans (by omega)) ((rfl : h59 151 8 = h59 151 8).trans (by omega)) Mw_h59t65 Mw3_h59t66 Wrd_h59 Wd9_h59t67 Ko_h59t82 (by first | (intro _; exact no_such_saying) | (intro q; exfalso; omega) | (intro _; assumption) | omega) (by first | (intro q; exfalso; omega) | (intro _ k a b c e; have z := s56 k b; rw [z.1] at e; rw [z.2]; exact u9_93_0 k a b (by rw [← a164]; exact c) e) | (intro _ k a b c e; rw [a164] at c; rw [a165] at e; rw [a166]; exact s6_119_0 (by omega) k a b c e) | omega) (Tok_h59t64) (by have q := Tok_at Tok_h59t64; omega) (by first | exact (fun j => a164 j) | exact (fun j => (a164 j).trans (i4_9_0 j)) | exact (fun j => (a164 j).trans (i4_93_0 j)) | exact (fun j => (a164 j).trans (i4_119_0 j)) | omega) (by first | (obtain ⟨n, nl, q⟩ := mt0; exact ⟨n, nl, Mt_cg q m3 m4 m5⟩) | (obtain ⟨n, nl, q⟩ := mt_93_0; exact ⟨n, nl, Mt_cg q m3 m4 m5⟩) | exact ⟨n9, nl9, Mt_cg q9 m3 m4 m5⟩ | omega) (by first | exact nu0 | exact nv_93_0 | exact nv_119_0 | omega) (by first | exact (fun _ => rm_0 ov koX (fun j => my_fr.at gh_93_0 is_157 rfl) e57G i4_93_0 t67 (by omega) a0_93_0 esm p6) | exact (fun _ => rm_s (ok_119_0 (by omega)) (k9.2 (by omega)) pn (fun j => my_fr.at gh_119_0 is_157 rfl) (by omega) esm e33 eo) | (intro q; exfalso; omega) | omega) (by first | exact (fun q => rm_f ov koX (fun j => my_fr.at gh_93_0 is_157 rfl) i4_93_0 t67 q a0_93_0 esm) | exact (fun q => rm_x (ok_119_0 (by omega)) (k9.2 (by omega)) pn (fun j => my_fr.at gh_119_0 is_157 rfl) q esm) | (intro q; exfalso; omega) | omega) (by first | exact (fun _ => bs1) | exact (fun _ B hB => by rw [e33, p5, p66]; exact bs_119_0 (by omega) B hB) | (intro q; exfalso; omega) | omega) (by omega)
        ·
          have gh68 : my_fr [(10, 0), (10, 2), (10, 3), (10, 7), (10, 8), (10, 27), (10, 32), (10, 33), (52, -1), (53, -1), (54, -1), (63, -1), (64, -1), (65, -1), (66, -1), (67, -1), (68, -1), (69, -1), (70, -1), (71, -1), (72, -1), (73, -1), (74, -1), (75, -1), (76, -1), (77, -1), (78, -1), (79, -1)] h h68 := my_fr.tr gh_93_0 (frh68.mo rfl)
          have Wrd_h68 : Wrd h68 := Wrd_ag (my_ag.fr frh68 rfl) n_Wrd_93_0
          have Wd9_h68 : Wd9 h68 := Wd9_ag (my_ag.fr frh68 rfl) n_Wd9_93_0
          show wp l rho (d + 5) 168 119 [(2, 151), (0, x1), (0, 0), (0, p93_0)] [] h68 Q
          have s56 := xp73
          have koX := n_Ko_93_0
          have ov := xp74
          have p6 := xp76
          have e57G : ∀ j : Int, h68 157 j = h 157 j := fun j => my_fr.at gh68 is_157 rfl
          have Ko_h68t84 : Ko h h68 := Ko_tr n_Ko_93_0 xp75
          have esm : sm h68 = sm h93_0 := sm_eq (fun j => my_fr.at frh68 is_153 rfl) (fun j => my_fr.at frh68 is_154 rfl) (fun j => my_fr.at frh68 is_155 rfl)
          have bs1 : ∀ B : Int → Int, BwB h B → h 157 (h68 151 33) = if h68 165 6 = 1 then h 157 (h68 166 6) else B (h68 166 6) := fun B hB => by
            have q := xp77 B (BwB_ko koX (fun j => my_fr.at gh_93_0 is_157 rfl) hB)
            have e7 : ∀ j : Int, h93_0 157 j = h 157 j := fun j => my_fr.at gh_93_0 is_157 rfl
            simp only [e7] at q
            exact q
          have a164 : ∀ j : Int, h68 164 j = h93_0 164 j := fun j => ((my_fr.at frh68 is_164 rfl).trans (rfl : h93_0 164 j = h93_0 164 j))
          have a165 : ∀ j : Int, h68 165 j = h68 165 j := fun j => rfl
          have a166 : ∀ j : Int, h68 166 j = h68 166 j := fun j => rfl
          have ce85 : h68 151 7 = (h68 151 7) := (rfl : h68 151 7 = h68 151 7)
          have ce86 : h68 151 8 = 0 := w71
          have tq := Tok_at Tok_h68t78
          have m3 : ∀ j : Int, h68 153 j = h93_0 153 j := fun j => ((my_fr.at frh68 is_153 rfl).trans (rfl : h93_0 153 j = h93_0 153 j))
          have m4 : ∀ j : Int, h68 154 j = h93_0 154 j := fun j => ((my_fr.at frh68 is_154 rfl).trans (rfl : h93_0 154 j = h93_0 154 j))
          have m5 : ∀ j : Int, h68 155 j = h93_0 155 j := fun j => ((my_fr.at frh68 is_155 rfl).trans (rfl : h93_0 155 j = h93_0 155 j))
          rw [show (p93_0 : Int) = 4 from by omega]
          exact J119_0 (17007) (0) h68 (gh68) (by omega) (by omega) (by omega) (by omega) (((my_fr.at frh68 is_151 rfl).trans c151_0_93_0).trans (by omega)) (((my_fr.at frh68 is_151 rfl).trans c151_2_93_0).trans (by omega)) (w71.trans (by omega)) Mw_h68t79 Mw3_h68t80 Wrd_h68 Wd9_h68t81 Ko_h68t84 (by first | (intro _; exact no_such_saying) | (intro q; exfalso; omega) | (intro _; assumption) | omega) (by first | (intro q; exfalso; omega) | (intro _ k a b c e; have z := s56 k b; rw [z.1] at e; rw [z.2]; exact u9_93_0 k a b (by rw [← a164]; exact c) e) | (intro _ k a b c e; rw [a164] at c; rw [a165] at e; rw [a166]; exact s6_119_0 (by omega) k a b c e) | omega) (Tok_h68t78) (by have q := Tok_at Tok_h68t78; omega) (by first | exact (fun j => a164 j) | exact (fun j => (a164 j).trans (i4_9_0 j)) | exact (fun j => (a164 j).trans (i4_93_0 j)) | exact (fun j => (a164 j).trans (i4_119_0 j)) | omega) (by first | (obtain ⟨n, nl, q⟩ := mt0; exact ⟨n, nl, Mt_cg q m3 m4 m5⟩) | (obtain ⟨n, nl, q⟩ := mt_93_0; exact ⟨n, nl, Mt_cg q m3 m4 m5⟩) | exact ⟨n9, nl9, Mt_cg q9 m3 m4 m5⟩ | omega) (by first | exact nu0 | exact nv_93_0 | exact nv_119_0 | omega) (by first | exact (fun _ => rm_0 ov koX (fun j => my_fr.at gh_93_0 is_157 rfl) e57G i4_93_0 t67 (by omega) a0_93_0 esm p6) | exact (fun _ => rm_s (ok_119_0 (by omega)) (k9.2 (by omega)) pn (fun j => my_fr.at gh_119_0 is_157 rfl) (by omega) esm e33 eo) | (intro q; exfalso; omega) | omega) (by first | exact (fun q => rm_f ov koX (fun j => my_fr.at gh_93_0 is_157 rfl) i4_93_0 t67 q a0_93_0 esm) | exact (fun q => rm_x (ok_119_0 (by omega)) (k9.2 (by omega)) pn (fun j => my_fr.at gh_119_0 is_157 rfl) q esm) | (intro q; exfalso; omega) | omega) (by first | exact (fun _ => bs1) | exact (fun _ B hB => by rw [e33, p5, p66]; exact bs_119_0 (by omega) B hB) | (intro q; exfalso; omega) | omega) (by omega)
      ·
        refine w_aload_n gz_168_98 rfl ?_
        refine w_getX (v := 173) gz_168_99 is_151 rd_10 rfl (by decide) rfl ?_
        refine w_bipush gz_168_102 (by decide) ?_
        refine w_iload_n gz_168_104 rfl ?_
        refine w_iadd gz_168_105 ⟨by omega, by omega⟩ ?_
        refine w_iconst gz_168_106 (by decide) ?_
        refine w_iast gz_168_107 is_173 rd_72 (by omega) (by omega) (by omega) (by omega) (fun h88 fh88 => ?_)
        have gh88 : my_fr [(10, 0), (10, 2), (10, 3), (10, 7), (10, 8), (10, 27), (10, 32), (10, 33), (52, -1), (53, -1), (54, -1), (63, -1), (64, -1), (65, -1), (66, -1), (67, -1), (68, -1), (69, -1), (70, -1), (71, -1), (72, -1), (73, -1), (74, -1), (75, -1), (76, -1), (77, -1), (78, -1), (79, -1)] h h88 := my_fr.up gh_93_0 is_173 fh88 rfl
        have Mw_h88 : Mw h88 := Mw_ag (my_ag.up fh88 is_173 rfl) n_Mw_93_0
        have Mw3_h88 : Mw3 h88 := Mw3_ag (my_ag.up fh88 is_173 rfl) n_Mw3_93_0
        have Wrd_h88 : Wrd h88 := Wrd_ag (my_ag.up fh88 is_173 rfl) n_Wrd_93_0
        have Wd9_h88 : Wd9 h88 := Wd9_ag (my_ag.up fh88 is_173 rfl) n_Wd9_93_0
        have Ko_h88 : Ko h h88 := Ko_ag (my_ag.up fh88 is_173 rfl) n_Ko_93_0
        have Tok_h88 : Tok h88 := Tok_ag (my_ag.up fh88 is_173 rfl) Tok_h93_0t57
        refine w_iinc (ls' := [(2, 151), (0, x1), (0, 0), (0, (p93_0 + 1))]) gz_168_108 rfl gm_168 rfl rfl rfl ⟨by omega, by omega⟩ ?_
        refine w_goto (t := 93) gz_168_111 rfl ?_
        have a164 : ∀ j : Int, h88 164 j = h93_0 164 j := fun j => ((my_up_role fh88 is_164 is_173 rfl).trans (rfl : h93_0 164 j = h93_0 164 j))
        have a165 : ∀ j : Int, h88 165 j = h93_0 165 j := fun j => ((my_up_role fh88 is_165 is_173 rfl).trans (rfl : h93_0 165 j = h93_0 165 j))
        have a166 : ∀ j : Int, h88 166 j = h93_0 166 j := fun j => ((my_up_role fh88 is_166 is_173 rfl).trans (rfl : h93_0 166 j = h93_0 166 j))
        have a167 : ∀ j : Int, h88 167 j = h93_0 167 j := fun j => ((my_up_role fh88 is_167 is_173 rfl).trans (rfl : h93_0 167 j = h93_0 167 j))
        have m3 : ∀ j : Int, h88 153 j = h93_0 153 j := fun j => ((my_up_role fh88 is_153 is_173 rfl).trans (rfl : h93_0 153 j = h93_0 153 j))
        have m4 : ∀ j : Int, h88 154 j = h93_0 154 j := fun j => ((my_up_role fh88 is_154 is_173 rfl).trans (rfl : h93_0 154 j = h93_0 154 j))
        have m5 : ∀ j : Int, h88 155 j = h93_0 155 j := fun j => ((my_up_role fh88 is_155 is_173 rfl).trans (rfl : h93_0 155 j = h93_0 155 j))
        have ce89 : h88 151 7 = 0 := ((my_up_role fh88 is_151 is_173 rfl).trans c151_7_93_0)
        exact ih_93_0 ((p93_0 + 1)) h88 (gh88) (by omega) (by omega) (by omega) (by omega) (((my_up_role fh88 is_151 is_173 rfl).trans c151_0_93_0).trans (by omega)) (((my_up_role fh88 is_151 is_173 rfl).trans c151_2_93_0).trans (by omega)) (((my_up_role fh88 is_151 is_173 rfl).trans c151_7_93_0).trans (by omega)) (((my_up_role fh88 is_151 is_173 rfl).trans c151_8_93_0).trans (by omega)) Mw_h88 Mw3_h88 Wrd_h88 Wd9_h88 Ko_h88 (by rw [a167]; first | exact k67 | exact z6_93_0) (by intro k a b c e; rw [a164] at c; rw [a165] at e; rw [a166]; first | exact u9_93_0 k a b c e | exact un_9_0 (by omega) k a (by omega) c e) (Tok_h88) (by first | exact (fun j => a164 j) | exact (fun j => (a164 j).trans (i4_9_0 j)) | exact (fun j => (a164 j).trans (i4_93_0 j)) | exact (fun j => (a164 j).trans (i4_119_0 j)) | omega) (by first | (obtain ⟨n, nl, q⟩ := mt0; exact ⟨n, nl, Mt_cg q m3 m4 m5⟩) | (obtain ⟨n, nl, q⟩ := mt_93_0; exact ⟨n, nl, Mt_cg q m3 m4 m5⟩) | exact ⟨n9, nl9, Mt_cg q9 m3 m4 m5⟩ | omega) (by omega) (by first | exact nu0 | exact nv_93_0 | exact nv_119_0 | omega) (by omega)
  have J9_0 : ∀ (n : Nat) (p9_0 p9_1 : Int) (h9_0 : my_H), my_fr [(10, 0), (10, 2), (10, 3), (10, 7), (10, 8), (10, 27), (10, 32), (10, 33), (52, -1), (53, -1), (54, -1), (63, -1), (64, -1), (65, -1), (66, -1), (67, -1), (68, -1), (69, -1), (70, -1), (71, -1), (72, -1), (73, -1), (74, -1), (75, -1), (76, -1), (77, -1), (78, -1), (79, -1)] h h9_0 → 0 ≤ p9_0 → p9_0 ≤ 1 → 0 ≤ p9_1 → p9_1 ≤ 6 → p9_0 ≤ p9_1 → h9_0 151 0 = 0 → Mw h9_0 → Mw3 h9_0 → Wrd h9_0 → Wd9 h9_0 → Ko h h9_0 → (p9_0 = 0 → ∀ k : Int, 0 ≤ k → k < p9_1 → h9_0 164 k = 1 → h9_0 165 k = 0 → h9_0 166 k ≠ x1) → (p9_0 = 1 → ∃ k : Int, 0 ≤ k ∧ k ≤ 5 ∧ h 164 k = 1 ∧ h 165 k = 0 ∧ h 166 k = x1) → (∀ j : Int, h9_0 164 j = h 164 j) → (∀ j : Int, h9_0 165 j = h 165 j) → (∀ j : Int, h9_0 166 j = h 166 j) → h9_0 151 2 = h 151 2 → 7 - p9_1 ≤ (n : Int) → wp l rho (d + 5) 168 9 [(2, 151), (0, x1), (0, p9_0), (0, p9_1)] [] h9_0 Q := by
    intro n
    induction n with
    | zero => intro p9_0 p9_1 h9_0 gh_9_0 q0_9_0 q1_9_0 q2_9_0 q3_9_0 q4_9_0 c151_0_9_0 n_Mw_9_0 n_Mw3_9_0 n_Wrd_9_0 n_Wd9_9_0 n_Ko_9_0 un_9_0 uy_9_0 i4_9_0 i5_9_0 i6_9_0 t2_9_0 hm_9_0; exfalso; omega
    | succ n ih_9_0 =>
      intro p9_0 p9_1 h9_0 gh_9_0 q0_9_0 q1_9_0 q2_9_0 q3_9_0 q4_9_0 c151_0_9_0 n_Mw_9_0 n_Mw3_9_0 n_Wrd_9_0 n_Wd9_9_0 n_Ko_9_0 un_9_0 uy_9_0 i4_9_0 i5_9_0 i6_9_0 t2_9_0 hm_9_0
      refine w_iload_n gz_168_9 rfl ?_
      refine w_bipush gz_168_10 (by decide) ?_
      refine w_icge (t := 59) gz_168_12 rfl (fun u90 => ?_) (fun u90 => ?_)
      ·
        refine w_iload_n gz_168_59 rfl ?_
        refine w_iconst gz_168_60 (by decide) ?_
        refine w_iconst gz_168_61 (by decide) ?_
        refine w_inS (k := 0) (as := [(0, 5), (0, 0), (0, x1)]) (r := []) (ls0 := [(0, x1), (0, 0), (0, 5)]) gz_168_62 gm_147 rfl rfl rfl rfl rfl rfl ?_
        refine w_iload_n gz_147_0 rfl ?_
        refine w_iload_n gz_147_1 rfl ?_
        refine w_iclt (t := 14) gz_147_2 rfl (fun u91 => ?_) (fun u91 => ?_)
        ·
          refine w_iconst gz_147_14 (by decide) ?_
          refine w_bret gz_147_15 gm_147 (by omega) (by omega) ?_
          show wp l rho (d + 5) 168 65 [(2, 151), (0, x1), (0, p9_0), (0, p9_1)] [(0, 0)] h9_0 Q
          refine w_ifeq (t := 72) gz_168_65 rfl (fun u92 => ?_) (fun u92 => by exfalso; omega)
          refine w_aload_n gz_168_72 rfl ?_
          refine w_iconst gz_168_73 (by decide) ?_
          refine v_putI (j := 2) gz_168_74 rfl is_151 rd_10 rfl (by omega) (by omega) rfl (fun h93 fh93 => ?_)
          have gh93 : my_fr [(10, 0), (10, 2), (10, 3), (10, 7), (10, 8), (10, 27), (10, 32), (10, 33), (52, -1), (53, -1), (54, -1), (63, -1), (64, -1), (65, -1), (66, -1), (67, -1), (68, -1), (69, -1), (70, -1), (71, -1), (72, -1), (73, -1), (74, -1), (75, -1), (76, -1), (77, -1), (78, -1), (79, -1)] h h93 := my_fr.up gh_9_0 is_151 fh93 rfl
          have Mw_h93 : Mw h93 := Mw_ag (my_ag.up fh93 is_151 rfl) n_Mw_9_0
          have Mw3_h93 : Mw3 h93 := Mw3_ag (my_ag.up fh93 is_151 rfl) n_Mw3_9_0
          have Wrd_h93 : Wrd h93 := Wrd_ag (my_ag.up fh93 is_151 rfl) n_Wrd_9_0
          have Wd9_h93 : Wd9 h93 := Wd9_ag (my_ag.up fh93 is_151 rfl) n_Wd9_9_0
          have Ko_h93 : Ko h h93 := Ko_ag (my_ag.up fh93 is_151 rfl) n_Ko_9_0
          refine w_iconst gz_168_77 (by decide) ?_
          have c94 := ((my_up_fld fh93 (by decide)).trans c151_0_9_0)
          have c95 := (my_up_self fh93)
          exact w_iret gz_168_78 gm_168 (k0 h93 (gh93) (by omega) (by omega) (by first | exact t67 | exact Ko_h93 | exact Or.inl (by omega) | exact Or.inr (uy_9_0 (by omega)) | exact nv_119_0 | exact ⟨n9, nl9, q9, by have q := no_119_0 (by omega); rw [show (-1) = h119_0 151 8 by omega]; exact q⟩ | exact ⟨h119_0, n9, kf, mq_119_0 (by omega), n_Ko_119_0, fun j => my_fr.at gh_119_0 is_157 rfl, bs_119_0 (by omega), nl9, mt9, nv_119_0, by rw [esm9]; exact rm_e (ok_119_0 (by omega)) (k9.1 (by omega))⟩ | omega) (by first | exact t67 | exact Ko_h93 | exact Or.inl (by omega) | exact Or.inr (uy_9_0 (by omega)) | exact nv_119_0 | exact ⟨n9, nl9, q9, by have q := no_119_0 (by omega); rw [show (-1) = h119_0 151 8 by omega]; exact q⟩ | exact ⟨h119_0, n9, kf, mq_119_0 (by omega), n_Ko_119_0, fun j => my_fr.at gh_119_0 is_157 rfl, bs_119_0 (by omega), nl9, mt9, nv_119_0, by rw [esm9]; exact rm_e (ok_119_0 (by omega)) (k9.1 (by omega))⟩ | omega) (by first | exact t67 | exact Ko_h93 | exact Or.inl (by omega) | exact Or.inr (uy_9_0 (by omega)) | exact nv_119_0 | exact ⟨n9, nl9, q9, by have q := no_119_0 (by omega); rw [show (-1) = h119_0 151 8 by omega]; exact q⟩ | exact ⟨h119_0, n9, kf, mq_119_0 (by omega), n_Ko_119_0, fun j => my_fr.at gh_119_0 is_157 rfl, bs_119_0 (by omega), nl9, mt9, nv_119_0, by rw [esm9]; exact rm_e (ok_119_0 (by omega)) (k9.1 (by omega))⟩ | omega) Mw_h93 Mw3_h93 Wrd_h93 Wd9_h93)
        ·
          refine w_iload_n gz_147_5 rfl ?_
          refine w_iload_n gz_147_6 rfl ?_
          refine w_icgt (t := 14) gz_147_7 rfl (fun u96 => ?_) (fun u96 => ?_)
          ·
            refine w_iconst gz_147_14 (by decide) ?_
            refine w_bret gz_147_15 gm_147 (by omega) (by omega) ?_
            show wp l rho (d + 5) 168 65 [(2, 151), (0, x1), (0, p9_0), (0, p9_1)] [(0, 0)] h9_0 Q
            refine w_ifeq (t := 72) gz_168_65 rfl (fun u97 => ?_) (fun u97 => by exfalso; omega)
            refine w_aload_n gz_168_72 rfl ?_
            refine w_iconst gz_168_73 (by decide) ?_
            refine v_putI (j := 2) gz_168_74 rfl is_151 rd_10 rfl (by omega) (by omega) rfl (fun h98 fh98 => ?_)
            have gh98 : my_fr [(10, 0), (10, 2), (10, 3), (10, 7), (10, 8), (10, 27), (10, 32), (10, 33), (52, -1), (53, -1), (54, -1), (63, -1), (64, -1), (65, -1), (66, -1), (67, -1), (68, -1), (69, -1), (70, -1), (71, -1), (72, -1), (73, -1), (74, -1), (75, -1), (76, -1), (77, -1), (78, -1), (79, -1)] h h98 := my_fr.up gh_9_0 is_151 fh98 rfl
            have Mw_h98 : Mw h98 := Mw_ag (my_ag.up fh98 is_151 rfl) n_Mw_9_0
            have Mw3_h98 : Mw3 h98 := Mw3_ag (my_ag.up fh98 is_151 rfl) n_Mw3_9_0
            have Wrd_h98 : Wrd h98 := Wrd_ag (my_ag.up fh98 is_151 rfl) n_Wrd_9_0
            have Wd9_h98 : Wd9 h98 := Wd9_ag (my_ag.up fh98 is_151 rfl) n_Wd9_9_0
            have Ko_h98 : Ko h h98 := Ko_ag (my_ag.up fh98 is_151 rfl) n_Ko_9_0
            refine w_iconst gz_168_77 (by decide) ?_
            have c99 := ((my_up_fld fh98 (by decide)).trans c151_0_9_0)
            have c100 := (my_up_self fh98)
            exact w_iret gz_168_78 gm_168 (k0 h98 (gh98) (by omega) (by omega) (by first | exact t67 | exact Ko_h98 | exact Or.inl (by omega) | exact Or.inr (uy_9_0 (by omega)) | exact nv_119_0 | exact ⟨n9, nl9, q9, by have q := no_119_0 (by omega); rw [show (-1) = h119_0 151 8 by omega]; exact q⟩ | exact ⟨h119_0, n9, kf, mq_119_0 (by omega), n_Ko_119_0, fun j => my_fr.at gh_119_0 is_157 rfl, bs_119_0 (by omega), nl9, mt9, nv_119_0, by rw [esm9]; exact rm_e (ok_119_0 (by omega)) (k9.1 (by omega))⟩ | omega) (by first | exact t67 | exact Ko_h98 | exact Or.inl (by omega) | exact Or.inr (uy_9_0 (by omega)) | exact nv_119_0 | exact ⟨n9, nl9, q9, by have q := no_119_0 (by omega); rw [show (-1) = h119_0 151 8 by omega]; exact q⟩ | exact ⟨h119_0, n9, kf, mq_119_0 (by omega), n_Ko_119_0, fun j => my_fr.at gh_119_0 is_157 rfl, bs_119_0 (by omega), nl9, mt9, nv_119_0, by rw [esm9]; exact rm_e (ok_119_0 (by omega)) (k9.1 (by omega))⟩ | omega) (by first | exact t67 | exact Ko_h98 | exact Or.inl (by omega) | exact Or.inr (uy_9_0 (by omega)) | exact nv_119_0 | exact ⟨n9, nl9, q9, by have q := no_119_0 (by omega); rw [show (-1) = h119_0 151 8 by omega]; exact q⟩ | exact ⟨h119_0, n9, kf, mq_119_0 (by omega), n_Ko_119_0, fun j => my_fr.at gh_119_0 is_157 rfl, bs_119_0 (by omega), nl9, mt9, nv_119_0, by rw [esm9]; exact rm_e (ok_119_0 (by omega)) (k9.1 (by omega))⟩ | omega) Mw_h98 Mw3_h98 Wrd_h98 Wd9_h98)
          ·
            refine w_iconst gz_147_10 (by decide) ?_
            refine w_goto (t := 15) gz_147_11 rfl ?_
            refine w_bret gz_147_15 gm_147 (by omega) (by omega) ?_
            show wp l rho (d + 5) 168 65 [(2, 151), (0, x1), (0, p9_0), (0, p9_1)] [(0, 1)] h9_0 Q
            refine w_ifeq (t := 72) gz_168_65 rfl (fun u101 => by exfalso; omega) (fun u101 => ?_)
            refine w_iload_n gz_168_68 rfl ?_
            refine w_ifeq (t := 79) gz_168_69 rfl (fun u102 => ?_) (fun u102 => ?_)
            ·
              have nu0 : ∀ k : Int, 0 ≤ k → k ≤ 5 → h 164 k = 1 → h 165 k = 0 → h 166 k ≠ x1 := fun k a b c d => by
                have q := un_9_0 (by omega) k a (by omega)
                rw [i4_9_0, i5_9_0, i6_9_0] at q
                exact q c d
              refine w_aload_n gz_168_79 rfl ?_
              refine w_inv (k := 6) (as := []) (r := []) (x := 151) (ls0 := [(2, 151), (9, 0), (9, 0), (9, 0), (9, 0), (9, 0), (9, 0)]) gz_168_80 gm_169 rfl is_151 rd_10 rfl rfl rfl rfl rfl (c_Model_cutAll9 (d := (d + 2))   (fun h103 frh103 w104 w105 w106 xp107 Tok_h103t108 => ?_))
              have gh103 : my_fr [(10, 0), (10, 2), (10, 3), (10, 7), (10, 8), (10, 27), (10, 32), (10, 33), (52, -1), (53, -1), (54, -1), (63, -1), (64, -1), (65, -1), (66, -1), (67, -1), (68, -1), (69, -1), (70, -1), (71, -1), (72, -1), (73, -1), (74, -1), (75, -1), (76, -1), (77, -1), (78, -1), (79, -1)] h h103 := my_fr.tr gh_9_0 (frh103.mo rfl)
              have Mw_h103 : Mw h103 := Mw_ag (my_ag.fr frh103 rfl) n_Mw_9_0
              have Mw3_h103 : Mw3 h103 := Mw3_ag (my_ag.fr frh103 rfl) n_Mw3_9_0
              have Wrd_h103 : Wrd h103 := Wrd_ag (my_ag.fr frh103 rfl) n_Wrd_9_0
              have Wd9_h103 : Wd9 h103 := Wd9_ag (my_ag.fr frh103 rfl) n_Wd9_9_0
              have Ko_h103 : Ko h h103 := Ko_ag (my_ag.fr frh103 rfl) n_Ko_9_0
              show wp l rho (d + 5) 168 83 [(2, 151), (0, x1), (0, p9_0), (0, p9_1)] [] h103 Q
              have mt0 : ∃ n : Int, n ≤ 1000 ∧ Mt ((h 152, h 151 2) : (Int → Int) × Int) h103 n := by
                have q := xp107
                rw [show h9_0 152 = h 152 from funext (fun j => my_fr.at gh_9_0 is_152 rfl), t2_9_0] at q
                exact q
              refine w_aload_n gz_168_83 rfl ?_
              refine w_getX (v := 167) gz_168_84 is_151 rd_10 rfl (by decide) rfl ?_
              refine w_bipush gz_168_87 (by decide) ?_
              refine w_iconst gz_168_89 (by decide) ?_
              refine w_iast gz_168_90 is_167 rd_66 (by omega) (by omega) (by omega) (by omega) (fun h110 fh110 => ?_)
              have gh110 : my_fr [(10, 0), (10, 2), (10, 3), (10, 7), (10, 8), (10, 27), (10, 32), (10, 33), (52, -1), (53, -1), (54, -1), (63, -1), (64, -1), (65, -1), (66, -1), (67, -1), (68, -1), (69, -1), (70, -1), (71, -1), (72, -1), (73, -1), (74, -1), (75, -1), (76, -1), (77, -1), (78, -1), (79, -1)] h h110 := my_fr.up gh103 is_167 fh110 rfl
              have Wrd_h110 : Wrd h110 := Wrd_ag (my_ag.up fh110 is_167 rfl) Wrd_h103
              have Wd9_h110 : Wd9 h110 := Wd9_ag (my_ag.up fh110 is_167 rfl) Wd9_h103
              have Ko_h110 : Ko h h110 := Ko_7 (a := 167) hwv (by decide) (by omega) fh110 Ko_h103
              have Tok_h110 : Tok h110 := Tok_ag (my_ag.up fh110 is_167 rfl) Tok_h103t108
              have Mw3_h110t111 : Mw3 h110 := Mw3_6 (by decide) fh110 Mw3_h103
              have Mw_h110t112 : Mw h110 := (Mw3_6 (by decide) fh110 Mw3_h103).mw
              have k67 := my_up_self fh110
              refine w_iconst gz_168_91 (by decide) ?_
              refine w_istore_n (ls' := [(2, 151), (0, x1), (0, p9_0), (0, 0)]) gz_168_92 gm_168 rfl rfl rfl ?_
              have a164 : ∀ j : Int, h110 164 j = h9_0 164 j := fun j => ((my_up_role fh110 is_164 is_167 rfl).trans ((my_fr.at frh103 is_164 rfl).trans (rfl : h9_0 164 j = h9_0 164 j)))
              have a165 : ∀ j : Int, h110 165 j = h9_0 165 j := fun j => ((my_up_role fh110 is_165 is_167 rfl).trans ((my_fr.at frh103 is_165 rfl).trans (rfl : h9_0 165 j = h9_0 165 j)))
              have a166 : ∀ j : Int, h110 166 j = h9_0 166 j := fun j => ((my_up_role fh110 is_166 is_167 rfl).trans ((my_fr.at frh103 is_166 rfl).trans (rfl : h9_0 166 j = h9_0 166 j)))
              have a167 : ∀ j : Int, h110 167 j = h110 167 j := fun j => rfl
              have m3 : ∀ j : Int, h110 153 j = h103 153 j := fun j => ((my_up_role fh110 is_153 is_167 rfl).trans (rfl : h103 153 j = h103 153 j))
              have m4 : ∀ j : Int, h110 154 j = h103 154 j := fun j => ((my_up_role fh110 is_154 is_167 rfl).trans (rfl : h103 154 j = h103 154 j))
              have m5 : ∀ j : Int, h110 155 j = h103 155 j := fun j => ((my_up_role fh110 is_155 is_167 rfl).trans (rfl : h103 155 j = h103 155 j))
              have ce113 : h110 151 7 = 0 := ((my_up_role fh110 is_151 is_167 rfl).trans w105)
              rw [show (p9_0 : Int) = 0 from by omega]
              exact J93_0 5 (0) h110 (gh110) (by omega) (by omega) (by omega) (by omega) (((my_up_role fh110 is_151 is_167 rfl).trans ((my_fr.at frh103 is_151 rfl).trans c151_0_9_0)).trans (by omega)) (((my_up_role fh110 is_151 is_167 rfl).trans w104).trans (by omega)) (((my_up_role fh110 is_151 is_167 rfl).trans w105).trans (by omega)) (((my_up_role fh110 is_151 is_167 rfl).trans w106).trans (by omega)) Mw_h110t112 Mw3_h110t111 Wrd_h110 Wd9_h110 Ko_h110 (by rw [a167]; first | exact k67 | exact z6_93_0) (by intro k a b c e; rw [a164] at c; rw [a165] at e; rw [a166]; first | exact u9_93_0 k a b c e | exact un_9_0 (by omega) k a (by omega) c e) (Tok_h110) (by first | exact (fun j => a164 j) | exact (fun j => (a164 j).trans (i4_9_0 j)) | exact (fun j => (a164 j).trans (i4_93_0 j)) | exact (fun j => (a164 j).trans (i4_119_0 j)) | omega) (by first | (obtain ⟨n, nl, q⟩ := mt0; exact ⟨n, nl, Mt_cg q m3 m4 m5⟩) | (obtain ⟨n, nl, q⟩ := mt_93_0; exact ⟨n, nl, Mt_cg q m3 m4 m5⟩) | exact ⟨n9, nl9, Mt_cg q9 m3 m4 m5⟩ | omega) (by omega) (by first | exact nu0 | exact nv_93_0 | exact nv_119_0 | omega) (by omega)
            ·
              refine w_aload_n gz_168_72 rfl ?_
              refine w_iconst gz_168_73 (by decide) ?_
              refine v_putI (j := 2) gz_168_74 rfl is_151 rd_10 rfl (by omega) (by omega) rfl (fun h114 fh114 => ?_)
              have gh114 : my_fr [(10, 0), (10, 2), (10, 3), (10, 7), (10, 8), (10, 27), (10, 32), (10, 33), (52, -1), (53, -1), (54, -1), (63, -1), (64, -1), (65, -1), (66, -1), (67, -1), (68, -1), (69, -1), (70, -1), (71, -1), (72, -1), (73, -1), (74, -1), (75, -1), (76, -1), (77, -1), (78, -1), (79, -1)] h h114 := my_fr.up gh_9_0 is_151 fh114 rfl
              have Mw_h114 : Mw h114 := Mw_ag (my_ag.up fh114 is_151 rfl) n_Mw_9_0
              have Mw3_h114 : Mw3 h114 := Mw3_ag (my_ag.up fh114 is_151 rfl) n_Mw3_9_0
              have Wrd_h114 : Wrd h114 := Wrd_ag (my_ag.up fh114 is_151 rfl) n_Wrd_9_0
              have Wd9_h114 : Wd9 h114 := Wd9_ag (my_ag.up fh114 is_151 rfl) n_Wd9_9_0
              have Ko_h114 : Ko h h114 := Ko_ag (my_ag.up fh114 is_151 rfl) n_Ko_9_0
              refine w_iconst gz_168_77 (by decide) ?_
              have c115 := ((my_up_fld fh114 (by decide)).trans c151_0_9_0)
              have c116 := (my_up_self fh114)
              exact w_iret gz_168_78 gm_168 (k0 h114 (gh114) (by omega) (by omega) (by first | exact t67 | exact Ko_h114 | exact Or.inl (by omega) | exact Or.inr (uy_9_0 (by omega)) | exact nv_119_0 | exact ⟨n9, nl9, q9, by have q := no_119_0 (by omega); rw [show (-1) = h119_0 151 8 by omega]; exact q⟩ | exact ⟨h119_0, n9, kf, mq_119_0 (by omega), n_Ko_119_0, fun j => my_fr.at gh_119_0 is_157 rfl, bs_119_0 (by omega), nl9, mt9, nv_119_0, by rw [esm9]; exact rm_e (ok_119_0 (by omega)) (k9.1 (by omega))⟩ | omega) (by first | exact t67 | exact Ko_h114 | exact Or.inl (by omega) | exact Or.inr (uy_9_0 (by omega)) | exact nv_119_0 | exact ⟨n9, nl9, q9, by have q := no_119_0 (by omega); rw [show (-1) = h119_0 151 8 by omega]; exact q⟩ | exact ⟨h119_0, n9, kf, mq_119_0 (by omega), n_Ko_119_0, fun j => my_fr.at gh_119_0 is_157 rfl, bs_119_0 (by omega), nl9, mt9, nv_119_0, by rw [esm9]; exact rm_e (ok_119_0 (by omega)) (k9.1 (by omega))⟩ | omega) (by first | exact t67 | exact Ko_h114 | exact Or.inl (by omega) | exact Or.inr (uy_9_0 (by omega)) | exact nv_119_0 | exact ⟨n9, nl9, q9, by have q := no_119_0 (by omega); rw [show (-1) = h119_0 151 8 by omega]; exact q⟩ | exact ⟨h119_0, n9, kf, mq_119_0 (by omega), n_Ko_119_0, fun j => my_fr.at gh_119_0 is_157 rfl, bs_119_0 (by omega), nl9, mt9, nv_119_0, by rw [esm9]; exact rm_e (ok_119_0 (by omega)) (k9.1 (by omega))⟩ | omega) Mw_h114 Mw3_h114 Wrd_h114 Wd9_h114)
      ·
        refine w_iload_n gz_168_15 rfl ?_
        refine w_ifne (t := 47) gz_168_16 rfl (fun u117 => ?_) (fun u117 => ?_)
        ·
          refine w_iconst gz_168_47 (by decide) ?_
          refine w_goto (t := 52) gz_168_48 rfl ?_
          refine w_istore_n (ls' := [(2, 151), (0, x1), (0, 1), (0, p9_1)]) gz_168_52 gm_168 rfl rfl rfl ?_
          refine w_iinc (ls' := [(2, 151), (0, x1), (0, 1), (0, (p9_1 + 1))]) gz_168_53 rfl gm_168 rfl rfl rfl ⟨by omega, by omega⟩ ?_
          refine w_goto (t := 9) gz_168_56 rfl ?_
          have a164 : ∀ j : Int, h9_0 164 j = h9_0 164 j := fun _ => rfl
          have a165 : ∀ j : Int, h9_0 165 j = h9_0 165 j := fun _ => rfl
          have a166 : ∀ j : Int, h9_0 166 j = h9_0 166 j := fun _ => rfl
          exact ih_9_0 (1) ((p9_1 + 1)) h9_0 (gh_9_0) (by omega) (by omega) (by omega) (by omega) (by omega) (c151_0_9_0.trans (by omega)) n_Mw_9_0 n_Mw3_9_0 n_Wrd_9_0 n_Wd9_9_0 n_Ko_9_0 (by first | (intro _ k a b; exfalso; omega) | (intro q; exfalso; omega) | (intro q k a b c e; rw [a164] at c; rw [a165] at e; rw [a166]; rcases (by omega : k = p9_1 ∨ k < p9_1) with z | z <;> first | exact un_9_0 (by omega) k a z c e | (subst z; omega) | (subst_vars; omega)) | omega) (by first | (intro q; exfalso; omega) | exact uy_9_0 | exact (fun _ => uy_9_0 (by omega)) | exact (fun _ => ⟨p9_1, by omega, by omega, by rw [← i4_9_0]; omega, by rw [← i5_9_0]; omega, by rw [← i6_9_0]; omega⟩) | omega) (by first | exact (fun j => a164 j) | exact (fun j => (a164 j).trans (i4_9_0 j)) | exact (fun j => (a164 j).trans (i4_93_0 j)) | exact (fun j => (a164 j).trans (i4_119_0 j)) | omega) (by first | exact (fun j => a165 j) | exact (fun j => (a165 j).trans (i5_9_0 j)) | omega) (by first | exact (fun j => a166 j) | exact (fun j => (a166 j).trans (i6_9_0 j)) | omega) (by omega) (by omega)
        ·
          refine w_aload_n gz_168_19 rfl ?_
          refine w_getX (v := 164) gz_168_20 is_151 rd_10 rfl (by decide) rfl ?_
          refine w_iload_n gz_168_23 rfl ?_
          refine w_bald gz_168_24 is_164 rd_63 (by omega) (by omega) (fun v119 ev119 pv119 qv119 => ?_)
          refine w_ifeq (t := 51) gz_168_25 rfl (fun u120 => ?_) (fun u120 => ?_)
          ·
            refine w_iconst gz_168_51 (by decide) ?_
            refine w_istore_n (ls' := [(2, 151), (0, x1), (0, 0), (0, p9_1)]) gz_168_52 gm_168 rfl rfl rfl ?_
            refine w_iinc (ls' := [(2, 151), (0, x1), (0, 0), (0, (p9_1 + 1))]) gz_168_53 rfl gm_168 rfl rfl rfl ⟨by omega, by omega⟩ ?_
            refine w_goto (t := 9) gz_168_56 rfl ?_
            have a164 : ∀ j : Int, h9_0 164 j = h9_0 164 j := fun _ => rfl
            have a165 : ∀ j : Int, h9_0 165 j = h9_0 165 j := fun _ => rfl
            have a166 : ∀ j : Int, h9_0 166 j = h9_0 166 j := fun _ => rfl
            exact ih_9_0 (0) ((p9_1 + 1)) h9_0 (gh_9_0) (by omega) (by omega) (by omega) (by omega) (by omega) (c151_0_9_0.trans (by omega)) n_Mw_9_0 n_Mw3_9_0 n_Wrd_9_0 n_Wd9_9_0 n_Ko_9_0 (by first | (intro _ k a b; exfalso; omega) | (intro q; exfalso; omega) | (intro q k a b c e; rw [a164] at c; rw [a165] at e; rw [a166]; rcases (by omega : k = p9_1 ∨ k < p9_1) with z | z <;> first | exact un_9_0 (by omega) k a z c e | (subst z; omega) | (subst_vars; omega)) | omega) (by first | (intro q; exfalso; omega) | exact uy_9_0 | exact (fun _ => uy_9_0 (by omega)) | exact (fun _ => ⟨p9_1, by omega, by omega, by rw [← i4_9_0]; omega, by rw [← i5_9_0]; omega, by rw [← i6_9_0]; omega⟩) | omega) (by first | exact (fun j => a164 j) | exact (fun j => (a164 j).trans (i4_9_0 j)) | exact (fun j => (a164 j).trans (i4_93_0 j)) | exact (fun j => (a164 j).trans (i4_119_0 j)) | omega) (by first | exact (fun j => a165 j) | exact (fun j => (a165 j).trans (i5_9_0 j)) | omega) (by first | exact (fun j => a166 j) | exact (fun j => (a166 j).trans (i6_9_0 j)) | omega) (by omega) (by omega)
          ·
            refine w_aload_n gz_168_28 rfl ?_
            refine w_getX (v := 165) gz_168_29 is_151 rd_10 rfl (by decide) rfl ?_
            refine w_iload_n gz_168_32 rfl ?_
            refine w_bald gz_168_33 is_165 rd_64 (by omega) (by omega) (fun v122 ev122 pv122 qv122 => ?_)
            refine w_ifne (t := 51) gz_168_34 rfl (fun u123 => ?_) (fun u123 => ?_)
            ·
              refine w_iconst gz_168_51 (by decide) ?_
              refine w_istore_n (ls' := [(2, 151), (0, x1), (0, 0), (0, p9_1)]) gz_168_52 gm_168 rfl rfl rfl ?_
              refine w_iinc (ls' := [(2, 151), (0, x1), (0, 0), (0, (p9_1 + 1))]) gz_168_53 rfl gm_168 rfl rfl rfl ⟨by omega, by omega⟩ ?_
              refine w_goto (t := 9) gz_168_56 rfl ?_
              have a164 : ∀ j : Int, h9_0 164 j = h9_0 164 j := fun _ => rfl
              have a165 : ∀ j : Int, h9_0 165 j = h9_0 165 j := fun _ => rfl
              have a166 : ∀ j : Int, h9_0 166 j = h9_0 166 j := fun _ => rfl
              exact ih_9_0 (0) ((p9_1 + 1)) h9_0 (gh_9_0) (by omega) (by omega) (by omega) (by omega) (by omega) (c151_0_9_0.trans (by omega)) n_Mw_9_0 n_Mw3_9_0 n_Wrd_9_0 n_Wd9_9_0 n_Ko_9_0 (by first | (intro _ k a b; exfalso; omega) | (intro q; exfalso; omega) | (intro q k a b c e; rw [a164] at c; rw [a165] at e; rw [a166]; rcases (by omega : k = p9_1 ∨ k < p9_1) with z | z <;> first | exact un_9_0 (by omega) k a z c e | (subst z; omega) | (subst_vars; omega)) | omega) (by first | (intro q; exfalso; omega) | exact uy_9_0 | exact (fun _ => uy_9_0 (by omega)) | exact (fun _ => ⟨p9_1, by omega, by omega, by rw [← i4_9_0]; omega, by rw [← i5_9_0]; omega, by rw [← i6_9_0]; omega⟩) | omega) (by first | exact (fun j => a164 j) | exact (fun j => (a164 j).trans (i4_9_0 j)) | exact (fun j => (a164 j).trans (i4_93_0 j)) | exact (fun j => (a164 j).trans (i4_119_0 j)) | omega) (by first | exact (fun j => a165 j) | exact (fun j => (a165 j).trans (i5_9_0 j)) | omega) (by first | exact (fun j => a166 j) | exact (fun j => (a166 j).trans (i6_9_0 j)) | omega) (by omega) (by omega)
            ·
              refine w_aload_n gz_168_37 rfl ?_
              refine w_getX (v := 166) gz_168_38 is_151 rd_10 rfl (by decide) rfl ?_
              refine w_iload_n gz_168_41 rfl ?_
              refine w_iald gz_168_42 is_166 rd_65 (by omega) (by omega) (fun v125 ev125 pv125 qv125 => ?_)
              refine w_iload_n gz_168_43 rfl ?_
              refine w_icne (t := 51) gz_168_44 rfl (fun u126 => ?_) (fun u126 => ?_)
              ·
                refine w_iconst gz_168_51 (by decide) ?_
                refine w_istore_n (ls' := [(2, 151), (0, x1), (0, 0), (0, p9_1)]) gz_168_52 gm_168 rfl rfl rfl ?_
                refine w_iinc (ls' := [(2, 151), (0, x1), (0, 0), (0, (p9_1 + 1))]) gz_168_53 rfl gm_168 rfl rfl rfl ⟨by omega, by omega⟩ ?_
                refine w_goto (t := 9) gz_168_56 rfl ?_
                have a164 : ∀ j : Int, h9_0 164 j = h9_0 164 j := fun _ => rfl
                have a165 : ∀ j : Int, h9_0 165 j = h9_0 165 j := fun _ => rfl
                have a166 : ∀ j : Int, h9_0 166 j = h9_0 166 j := fun _ => rfl
                exact ih_9_0 (0) ((p9_1 + 1)) h9_0 (gh_9_0) (by omega) (by omega) (by omega) (by omega) (by omega) (c151_0_9_0.trans (by omega)) n_Mw_9_0 n_Mw3_9_0 n_Wrd_9_0 n_Wd9_9_0 n_Ko_9_0 (by first | (intro _ k a b; exfalso; omega) | (intro q; exfalso; omega) | (intro q k a b c e; rw [a164] at c; rw [a165] at e; rw [a166]; rcases (by omega : k = p9_1 ∨ k < p9_1) with z | z <;> first | exact un_9_0 (by omega) k a z c e | (subst z; omega) | (subst_vars; omega)) | omega) (by first | (intro q; exfalso; omega) | exact uy_9_0 | exact (fun _ => uy_9_0 (by omega)) | exact (fun _ => ⟨p9_1, by omega, by omega, by rw [← i4_9_0]; omega, by rw [← i5_9_0]; omega, by rw [← i6_9_0]; omega⟩) | omega) (by first | exact (fun j => a164 j) | exact (fun j => (a164 j).trans (i4_9_0 j)) | exact (fun j => (a164 j).trans (i4_93_0 j)) | exact (fun j => (a164 j).trans (i4_119_0 j)) | omega) (by first | exact (fun j => a165 j) | exact (fun j => (a165 j).trans (i5_9_0 j)) | omega) (by first | exact (fun j => a166 j) | exact (fun j => (a166 j).trans (i6_9_0 j)) | omega) (by omega) (by omega)
              ·
                refine w_iconst gz_168_47 (by decide) ?_
                refine w_goto (t := 52) gz_168_48 rfl ?_
                refine w_istore_n (ls' := [(2, 151), (0, x1), (0, 1), (0, p9_1)]) gz_168_52 gm_168 rfl rfl rfl ?_
                refine w_iinc (ls' := [(2, 151), (0, x1), (0, 1), (0, (p9_1 + 1))]) gz_168_53 rfl gm_168 rfl rfl rfl ⟨by omega, by omega⟩ ?_
                refine w_goto (t := 9) gz_168_56 rfl ?_
                have a164 : ∀ j : Int, h9_0 164 j = h9_0 164 j := fun _ => rfl
                have a165 : ∀ j : Int, h9_0 165 j = h9_0 165 j := fun _ => rfl
                have a166 : ∀ j : Int, h9_0 166 j = h9_0 166 j := fun _ => rfl
                exact ih_9_0 (1) ((p9_1 + 1)) h9_0 (gh_9_0) (by omega) (by omega) (by omega) (by omega) (by omega) (c151_0_9_0.trans (by omega)) n_Mw_9_0 n_Mw3_9_0 n_Wrd_9_0 n_Wd9_9_0 n_Ko_9_0 (by first | (intro _ k a b; exfalso; omega) | (intro q; exfalso; omega) | (intro q k a b c e; rw [a164] at c; rw [a165] at e; rw [a166]; rcases (by omega : k = p9_1 ∨ k < p9_1) with z | z <;> first | exact un_9_0 (by omega) k a z c e | (subst z; omega) | (subst_vars; omega)) | omega) (by first | (intro q; exfalso; omega) | exact uy_9_0 | exact (fun _ => uy_9_0 (by omega)) | exact (fun _ => ⟨p9_1, by omega, by omega, by rw [← i4_9_0]; omega, by rw [← i5_9_0]; omega, by rw [← i6_9_0]; omega⟩) | omega) (by first | exact (fun j => a164 j) | exact (fun j => (a164 j).trans (i4_9_0 j)) | exact (fun j => (a164 j).trans (i4_93_0 j)) | exact (fun j => (a164 j).trans (i4_119_0 j)) | omega) (by first | exact (fun j => a165 j) | exact (fun j => (a165 j).trans (i5_9_0 j)) | omega) (by first | exact (fun j => a166 j) | exact (fun j => (a166 j).trans (i6_9_0 j)) | omega) (by omega) (by omega)
  refine w_aload_n gz_168_0 rfl ?_
  refine w_iconst gz_168_1 (by decide) ?_
  refine v_putI (j := 0) gz_168_2 rfl is_151 rd_10 rfl (by omega) (by omega) rfl (fun h127 fh127 => ?_)
  have gh127 : my_fr [(10, 0), (10, 2), (10, 3), (10, 7), (10, 8), (10, 27), (10, 32), (10, 33), (52, -1), (53, -1), (54, -1), (63, -1), (64, -1), (65, -1), (66, -1), (67, -1), (68, -1), (69, -1), (70, -1), (71, -1), (72, -1), (73, -1), (74, -1), (75, -1), (76, -1), (77, -1), (78, -1), (79, -1)] h h127 := my_fr.up my_fr.rf is_151 fh127 rfl
  have Mw_h127 : Mw h127 := Mw_ag (my_ag.up fh127 is_151 rfl) n_Mw
  have Mw3_h127 : Mw3 h127 := Mw3_ag (my_ag.up fh127 is_151 rfl) n_Mw3
  have Wrd_h127 : Wrd h127 := Wrd_ag (my_ag.up fh127 is_151 rfl) n_Wrd
  have Wd9_h127 : Wd9 h127 := Wd9_ag (my_ag.up fh127 is_151 rfl) n_Wd9
  have Ko_h127 : Ko h h127 := Ko_ag (my_ag.up fh127 is_151 rfl) (Ko_rf)
  refine w_iconst gz_168_5 (by decide) ?_
  refine w_istore_n (ls' := [(2, 151), (0, x1), (0, 0), (9, 0)]) gz_168_6 gm_168 rfl rfl rfl ?_
  refine w_iconst gz_168_7 (by decide) ?_
  refine w_istore_n (ls' := [(2, 151), (0, x1), (0, 0), (0, 0)]) gz_168_8 gm_168 rfl rfl rfl ?_
  have a164 : ∀ j : Int, h127 164 j = h 164 j := fun j => ((my_up_role fh127 is_164 is_151 rfl).trans (rfl : h 164 j = h 164 j))
  have a165 : ∀ j : Int, h127 165 j = h 165 j := fun j => ((my_up_role fh127 is_165 is_151 rfl).trans (rfl : h 165 j = h 165 j))
  have a166 : ∀ j : Int, h127 166 j = h 166 j := fun j => ((my_up_role fh127 is_166 is_151 rfl).trans (rfl : h 166 j = h 166 j))
  have ce128 : h127 151 2 = h 151 2 := ((my_up_fld fh127 (by decide)).trans (rfl : h 151 2 = h 151 2))
  exact J9_0 7 (0) (0) h127 (gh127) (by omega) (by omega) (by omega) (by omega) (by omega) ((my_up_self fh127).trans (by omega)) Mw_h127 Mw3_h127 Wrd_h127 Wd9_h127 Ko_h127 (by first | (intro _ k a b; exfalso; omega) | (intro q; exfalso; omega) | (intro q k a b c e; rw [a164] at c; rw [a165] at e; rw [a166]; rcases (by omega : k = p9_1 ∨ k < p9_1) with z | z <;> first | exact un_9_0 (by omega) k a z c e | (subst z; omega) | (subst_vars; omega)) | omega) (by first | (intro q; exfalso; omega) | exact uy_9_0 | exact (fun _ => uy_9_0 (by omega)) | exact (fun _ => ⟨p9_1, by omega, by omega, by rw [← i4_9_0]; omega, by rw [← i5_9_0]; omega, by rw [← i6_9_0]; omega⟩) | omega) (by first | exact (fun j => a164 j) | exact (fun j => (a164 j).trans (i4_9_0 j)) | exact (fun j => (a164 j).trans (i4_93_0 j)) | exact (fun j => (a164 j).trans (i4_119_0 j)) | omega) (by first | exact (fun j => a165 j) | exact (fun j => (a165 j).trans (i5_9_0 j)) | omega) (by first | exact (fun j => a166 j) | exact (fun j => (a166 j).trans (i6_9_0 j)) | omega) (by omega) (by omega)
set_option maxHeartbeats 4000000 in
theorem c_Reader_read9 {l : Launch} {rho : Nat → Int32} {d : Nat} {h : my_H} {Q : my_H → my_V → Prop} {x1 : Int} {wv : Int} (a1 : 0 ≤ x1) (b1 : x1 ≤ 5) (hwv : wv ≤ 5) (hwv0 : 0 ≤ wv) (n_Ln : Ln h) (n_Un : Un h wv) (hwx : wv = x1) (k0 : ∀ (h' : my_H) (y : Int), my_fr [(4, 0), (4, 1), (4, 2), (4, 3), (4, 4), (4, 5), (4, 6), (4, 7), (4, 8), (4, 9), (5, 2), (5, 4), (5, 5), (5, 6), (5, 7), (5, 8), (5, 9), (22, -1), (32, -1), (33, -1), (34, -1), (35, -1), (36, -1), (37, -1), (38, -1), (39, -1)] h h' → 1 ≤ y → y ≤ 16005 → h' 82 4 = 0 → 1 ≤ h' 82 9 → h' 82 9 ≤ 16005 → rdF h x1 y → Lo h h' → Ln h' → Q h' (0, y)) (k1 : ∀ (h' : my_H), my_fr [(4, 0), (4, 1), (4, 2), (4, 3), (4, 4), (4, 5), (4, 6), (4, 7), (4, 8), (4, 9), (5, 2), (5, 4), (5, 5), (5, 6), (5, 7), (5, 8), (5, 9), (22, -1), (32, -1), (33, -1), (34, -1), (35, -1), (36, -1), (37, -1), (38, -1), (39, -1)] h h' → h' 82 4 = 0 → h' 82 9 = 0 → (∃ c b o : Int, readR (cs h) (h 2) (cT h) (cW h) (cB h) x1 (tS (tp_of h) 0) 0 c b o ∧ NewL h h' x1 c b o) → Ln h' → Q h' (0, 0)) : wp l rho (d + 8) 36 0 [(2, 82), (0, x1), (9, 0)] [] h Q := by
  refine v_know (x := 82) (j := 4) (b := 4) rfl is_82 rd_5 rfl (fun k82_4 ek82_4 pk82_4 qk82_4 => ?_)
  have J21_0 : ∀ (n : Nat) (p21_0 p21_1 : Int) (h21_0 : my_H), my_fr [(4, 0), (4, 1), (4, 2), (4, 3), (4, 4), (4, 5), (4, 6), (4, 7), (4, 8), (4, 9), (5, 2), (5, 4), (5, 5), (5, 6), (5, 7), (5, 8), (5, 9), (22, -1), (32, -1), (33, -1), (34, -1), (35, -1), (36, -1), (37, -1), (38, -1), (39, -1)] h h21_0 → 0 ≤ p21_0 → p21_0 ≤ 1001 → 0 ≤ p21_1 → p21_1 ≤ 16005 → h21_0 82 4 = k82_4 → h21_0 82 9 = p21_1 → Ln h21_0 → Un h21_0 wv → Lo h h21_0 → (h21_0 82 9 = 0 → Sp h21_0 wv) → Al h21_0 → Cu h21_0 → h21_0 82 4 = h 82 4 → h21_0 82 2 = h 82 2 → (h21_0 82 9 = 0 → rdI h h21_0 x1) → (h21_0 82 9 ≠ 0 → rdF h x1 (h21_0 82 9)) → (h21_0 82 9 = 0 → p21_0 ≤ h21_0 82 7) → 1002 - p21_0 ≤ (n : Int) → wp l rho (d + 8) 36 21 [(2, 82), (0, x1), (0, p21_0)] [] h21_0 Q := by
    intro n
    induction n with
    | zero => intro p21_0 p21_1 h21_0 gh_21_0 q0_21_0 q1_21_0 q2_21_0 q3_21_0 c82_4_21_0 c82_9_21_0 n_Ln_21_0 n_Un_21_0 n_Lo_21_0 sp_21_0 al_21_0 cu_21_0 n4_21_0 e2_21_0 ok_21_0 no_21_0 pl_21_0 hm_21_0; exfalso; omega
    | succ n ih_21_0 =>
      intro p21_0 p21_1 h21_0 gh_21_0 q0_21_0 q1_21_0 q2_21_0 q3_21_0 c82_4_21_0 c82_9_21_0 n_Ln_21_0 n_Un_21_0 n_Lo_21_0 sp_21_0 al_21_0 cu_21_0 n4_21_0 e2_21_0 ok_21_0 no_21_0 pl_21_0 hm_21_0
      have Al_h21_0t1 : Al h21_0 := al_21_0
      have Cu_h21_0t2 : Cu h21_0 := cu_21_0
      have te : cs h21_0 = cs h := cs_eq (fun j => my_fr.at gh_21_0 is_92 rfl) n4_21_0
      have tp2 : tp_of h21_0 = tp_of h := tp_eq (fun j => my_fr.at gh_21_0 is_92 rfl) n4_21_0
      have vd : Vd (tp_of h) (h21_0 82 7) := by rw [← tp2]; exact Cu_vd cu_21_0
      have t2 : h21_0 2 = h 2 := funext (fun j => my_fr.at gh_21_0 is_2 rfl)
      have ck := Cu_s cu_21_0
      rw [te] at ck
      have cb := (cu_21_0).1.2.1
      refine w_iload_n gz_36_21 rfl ?_
      refine w_sipush gz_36_22 (by decide) ?_
      refine w_icgt (t := 52) gz_36_25 rfl (fun u3 => ?_) (fun u3 => ?_)
      ·
        refine w_aload_n gz_36_52 rfl ?_
        refine w_iconst gz_36_53 (by decide) ?_
        refine v_putI (j := 4) gz_36_54 rfl is_82 rd_5 rfl (by omega) (by omega) rfl (fun h4 fh4 => ?_)
        have gh4 : my_fr [(4, 0), (4, 1), (4, 2), (4, 3), (4, 4), (4, 5), (4, 6), (4, 7), (4, 8), (4, 9), (5, 2), (5, 4), (5, 5), (5, 6), (5, 7), (5, 8), (5, 9), (22, -1), (32, -1), (33, -1), (34, -1), (35, -1), (36, -1), (37, -1), (38, -1), (39, -1)] h h4 := my_fr.up gh_21_0 is_82 fh4 rfl
        have Ln_h4 : Ln h4 := Ln_ag (my_ag.up fh4 is_82 rfl) n_Ln_21_0
        have Un_h4 : Un h4 wv := Un_ag (my_ag.up fh4 is_82 rfl) n_Ln_21_0 n_Un_21_0
        have Lo_h4 : Lo h h4 := Lo_ag (my_ag.up fh4 is_82 rfl) n_Ln_21_0 n_Lo_21_0
        refine w_aload_n gz_36_57 rfl ?_
        refine v_getI (j := 9) gz_36_58 rfl is_82 rd_5 rfl (fun v5 ev5 pv5 qv5 => ?_)
        have zv5 := ev5.trans ((my_up_fld fh4 (by decide)).trans c82_9_21_0)
        refine w_ifne (t := 94) gz_36_61 rfl (fun u6 => ?_) (fun u6 => ?_)
        ·
          refine w_aload_n gz_36_94 rfl ?_
          refine v_getI (j := 9) gz_36_95 rfl is_82 rd_5 rfl (fun v7 ev7 pv7 qv7 => ?_)
          have zv7 := ev7.trans ev5.symm
          have psR : h4 82 7 = h21_0 82 7 := ((my_up_fld fh4 (by decide)).trans (rfl : h21_0 82 7 = h21_0 82 7))
          have c8 := (my_up_self fh4)
          have c9 := ev7.symm
          exact w_iret gz_36_98 gm_36 (k0 h4 (v7) (gh4) (by omega) (by omega) (by omega) (by omega) (by omega) (by first | exact Lo_h4 | (have q := no_21_0 (by omega); rw [show v7 = h21_0 82 9 by omega]; exact q) | exact ⟨_, _, _, rdz_e (ok_21_0 (by omega)) (by omega), NewL_swap LoA LnA (by first | assumption | omega) (by omega) (by omega) no_such_saying no_such_saying fh4 (by rw [sS]; exact gA 4) (by rw [sS]; exact gA 3) (by rw [sS]; exact gA 1)⟩ | omega) (by first | exact Lo_h4 | (have q := no_21_0 (by omega); rw [show v7 = h21_0 82 9 by omega]; exact q) | exact ⟨_, _, _, rdz_e (ok_21_0 (by omega)) (by omega), NewL_swap LoA LnA (by first | assumption | omega) (by omega) (by omega) no_such_saying no_such_saying fh4 (by rw [sS]; exact gA 4) (by rw [sS]; exact gA 3) (by rw [sS]; exact gA 1)⟩ | omega) Ln_h4)
        ·
          have Sp_h4t10 : Sp h4 wv := Sp_ag (my_ag.up fh4 is_82 rfl) hwv n_Ln_21_0 (sp_21_0 (by omega))
          refine w_aload_n gz_36_64 rfl ?_
          refine w_getX (v := 27) gz_36_65 is_82 rd_5 rfl (by decide) rfl ?_
          refine w_iload_n gz_36_68 rfl ?_
          refine w_aald gz_36_69 is_27 rd_22 rfl (by omega) (by omega) (fun v12 ev12 tv12 => ?_)
          refine w_astore_n (ls' := [(2, 82), (0, x1), (2, v12)]) gz_36_70 gm_36 rfl rfl rfl ?_
          have LnA := Ln_h4
          have SpA := Sp_h4t10
          have UnA := Un_h4
          have LoA := Lo_h4
          have gA : ∀ f : Int, h4 (h 82 2) f = h21_0 (h 82 2) f := fun f => by
            have hf := ln_far n_Ln_21_0.2.2.2.1
            rw [e2_21_0] at hf
            exact my_up_ne fh4 (by omega)
          have ce13 : h4 82 2 = h21_0 82 2 := ((my_up_fld fh4 (by decide)).trans (rfl : h21_0 82 2 = h21_0 82 2))
          refine w_aload_n gz_36_71 rfl ?_
          refine v_getR (j := 2) gz_36_72 rfl is_82 rd_5 rfl (fun v14 ev14 tv14 => ?_)
          have sS : v14 = h 82 2 := by first | assumption | omega
          refine w_iconst gz_36_75 (by decide) ?_
          refine v_putB (j := 0) gz_36_76 rfl tv14 rd_4 rfl (by omega) (by omega) rfl (fun h15 fh15 => ?_)
          have gh15 : my_fr [(4, 0), (4, 1), (4, 2), (4, 3), (4, 4), (4, 5), (4, 6), (4, 7), (4, 8), (4, 9), (5, 2), (5, 4), (5, 5), (5, 6), (5, 7), (5, 8), (5, 9), (22, -1), (32, -1), (33, -1), (34, -1), (35, -1), (36, -1), (37, -1), (38, -1), (39, -1)] h h15 := my_fr.up gh4 tv14 fh15 rfl
          refine w_aload_n gz_36_79 rfl ?_
          refine w_getX (v := 27) gz_36_80 is_82 rd_5 rfl (by decide) rfl ?_
          refine w_iload_n gz_36_83 rfl ?_
          refine w_aload_n gz_36_84 rfl ?_
          refine v_getR (j := 2) gz_36_85 rfl is_82 rd_5 rfl (fun v17 ev17 tv17 => ?_)
          have zv17 : v14 = v17 := (ev17.trans ((my_up_role fh15 is_82 tv14 rfl).trans ev14.symm)).symm
          subst zv17
          refine w_aast gz_36_88 is_27 rd_22 rfl tv14 rd_4 rfl (by omega) (by omega) (fun h18 fh18 => ?_)
          have gh18 : my_fr [(4, 0), (4, 1), (4, 2), (4, 3), (4, 4), (4, 5), (4, 6), (4, 7), (4, 8), (4, 9), (5, 2), (5, 4), (5, 5), (5, 6), (5, 7), (5, 8), (5, 9), (22, -1), (32, -1), (33, -1), (34, -1), (35, -1), (36, -1), (37, -1), (38, -1), (39, -1)] h h18 := my_fr.up gh15 is_27 fh18 rfl
          refine w_aload_n gz_36_89 rfl ?_
          refine w_aload_n gz_36_90 rfl ?_
          refine v_putR (j := 2) gz_36_91 rfl is_82 rd_5 rfl tv12 rfl (fun h19 fh19 => ?_)
          have gh19 : my_fr [(4, 0), (4, 1), (4, 2), (4, 3), (4, 4), (4, 5), (4, 6), (4, 7), (4, 8), (4, 9), (5, 2), (5, 4), (5, 5), (5, 6), (5, 7), (5, 8), (5, 9), (22, -1), (32, -1), (33, -1), (34, -1), (35, -1), (36, -1), (37, -1), (38, -1), (39, -1)] h h19 := my_fr.up gh18 is_82 fh19 rfl
          have Ln_h19t20 : Ln h19 := Ln_swap LnA SpA (by omega) (by omega) (by have q := UnA; unfold Un at q; exact q) (by first | assumption | omega) (by first | assumption | omega | grind) fh15 (by rw [hwx]; exact fh18) fh19
          refine w_aload_n gz_36_94 rfl ?_
          refine v_getI (j := 9) gz_36_95 rfl is_82 rd_5 rfl (fun v21 ev21 pv21 qv21 => ?_)
          have zv21 := ev21.trans ((my_up_fld fh19 (by decide)).trans ((my_up_role fh18 is_82 is_27 rfl).trans ((my_up_role fh15 is_82 tv14 rfl).trans ev5.symm)))
          have psR : h19 82 7 = h21_0 82 7 := ((my_up_fld fh19 (by decide)).trans ((my_up_role fh18 is_82 is_27 rfl).trans ((my_up_role fh15 is_82 tv14 rfl).trans ((my_up_fld fh4 (by decide)).trans (rfl : h21_0 82 7 = h21_0 82 7)))))
          have c22 := ((my_up_fld fh19 (by decide)).trans ((my_up_role fh18 is_82 is_27 rfl).trans ((my_up_role fh15 is_82 tv14 rfl).trans (my_up_self fh4))))
          have c23 := ev21.symm
          rw [show (v21 : Int) = 0 from by omega]
          exact w_iret gz_36_98 gm_36 (k1 h19 (gh19) (by omega) (by omega) (by first | exact no_such_saying | (have q := no_21_0 (by omega); rw [show v21 = h21_0 82 9 by omega]; exact q) | exact ⟨_, _, _, rdz_e (ok_21_0 (by omega)) (by omega), NewL_swap LoA LnA (by first | assumption | omega) (by omega) (by omega) fh15 fh18 fh19 (by rw [sS]; exact gA 4) (by rw [sS]; exact gA 3) (by rw [sS]; exact gA 1)⟩ | omega) Ln_h19t20)
      ·
        refine w_aload_n gz_36_28 rfl ?_
        refine v_getI (j := 9) gz_36_29 rfl is_82 rd_5 rfl (fun v24 ev24 pv24 qv24 => ?_)
        have zv24 := ev24.trans c82_9_21_0
        refine w_ifne (t := 52) gz_36_32 rfl (fun u25 => ?_) (fun u25 => ?_)
        ·
          refine w_aload_n gz_36_52 rfl ?_
          refine w_iconst gz_36_53 (by decide) ?_
          refine v_putI (j := 4) gz_36_54 rfl is_82 rd_5 rfl (by omega) (by omega) rfl (fun h26 fh26 => ?_)
          have gh26 : my_fr [(4, 0), (4, 1), (4, 2), (4, 3), (4, 4), (4, 5), (4, 6), (4, 7), (4, 8), (4, 9), (5, 2), (5, 4), (5, 5), (5, 6), (5, 7), (5, 8), (5, 9), (22, -1), (32, -1), (33, -1), (34, -1), (35, -1), (36, -1), (37, -1), (38, -1), (39, -1)] h h26 := my_fr.up gh_21_0 is_82 fh26 rfl
          have Ln_h26 : Ln h26 := Ln_ag (my_ag.up fh26 is_82 rfl) n_Ln_21_0
          have Un_h26 : Un h26 wv := Un_ag (my_ag.up fh26 is_82 rfl) n_Ln_21_0 n_Un_21_0
          have Lo_h26 : Lo h h26 := Lo_ag (my_ag.up fh26 is_82 rfl) n_Ln_21_0 n_Lo_21_0
          refine w_aload_n gz_36_57 rfl ?_
          refine v_getI (j := 9) gz_36_58 rfl is_82 rd_5 rfl (fun v27 ev27 pv27 qv27 => ?_)
          have zv27 := ev27.trans ((my_up_fld fh26 (by decide)).trans ev24.symm)
          refine w_ifne (t := 94) gz_36_61 rfl (fun u28 => ?_) (fun u28 => by exfalso; omega)
          refine w_aload_n gz_36_94 rfl ?_
          refine v_getI (j := 9) gz_36_95 rfl is_82 rd_5 rfl (fun v29 ev29 pv29 qv29 => ?_)
          have zv29 := ev29.trans ev27.symm
          have psR : h26 82 7 = h21_0 82 7 := ((my_up_fld fh26 (by decide)).trans (rfl : h21_0 82 7 = h21_0 82 7))
          have c30 := (my_up_self fh26)
          have c31 := ev29.symm
          exact w_iret gz_36_98 gm_36 (k0 h26 (v29) (gh26) (by omega) (by omega) (by omega) (by omega) (by omega) (by first | exact Lo_h26 | (have q := no_21_0 (by omega); rw [show v29 = h21_0 82 9 by omega]; exact q) | exact ⟨_, _, _, rdz_e (ok_21_0 (by omega)) (by omega), NewL_swap LoA LnA (by first | assumption | omega) (by omega) (by omega) no_such_saying no_such_saying fh26 (by rw [sS]; exact gA 4) (by rw [sS]; exact gA 3) (by rw [sS]; exact gA 1)⟩ | omega) (by first | exact Lo_h26 | (have q := no_21_0 (by omega); rw [show v29 = h21_0 82 9 by omega]; exact q) | exact ⟨_, _, _, rdz_e (ok_21_0 (by omega)) (by omega), NewL_swap LoA LnA (by first | assumption | omega) (by omega) (by omega) no_such_saying no_such_saying fh26 (by rw [sS]; exact gA 4) (by rw [sS]; exact gA 3) (by rw [sS]; exact gA 1)⟩ | omega) Ln_h26)
        ·
          refine w_aload_n gz_36_35 rfl ?_
          refine v_getI (j := 6) gz_36_36 rfl is_82 rd_5 rfl (fun v32 ev32 pv32 qv32 => ?_)
          refine w_ifeq (t := 52) gz_36_39 rfl (fun u33 => ?_) (fun u33 => ?_)
          ·
            refine w_aload_n gz_36_52 rfl ?_
            refine w_iconst gz_36_53 (by decide) ?_
            refine v_putI (j := 4) gz_36_54 rfl is_82 rd_5 rfl (by omega) (by omega) rfl (fun h34 fh34 => ?_)
            have gh34 : my_fr [(4, 0), (4, 1), (4, 2), (4, 3), (4, 4), (4, 5), (4, 6), (4, 7), (4, 8), (4, 9), (5, 2), (5, 4), (5, 5), (5, 6), (5, 7), (5, 8), (5, 9), (22, -1), (32, -1), (33, -1), (34, -1), (35, -1), (36, -1), (37, -1), (38, -1), (39, -1)] h h34 := my_fr.up gh_21_0 is_82 fh34 rfl
            have Ln_h34 : Ln h34 := Ln_ag (my_ag.up fh34 is_82 rfl) n_Ln_21_0
            have Un_h34 : Un h34 wv := Un_ag (my_ag.up fh34 is_82 rfl) n_Ln_21_0 n_Un_21_0
            have Lo_h34 : Lo h h34 := Lo_ag (my_ag.up fh34 is_82 rfl) n_Ln_21_0 n_Lo_21_0
            refine w_aload_n gz_36_57 rfl ?_
            refine v_getI (j := 9) gz_36_58 rfl is_82 rd_5 rfl (fun v35 ev35 pv35 qv35 => ?_)
            have zv35 := ev35.trans ((my_up_fld fh34 (by decide)).trans ev24.symm)
            refine w_ifne (t := 94) gz_36_61 rfl (fun u36 => by exfalso; omega) (fun u36 => ?_)
            have Sp_h34t37 : Sp h34 wv := Sp_ag (my_ag.up fh34 is_82 rfl) hwv n_Ln_21_0 (sp_21_0 (by omega))
            refine w_aload_n gz_36_64 rfl ?_
            refine w_getX (v := 27) gz_36_65 is_82 rd_5 rfl (by decide) rfl ?_
            refine w_iload_n gz_36_68 rfl ?_
            refine w_aald gz_36_69 is_27 rd_22 rfl (by omega) (by omega) (fun v39 ev39 tv39 => ?_)
            refine w_astore_n (ls' := [(2, 82), (0, x1), (2, v39)]) gz_36_70 gm_36 rfl rfl rfl ?_
            have LnA := Ln_h34
            have SpA := Sp_h34t37
            have UnA := Un_h34
            have LoA := Lo_h34
            have gA : ∀ f : Int, h34 (h 82 2) f = h21_0 (h 82 2) f := fun f => by
              have hf := ln_far n_Ln_21_0.2.2.2.1
              rw [e2_21_0] at hf
              exact my_up_ne fh34 (by omega)
            have ce40 : h34 82 2 = h21_0 82 2 := ((my_up_fld fh34 (by decide)).trans (rfl : h21_0 82 2 = h21_0 82 2))
            refine w_aload_n gz_36_71 rfl ?_
            refine v_getR (j := 2) gz_36_72 rfl is_82 rd_5 rfl (fun v41 ev41 tv41 => ?_)
            have sS : v41 = h 82 2 := by first | assumption | omega
            refine w_iconst gz_36_75 (by decide) ?_
            refine v_putB (j := 0) gz_36_76 rfl tv41 rd_4 rfl (by omega) (by omega) rfl (fun h42 fh42 => ?_)
            have gh42 : my_fr [(4, 0), (4, 1), (4, 2), (4, 3), (4, 4), (4, 5), (4, 6), (4, 7), (4, 8), (4, 9), (5, 2), (5, 4), (5, 5), (5, 6), (5, 7), (5, 8), (5, 9), (22, -1), (32, -1), (33, -1), (34, -1), (35, -1), (36, -1), (37, -1), (38, -1), (39, -1)] h h42 := my_fr.up gh34 tv41 fh42 rfl
            refine w_aload_n gz_36_79 rfl ?_
            refine w_getX (v := 27) gz_36_80 is_82 rd_5 rfl (by decide) rfl ?_
            refine w_iload_n gz_36_83 rfl ?_
            refine w_aload_n gz_36_84 rfl ?_
            refine v_getR (j := 2) gz_36_85 rfl is_82 rd_5 rfl (fun v44 ev44 tv44 => ?_)
            have zv44 : v41 = v44 := (ev44.trans ((my_up_role fh42 is_82 tv41 rfl).trans ev41.symm)).symm
            subst zv44
            refine w_aast gz_36_88 is_27 rd_22 rfl tv41 rd_4 rfl (by omega) (by omega) (fun h45 fh45 => ?_)
            have gh45 : my_fr [(4, 0), (4, 1), (4, 2), (4, 3), (4, 4), (4, 5), (4, 6), (4, 7), (4, 8), (4, 9), (5, 2), (5, 4), (5, 5), (5, 6), (5, 7), (5, 8), (5, 9), (22, -1), (32, -1), (33, -1), (34, -1), (35, -1), (36, -1), (37, -1), (38, -1), (39, -1)] h h45 := my_fr.up gh42 is_27 fh45 rfl
            refine w_aload_n gz_36_89 rfl ?_
            refine w_aload_n gz_36_90 rfl ?_
            refine v_putR (j := 2) gz_36_91 rfl is_82 rd_5 rfl tv39 rfl (fun h46 fh46 => ?_)
            have gh46 : my_fr [(4, 0), (4, 1), (4, 2), (4, 3), (4, 4), (4, 5), (4, 6), (4, 7), (4, 8), (4, 9), (5, 2), (5, 4), (5, 5), (5, 6), (5, 7), (5, 8), (5, 9), (22, -1), (32, -1), (33, -1), (34, -1), (35, -1), (36, -1), (37, -1), (38, -1), (39, -1)] h h46 := my_fr.up gh45 is_82 fh46 rfl
            have Ln_h46t47 : Ln h46 := Ln_swap LnA SpA (by omega) (by omega) (by have q := UnA; unfold Un at q; exact q) (by first | assumption | omega) (by first | assumption | omega | grind) fh42 (by rw [hwx]; exact fh45) fh46
            refine w_aload_n gz_36_94 rfl ?_
            refine v_getI (j := 9) gz_36_95 rfl is_82 rd_5 rfl (fun v48 ev48 pv48 qv48 => ?_)
            have zv48 := ev48.trans ((my_up_fld fh46 (by decide)).trans ((my_up_role fh45 is_82 is_27 rfl).trans ((my_up_role fh42 is_82 tv41 rfl).trans ev35.symm)))
            have psR : h46 82 7 = h21_0 82 7 := ((my_up_fld fh46 (by decide)).trans ((my_up_role fh45 is_82 is_27 rfl).trans ((my_up_role fh42 is_82 tv41 rfl).trans ((my_up_fld fh34 (by decide)).trans (rfl : h21_0 82 7 = h21_0 82 7)))))
            have c49 := ((my_up_fld fh46 (by decide)).trans ((my_up_role fh45 is_82 is_27 rfl).trans ((my_up_role fh42 is_82 tv41 rfl).trans (my_up_self fh34))))
            have c50 := ev48.symm
            rw [show (v48 : Int) = 0 from by omega]
            exact w_iret gz_36_98 gm_36 (k1 h46 (gh46) (by omega) (by omega) (by first | exact no_such_saying | (have q := no_21_0 (by omega); rw [show v48 = h21_0 82 9 by omega]; exact q) | exact ⟨_, _, _, rdz_e (ok_21_0 (by omega)) (by omega), NewL_swap LoA LnA (by first | assumption | omega) (by omega) (by omega) fh42 fh45 fh46 (by rw [sS]; exact gA 4) (by rw [sS]; exact gA 3) (by rw [sS]; exact gA 1)⟩ | omega) Ln_h46t47)
          ·
            have Sp_h21_0t51 : Sp h21_0 wv := sp_21_0 (by omega)
            refine w_aload_n gz_36_42 rfl ?_
            refine w_inv (k := 5) (as := []) (r := []) (x := 82) (ls0 := [(2, 82), (9, 0), (9, 0), (9, 0), (9, 0), (9, 0)]) gz_36_43 gm_49 rfl is_82 rd_5 rfl rfl rfl rfl rfl (c_Reader_readPane9_f0 (d := d)  (wv := wv) (ev24.symm.trans (by omega)) (by first | assumption | omega) (by first | assumption | omega) n_Ln_21_0 Sp_h21_0t51 Al_h21_0t1 Cu_h21_0t2 (fun h52 frh52 w53 w54 xp55 xp56 Ln_h52t57 Sp_h52t58 Al_h52t59 Cu_h52t60 => ?_) (fun h61 frh61 w62 xp63 xp64 xp65 Ln_h61t66 Sp_h61t67 Al_h61t68 Cu_h61t69 => ?_))
            ·
              have gh52 : my_fr [(4, 0), (4, 1), (4, 2), (4, 3), (4, 4), (4, 5), (4, 6), (4, 7), (4, 8), (4, 9), (5, 2), (5, 4), (5, 5), (5, 6), (5, 7), (5, 8), (5, 9), (22, -1), (32, -1), (33, -1), (34, -1), (35, -1), (36, -1), (37, -1), (38, -1), (39, -1)] h h52 := my_fr.tr gh_21_0 (frh52.mo rfl)
              have Un_h52 : Un h52 wv := Un_ag (my_ag.fr frh52 rfl) n_Ln_21_0 n_Un_21_0
              show wp l rho (d + 8) 36 46 [(2, 82), (0, x1), (0, p21_0)] [] h52 Q
              have pn := xp55
              rw [te, t2, e2_21_0] at pn
              have Lo_h52t70 : Lo h h52 := Lo_tr n_Lo_21_0 xp56
              refine w_iinc (ls' := [(2, 82), (0, x1), (0, (p21_0 + 1))]) gz_36_46 rfl gm_36 rfl rfl rfl ⟨by omega, by omega⟩ ?_
              refine w_goto (t := 21) gz_36_49 rfl ?_
              have psJ : h52 82 7 = h52 82 7 := (rfl : h52 82 7 = h52 82 7)
              have npsJ : cs h52 = cs h21_0 := cs_eq (fun j => ((my_fr.at frh52 is_92 rfl).trans (rfl : h21_0 92 j = h21_0 92 j))) (((my_fr.at frh52 is_82 rfl).trans (rfl : h21_0 82 4 = h21_0 82 4)))
              have ce71 : h52 82 2 = h21_0 82 2 := ((my_fr.at frh52 is_82 rfl).trans (rfl : h21_0 82 2 = h21_0 82 2))
              have ce72 : h52 82 4 = k82_4 := ((my_fr.at frh52 is_82 rfl).trans c82_4_21_0)
              exact ih_21_0 ((p21_0 + 1)) ((h52 82 9)) h52 (gh52) (by omega) (by omega) (by omega) (by omega) (((my_fr.at frh52 is_82 rfl).trans c82_4_21_0).trans (by omega)) ((rfl : h52 82 9 = h52 82 9).trans (by omega)) Ln_h52t57 Un_h52 Lo_h52t70 (by first | exact fun _ => Sp_h52t58 | (intro q; omega) | grind | omega) (Al_h52t59) (Cu_h52t60) (by omega) (by omega) (by first | exact (fun _ => rdz_0 ov (by omega) o9) | exact (fun _ => rdz_s (ok_21_0 (by omega)) (by omega) pn (by omega) pz.2.1 pz.2.2) | (intro q; exfalso; omega) | omega) (by first | exact (fun q => rdz_f ov q) | exact (fun q => rdz_x (ok_21_0 (by omega)) (by omega) pn q) | (intro q; exfalso; omega) | omega) (by first | omega | (intro q; omega) | omega) (by omega)
            ·
              have gh61 : my_fr [(4, 0), (4, 1), (4, 2), (4, 3), (4, 4), (4, 5), (4, 6), (4, 7), (4, 8), (4, 9), (5, 2), (5, 4), (5, 5), (5, 6), (5, 7), (5, 8), (5, 9), (22, -1), (32, -1), (33, -1), (34, -1), (35, -1), (36, -1), (37, -1), (38, -1), (39, -1)] h h61 := my_fr.tr gh_21_0 (frh61.mo rfl)
              have Un_h61 : Un h61 wv := Un_ag (my_ag.fr frh61 rfl) n_Ln_21_0 n_Un_21_0
              show wp l rho (d + 8) 36 46 [(2, 82), (0, x1), (0, p21_0)] [] h61 Q
              have pn := xp63
              rw [te, t2, e2_21_0] at pn
              have pz := xp64
              rw [e2_21_0] at pz
              have z0 : h61 82 9 = 0 := by omega
              have ad : h21_0 82 7 < h61 82 7 := pane_adv (h := h) vd (by have q := pn; rw [z0] at q; exact q)
              have Lo_h61t73 : Lo h h61 := Lo_tr n_Lo_21_0 xp65
              refine w_iinc (ls' := [(2, 82), (0, x1), (0, (p21_0 + 1))]) gz_36_46 rfl gm_36 rfl rfl rfl ⟨by omega, by omega⟩ ?_
              refine w_goto (t := 21) gz_36_49 rfl ?_
              have psJ : h61 82 7 = h61 82 7 := (rfl : h61 82 7 = h61 82 7)
              have npsJ : cs h61 = cs h21_0 := cs_eq (fun j => ((my_fr.at frh61 is_92 rfl).trans (rfl : h21_0 92 j = h21_0 92 j))) (((my_fr.at frh61 is_82 rfl).trans (rfl : h21_0 82 4 = h21_0 82 4)))
              have ce74 : h61 82 2 = h21_0 82 2 := ((my_fr.at frh61 is_82 rfl).trans (rfl : h21_0 82 2 = h21_0 82 2))
              have ce75 : h61 82 4 = k82_4 := ((my_fr.at frh61 is_82 rfl).trans c82_4_21_0)
              exact ih_21_0 ((p21_0 + 1)) (0) h61 (gh61) (by omega) (by omega) (by omega) (by omega) (((my_fr.at frh61 is_82 rfl).trans c82_4_21_0).trans (by omega)) (w62.trans (by omega)) Ln_h61t66 Un_h61 Lo_h61t73 (by first | exact fun _ => Sp_h61t67 | (intro q; omega) | grind | omega) (Al_h61t68) (Cu_h61t69) (by omega) (by omega) (by first | exact (fun _ => rdz_0 ov (by omega) o9) | exact (fun _ => rdz_s (ok_21_0 (by omega)) (by omega) pn (by omega) pz.2.1 pz.2.2) | (intro q; exfalso; omega) | omega) (by first | exact (fun q => rdz_f ov q) | exact (fun q => rdz_x (ok_21_0 (by omega)) (by omega) pn q) | (intro q; exfalso; omega) | omega) (by first | omega | (intro q; omega) | omega) (by omega)
  refine w_aload_n gz_36_0 rfl ?_
  refine w_iconst gz_36_1 (by decide) ?_
  refine v_putI (j := 5) gz_36_2 rfl is_82 rd_5 rfl (by omega) (by omega) rfl (fun h76 fh76 => ?_)
  have gh76 : my_fr [(4, 0), (4, 1), (4, 2), (4, 3), (4, 4), (4, 5), (4, 6), (4, 7), (4, 8), (4, 9), (5, 2), (5, 4), (5, 5), (5, 6), (5, 7), (5, 8), (5, 9), (22, -1), (32, -1), (33, -1), (34, -1), (35, -1), (36, -1), (37, -1), (38, -1), (39, -1)] h h76 := my_fr.up my_fr.rf is_82 fh76 rfl
  have Ln_h76 : Ln h76 := Ln_ag (my_ag.up fh76 is_82 rfl) n_Ln
  have Un_h76 : Un h76 wv := Un_ag (my_ag.up fh76 is_82 rfl) n_Ln n_Un
  have Lo_h76 : Lo h h76 := Lo_ag (my_ag.up fh76 is_82 rfl) n_Ln (Lo_rf)
  refine w_aload_n gz_36_5 rfl ?_
  refine w_iconst gz_36_6 (by decide) ?_
  refine v_putI (j := 9) gz_36_7 rfl is_82 rd_5 rfl (by omega) (by omega) rfl (fun h77 fh77 => ?_)
  have gh77 : my_fr [(4, 0), (4, 1), (4, 2), (4, 3), (4, 4), (4, 5), (4, 6), (4, 7), (4, 8), (4, 9), (5, 2), (5, 4), (5, 5), (5, 6), (5, 7), (5, 8), (5, 9), (22, -1), (32, -1), (33, -1), (34, -1), (35, -1), (36, -1), (37, -1), (38, -1), (39, -1)] h h77 := my_fr.up gh76 is_82 fh77 rfl
  have Ln_h77 : Ln h77 := Ln_ag (my_ag.up fh77 is_82 rfl) Ln_h76
  have Un_h77 : Un h77 wv := Un_ag (my_ag.up fh77 is_82 rfl) Ln_h76 Un_h76
  have Lo_h77 : Lo h h77 := Lo_ag (my_ag.up fh77 is_82 rfl) Ln_h76 Lo_h76
  refine w_aload_n gz_36_10 rfl ?_
  have a92 : ∀ j : Int, h77 92 j = h 92 j := fun j => ((my_up_role fh77 is_92 is_82 rfl).trans ((my_up_role fh76 is_92 is_82 rfl).trans (rfl : h 92 j = h 92 j)))
  have ce78 : h77 82 4 = k82_4 := ((my_up_fld fh77 (by decide)).trans ((my_up_fld fh76 (by decide)).trans ek82_4.symm))
  have ce79 : h77 82 5 = 0 := ((my_up_fld fh77 (by decide)).trans (my_up_self fh76))
  have tpe : tp_of h77 = tp_of h := tp_eq a92 (by omega)
  have z5 : h77 82 5 = 0 := by omega
  have Al_h77t80 : Al h77 := by unfold Al; omega
  refine w_inv (k := 2) (as := []) (r := []) (x := 82) (ls0 := [(2, 82), (9, 0), (9, 0)]) gz_36_11 gm_37 rfl is_82 rd_5 rfl rfl rfl rfl rfl (c_Reader_nextToken9_f0 (d := (d + 6))  ((my_up_self fh77).trans (by omega)) Al_h77t80 (fun h81 frh81 w82 w83 w84 xp85 xp86 Al_h81t87 Cu_h81t88 => ?_))
  have gh81 : my_fr [(4, 0), (4, 1), (4, 2), (4, 3), (4, 4), (4, 5), (4, 6), (4, 7), (4, 8), (4, 9), (5, 2), (5, 4), (5, 5), (5, 6), (5, 7), (5, 8), (5, 9), (22, -1), (32, -1), (33, -1), (34, -1), (35, -1), (36, -1), (37, -1), (38, -1), (39, -1)] h h81 := my_fr.tr gh77 (frh81.mo rfl)
  have Ln_h81 : Ln h81 := Ln_ag (my_ag.fr frh81 rfl) Ln_h77
  have Un_h81 : Un h81 wv := Un_ag (my_ag.fr frh81 rfl) Ln_h77 Un_h77
  have Lo_h81 : Lo h h81 := Lo_ag (my_ag.fr frh81 rfl) Ln_h77 Lo_h77
  show wp l rho (d + 8) 36 14 [(2, 82), (0, x1), (9, 0)] [] h81 Q
  have p0 : h81 82 7 = tS (tp_of h) 0 := by
    have q := xp86
    rw [tpe, z5] at q
    exact q
  refine w_aload_n gz_36_14 rfl ?_
  refine w_iload_n gz_36_15 rfl ?_
  have c27 : ∀ j : Int, h81 27 j = h 27 j := fun j => ((my_fr.at frh81 is_27 rfl).trans ((my_up_role fh77 is_27 is_82 rfl).trans ((my_up_role fh76 is_27 is_82 rfl).trans (rfl : h 27 j = h 27 j))))
  have l0 : ∀ k : Int, h81 k 0 = h k 0 := fun k => ((my_fr.fl frh81 rfl).trans ((my_up_fld fh77 (by decide)).trans ((my_up_fld fh76 (by decide)).trans (rfl : h k 0 = h k 0))))
  have l3 : ∀ k : Int, h81 k 3 = h k 3 := fun k => ((my_fr.fl frh81 rfl).trans ((my_up_fld fh77 (by decide)).trans ((my_up_fld fh76 (by decide)).trans (rfl : h k 3 = h k 3))))
  have l4 : ∀ k : Int, h81 k 4 = h k 4 := fun k => ((my_fr.fl frh81 rfl).trans ((my_up_fld fh77 (by decide)).trans ((my_up_fld fh76 (by decide)).trans (rfl : h k 4 = h k 4))))
  have c2 : ∀ j : Int, h81 2 j = h 2 j := fun j => ((my_fr.at frh81 is_2 rfl).trans ((my_up_role fh77 is_2 is_82 rfl).trans ((my_up_role fh76 is_2 is_82 rfl).trans (rfl : h 2 j = h 2 j))))
  have eT : cT h81 = cT h := funext (fun v => by unfold cT; rw [c27, l0])
  have eW : cW h81 = cW h := funext (fun v => by unfold cW; rw [c27, l4])
  have eB : cB h81 = cB h := funext (fun v => by unfold cB; rw [c27, l3])
  have e2f : h81 2 = h 2 := funext c2
  have ce89 : h81 82 2 = h 82 2 := ((my_fr.at frh81 is_82 rfl).trans ((my_up_fld fh77 (by decide)).trans ((my_up_fld fh76 (by decide)).trans (rfl : h 82 2 = h 82 2))))
  have z2 : h81 82 2 = h 82 2 := by omega
  refine w_inv (k := 1) (as := [(0, x1)]) (r := []) (x := 82) (ls0 := [(2, 82), (0, x1), (9, 0)]) gz_36_16 gm_39 rfl is_82 rd_5 rfl rfl rfl rfl rfl (c_Reader_readOver9_f0 (d := (d + 1)) (x1 := x1) (wv := wv) (by omega) (by omega) (((my_fr.at frh81 is_82 rfl).trans (my_up_self fh77)).trans (by omega)) (by first | assumption | omega) (by first | assumption | omega) Ln_h81 Un_h81 Al_h81t87 Cu_h81t88 (by first | assumption | exact no_such_saying | exact Fp_told (by omega) (by omega) | omega | (subst_vars; omega) | omega) (fun h90 frh90 w91 w92 xp93 xp94 Ln_h90t95 Un_h90t96 Al_h90t97 Cu_h90t98 => ?_) (fun h99 frh99 w100 xp101 xp102 xp103 xp104 xp105 Ln_h99t106 Un_h99t107 Al_h99t108 Cu_h99t109 => ?_))
  ·
    have gh90 : my_fr [(4, 0), (4, 1), (4, 2), (4, 3), (4, 4), (4, 5), (4, 6), (4, 7), (4, 8), (4, 9), (5, 2), (5, 4), (5, 5), (5, 6), (5, 7), (5, 8), (5, 9), (22, -1), (32, -1), (33, -1), (34, -1), (35, -1), (36, -1), (37, -1), (38, -1), (39, -1)] h h90 := my_fr.tr gh81 (frh90.mo rfl)
    show wp l rho (d + 8) 36 19 [(2, 82), (0, x1), (9, 0)] [] h90 Q
    have tE110 : cs h81 = cs h := cs_eq (fun j => ((my_fr.at frh81 is_92 rfl).trans ((my_up_role fh77 is_92 is_82 rfl).trans ((my_up_role fh76 is_92 is_82 rfl).trans (rfl : h 92 j = h 92 j))))) (((my_fr.at frh81 is_82 rfl).trans ((my_up_fld fh77 (by decide)).trans ((my_up_fld fh76 (by decide)).trans (rfl : h 82 4 = h 82 4)))))
    rw [tE110] at xp93
    have ov := xp93
    rw [eT, eW, eB, e2f, p0] at ov
    try rw [z2] at ov
    have Lo_h90t111 : Lo h h90 := Lo_tr Lo_h81 xp94
    have o2 : h90 82 2 = h 82 2 := (my_fr.at frh90 is_82 rfl).trans z2
    refine v_know (x := 82) (j := 7) (b := 7) rfl is_82 rd_5 rfl (fun kk7 ekk7 pkk7 qkk7 => ?_)
    refine w_iconst gz_36_19 (by decide) ?_
    refine w_istore_n (ls' := [(2, 82), (0, x1), (0, 0)]) gz_36_20 gm_36 rfl rfl rfl ?_
    have psJ : h90 82 7 = h90 82 7 := (rfl : h90 82 7 = h90 82 7)
    have npsJ : cs h90 = cs h := cs_eq (fun j => ((my_fr.at frh90 is_92 rfl).trans ((my_fr.at frh81 is_92 rfl).trans ((my_up_role fh77 is_92 is_82 rfl).trans ((my_up_role fh76 is_92 is_82 rfl).trans (rfl : h 92 j = h 92 j)))))) (((my_fr.at frh90 is_82 rfl).trans ((my_fr.at frh81 is_82 rfl).trans ((my_up_fld fh77 (by decide)).trans ((my_up_fld fh76 (by decide)).trans (rfl : h 82 4 = h 82 4))))))
    have ce112 : h90 82 2 = h 82 2 := ((my_fr.at frh90 is_82 rfl).trans ((my_fr.at frh81 is_82 rfl).trans ((my_up_fld fh77 (by decide)).trans ((my_up_fld fh76 (by decide)).trans (rfl : h 82 2 = h 82 2)))))
    have ce113 : h90 82 4 = k82_4 := ((my_fr.at frh90 is_82 rfl).trans ((my_fr.at frh81 is_82 rfl).trans ((my_up_fld fh77 (by decide)).trans ((my_up_fld fh76 (by decide)).trans ek82_4.symm))))
    exact J21_0 1002 (0) ((h90 82 9)) h90 (gh90) (by omega) (by omega) (by omega) (by omega) (((my_fr.at frh90 is_82 rfl).trans ((my_fr.at frh81 is_82 rfl).trans ((my_up_fld fh77 (by decide)).trans ((my_up_fld fh76 (by decide)).trans ek82_4.symm)))).trans (by omega)) ((rfl : h90 82 9 = h90 82 9).trans (by omega)) Ln_h90t95 Un_h90t96 Lo_h90t111 (by first | exact fun _ => no_such_saying | (intro q; omega) | grind | omega) (Al_h90t97) (Cu_h90t98) (by omega) (by omega) (by first | exact (fun _ => rdz_0 ov (by omega) o9) | exact (fun _ => rdz_s (ok_21_0 (by omega)) (by omega) pn (by omega) pz.2.1 pz.2.2) | (intro q; exfalso; omega) | omega) (by first | exact (fun q => rdz_f ov q) | exact (fun q => rdz_x (ok_21_0 (by omega)) (by omega) pn q) | (intro q; exfalso; omega) | omega) (by first | omega | (intro q; omega) | omega) (by omega)
  ·
    have gh99 : my_fr [(4, 0), (4, 1), (4, 2), (4, 3), (4, 4), (4, 5), (4, 6), (4, 7), (4, 8), (4, 9), (5, 2), (5, 4), (5, 5), (5, 6), (5, 7), (5, 8), (5, 9), (22, -1), (32, -1), (33, -1), (34, -1), (35, -1), (36, -1), (37, -1), (38, -1), (39, -1)] h h99 := my_fr.tr gh81 (frh99.mo rfl)
    show wp l rho (d + 8) 36 19 [(2, 82), (0, x1), (9, 0)] [] h99 Q
    have tE114 : cs h81 = cs h := cs_eq (fun j => ((my_fr.at frh81 is_92 rfl).trans ((my_up_role fh77 is_92 is_82 rfl).trans ((my_up_role fh76 is_92 is_82 rfl).trans (rfl : h 92 j = h 92 j))))) (((my_fr.at frh81 is_82 rfl).trans ((my_up_fld fh77 (by decide)).trans ((my_up_fld fh76 (by decide)).trans (rfl : h 82 4 = h 82 4)))))
    rw [tE114] at xp102
    have ov := xp102
    rw [eT, eW, eB, e2f, p0] at ov
    try rw [z2] at ov
    have Lo_h99t115 : Lo h h99 := Lo_tr Lo_h81 xp105
    have Sp_h99t116 : Sp h99 wv := xp101
    have o2 : h99 82 2 = h 82 2 := xp103.trans z2
    have o9 := xp104
    rw [z2] at o9
    refine v_know (x := 82) (j := 7) (b := 7) rfl is_82 rd_5 rfl (fun kk7 ekk7 pkk7 qkk7 => ?_)
    refine w_iconst gz_36_19 (by decide) ?_
    refine w_istore_n (ls' := [(2, 82), (0, x1), (0, 0)]) gz_36_20 gm_36 rfl rfl rfl ?_
    have psJ : h99 82 7 = h99 82 7 := (rfl : h99 82 7 = h99 82 7)
    have npsJ : cs h99 = cs h := cs_eq (fun j => ((my_fr.at frh99 is_92 rfl).trans ((my_fr.at frh81 is_92 rfl).trans ((my_up_role fh77 is_92 is_82 rfl).trans ((my_up_role fh76 is_92 is_82 rfl).trans (rfl : h 92 j = h 92 j)))))) (((my_fr.at frh99 is_82 rfl).trans ((my_fr.at frh81 is_82 rfl).trans ((my_up_fld fh77 (by decide)).trans ((my_up_fld fh76 (by decide)).trans (rfl : h 82 4 = h 82 4))))))
    have ce117 : h99 82 2 = h 82 2 := ((my_fr.at frh99 is_82 rfl).trans ((my_fr.at frh81 is_82 rfl).trans ((my_up_fld fh77 (by decide)).trans ((my_up_fld fh76 (by decide)).trans (rfl : h 82 2 = h 82 2)))))
    have ce118 : h99 82 4 = k82_4 := ((my_fr.at frh99 is_82 rfl).trans ((my_fr.at frh81 is_82 rfl).trans ((my_up_fld fh77 (by decide)).trans ((my_up_fld fh76 (by decide)).trans ek82_4.symm))))
    exact J21_0 1002 (0) (0) h99 (gh99) (by omega) (by omega) (by omega) (by omega) (((my_fr.at frh99 is_82 rfl).trans ((my_fr.at frh81 is_82 rfl).trans ((my_up_fld fh77 (by decide)).trans ((my_up_fld fh76 (by decide)).trans ek82_4.symm)))).trans (by omega)) (w100.trans (by omega)) Ln_h99t106 Un_h99t107 Lo_h99t115 (by first | exact fun _ => Sp_h99t116 | (intro q; omega) | grind | omega) (Al_h99t108) (Cu_h99t109) (by omega) (by omega) (by first | exact (fun _ => rdz_0 ov (by omega) o9) | exact (fun _ => rdz_s (ok_21_0 (by omega)) (by omega) pn (by omega) pz.2.1 pz.2.2) | (intro q; exfalso; omega) | omega) (by first | exact (fun q => rdz_f ov q) | exact (fun q => rdz_x (ok_21_0 (by omega)) (by omega) pn q) | (intro q; exfalso; omega) | omega) (by first | omega | (intro q; omega) | omega) (by omega)
theorem c_ThroughWindow_window9 {l : Launch} {rho : Nat → Int32} {d : Nat} {h : my_H} {Q : my_H → my_V → Prop} {x1 : Int} (n_Ln : Ln h) (k0 : ∀ (h' : my_H), my_fr [(4, 0), (4, 1), (4, 2), (4, 3), (4, 4), (4, 5), (4, 6), (4, 7), (4, 8), (4, 9), (5, 2), (5, 4), (5, 5), (5, 6), (5, 7), (5, 8), (5, 9), (22, -1), (32, -1), (33, -1), (34, -1), (35, -1), (36, -1), (37, -1), (38, -1), (39, -1)] h h' → (((x1 < 0 ∨ 5 < x1) ∨ ∃ v : Int, 0 ≤ v ∧ v ≤ 5 ∧ h (h 27 v) 0 = 1 ∧ h (h 27 v) 1 = x1)) → h' 82 4 = 0 → Lo h h' → Ln h' → Q h' (0, (-1))) (k1 : ∀ (h' : my_H), my_fr [(4, 0), (4, 1), (4, 2), (4, 3), (4, 4), (4, 5), (4, 6), (4, 7), (4, 8), (4, 9), (5, 2), (5, 4), (5, 5), (5, 6), (5, 7), (5, 8), (5, 9), (22, -1), (32, -1), (33, -1), (34, -1), (35, -1), (36, -1), (37, -1), (38, -1), (39, -1)] h h' → 0 ≤ x1 → x1 ≤ 5 → (∀ v : Int, 0 ≤ v → v ≤ 5 → h (h 27 v) 0 = 1 → h (h 27 v) 1 ≠ x1) → (∃ c b o : Int, readR (cs h) (h 2) (cT h) (cW h) (cB h) x1 (tS (tp_of h) 0) 0 c b o ∧ NewL h h' x1 c b o) → h' 82 4 = 0 → Ln h' → Q h' (0, 0)) (k2 : ∀ (h' : my_H) (y : Int), my_fr [(4, 0), (4, 1), (4, 2), (4, 3), (4, 4), (4, 5), (4, 6), (4, 7), (4, 8), (4, 9), (5, 2), (5, 4), (5, 5), (5, 6), (5, 7), (5, 8), (5, 9), (22, -1), (32, -1), (33, -1), (34, -1), (35, -1), (36, -1), (37, -1), (38, -1), (39, -1)] h h' → 1 ≤ y → y ≤ 16005 → 0 ≤ x1 → x1 ≤ 5 → (∀ v : Int, 0 ≤ v → v ≤ 5 → h (h 27 v) 0 = 1 → h (h 27 v) 1 ≠ x1) → rdF h x1 y → h' 82 4 = 0 → Lo h h' → Ln h' → Q h' (0, y)) : wp l rho (d + 9) 34 0 [(2, 0), (0, x1)] [] h Q := by
  refine w_iload_n gz_34_0 rfl ?_
  refine w_iflt (t := 18) gz_34_1 rfl (fun u1 => ?_) (fun u1 => ?_)
  ·
    refine w_aload_n gz_34_18 rfl ?_
    refine w_getX (v := 82) gz_34_19 is_0 rd_9 rfl (by decide) rfl ?_
    refine w_iconst gz_34_22 (by decide) ?_
    refine v_putI (j := 4) gz_34_23 rfl is_82 rd_5 rfl (by omega) (by omega) rfl (fun h3 fh3 => ?_)
    have gh3 : my_fr [(4, 0), (4, 1), (4, 2), (4, 3), (4, 4), (4, 5), (4, 6), (4, 7), (4, 8), (4, 9), (5, 2), (5, 4), (5, 5), (5, 6), (5, 7), (5, 8), (5, 9), (22, -1), (32, -1), (33, -1), (34, -1), (35, -1), (36, -1), (37, -1), (38, -1), (39, -1)] h h3 := my_fr.up my_fr.rf is_82 fh3 rfl
    have Ln_h3 : Ln h3 := Ln_ag (my_ag.up fh3 is_82 rfl) n_Ln
    have Lo_h3 : Lo h h3 := Lo_ag (my_ag.up fh3 is_82 rfl) n_Ln (Lo_rf)
    refine w_iconst gz_34_26 (by decide) ?_
    have ce4 : h3 82 4 = 0 := (my_up_self fh3)
    exact w_iret gz_34_27 gm_34 (k0 h3 (gh3) (by first | assumption | exact Lo_h3 | exact Or.inl (by omega) | exact Or.inr un | omega) (by first | assumption | exact Lo_h3 | exact Or.inl (by omega) | exact Or.inr un | omega) (by first | assumption | exact Lo_h3 | exact Or.inl (by omega) | exact Or.inr un | omega) Ln_h3)
  ·
    refine w_iload_n gz_34_4 rfl ?_
    refine w_bipush gz_34_5 (by decide) ?_
    refine w_icge (t := 18) gz_34_7 rfl (fun u5 => ?_) (fun u5 => ?_)
    ·
      refine w_aload_n gz_34_18 rfl ?_
      refine w_getX (v := 82) gz_34_19 is_0 rd_9 rfl (by decide) rfl ?_
      refine w_iconst gz_34_22 (by decide) ?_
      refine v_putI (j := 4) gz_34_23 rfl is_82 rd_5 rfl (by omega) (by omega) rfl (fun h7 fh7 => ?_)
      have gh7 : my_fr [(4, 0), (4, 1), (4, 2), (4, 3), (4, 4), (4, 5), (4, 6), (4, 7), (4, 8), (4, 9), (5, 2), (5, 4), (5, 5), (5, 6), (5, 7), (5, 8), (5, 9), (22, -1), (32, -1), (33, -1), (34, -1), (35, -1), (36, -1), (37, -1), (38, -1), (39, -1)] h h7 := my_fr.up my_fr.rf is_82 fh7 rfl
      have Ln_h7 : Ln h7 := Ln_ag (my_ag.up fh7 is_82 rfl) n_Ln
      have Lo_h7 : Lo h h7 := Lo_ag (my_ag.up fh7 is_82 rfl) n_Ln (Lo_rf)
      refine w_iconst gz_34_26 (by decide) ?_
      have ce8 : h7 82 4 = 0 := (my_up_self fh7)
      exact w_iret gz_34_27 gm_34 (k0 h7 (gh7) (by first | assumption | exact Lo_h7 | exact Or.inl (by omega) | exact Or.inr un | omega) (by first | assumption | exact Lo_h7 | exact Or.inl (by omega) | exact Or.inr un | omega) (by first | assumption | exact Lo_h7 | exact Or.inl (by omega) | exact Or.inr un | omega) Ln_h7)
    ·
      refine w_aload_n gz_34_10 rfl ?_
      refine w_iload_n gz_34_11 rfl ?_
      refine w_inv (k := 1) (as := [(0, x1)]) (r := []) (x := 0) (ls0 := [(2, 0), (0, x1), (9, 0)]) gz_34_12 gm_35 rfl is_0 rd_9 rfl rfl rfl rfl rfl (c_ThroughWindow_isUnderAnother9 (d := (d + 8)) (x1 := x1) (by omega) (by omega) (fun xp9 => ?_) (fun xp10 => ?_))
      ·
        show wp l rho (d + 9) 34 15 [(2, 0), (0, x1)] [(0, 0)] h Q
        have nu := xp9
        have Un_ht11 : Un h x1 := xp9
        refine w_ifeq (t := 28) gz_34_15 rfl (fun u12 => ?_) (fun u12 => by exfalso; omega)
        refine w_aload_n gz_34_28 rfl ?_
        refine w_getX (v := 82) gz_34_29 is_0 rd_9 rfl (by decide) rfl ?_
        refine w_iload_n gz_34_32 rfl ?_
        refine w_inv (k := 1) (as := [(0, x1)]) (r := []) (x := 82) (ls0 := [(2, 82), (0, x1), (9, 0)]) gz_34_33 gm_36 rfl is_82 rd_5 rfl rfl rfl rfl rfl (c_Reader_read9 (d := d) (x1 := x1) (wv := x1) (by omega) (by omega) (by first | assumption | omega) (by first | assumption | omega) n_Ln Un_ht11 (by first | assumption | exact no_such_saying | exact Fp_told (by omega) (by omega) | omega | (subst_vars; omega) | omega) (fun h14 v15 frh14 w16 w17 w18 w19 w20 xp21 xp22 Ln_h14t23 => ?_) (fun h24 frh24 w25 w26 xp27 Ln_h24t28 => ?_))
        ·
          have gh14 : my_fr [(4, 0), (4, 1), (4, 2), (4, 3), (4, 4), (4, 5), (4, 6), (4, 7), (4, 8), (4, 9), (5, 2), (5, 4), (5, 5), (5, 6), (5, 7), (5, 8), (5, 9), (22, -1), (32, -1), (33, -1), (34, -1), (35, -1), (36, -1), (37, -1), (38, -1), (39, -1)] h h14 := my_fr.tr my_fr.rf (frh14.mo rfl)
          show wp l rho (d + 9) 34 36 [(2, 0), (0, x1)] [(0, v15)] h14 Q
          have ce29 : h14 82 4 = 0 := w18
          exact w_iret gz_34_36 gm_34 (k2 h14 (v15) (gh14) (by omega) (by omega) (by omega) (by omega) (by first | assumption | exact no_such_saying | exact Or.inl (by omega) | exact Or.inr un | omega) (by first | assumption | exact no_such_saying | exact Or.inl (by omega) | exact Or.inr un | omega) (by first | assumption | exact no_such_saying | exact Or.inl (by omega) | exact Or.inr un | omega) (by first | assumption | exact no_such_saying | exact Or.inl (by omega) | exact Or.inr un | omega) Ln_h14t23)
        ·
          have gh24 : my_fr [(4, 0), (4, 1), (4, 2), (4, 3), (4, 4), (4, 5), (4, 6), (4, 7), (4, 8), (4, 9), (5, 2), (5, 4), (5, 5), (5, 6), (5, 7), (5, 8), (5, 9), (22, -1), (32, -1), (33, -1), (34, -1), (35, -1), (36, -1), (37, -1), (38, -1), (39, -1)] h h24 := my_fr.tr my_fr.rf (frh24.mo rfl)
          show wp l rho (d + 9) 34 36 [(2, 0), (0, x1)] [(0, 0)] h24 Q
          have ce30 : h24 82 4 = 0 := w25
          exact w_iret gz_34_36 gm_34 (k1 h24 (gh24) (by omega) (by omega) (by first | assumption | exact no_such_saying | exact Or.inl (by omega) | exact Or.inr un | omega) (by first | assumption | exact no_such_saying | exact Or.inl (by omega) | exact Or.inr un | omega) (by first | assumption | exact no_such_saying | exact Or.inl (by omega) | exact Or.inr un | omega) Ln_h24t28)
      ·
        show wp l rho (d + 9) 34 15 [(2, 0), (0, x1)] [(0, 1)] h Q
        have un := xp10
        refine w_ifeq (t := 28) gz_34_15 rfl (fun u31 => by exfalso; omega) (fun u31 => ?_)
        refine w_aload_n gz_34_18 rfl ?_
        refine w_getX (v := 82) gz_34_19 is_0 rd_9 rfl (by decide) rfl ?_
        refine w_iconst gz_34_22 (by decide) ?_
        refine v_putI (j := 4) gz_34_23 rfl is_82 rd_5 rfl (by omega) (by omega) rfl (fun h33 fh33 => ?_)
        have gh33 : my_fr [(4, 0), (4, 1), (4, 2), (4, 3), (4, 4), (4, 5), (4, 6), (4, 7), (4, 8), (4, 9), (5, 2), (5, 4), (5, 5), (5, 6), (5, 7), (5, 8), (5, 9), (22, -1), (32, -1), (33, -1), (34, -1), (35, -1), (36, -1), (37, -1), (38, -1), (39, -1)] h h33 := my_fr.up my_fr.rf is_82 fh33 rfl
        have Ln_h33 : Ln h33 := Ln_ag (my_ag.up fh33 is_82 rfl) n_Ln
        have Lo_h33 : Lo h h33 := Lo_ag (my_ag.up fh33 is_82 rfl) n_Ln (Lo_rf)
        refine w_iconst gz_34_26 (by decide) ?_
        have ce34 : h33 82 4 = 0 := (my_up_self fh33)
        exact w_iret gz_34_27 gm_34 (k0 h33 (gh33) (by first | assumption | exact Lo_h33 | exact Or.inl (by omega) | exact Or.inr un | omega) (by first | assumption | exact Lo_h33 | exact Or.inl (by omega) | exact Or.inr un | omega) (by first | assumption | exact Lo_h33 | exact Or.inl (by omega) | exact Or.inr un | omega) Ln_h33)
end MYNModel_window9
