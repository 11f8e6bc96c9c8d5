/-! contracts, printed by wip/gen/gy.py -/
section MYNModel_window7
set_option maxHeartbeats 8000000 in
theorem c_Model_window7 {l : Launch} {rho : Nat → Int32} {d : Nat} {h : my_H} {Q : my_H → my_V → Prop} {x1 : Int} (n_Mw : Mw h) (n_Mw3 : Mw3 h) (n_Wrd : Wrd h) (n_Wd9 : Wd9 h) (k0 : ∀ (h' : my_H), my_fr [(10, 0), (10, 2), (10, 3), (10, 7), (10, 8), (10, 27), (10, 32), (10, 33), (52, -1), (53, -1), (54, -1), (63, -1), (64, -1), (65, -1), (66, -1), (67, -1), (68, -1), (69, -1), (70, -1), (71, -1), (72, -1), (73, -1), (74, -1), (75, -1), (76, -1), (77, -1), (78, -1), (79, -1)] h h' → h' 151 0 = 0 → h' 151 2 = 0 → (((x1 < 0 ∨ 5 < x1) ∨ ∃ k : Int, 0 ≤ k ∧ k ≤ 5 ∧ h 164 k = 1 ∧ h 165 k = 0 ∧ h 166 k = x1)) → Ko h h' → (∀ k : Int, 0 ≤ k → k ≤ 6 → 0 ≤ h 167 k ∧ h 167 k ≤ 6) → Kf h h' → Mw h' → Mw3 h' → Wrd h' → Wd9 h' → Q h' (0, (-1))) (k1 : ∀ (h' : my_H) (y : Int), my_fr [(10, 0), (10, 2), (10, 3), (10, 7), (10, 8), (10, 27), (10, 32), (10, 33), (52, -1), (53, -1), (54, -1), (63, -1), (64, -1), (65, -1), (66, -1), (67, -1), (68, -1), (69, -1), (70, -1), (71, -1), (72, -1), (73, -1), (74, -1), (75, -1), (76, -1), (77, -1), (78, -1), (79, -1)] h h' → 1 ≤ y → y ≤ 16005 → 0 ≤ x1 → x1 ≤ 5 → h' 151 0 = 0 → h' 151 2 = 0 → 1 ≤ h' 151 8 → h' 151 8 ≤ 16005 → (∀ k : Int, 0 ≤ k → k ≤ 5 → h 164 k = 1 → h 165 k = 0 → h 166 k ≠ x1) → (∃ n : Int, n ≤ 1000 ∧ Mt ((h 152, h 151 2) : (Int → Int) × Int) h' n ∧ rmF h h' x1 y) → Ko h h' → (∀ k : Int, 0 ≤ k → k ≤ 6 → 0 ≤ h 167 k ∧ h 167 k ≤ 6) → Kf h h' → Mw h' → Mw3 h' → Wrd h' → Wd9 h' → Q h' (0, y)) (k2 : ∀ (h' : my_H), my_fr [(10, 0), (10, 2), (10, 3), (10, 7), (10, 8), (10, 27), (10, 32), (10, 33), (52, -1), (53, -1), (54, -1), (63, -1), (64, -1), (65, -1), (66, -1), (67, -1), (68, -1), (69, -1), (70, -1), (71, -1), (72, -1), (73, -1), (74, -1), (75, -1), (76, -1), (77, -1), (78, -1), (79, -1)] h h' → 0 ≤ x1 → x1 ≤ 5 → h' 151 0 = 0 → h' 151 2 = 0 → h' 151 8 = 0 → (∃ (g : my_H) (n : Int), KeepF g h' x1 ∧ Mq g x1 ∧ Ko h g ∧ (∀ j : Int, g 157 j = h 157 j) ∧ (∀ B : Int → Int, BwB h B → h 157 (g 151 33) = if g 165 6 = 1 then h 157 (g 166 6) else B (g 166 6)) ∧ n ≤ 1000 ∧ Mt ((h 152, h 151 2) : (Int → Int) × Int) h' n ∧ (∀ k : Int, 0 ≤ k → k ≤ 5 → h 164 k = 1 → h 165 k = 0 → h 166 k ≠ x1) ∧ ∀ W B : Int → Int, MwW h W → BwB h B → readR (sm h') (h 157) (h 164) W B x1 0 0 (g 151 27) (h 157 (g 151 33)) (ovo g 6)) → (∀ k : Int, 0 ≤ k → k ≤ 6 → 0 ≤ h 167 k ∧ h 167 k ≤ 6) → NwM h h' x1 ∧ LoM h h' x1 → Mw h' → Mw3 h' → Wrd h' → Wd9 h' → Q h' (0, 0)) : wp l rho (d + 5) 168 0 [(2, 151), (0, x1), (9, 0), (9, 0)] [] h Q := by
  refine v_all is_167 rd_66 (fun a167 => ?_)
  have hwv : (0 : Int) ≤ 5 := by decide
  have t67 : ∀ k : Int, 0 ≤ k → k ≤ 6 → 0 ≤ h 167 k ∧ h 167 k ≤ 6 := fun k a b => a167 k a (by omega)
  have J119_0 : ∀ (n : Nat) (p119_0 : Int) (h119_0 : my_H), my_fr [(10, 0), (10, 2), (10, 3), (10, 7), (10, 8), (10, 27), (10, 32), (10, 33), (52, -1), (53, -1), (54, -1), (63, -1), (64, -1), (65, -1), (66, -1), (67, -1), (68, -1), (69, -1), (70, -1), (71, -1), (72, -1), (73, -1), (74, -1), (75, -1), (76, -1), (77, -1), (78, -1), (79, -1)] h h119_0 → 0 ≤ x1 → x1 ≤ 5 → 0 ≤ p119_0 → p119_0 ≤ 16005 → h119_0 151 0 = 0 → h119_0 151 2 = 0 → h119_0 151 8 = p119_0 → Mw h119_0 → Mw3 h119_0 → Wrd h119_0 → Wd9 h119_0 → Ko h h119_0 → Kf h h119_0 → (h119_0 151 8 = 0 → Mq h119_0 x1) → (h119_0 151 8 = 0 → ∀ k : Int, 0 ≤ k → k ≤ 5 → h119_0 164 k = 1 → h119_0 165 k = 0 → h119_0 166 k ≠ x1) → Tok h119_0 → 0 ≤ h119_0 151 7 ∧ h119_0 151 7 ≤ 1001 → (∀ j : Int, h119_0 164 j = h 164 j) → (∃ n : Int, n ≤ 1000 ∧ Mt ((h 152, h 151 2) : (Int → Int) × Int) h119_0 n) → (∀ k : Int, 0 ≤ k → k ≤ 5 → h 164 k = 1 → h 165 k = 0 → h 166 k ≠ x1) → (h119_0 151 8 = 0 → rmI h h119_0 x1) → (h119_0 151 8 ≠ 0 → rmF h h119_0 x1 (h119_0 151 8)) → (h119_0 151 8 = 0 → ∀ B : Int → Int, BwB h B → h 157 (h119_0 151 33) = if h119_0 165 6 = 1 then h 157 (h119_0 166 6) else B (h119_0 166 6)) → (h119_0 151 8 = 0 → RmS h h119_0 x1) → 17007 - h119_0 151 7 - h119_0 151 8 ≤ (n : Int) → wp l rho (d + 5) 168 119 [(2, 151), (0, x1), (0, 0), (0, 4)] [] h119_0 Q := by
    intro n
    induction n with
    | zero => intro p119_0 h119_0 gh_119_0 q0_119_0 q1_119_0 q2_119_0 q3_119_0 c151_0_119_0 c151_2_119_0 c151_8_119_0 n_Mw_119_0 n_Mw3_119_0 n_Wrd_119_0 n_Wd9_119_0 n_Ko_119_0 n_Kf_119_0 mq_119_0 s6_119_0 tk_119_0 a1_119_0 i4_119_0 mt_119_0 nv_119_0 ok_119_0 no_119_0 bs_119_0 rs_119_0 hm_119_0; exfalso; omega
    | succ n ih_119_0 =>
      intro p119_0 h119_0 gh_119_0 q0_119_0 q1_119_0 q2_119_0 q3_119_0 c151_0_119_0 c151_2_119_0 c151_8_119_0 n_Mw_119_0 n_Mw3_119_0 n_Wrd_119_0 n_Wd9_119_0 n_Ko_119_0 n_Kf_119_0 mq_119_0 s6_119_0 tk_119_0 a1_119_0 i4_119_0 mt_119_0 nv_119_0 ok_119_0 no_119_0 bs_119_0 rs_119_0 hm_119_0
      have Tok_h119_0t1 : Tok h119_0 := tk_119_0
      obtain ⟨n9, nl9, q9⟩ := mt_119_0
      refine v_all is_167 rd_66 (fun b167 => ?_)
      refine w_aload_n gz_168_119 rfl ?_
      refine v_getI (j := 8) gz_168_120 rfl is_151 rd_10 rfl (fun v2 ev2 pv2 qv2 => ?_)
      have zv2 := ev2.trans c151_8_119_0
      refine w_ifne (t := 145) gz_168_123 rfl (fun u3 => ?_) (fun u3 => ?_)
      ·
        refine w_aload_n gz_168_145 rfl ?_
        refine v_getI (j := 8) gz_168_146 rfl is_151 rd_10 rfl (fun v4 ev4 pv4 qv4 => ?_)
        have zv4 := ev4.trans ev2.symm
        refine w_ifne (t := 157) gz_168_149 rfl (fun u5 => ?_) (fun u5 => by exfalso; omega)
        refine w_aload_n gz_168_157 rfl ?_
        refine v_getI (j := 8) gz_168_158 rfl is_151 rd_10 rfl (fun v6 ev6 pv6 qv6 => ?_)
        have zv6 := ev6.trans ev4.symm
        have c7 := c151_0_119_0
        have c8 := c151_2_119_0
        have c9 := ev6.symm
        exact w_iret gz_168_161 gm_168 (k1 h119_0 (v6) (gh_119_0) (by omega) (by omega) (by omega) (by omega) (by omega) (by omega) (by omega) (by omega) (by first | exact n_Kf_119_0 | exact ⟨NwM_mk (rs_119_0 (by omega)) (k9.1 (by omega)) ⟨kf, kc⟩ esm9 (bs_119_0 (by omega)) e57K (b167 6 (by omega) (by omega)).2, LoM_mk ⟨kf, kc⟩ n_Ko_119_0 n_Kf_119_0⟩ | exact t67 | exact n_Ko_119_0 | exact Or.inl (by omega) | exact Or.inr (uy_9_0 (by omega)) | exact nv_119_0 | exact ⟨n9, nl9, q9, by have q := no_119_0 (by omega); rw [show v6 = h119_0 151 8 by omega]; exact q⟩ | exact ⟨h119_0, n9, kf, mq_119_0 (by omega), n_Ko_119_0, fun j => my_fr.at gh_119_0 is_157 rfl, bs_119_0 (by omega), nl9, mt9, nv_119_0, by rw [esm9]; exact rm_e (ok_119_0 (by omega)) (k9.1 (by omega))⟩ | omega) (by first | exact n_Kf_119_0 | exact ⟨NwM_mk (rs_119_0 (by omega)) (k9.1 (by omega)) ⟨kf, kc⟩ esm9 (bs_119_0 (by omega)) e57K (b167 6 (by omega) (by omega)).2, LoM_mk ⟨kf, kc⟩ n_Ko_119_0 n_Kf_119_0⟩ | exact t67 | exact n_Ko_119_0 | exact Or.inl (by omega) | exact Or.inr (uy_9_0 (by omega)) | exact nv_119_0 | exact ⟨n9, nl9, q9, by have q := no_119_0 (by omega); rw [show v6 = h119_0 151 8 by omega]; exact q⟩ | exact ⟨h119_0, n9, kf, mq_119_0 (by omega), n_Ko_119_0, fun j => my_fr.at gh_119_0 is_157 rfl, bs_119_0 (by omega), nl9, mt9, nv_119_0, by rw [esm9]; exact rm_e (ok_119_0 (by omega)) (k9.1 (by omega))⟩ | omega) (by first | exact n_Kf_119_0 | exact ⟨NwM_mk (rs_119_0 (by omega)) (k9.1 (by omega)) ⟨kf, kc⟩ esm9 (bs_119_0 (by omega)) e57K (b167 6 (by omega) (by omega)).2, LoM_mk ⟨kf, kc⟩ n_Ko_119_0 n_Kf_119_0⟩ | exact t67 | exact n_Ko_119_0 | exact Or.inl (by omega) | exact Or.inr (uy_9_0 (by omega)) | exact nv_119_0 | exact ⟨n9, nl9, q9, by have q := no_119_0 (by omega); rw [show v6 = h119_0 151 8 by omega]; exact q⟩ | exact ⟨h119_0, n9, kf, mq_119_0 (by omega), n_Ko_119_0, fun j => my_fr.at gh_119_0 is_157 rfl, bs_119_0 (by omega), nl9, mt9, nv_119_0, by rw [esm9]; exact rm_e (ok_119_0 (by omega)) (k9.1 (by omega))⟩ | omega) (by first | exact n_Kf_119_0 | exact ⟨NwM_mk (rs_119_0 (by omega)) (k9.1 (by omega)) ⟨kf, kc⟩ esm9 (bs_119_0 (by omega)) e57K (b167 6 (by omega) (by omega)).2, LoM_mk ⟨kf, kc⟩ n_Ko_119_0 n_Kf_119_0⟩ | exact t67 | exact n_Ko_119_0 | exact Or.inl (by omega) | exact Or.inr (uy_9_0 (by omega)) | exact nv_119_0 | exact ⟨n9, nl9, q9, by have q := no_119_0 (by omega); rw [show v6 = h119_0 151 8 by omega]; exact q⟩ | exact ⟨h119_0, n9, kf, mq_119_0 (by omega), n_Ko_119_0, fun j => my_fr.at gh_119_0 is_157 rfl, bs_119_0 (by omega), nl9, mt9, nv_119_0, by rw [esm9]; exact rm_e (ok_119_0 (by omega)) (k9.1 (by omega))⟩ | omega) (by first | exact n_Kf_119_0 | exact ⟨NwM_mk (rs_119_0 (by omega)) (k9.1 (by omega)) ⟨kf, kc⟩ esm9 (bs_119_0 (by omega)) e57K (b167 6 (by omega) (by omega)).2, LoM_mk ⟨kf, kc⟩ n_Ko_119_0 n_Kf_119_0⟩ | exact t67 | exact n_Ko_119_0 | exact Or.inl (by omega) | exact Or.inr (uy_9_0 (by omega)) | exact nv_119_0 | exact ⟨n9, nl9, q9, by have q := no_119_0 (by omega); rw [show v6 = h119_0 151 8 by omega]; exact q⟩ | exact ⟨h119_0, n9, kf, mq_119_0 (by omega), n_Ko_119_0, fun j => my_fr.at gh_119_0 is_157 rfl, bs_119_0 (by omega), nl9, mt9, nv_119_0, by rw [esm9]; exact rm_e (ok_119_0 (by omega)) (k9.1 (by omega))⟩ | omega) n_Mw_119_0 n_Mw3_119_0 n_Wrd_119_0 n_Wd9_119_0)
      ·
        refine w_aload_n gz_168_126 rfl ?_
        refine w_getX (v := 153) gz_168_127 is_151 rd_10 rfl (by decide) rfl ?_
        refine w_aload_n gz_168_130 rfl ?_
        refine v_getI (j := 7) gz_168_131 rfl is_151 rd_10 rfl (fun v11 ev11 pv11 qv11 => ?_)
        refine w_iald gz_168_134 is_153 rd_52 (by omega) (by omega) (fun v12 ev12 pv12 qv12 => ?_)
        have k9 := sK_0 (x := h119_0) (i := h119_0 151 7) (v := v12) (by rw [show h119_0 151 7 = v11 by omega]; omega)
        refine w_ifeq (t := 145) gz_168_135 rfl (fun u13 => ?_) (fun u13 => ?_)
        ·
          refine w_aload_n gz_168_145 rfl ?_
          refine v_getI (j := 8) gz_168_146 rfl is_151 rd_10 rfl (fun v14 ev14 pv14 qv14 => ?_)
          have zv14 := ev14.trans ev2.symm
          refine w_ifne (t := 157) gz_168_149 rfl (fun u15 => by exfalso; omega) (fun u15 => ?_)
          refine w_aload_n gz_168_152 rfl ?_
          refine w_iload_n gz_168_153 rfl ?_
          refine w_inv (k := 4) (as := [(0, x1)]) (r := []) (x := 151) (ls0 := [(2, 151), (0, x1), (9, 0), (9, 0), (9, 0), (9, 0)]) gz_168_154 gm_191 rfl is_151 rd_10 rfl rfl rfl rfl rfl (c_Model_keeps7_f0 (d := (d + 4)) (x1 := x1) (by omega) (by omega) (ev14.symm.trans (by omega)) (mq_119_0 (by omega)) (s6_119_0 (by omega)) (fun h16 frh16 w17 xp18 xp19 Mw3_h16t20 => ?_))
          have gh16 : my_fr [(10, 0), (10, 2), (10, 3), (10, 7), (10, 8), (10, 27), (10, 32), (10, 33), (52, -1), (53, -1), (54, -1), (63, -1), (64, -1), (65, -1), (66, -1), (67, -1), (68, -1), (69, -1), (70, -1), (71, -1), (72, -1), (73, -1), (74, -1), (75, -1), (76, -1), (77, -1), (78, -1), (79, -1)] h h16 := my_fr.tr gh_119_0 (frh16.mo rfl)
          have Wrd_h16 : Wrd h16 := Wrd_ag (my_ag.fr frh16 rfl) n_Wrd_119_0
          have Wd9_h16 : Wd9 h16 := Wd9_ag (my_ag.fr frh16 rfl) n_Wd9_119_0
          have Tok_h16 : Tok h16 := Tok_ag (my_ag.fr frh16 rfl) Tok_h119_0t1
          show wp l rho (d + 5) 168 157 [(2, 151), (0, x1), (0, 0), (0, 4)] [] h16 Q
          have Mw_h16t21 : Mw h16 := (Mw3_h16t20).mw
          have kf := xp18
          have esm9 : sm h16 = sm h119_0 := sm_eq (fun j => my_fr.at frh16 is_153 rfl) (fun j => my_fr.at frh16 is_154 rfl) (fun j => my_fr.at frh16 is_155 rfl)
          have mt9 := Mt_cg q9 (fun j => my_fr.at frh16 is_153 rfl) (fun j => my_fr.at frh16 is_154 rfl) (fun j => my_fr.at frh16 is_155 rfl)
          have kc := xp19
          have e57K : ∀ j : Int, h16 157 j = h119_0 157 j := fun j => my_fr.at frh16 is_157 rfl
          refine w_aload_n gz_168_157 rfl ?_
          refine v_getI (j := 8) gz_168_158 rfl is_151 rd_10 rfl (fun v22 ev22 pv22 qv22 => ?_)
          have zv22 := ev22.trans ((my_fr.at frh16 is_151 rfl).trans ev14.symm)
          have c23 := ((my_fr.at frh16 is_151 rfl).trans c151_0_119_0)
          have c24 := ((my_fr.at frh16 is_151 rfl).trans c151_2_119_0)
          have c25 := ev22.symm
          rw [show (v22 : Int) = 0 from by omega]
          exact w_iret gz_168_161 gm_168 (k2 h16 (gh16) (by omega) (by omega) (by omega) (by omega) (by omega) (by first | exact no_such_saying | exact ⟨NwM_mk (rs_119_0 (by omega)) (k9.1 (by omega)) ⟨kf, kc⟩ esm9 (bs_119_0 (by omega)) e57K (b167 6 (by omega) (by omega)).2, LoM_mk ⟨kf, kc⟩ n_Ko_119_0 n_Kf_119_0⟩ | exact t67 | exact no_such_saying | exact Or.inl (by omega) | exact Or.inr (uy_9_0 (by omega)) | exact nv_119_0 | exact ⟨n9, nl9, q9, by have q := no_119_0 (by omega); rw [show v22 = h119_0 151 8 by omega]; exact q⟩ | exact ⟨h119_0, n9, kf, mq_119_0 (by omega), n_Ko_119_0, fun j => my_fr.at gh_119_0 is_157 rfl, bs_119_0 (by omega), nl9, mt9, nv_119_0, by rw [esm9]; exact rm_e (ok_119_0 (by omega)) (k9.1 (by omega))⟩ | omega) (by first | exact no_such_saying | exact ⟨NwM_mk (rs_119_0 (by omega)) (k9.1 (by omega)) ⟨kf, kc⟩ esm9 (bs_119_0 (by omega)) e57K (b167 6 (by omega) (by omega)).2, LoM_mk ⟨kf, kc⟩ n_Ko_119_0 n_Kf_119_0⟩ | exact t67 | exact no_such_saying | exact Or.inl (by omega) | exact Or.inr (uy_9_0 (by omega)) | exact nv_119_0 | exact ⟨n9, nl9, q9, by have q := no_119_0 (by omega); rw [show v22 = h119_0 151 8 by omega]; exact q⟩ | exact ⟨h119_0, n9, kf, mq_119_0 (by omega), n_Ko_119_0, fun j => my_fr.at gh_119_0 is_157 rfl, bs_119_0 (by omega), nl9, mt9, nv_119_0, by rw [esm9]; exact rm_e (ok_119_0 (by omega)) (k9.1 (by omega))⟩ | omega) (by first | exact no_such_saying | exact ⟨NwM_mk (rs_119_0 (by omega)) (k9.1 (by omega)) ⟨kf, kc⟩ esm9 (bs_119_0 (by omega)) e57K (b167 6 (by omega) (by omega)).2, LoM_mk ⟨kf, kc⟩ n_Ko_119_0 n_Kf_119_0⟩ | exact t67 | exact no_such_saying | exact Or.inl (by omega) | exact Or.inr (uy_9_0 (by omega)) | exact nv_119_0 | exact ⟨n9, nl9, q9, by have q := no_119_0 (by omega); rw [show v22 = h119_0 151 8 by omega]; exact q⟩ | exact ⟨h119_0, n9, kf, mq_119_0 (by omega), n_Ko_119_0, fun j => my_fr.at gh_119_0 is_157 rfl, bs_119_0 (by omega), nl9, mt9, nv_119_0, by rw [esm9]; exact rm_e (ok_119_0 (by omega)) (k9.1 (by omega))⟩ | omega) Mw_h16t21 Mw3_h16t20 Wrd_h16 Wd9_h16)
        ·
          refine w_aload_n gz_168_138 rfl ?_
          have Mq_h119_0t26 : Mq h119_0 x1 := mq_119_0 (by omega)
          have ce27 : h119_0 151 7 = v11 := ev11.symm
          refine w_inv (k := 7) (as := []) (r := []) (x := 151) (ls0 := [(2, 151), (9, 0), (9, 0), (9, 0), (9, 0), (9, 0), (9, 0), (9, 0)]) gz_168_139 gm_185 rfl is_151 rd_10 rfl rfl rfl rfl rfl (c_Model_readPane7_f0 (d := d)  (wv := x1) (ev2.symm.trans (by omega)) (by first | assumption | omega) (by first | assumption | omega) Tok_h119_0t1 Mq_h119_0t26 n_Wrd_119_0 n_Wd9_119_0 (fun h28 frh28 w29 w30 xp31 xp32 xp33 xp34 Tok_h28t35 Mq_h28t36 Wrd_h28t37 Wd9_h28t38 => ?_) (fun h39 frh39 w40 w41 w42 xp43 xp44 xp45 xp46 xp47 Tok_h39t48 Mq_h39t49 Wrd_h39t50 Wd9_h39t51 => ?_))
          ·
            have gh28 : my_fr [(10, 0), (10, 2), (10, 3), (10, 7), (10, 8), (10, 27), (10, 32), (10, 33), (52, -1), (53, -1), (54, -1), (63, -1), (64, -1), (65, -1), (66, -1), (67, -1), (68, -1), (69, -1), (70, -1), (71, -1), (72, -1), (73, -1), (74, -1), (75, -1), (76, -1), (77, -1), (78, -1), (79, -1)] h h28 := my_fr.tr gh_119_0 (frh28.mo rfl)
            have Wrd_h28 : Wrd h28 := Wrd_ag (my_ag.fr frh28 rfl) n_Wrd_119_0
            have Wd9_h28 : Wd9 h28 := Wd9_ag (my_ag.fr frh28 rfl) n_Wd9_119_0
            show wp l rho (d + 5) 168 142 [(2, 151), (0, x1), (0, 0), (0, 4)] [] h28 Q
            have Mw3_h28t52 : Mw3 h28 := (Mq_h28t36).mw3
            have Mw_h28t53 : Mw h28 := (Mq_h28t36).mw3.mw
            have pn := xp32
            have Ko_h28t54 : Ko h h28 := Ko_tr n_Ko_119_0 xp33
            have esm : sm h28 = sm h119_0 := sm_eq (fun j => my_fr.at frh28 is_153 rfl) (fun j => my_fr.at frh28 is_154 rfl) (fun j => my_fr.at frh28 is_155 rfl)
            have e33 : h28 151 33 = h119_0 151 33 := my_fr.at frh28 is_151 rfl
            have eo : ovo h28 6 = ovo h119_0 6 := by unfold ovo; rw [my_fr.at frh28 is_165 rfl, my_fr.at frh28 is_166 rfl]
            have p5 : h28 165 6 = h119_0 165 6 := my_fr.at frh28 is_165 rfl
            have p66 : h28 166 6 = h119_0 166 6 := my_fr.at frh28 is_166 rfl
            have Kf_h28t55 : Kf h h28 := Kf_tr n_Kf_119_0 xp34
            refine w_goto (t := 119) gz_168_142 rfl ?_
            have a164 : ∀ j : Int, h28 164 j = h119_0 164 j := fun j => ((my_fr.at frh28 is_164 rfl).trans (rfl : h119_0 164 j = h119_0 164 j))
            have a165 : ∀ j : Int, h28 165 j = h119_0 165 j := fun j => ((my_fr.at frh28 is_165 rfl).trans (rfl : h119_0 165 j = h119_0 165 j))
            have a166 : ∀ j : Int, h28 166 j = h119_0 166 j := fun j => ((my_fr.at frh28 is_166 rfl).trans (rfl : h119_0 166 j = h119_0 166 j))
            have ce56 : h28 151 8 = (h28 151 8) := (rfl : h28 151 8 = h28 151 8)
            have tq := Tok_at Tok_h28t35
            have m3 : ∀ j : Int, h28 153 j = h119_0 153 j := fun j => ((my_fr.at frh28 is_153 rfl).trans (rfl : h119_0 153 j = h119_0 153 j))
            have m4 : ∀ j : Int, h28 154 j = h119_0 154 j := fun j => ((my_fr.at frh28 is_154 rfl).trans (rfl : h119_0 154 j = h119_0 154 j))
            have m5 : ∀ j : Int, h28 155 j = h119_0 155 j := fun j => ((my_fr.at frh28 is_155 rfl).trans (rfl : h119_0 155 j = h119_0 155 j))
            exact ih_119_0 ((h28 151 8)) h28 (gh28) (by omega) (by omega) (by omega) (by omega) (((my_fr.at frh28 is_151 rfl).trans c151_0_119_0).trans (by omega)) (((my_fr.at frh28 is_151 rfl).trans c151_2_119_0).trans (by omega)) ((rfl : h28 151 8 = h28 151 8).trans (by omega)) Mw_h28t53 Mw3_h28t52 Wrd_h28t37 Wd9_h28t38 Ko_h28t54 Kf_h28t55 (by first | (intro _; exact Mq_h28t36) | (intro q; exfalso; omega) | (intro _; assumption) | omega) (by first | (intro q; exfalso; omega) | (intro _ k a b c e; have z := s56 k b; rw [z.1] at e; rw [z.2]; exact u9_93_0 k a b (by rw [← a164]; exact c) e) | (intro _ k a b c e; rw [a164] at c; rw [a165] at e; rw [a166]; exact s6_119_0 (by omega) k a b c e) | omega) (Tok_h28t35) (by have q := Tok_at Tok_h28t35; omega) (by first | exact (fun j => a164 j) | exact (fun j => (a164 j).trans (i4_9_0 j)) | exact (fun j => (a164 j).trans (i4_93_0 j)) | exact (fun j => (a164 j).trans (i4_119_0 j)) | omega) (by first | (obtain ⟨n, nl, q⟩ := mt0; exact ⟨n, nl, Mt_cg q m3 m4 m5⟩) | (obtain ⟨n, nl, q⟩ := mt_93_0; exact ⟨n, nl, Mt_cg q m3 m4 m5⟩) | exact ⟨n9, nl9, Mt_cg q9 m3 m4 m5⟩ | omega) (by first | exact nu0 | exact nv_93_0 | exact nv_119_0 | omega) (by first | exact (fun _ => rm_0 ov koX (fun j => my_fr.at gh_93_0 is_157 rfl) e57G i4_93_0 t67 (by omega) a0_93_0 esm p6) | exact (fun _ => rm_s (ok_119_0 (by omega)) (k9.2 (by omega)) pn (fun j => my_fr.at gh_119_0 is_157 rfl) (by omega) esm e33 eo) | (intro q; exfalso; omega) | omega) (by first | exact (fun q => rm_f ov koX (fun j => my_fr.at gh_93_0 is_157 rfl) i4_93_0 t67 q a0_93_0 esm) | exact (fun q => rm_x (ok_119_0 (by omega)) (k9.2 (by omega)) pn (fun j => my_fr.at gh_119_0 is_157 rfl) q esm) | (intro q; exfalso; omega) | omega) (by first | exact (fun _ => bs1) | exact (fun _ B hB => by rw [e33, p5, p66]; exact bs_119_0 (by omega) B hB) | (intro q; exfalso; omega) | omega) (by first | exact (fun _ => RmS_0 ov koX (fun j => my_fr.at gh_93_0 is_157 rfl) e57G i4_93_0 t67 (by omega) a0_93_0 esm p6 n69 fl9) | exact (fun _ => RmS_s (rs_119_0 (by omega)) (k9.2 (by omega)) pn (fun j => my_fr.at gh_119_0 is_157 rfl) (by omega) esm e33 eo pq9 e57H p66 (by omega)) | (intro q; exfalso; omega) | omega) (by omega)
          ·
            have gh39 : my_fr [(10, 0), (10, 2), (10, 3), (10, 7), (10, 8), (10, 27), (10, 32), (10, 33), (52, -1), (53, -1), (54, -1), (63, -1), (64, -1), (65, -1), (66, -1), (67, -1), (68, -1), (69, -1), (70, -1), (71, -1), (72, -1), (73, -1), (74, -1), (75, -1), (76, -1), (77, -1), (78, -1), (79, -1)] h h39 := my_fr.tr gh_119_0 (frh39.mo rfl)
            have Wrd_h39 : Wrd h39 := Wrd_ag (my_ag.fr frh39 rfl) n_Wrd_119_0
            have Wd9_h39 : Wd9 h39 := Wd9_ag (my_ag.fr frh39 rfl) n_Wd9_119_0
            show wp l rho (d + 5) 168 142 [(2, 151), (0, x1), (0, 0), (0, 4)] [] h39 Q
            have Mw3_h39t57 : Mw3 h39 := (Mq_h39t49).mw3
            have Mw_h39t58 : Mw h39 := (Mq_h39t49).mw3.mw
            have pn := xp44
            have Ko_h39t59 : Ko h h39 := Ko_tr n_Ko_119_0 xp45
            have esm : sm h39 = sm h119_0 := sm_eq (fun j => my_fr.at frh39 is_153 rfl) (fun j => my_fr.at frh39 is_154 rfl) (fun j => my_fr.at frh39 is_155 rfl)
            have e33 : h39 151 33 = h119_0 151 33 := my_fr.at frh39 is_151 rfl
            have eo : ovo h39 6 = ovo h119_0 6 := by unfold ovo; rw [my_fr.at frh39 is_165 rfl, my_fr.at frh39 is_166 rfl]
            have p5 : h39 165 6 = h119_0 165 6 := my_fr.at frh39 is_165 rfl
            have p66 : h39 166 6 = h119_0 166 6 := my_fr.at frh39 is_166 rfl
            have pq9 := xp46
            refine v_know (x := 151) (j := 27) (b := 27) rfl is_151 rd_10 rfl (fun kk7 ekk7 pkk7 qkk7 => ?_)
            have e57H : ∀ j : Int, h39 157 j = h 157 j := fun j => my_fr.at gh39 is_157 rfl
            have Kf_h39t60 : Kf h h39 := Kf_tr n_Kf_119_0 xp47
            refine w_goto (t := 119) gz_168_142 rfl ?_
            have a164 : ∀ j : Int, h39 164 j = h119_0 164 j := fun j => ((my_fr.at frh39 is_164 rfl).trans (rfl : h119_0 164 j = h119_0 164 j))
            have a165 : ∀ j : Int, h39 165 j = h119_0 165 j := fun j => ((my_fr.at frh39 is_165 rfl).trans (rfl : h119_0 165 j = h119_0 165 j))
            have a166 : ∀ j : Int, h39 166 j = h119_0 166 j := fun j => ((my_fr.at frh39 is_166 rfl).trans (rfl : h119_0 166 j = h119_0 166 j))
            have ce61 : h39 151 7 = (h39 151 7) := (rfl : h39 151 7 = h39 151 7)
            have ce62 : h39 151 8 = 0 := w42
            have tq := Tok_at Tok_h39t48
            have m3 : ∀ j : Int, h39 153 j = h119_0 153 j := fun j => ((my_fr.at frh39 is_153 rfl).trans (rfl : h119_0 153 j = h119_0 153 j))
            have m4 : ∀ j : Int, h39 154 j = h119_0 154 j := fun j => ((my_fr.at frh39 is_154 rfl).trans (rfl : h119_0 154 j = h119_0 154 j))
            have m5 : ∀ j : Int, h39 155 j = h119_0 155 j := fun j => ((my_fr.at frh39 is_155 rfl).trans (rfl : h119_0 155 j = h119_0 155 j))
            exact ih_119_0 (0) h39 (gh39) (by omega) (by omega) (by omega) (by omega) (((my_fr.at frh39 is_151 rfl).trans c151_0_119_0).trans (by omega)) (((my_fr.at frh39 is_151 rfl).trans c151_2_119_0).trans (by omega)) (w42.trans (by omega)) Mw_h39t58 Mw3_h39t57 Wrd_h39t50 Wd9_h39t51 Ko_h39t59 Kf_h39t60 (by first | (intro _; exact Mq_h39t49) | (intro q; exfalso; omega) | (intro _; assumption) | omega) (by first | (intro q; exfalso; omega) | (intro _ k a b c e; have z := s56 k b; rw [z.1] at e; rw [z.2]; exact u9_93_0 k a b (by rw [← a164]; exact c) e) | (intro _ k a b c e; rw [a164] at c; rw [a165] at e; rw [a166]; exact s6_119_0 (by omega) k a b c e) | omega) (Tok_h39t48) (by have q := Tok_at Tok_h39t48; omega) (by first | exact (fun j => a164 j) | exact (fun j => (a164 j).trans (i4_9_0 j)) | exact (fun j => (a164 j).trans (i4_93_0 j)) | exact (fun j => (a164 j).trans (i4_119_0 j)) | omega) (by first | (obtain ⟨n, nl, q⟩ := mt0; exact ⟨n, nl, Mt_cg q m3 m4 m5⟩) | (obtain ⟨n, nl, q⟩ := mt_93_0; exact ⟨n, nl, Mt_cg q m3 m4 m5⟩) | exact ⟨n9, nl9, Mt_cg q9 m3 m4 m5⟩ | omega) (by first | exact nu0 | exact nv_93_0 | exact nv_119_0 | omega) (by first | exact (fun _ => rm_0 ov koX (fun j => my_fr.at gh_93_0 is_157 rfl) e57G i4_93_0 t67 (by omega) a0_93_0 esm p6) | exact (fun _ => rm_s (ok_119_0 (by omega)) (k9.2 (by omega)) pn (fun j => my_fr.at gh_119_0 is_157 rfl) (by omega) esm e33 eo) | (intro q; exfalso; omega) | omega) (by first | exact (fun q => rm_f ov koX (fun j => my_fr.at gh_93_0 is_157 rfl) i4_93_0 t67 q a0_93_0 esm) | exact (fun q => rm_x (ok_119_0 (by omega)) (k9.2 (by omega)) pn (fun j => my_fr.at gh_119_0 is_157 rfl) q esm) | (intro q; exfalso; omega) | omega) (by first | exact (fun _ => bs1) | exact (fun _ B hB => by rw [e33, p5, p66]; exact bs_119_0 (by omega) B hB) | (intro q; exfalso; omega) | omega) (by first | exact (fun _ => RmS_0 ov koX (fun j => my_fr.at gh_93_0 is_157 rfl) e57G i4_93_0 t67 (by omega) a0_93_0 esm p6 n69 fl9) | exact (fun _ => RmS_s (rs_119_0 (by omega)) (k9.2 (by omega)) pn (fun j => my_fr.at gh_119_0 is_157 rfl) (by omega) esm e33 eo pq9 e57H p66 (by omega)) | (intro q; exfalso; omega) | omega) (by omega)
  have J93_0 : ∀ (n : Nat) (p93_0 : Int) (h93_0 : my_H), my_fr [(10, 0), (10, 2), (10, 3), (10, 7), (10, 8), (10, 27), (10, 32), (10, 33), (52, -1), (53, -1), (54, -1), (63, -1), (64, -1), (65, -1), (66, -1), (67, -1), (68, -1), (69, -1), (70, -1), (71, -1), (72, -1), (73, -1), (74, -1), (75, -1), (76, -1), (77, -1), (78, -1), (79, -1)] h h93_0 → 0 ≤ x1 → x1 ≤ 5 → 0 ≤ p93_0 → p93_0 ≤ 4 → h93_0 151 0 = 0 → h93_0 151 2 = 0 → h93_0 151 7 = 0 → h93_0 151 8 = 0 → Mw h93_0 → Mw3 h93_0 → Wrd h93_0 → Wd9 h93_0 → Ko h h93_0 → Kf h h93_0 → h93_0 167 6 = 0 → (∀ k : Int, 0 ≤ k → k ≤ 5 → h93_0 164 k = 1 → h93_0 165 k = 0 → h93_0 166 k ≠ x1) → Tok h93_0 → (∀ j : Int, h93_0 164 j = h 164 j) → (∃ n : Int, n ≤ 1000 ∧ Mt ((h 152, h 151 2) : (Int → Int) × Int) h93_0 n) → h93_0 151 7 = 0 → (∀ k : Int, 0 ≤ k → k ≤ 5 → h 164 k = 1 → h 165 k = 0 → h 166 k ≠ x1) → (∀ c : Int, 0 ≤ c → c < p93_0 → h93_0 173 (24 + c) = -1) → 5 - p93_0 ≤ (n : Int) → wp l rho (d + 5) 168 93 [(2, 151), (0, x1), (0, 0), (0, p93_0)] [] h93_0 Q := by
    intro n
    induction n with
    | zero => intro p93_0 h93_0 gh_93_0 q0_93_0 q1_93_0 q2_93_0 q3_93_0 c151_0_93_0 c151_2_93_0 c151_7_93_0 c151_8_93_0 n_Mw_93_0 n_Mw3_93_0 n_Wrd_93_0 n_Wd9_93_0 n_Ko_93_0 n_Kf_93_0 z6_93_0 u9_93_0 tk_93_0 i4_93_0 mt_93_0 a0_93_0 nv_93_0 fl_93_0 hm_93_0; exfalso; omega
    | succ n ih_93_0 =>
      intro p93_0 h93_0 gh_93_0 q0_93_0 q1_93_0 q2_93_0 q3_93_0 c151_0_93_0 c151_2_93_0 c151_7_93_0 c151_8_93_0 n_Mw_93_0 n_Mw3_93_0 n_Wrd_93_0 n_Wd9_93_0 n_Ko_93_0 n_Kf_93_0 z6_93_0 u9_93_0 tk_93_0 i4_93_0 mt_93_0 a0_93_0 nv_93_0 fl_93_0 hm_93_0
      have Tok_h93_0t63 : Tok h93_0 := tk_93_0
      refine w_iload_n gz_168_93 rfl ?_
      refine w_iconst gz_168_94 (by decide) ?_
      refine w_icge (t := 114) gz_168_95 rfl (fun u64 => ?_) (fun u64 => ?_)
      ·
        refine w_aload_n gz_168_114 rfl ?_
        refine w_iload_n gz_168_115 rfl ?_
        refine w_inv (k := 1) (as := [(0, x1)]) (r := []) (x := 151) (ls0 := [(2, 151), (0, x1), (9, 0)]) gz_168_116 gm_174 rfl is_151 rd_10 rfl rfl rfl rfl rfl (c_Model_readOver7_f0 (d := (d + 1)) (x1 := x1) (by omega) (by omega) (c151_8_93_0.trans (by omega)) Tok_h93_0t63 n_Mw_93_0 n_Mw3_93_0 n_Wd9_93_0 (by first | assumption | exact no_such_saying | exact Fp_told (by omega) (by omega) | omega | (subst_vars; omega) | omega) (fun h65 frh65 w66 w67 xp68 xp69 Tok_h65t70 Mw_h65t71 Mw3_h65t72 Wd9_h65t73 => ?_) (fun h74 frh74 w75 w76 w77 xp78 xp79 xp80 xp81 xp82 xp83 xp84 Tok_h74t85 Mw_h74t86 Mw3_h74t87 Wd9_h74t88 => ?_))
        ·
          have gh65 : my_fr [(10, 0), (10, 2), (10, 3), (10, 7), (10, 8), (10, 27), (10, 32), (10, 33), (52, -1), (53, -1), (54, -1), (63, -1), (64, -1), (65, -1), (66, -1), (67, -1), (68, -1), (69, -1), (70, -1), (71, -1), (72, -1), (73, -1), (74, -1), (75, -1), (76, -1), (77, -1), (78, -1), (79, -1)] h h65 := my_fr.tr gh_93_0 (frh65.mo rfl)
          have Wrd_h65 : Wrd h65 := Wrd_ag (my_ag.fr frh65 rfl) n_Wrd_93_0
          have Wd9_h65 : Wd9 h65 := Wd9_ag (my_ag.fr frh65 rfl) n_Wd9_93_0
          have Kf_h65 : Kf h h65 := Kf_ag (my_ag.fr frh65 rfl) n_Kf_93_0
          show wp l rho (d + 5) 168 119 [(2, 151), (0, x1), (0, 0), (0, p93_0)] [] h65 Q
          have koX := n_Ko_93_0
          have ov := xp68
          have Ko_h65t89 : Ko h h65 := Ko_tr n_Ko_93_0 xp69
          have esm : sm h65 = sm h93_0 := sm_eq (fun j => my_fr.at frh65 is_153 rfl) (fun j => my_fr.at frh65 is_154 rfl) (fun j => my_fr.at frh65 is_155 rfl)
          have a164 : ∀ j : Int, h65 164 j = h93_0 164 j := fun j => ((my_fr.at frh65 is_164 rfl).trans (rfl : h93_0 164 j = h93_0 164 j))
          have a165 : ∀ j : Int, h65 165 j = h65 165 j := fun j => rfl
          have a166 : ∀ j : Int, h65 166 j = h65 166 j := fun j => rfl
          have ce90 : h65 151 8 = (h65 151 8) := (rfl : h65 151 8 = h65 151 8)
          have tq := Tok_at Tok_h65t70
          have m3 : ∀ j : Int, h65 153 j = h93_0 153 j := fun j => ((my_fr.at frh65 is_153 rfl).trans (rfl : h93_0 153 j = h93_0 153 j))
          have m4 : ∀ j : Int, h65 154 j = h93_0 154 j := fun j => ((my_fr.at frh65 is_154 rfl).trans (rfl : h93_0 154 j = h93_0 154 j))
          have m5 : ∀ j : Int, h65 155 j = h93_0 155 j := fun j => ((my_fr.at frh65 is_155 rfl).trans (rfl : h93_0 155 j = h93_0 155 j))
          rw [show (p93_0 : Int) = 4 from by omega]
          exact J119_0 (17007) ((h65 151 8)) h65 (gh65) (by omega) (by omega) (by omega) (by omega) (((my_fr.at frh65 is_151 rfl).trans c151_0_93_0).trans (by omega)) (((my_fr.at frh65 is_151 rfl).trans c151_2_93_0).trans (by omega)) ((rfl : h65 151 8 = h65 151 8).trans (by omega)) Mw_h65t71 Mw3_h65t72 Wrd_h65 Wd9_h65t73 Ko_h65t89 Kf_h65 (by first | (intro _; exact no_such_saying) | (intro q; exfalso; omega) | (intro _; assumption) | omega) (by first | (intro q; exfalso; omega) | (intro _ k a b c e; have z := s56 k b; rw [z.1] at e; rw [z.2]; exact u9_93_0 k a b (by rw [← a164]; exact c) e) | (intro _ k a b c e; rw [a164] at c; rw [a165] at e; rw [a166]; exact s6_119_0 (by omega) k a b c e) | omega) (Tok_h65t70) (by have q := Tok_at Tok_h65t70; omega) (by first | exact (fun j => a164 j) | exact (fun j => (a164 j).trans (i4_9_0 j)) | exact (fun j => (a164 j).trans (i4_93_0 j)) | exact (fun j => (a164 j).trans (i4_119_0 j)) | omega) (by first | (obtain ⟨n, nl, q⟩ := mt0; exact ⟨n, nl, Mt_cg q m3 m4 m5⟩) | (obtain ⟨n, nl, q⟩ := mt_93_0; exact ⟨n, nl, Mt_cg q m3 m4 m5⟩) | exact ⟨n9, nl9, Mt_cg q9 m3 m4 m5⟩ | omega) (by first | exact nu0 | exact nv_93_0 | exact nv_119_0 | omega) (by first | exact (fun _ => rm_0 ov koX (fun j => my_fr.at gh_93_0 is_157 rfl) e57G i4_93_0 t67 (by omega) a0_93_0 esm p6) | exact (fun _ => rm_s (ok_119_0 (by omega)) (k9.2 (by omega)) pn (fun j => my_fr.at gh_119_0 is_157 rfl) (by omega) esm e33 eo) | (intro q; exfalso; omega) | omega) (by first | exact (fun q => rm_f ov koX (fun j => my_fr.at gh_93_0 is_157 rfl) i4_93_0 t67 q a0_93_0 esm) | exact (fun q => rm_x (ok_119_0 (by omega)) (k9.2 (by omega)) pn (fun j => my_fr.at gh_119_0 is_157 rfl) q esm) | (intro q; exfalso; omega) | omega) (by first | exact (fun _ => bs1) | exact (fun _ B hB => by rw [e33, p5, p66]; exact bs_119_0 (by omega) B hB) | (intro q; exfalso; omega) | omega) (by first | exact (fun _ => RmS_0 ov koX (fun j => my_fr.at gh_93_0 is_157 rfl) e57G i4_93_0 t67 (by omega) a0_93_0 esm p6 n69 fl9) | exact (fun _ => RmS_s (rs_119_0 (by omega)) (k9.2 (by omega)) pn (fun j => my_fr.at gh_119_0 is_157 rfl) (by omega) esm e33 eo pq9 e57H p66 (by omega)) | (intro q; exfalso; omega) | omega) (by omega)
        ·
          have gh74 : my_fr [(10, 0), (10, 2), (10, 3), (10, 7), (10, 8), (10, 27), (10, 32), (10, 33), (52, -1), (53, -1), (54, -1), (63, -1), (64, -1), (65, -1), (66, -1), (67, -1), (68, -1), (69, -1), (70, -1), (71, -1), (72, -1), (73, -1), (74, -1), (75, -1), (76, -1), (77, -1), (78, -1), (79, -1)] h h74 := my_fr.tr gh_93_0 (frh74.mo rfl)
          have Wrd_h74 : Wrd h74 := Wrd_ag (my_ag.fr frh74 rfl) n_Wrd_93_0
          have Wd9_h74 : Wd9 h74 := Wd9_ag (my_ag.fr frh74 rfl) n_Wd9_93_0
          have Kf_h74 : Kf h h74 := Kf_ag (my_ag.fr frh74 rfl) n_Kf_93_0
          show wp l rho (d + 5) 168 119 [(2, 151), (0, x1), (0, 0), (0, p93_0)] [] h74 Q
          have s56 := xp79
          have koX := n_Ko_93_0
          have ov := xp80
          have p6 := xp82
          have e57G : ∀ j : Int, h74 157 j = h 157 j := fun j => my_fr.at gh74 is_157 rfl
          have Ko_h74t91 : Ko h h74 := Ko_tr n_Ko_93_0 xp81
          have esm : sm h74 = sm h93_0 := sm_eq (fun j => my_fr.at frh74 is_153 rfl) (fun j => my_fr.at frh74 is_154 rfl) (fun j => my_fr.at frh74 is_155 rfl)
          have bs1 : ∀ B : Int → Int, BwB h B → h 157 (h74 151 33) = if h74 165 6 = 1 then h 157 (h74 166 6) else B (h74 166 6) := fun B hB => by
            have q := xp83 B (BwB_ko koX (fun j => my_fr.at gh_93_0 is_157 rfl) hB)
            have e7 : ∀ j : Int, h93_0 157 j = h 157 j := fun j => my_fr.at gh_93_0 is_157 rfl
            simp only [e7] at q
            exact q
          have n69 := xp84
          have fl9 : ∀ c : Int, 0 ≤ c → c ≤ 3 → h74 173 (24 + c) = -1 := fun c a b => (my_fr.at frh74 is_173 rfl).trans (fl_93_0 c a (by omega))
          have a164 : ∀ j : Int, h74 164 j = h93_0 164 j := fun j => ((my_fr.at frh74 is_164 rfl).trans (rfl : h93_0 164 j = h93_0 164 j))
          have a165 : ∀ j : Int, h74 165 j = h74 165 j := fun j => rfl
          have a166 : ∀ j : Int, h74 166 j = h74 166 j := fun j => rfl
          have ce92 : h74 151 7 = (h74 151 7) := (rfl : h74 151 7 = h74 151 7)
          have ce93 : h74 151 8 = 0 := w77
          have tq := Tok_at Tok_h74t85
          have m3 : ∀ j : Int, h74 153 j = h93_0 153 j := fun j => ((my_fr.at frh74 is_153 rfl).trans (rfl : h93_0 153 j = h93_0 153 j))
          have m4 : ∀ j : Int, h74 154 j = h93_0 154 j := fun j => ((my_fr.at frh74 is_154 rfl).trans (rfl : h93_0 154 j = h93_0 154 j))
          have m5 : ∀ j : Int, h74 155 j = h93_0 155 j := fun j => ((my_fr.at frh74 is_155 rfl).trans (rfl : h93_0 155 j = h93_0 155 j))
          rw [show (p93_0 : Int) = 4 from by omega]
          exact J119_0 (17007) (0) h74 (gh74) (by omega) (by omega) (by omega) (by omega) (((my_fr.at frh74 is_151 rfl).trans c151_0_93_0).trans (by omega)) (((my_fr.at frh74 is_151 rfl).trans c151_2_93_0).trans (by omega)) (w77.trans (by omega)) Mw_h74t86 Mw3_h74t87 Wrd_h74 Wd9_h74t88 Ko_h74t91 Kf_h74 (by first | (intro _; exact no_such_saying) | (intro q; exfalso; omega) | (intro _; assumption) | omega) (by first | (intro q; exfalso; omega) | (intro _ k a b c e; have z := s56 k b; rw [z.1] at e; rw [z.2]; exact u9_93_0 k a b (by rw [← a164]; exact c) e) | (intro _ k a b c e; rw [a164] at c; rw [a165] at e; rw [a166]; exact s6_119_0 (by omega) k a b c e) | omega) (Tok_h74t85) (by have q := Tok_at Tok_h74t85; omega) (by first | exact (fun j => a164 j) | exact (fun j => (a164 j).trans (i4_9_0 j)) | exact (fun j => (a164 j).trans (i4_93_0 j)) | exact (fun j => (a164 j).trans (i4_119_0 j)) | omega) (by first | (obtain ⟨n, nl, q⟩ := mt0; exact ⟨n, nl, Mt_cg q m3 m4 m5⟩) | (obtain ⟨n, nl, q⟩ := mt_93_0; exact ⟨n, nl, Mt_cg q m3 m4 m5⟩) | exact ⟨n9, nl9, Mt_cg q9 m3 m4 m5⟩ | omega) (by first | exact nu0 | exact nv_93_0 | exact nv_119_0 | omega) (by first | exact (fun _ => rm_0 ov koX (fun j => my_fr.at gh_93_0 is_157 rfl) e57G i4_93_0 t67 (by omega) a0_93_0 esm p6) | exact (fun _ => rm_s (ok_119_0 (by omega)) (k9.2 (by omega)) pn (fun j => my_fr.at gh_119_0 is_157 rfl) (by omega) esm e33 eo) | (intro q; exfalso; omega) | omega) (by first | exact (fun q => rm_f ov koX (fun j => my_fr.at gh_93_0 is_157 rfl) i4_93_0 t67 q a0_93_0 esm) | exact (fun q => rm_x (ok_119_0 (by omega)) (k9.2 (by omega)) pn (fun j => my_fr.at gh_119_0 is_157 rfl) q esm) | (intro q; exfalso; omega) | omega) (by first | exact (fun _ => bs1) | exact (fun _ B hB => by rw [e33, p5, p66]; exact bs_119_0 (by omega) B hB) | (intro q; exfalso; omega) | omega) (by first | exact (fun _ => RmS_0 ov koX (fun j => my_fr.at gh_93_0 is_157 rfl) e57G i4_93_0 t67 (by omega) a0_93_0 esm p6 n69 fl9) | exact (fun _ => RmS_s (rs_119_0 (by omega)) (k9.2 (by omega)) pn (fun j => my_fr.at gh_119_0 is_157 rfl) (by omega) esm e33 eo pq9 e57H p66 (by omega)) | (intro q; exfalso; omega) | omega) (by omega)
      ·
        refine w_aload_n gz_168_98 rfl ?_
        refine w_getX (v := 173) gz_168_99 is_151 rd_10 rfl (by decide) rfl ?_
        refine w_bipush gz_168_102 (by decide) ?_
        refine w_iload_n gz_168_104 rfl ?_
        refine w_iadd gz_168_105 ⟨by omega, by omega⟩ ?_
        refine w_iconst gz_168_106 (by decide) ?_
        have b173 : ∀ j : Int, h93_0 173 j = h93_0 173 j := fun _ => rfl
        refine w_iast gz_168_107 is_173 rd_72 (by omega) (by omega) (by omega) (by omega) (fun h95 fh95 => ?_)
        have gh95 : my_fr [(10, 0), (10, 2), (10, 3), (10, 7), (10, 8), (10, 27), (10, 32), (10, 33), (52, -1), (53, -1), (54, -1), (63, -1), (64, -1), (65, -1), (66, -1), (67, -1), (68, -1), (69, -1), (70, -1), (71, -1), (72, -1), (73, -1), (74, -1), (75, -1), (76, -1), (77, -1), (78, -1), (79, -1)] h h95 := my_fr.up gh_93_0 is_173 fh95 rfl
        have Mw_h95 : Mw h95 := Mw_ag (my_ag.up fh95 is_173 rfl) n_Mw_93_0
        have Mw3_h95 : Mw3 h95 := Mw3_ag (my_ag.up fh95 is_173 rfl) n_Mw3_93_0
        have Wrd_h95 : Wrd h95 := Wrd_ag (my_ag.up fh95 is_173 rfl) n_Wrd_93_0
        have Wd9_h95 : Wd9 h95 := Wd9_ag (my_ag.up fh95 is_173 rfl) n_Wd9_93_0
        have Ko_h95 : Ko h h95 := Ko_ag (my_ag.up fh95 is_173 rfl) n_Ko_93_0
        have Kf_h95 : Kf h h95 := Kf_u (a := 173) hwv (by decide) (by omega) fh95 n_Kf_93_0
        have Tok_h95 : Tok h95 := Tok_ag (my_ag.up fh95 is_173 rfl) Tok_h93_0t63
        have f73 := fh95
        refine w_iinc (ls' := [(2, 151), (0, x1), (0, 0), (0, (p93_0 + 1))]) gz_168_108 rfl gm_168 rfl rfl rfl ⟨by omega, by omega⟩ ?_
        refine w_goto (t := 93) gz_168_111 rfl ?_
        have a164 : ∀ j : Int, h95 164 j = h93_0 164 j := fun j => ((my_up_role fh95 is_164 is_173 rfl).trans (rfl : h93_0 164 j = h93_0 164 j))
        have a165 : ∀ j : Int, h95 165 j = h93_0 165 j := fun j => ((my_up_role fh95 is_165 is_173 rfl).trans (rfl : h93_0 165 j = h93_0 165 j))
        have a166 : ∀ j : Int, h95 166 j = h93_0 166 j := fun j => ((my_up_role fh95 is_166 is_173 rfl).trans (rfl : h93_0 166 j = h93_0 166 j))
        have a167 : ∀ j : Int, h95 167 j = h93_0 167 j := fun j => ((my_up_role fh95 is_167 is_173 rfl).trans (rfl : h93_0 167 j = h93_0 167 j))
        have m3 : ∀ j : Int, h95 153 j = h93_0 153 j := fun j => ((my_up_role fh95 is_153 is_173 rfl).trans (rfl : h93_0 153 j = h93_0 153 j))
        have m4 : ∀ j : Int, h95 154 j = h93_0 154 j := fun j => ((my_up_role fh95 is_154 is_173 rfl).trans (rfl : h93_0 154 j = h93_0 154 j))
        have m5 : ∀ j : Int, h95 155 j = h93_0 155 j := fun j => ((my_up_role fh95 is_155 is_173 rfl).trans (rfl : h93_0 155 j = h93_0 155 j))
        have ce96 : h95 151 7 = 0 := ((my_up_role fh95 is_151 is_173 rfl).trans c151_7_93_0)
        have j173 : ∀ j : Int, h95 173 j = h95 173 j := fun j => rfl
        exact ih_93_0 ((p93_0 + 1)) h95 (gh95) (by omega) (by omega) (by omega) (by omega) (((my_up_role fh95 is_151 is_173 rfl).trans c151_0_93_0).trans (by omega)) (((my_up_role fh95 is_151 is_173 rfl).trans c151_2_93_0).trans (by omega)) (((my_up_role fh95 is_151 is_173 rfl).trans c151_7_93_0).trans (by omega)) (((my_up_role fh95 is_151 is_173 rfl).trans c151_8_93_0).trans (by omega)) Mw_h95 Mw3_h95 Wrd_h95 Wd9_h95 Ko_h95 Kf_h95 (by rw [a167]; first | exact k67 | exact z6_93_0) (by intro k a b c e; rw [a164] at c; rw [a165] at e; rw [a166]; first | exact u9_93_0 k a b c e | exact un_9_0 (by omega) k a (by omega) c e) (Tok_h95) (by first | exact (fun j => a164 j) | exact (fun j => (a164 j).trans (i4_9_0 j)) | exact (fun j => (a164 j).trans (i4_93_0 j)) | exact (fun j => (a164 j).trans (i4_119_0 j)) | omega) (by first | (obtain ⟨n, nl, q⟩ := mt0; exact ⟨n, nl, Mt_cg q m3 m4 m5⟩) | (obtain ⟨n, nl, q⟩ := mt_93_0; exact ⟨n, nl, Mt_cg q m3 m4 m5⟩) | exact ⟨n9, nl9, Mt_cg q9 m3 m4 m5⟩ | omega) (by omega) (by first | exact nu0 | exact nv_93_0 | exact nv_119_0 | omega) (by first | (intro c a b; exfalso; omega) | exact FlI_s fl_93_0 b173 f73 j173 (by omega) (by omega) (by omega) | omega) (by omega)
  have J9_0 : ∀ (n : Nat) (p9_0 p9_1 : Int) (h9_0 : my_H), my_fr [(10, 0), (10, 2), (10, 3), (10, 7), (10, 8), (10, 27), (10, 32), (10, 33), (52, -1), (53, -1), (54, -1), (63, -1), (64, -1), (65, -1), (66, -1), (67, -1), (68, -1), (69, -1), (70, -1), (71, -1), (72, -1), (73, -1), (74, -1), (75, -1), (76, -1), (77, -1), (78, -1), (79, -1)] h h9_0 → 0 ≤ p9_0 → p9_0 ≤ 1 → 0 ≤ p9_1 → p9_1 ≤ 6 → p9_0 ≤ p9_1 → h9_0 151 0 = 0 → Mw h9_0 → Mw3 h9_0 → Wrd h9_0 → Wd9 h9_0 → Ko h h9_0 → Kf h h9_0 → (p9_0 = 0 → ∀ k : Int, 0 ≤ k → k < p9_1 → h9_0 164 k = 1 → h9_0 165 k = 0 → h9_0 166 k ≠ x1) → (p9_0 = 1 → ∃ k : Int, 0 ≤ k ∧ k ≤ 5 ∧ h 164 k = 1 ∧ h 165 k = 0 ∧ h 166 k = x1) → (∀ j : Int, h9_0 164 j = h 164 j) → (∀ j : Int, h9_0 165 j = h 165 j) → (∀ j : Int, h9_0 166 j = h 166 j) → h9_0 151 2 = h 151 2 → 7 - p9_1 ≤ (n : Int) → wp l rho (d + 5) 168 9 [(2, 151), (0, x1), (0, p9_0), (0, p9_1)] [] h9_0 Q := by
    intro n
    induction n with
    | zero => intro p9_0 p9_1 h9_0 gh_9_0 q0_9_0 q1_9_0 q2_9_0 q3_9_0 q4_9_0 c151_0_9_0 n_Mw_9_0 n_Mw3_9_0 n_Wrd_9_0 n_Wd9_9_0 n_Ko_9_0 n_Kf_9_0 un_9_0 uy_9_0 i4_9_0 i5_9_0 i6_9_0 t2_9_0 hm_9_0; exfalso; omega
    | succ n ih_9_0 =>
      intro p9_0 p9_1 h9_0 gh_9_0 q0_9_0 q1_9_0 q2_9_0 q3_9_0 q4_9_0 c151_0_9_0 n_Mw_9_0 n_Mw3_9_0 n_Wrd_9_0 n_Wd9_9_0 n_Ko_9_0 n_Kf_9_0 un_9_0 uy_9_0 i4_9_0 i5_9_0 i6_9_0 t2_9_0 hm_9_0
      refine w_iload_n gz_168_9 rfl ?_
      refine w_bipush gz_168_10 (by decide) ?_
      refine w_icge (t := 59) gz_168_12 rfl (fun u97 => ?_) (fun u97 => ?_)
      ·
        refine w_iload_n gz_168_59 rfl ?_
        refine w_iconst gz_168_60 (by decide) ?_
        refine w_iconst gz_168_61 (by decide) ?_
        refine w_inS (k := 0) (as := [(0, 5), (0, 0), (0, x1)]) (r := []) (ls0 := [(0, x1), (0, 0), (0, 5)]) gz_168_62 gm_147 rfl rfl rfl rfl rfl rfl ?_
        refine w_iload_n gz_147_0 rfl ?_
        refine w_iload_n gz_147_1 rfl ?_
        refine w_iclt (t := 14) gz_147_2 rfl (fun u98 => ?_) (fun u98 => ?_)
        ·
          refine w_iconst gz_147_14 (by decide) ?_
          refine w_bret gz_147_15 gm_147 (by omega) (by omega) ?_
          show wp l rho (d + 5) 168 65 [(2, 151), (0, x1), (0, p9_0), (0, p9_1)] [(0, 0)] h9_0 Q
          refine w_ifeq (t := 72) gz_168_65 rfl (fun u99 => ?_) (fun u99 => by exfalso; omega)
          refine w_aload_n gz_168_72 rfl ?_
          refine w_iconst gz_168_73 (by decide) ?_
          refine v_putI (j := 2) gz_168_74 rfl is_151 rd_10 rfl (by omega) (by omega) rfl (fun h100 fh100 => ?_)
          have gh100 : my_fr [(10, 0), (10, 2), (10, 3), (10, 7), (10, 8), (10, 27), (10, 32), (10, 33), (52, -1), (53, -1), (54, -1), (63, -1), (64, -1), (65, -1), (66, -1), (67, -1), (68, -1), (69, -1), (70, -1), (71, -1), (72, -1), (73, -1), (74, -1), (75, -1), (76, -1), (77, -1), (78, -1), (79, -1)] h h100 := my_fr.up gh_9_0 is_151 fh100 rfl
          have Mw_h100 : Mw h100 := Mw_ag (my_ag.up fh100 is_151 rfl) n_Mw_9_0
          have Mw3_h100 : Mw3 h100 := Mw3_ag (my_ag.up fh100 is_151 rfl) n_Mw3_9_0
          have Wrd_h100 : Wrd h100 := Wrd_ag (my_ag.up fh100 is_151 rfl) n_Wrd_9_0
          have Wd9_h100 : Wd9 h100 := Wd9_ag (my_ag.up fh100 is_151 rfl) n_Wd9_9_0
          have Ko_h100 : Ko h h100 := Ko_ag (my_ag.up fh100 is_151 rfl) n_Ko_9_0
          have Kf_h100 : Kf h h100 := Kf_ag (my_ag.up fh100 is_151 rfl) n_Kf_9_0
          refine w_iconst gz_168_77 (by decide) ?_
          have c101 := ((my_up_fld fh100 (by decide)).trans c151_0_9_0)
          have c102 := (my_up_self fh100)
          exact w_iret gz_168_78 gm_168 (k0 h100 (gh100) (by omega) (by omega) (by first | exact Kf_h100 | exact ⟨NwM_mk (rs_119_0 (by omega)) (k9.1 (by omega)) ⟨kf, kc⟩ esm9 (bs_119_0 (by omega)) e57K (b167 6 (by omega) (by omega)).2, LoM_mk ⟨kf, kc⟩ n_Ko_119_0 n_Kf_119_0⟩ | exact t67 | exact Ko_h100 | exact Or.inl (by omega) | exact Or.inr (uy_9_0 (by omega)) | exact nv_119_0 | exact ⟨n9, nl9, q9, by have q := no_119_0 (by omega); rw [show (-1) = h119_0 151 8 by omega]; exact q⟩ | exact ⟨h119_0, n9, kf, mq_119_0 (by omega), n_Ko_119_0, fun j => my_fr.at gh_119_0 is_157 rfl, bs_119_0 (by omega), nl9, mt9, nv_119_0, by rw [esm9]; exact rm_e (ok_119_0 (by omega)) (k9.1 (by omega))⟩ | omega) (by first | exact Kf_h100 | exact ⟨NwM_mk (rs_119_0 (by omega)) (k9.1 (by omega)) ⟨kf, kc⟩ esm9 (bs_119_0 (by omega)) e57K (b167 6 (by omega) (by omega)).2, LoM_mk ⟨kf, kc⟩ n_Ko_119_0 n_Kf_119_0⟩ | exact t67 | exact Ko_h100 | exact Or.inl (by omega) | exact Or.inr (uy_9_0 (by omega)) | exact nv_119_0 | exact ⟨n9, nl9, q9, by have q := no_119_0 (by omega); rw [show (-1) = h119_0 151 8 by omega]; exact q⟩ | exact ⟨h119_0, n9, kf, mq_119_0 (by omega), n_Ko_119_0, fun j => my_fr.at gh_119_0 is_157 rfl, bs_119_0 (by omega), nl9, mt9, nv_119_0, by rw [esm9]; exact rm_e (ok_119_0 (by omega)) (k9.1 (by omega))⟩ | omega) (by first | exact Kf_h100 | exact ⟨NwM_mk (rs_119_0 (by omega)) (k9.1 (by omega)) ⟨kf, kc⟩ esm9 (bs_119_0 (by omega)) e57K (b167 6 (by omega) (by omega)).2, LoM_mk ⟨kf, kc⟩ n_Ko_119_0 n_Kf_119_0⟩ | exact t67 | exact Ko_h100 | exact Or.inl (by omega) | exact Or.inr (uy_9_0 (by omega)) | exact nv_119_0 | exact ⟨n9, nl9, q9, by have q := no_119_0 (by omega); rw [show (-1) = h119_0 151 8 by omega]; exact q⟩ | exact ⟨h119_0, n9, kf, mq_119_0 (by omega), n_Ko_119_0, fun j => my_fr.at gh_119_0 is_157 rfl, bs_119_0 (by omega), nl9, mt9, nv_119_0, by rw [esm9]; exact rm_e (ok_119_0 (by omega)) (k9.1 (by omega))⟩ | omega) (by first | exact Kf_h100 | exact ⟨NwM_mk (rs_119_0 (by omega)) (k9.1 (by omega)) ⟨kf, kc⟩ esm9 (bs_119_0 (by omega)) e57K (b167 6 (by omega) (by omega)).2, LoM_mk ⟨kf, kc⟩ n_Ko_119_0 n_Kf_119_0⟩ | exact t67 | exact Ko_h100 | exact Or.inl (by omega) | exact Or.inr (uy_9_0 (by omega)) | exact nv_119_0 | exact ⟨n9, nl9, q9, by have q := no_119_0 (by omega); rw [show (-1) = h119_0 151 8 by omega]; exact q⟩ | exact ⟨h119_0, n9, kf, mq_119_0 (by omega), n_Ko_119_0, fun j => my_fr.at gh_119_0 is_157 rfl, bs_119_0 (by omega), nl9, mt9, nv_119_0, by rw [esm9]; exact rm_e (ok_119_0 (by omega)) (k9.1 (by omega))⟩ | omega) Mw_h100 Mw3_h100 Wrd_h100 Wd9_h100)
        ·
          refine w_iload_n gz_147_5 rfl ?_
          refine w_iload_n gz_147_6 rfl ?_
          refine w_icgt (t := 14) gz_147_7 rfl (fun u103 => ?_) (fun u103 => ?_)
          ·
            refine w_iconst gz_147_14 (by decide) ?_
            refine w_bret gz_147_15 gm_147 (by omega) (by omega) ?_
            show wp l rho (d + 5) 168 65 [(2, 151), (0, x1), (0, p9_0), (0, p9_1)] [(0, 0)] h9_0 Q
            refine w_ifeq (t := 72) gz_168_65 rfl (fun u104 => ?_) (fun u104 => by exfalso; omega)
            refine w_aload_n gz_168_72 rfl ?_
            refine w_iconst gz_168_73 (by decide) ?_
            refine v_putI (j := 2) gz_168_74 rfl is_151 rd_10 rfl (by omega) (by omega) rfl (fun h105 fh105 => ?_)
            have gh105 : my_fr [(10, 0), (10, 2), (10, 3), (10, 7), (10, 8), (10, 27), (10, 32), (10, 33), (52, -1), (53, -1), (54, -1), (63, -1), (64, -1), (65, -1), (66, -1), (67, -1), (68, -1), (69, -1), (70, -1), (71, -1), (72, -1), (73, -1), (74, -1), (75, -1), (76, -1), (77, -1), (78, -1), (79, -1)] h h105 := my_fr.up gh_9_0 is_151 fh105 rfl
            have Mw_h105 : Mw h105 := Mw_ag (my_ag.up fh105 is_151 rfl) n_Mw_9_0
            have Mw3_h105 : Mw3 h105 := Mw3_ag (my_ag.up fh105 is_151 rfl) n_Mw3_9_0
            have Wrd_h105 : Wrd h105 := Wrd_ag (my_ag.up fh105 is_151 rfl) n_Wrd_9_0
            have Wd9_h105 : Wd9 h105 := Wd9_ag (my_ag.up fh105 is_151 rfl) n_Wd9_9_0
            have Ko_h105 : Ko h h105 := Ko_ag (my_ag.up fh105 is_151 rfl) n_Ko_9_0
            have Kf_h105 : Kf h h105 := Kf_ag (my_ag.up fh105 is_151 rfl) n_Kf_9_0
            refine w_iconst gz_168_77 (by decide) ?_
            have c106 := ((my_up_fld fh105 (by decide)).trans c151_0_9_0)
            have c107 := (my_up_self fh105)
            exact w_iret gz_168_78 gm_168 (k0 h105 (gh105) (by omega) (by omega) (by first | exact Kf_h105 | exact ⟨NwM_mk (rs_119_0 (by omega)) (k9.1 (by omega)) ⟨kf, kc⟩ esm9 (bs_119_0 (by omega)) e57K (b167 6 (by omega) (by omega)).2, LoM_mk ⟨kf, kc⟩ n_Ko_119_0 n_Kf_119_0⟩ | exact t67 | exact Ko_h105 | exact Or.inl (by omega) | exact Or.inr (uy_9_0 (by omega)) | exact nv_119_0 | exact ⟨n9, nl9, q9, by have q := no_119_0 (by omega); rw [show (-1) = h119_0 151 8 by omega]; exact q⟩ | exact ⟨h119_0, n9, kf, mq_119_0 (by omega), n_Ko_119_0, fun j => my_fr.at gh_119_0 is_157 rfl, bs_119_0 (by omega), nl9, mt9, nv_119_0, by rw [esm9]; exact rm_e (ok_119_0 (by omega)) (k9.1 (by omega))⟩ | omega) (by first | exact Kf_h105 | exact ⟨NwM_mk (rs_119_0 (by omega)) (k9.1 (by omega)) ⟨kf, kc⟩ esm9 (bs_119_0 (by omega)) e57K (b167 6 (by omega) (by omega)).2, LoM_mk ⟨kf, kc⟩ n_Ko_119_0 n_Kf_119_0⟩ | exact t67 | exact Ko_h105 | exact Or.inl (by omega) | exact Or.inr (uy_9_0 (by omega)) | exact nv_119_0 | exact ⟨n9, nl9, q9, by have q := no_119_0 (by omega); rw [show (-1) = h119_0 151 8 by omega]; exact q⟩ | exact ⟨h119_0, n9, kf, mq_119_0 (by omega), n_Ko_119_0, fun j => my_fr.at gh_119_0 is_157 rfl, bs_119_0 (by omega), nl9, mt9, nv_119_0, by rw [esm9]; exact rm_e (ok_119_0 (by omega)) (k9.1 (by omega))⟩ | omega) (by first | exact Kf_h105 | exact ⟨NwM_mk (rs_119_0 (by omega)) (k9.1 (by omega)) ⟨kf, kc⟩ esm9 (bs_119_0 (by omega)) e57K (b167 6 (by omega) (by omega)).2, LoM_mk ⟨kf, kc⟩ n_Ko_119_0 n_Kf_119_0⟩ | exact t67 | exact Ko_h105 | exact Or.inl (by omega) | exact Or.inr (uy_9_0 (by omega)) | exact nv_119_0 | exact ⟨n9, nl9, q9, by have q := no_119_0 (by omega); rw [show (-1) = h119_0 151 8 by omega]; exact q⟩ | exact ⟨h119_0, n9, kf, mq_119_0 (by omega), n_Ko_119_0, fun j => my_fr.at gh_119_0 is_157 rfl, bs_119_0 (by omega), nl9, mt9, nv_119_0, by rw [esm9]; exact rm_e (ok_119_0 (by omega)) (k9.1 (by omega))⟩ | omega) (by first | exact Kf_h105 | exact ⟨NwM_mk (rs_119_0 (by omega)) (k9.1 (by omega)) ⟨kf, kc⟩ esm9 (bs_119_0 (by omega)) e57K (b167 6 (by omega) (by omega)).2, LoM_mk ⟨kf, kc⟩ n_Ko_119_0 n_Kf_119_0⟩ | exact t67 | exact Ko_h105 | exact Or.inl (by omega) | exact Or.inr (uy_9_0 (by omega)) | exact nv_119_0 | exact ⟨n9, nl9, q9, by have q := no_119_0 (by omega); rw [show (-1) = h119_0 151 8 by omega]; exact q⟩ | exact ⟨h119_0, n9, kf, mq_119_0 (by omega), n_Ko_119_0, fun j => my_fr.at gh_119_0 is_157 rfl, bs_119_0 (by omega), nl9, mt9, nv_119_0, by rw [esm9]; exact rm_e (ok_119_0 (by omega)) (k9.1 (by omega))⟩ | omega) Mw_h105 Mw3_h105 Wrd_h105 Wd9_h105)
          ·
            refine w_iconst gz_147_10 (by decide) ?_
            refine w_goto (t := 15) gz_147_11 rfl ?_
            refine w_bret gz_147_15 gm_147 (by omega) (by omega) ?_
            show wp l rho (d + 5) 168 65 [(2, 151), (0, x1), (0, p9_0), (0, p9_1)] [(0, 1)] h9_0 Q
            refine w_ifeq (t := 72) gz_168_65 rfl (fun u108 => by exfalso; omega) (fun u108 => ?_)
            refine w_iload_n gz_168_68 rfl ?_
            refine w_ifeq (t := 79) gz_168_69 rfl (fun u109 => ?_) (fun u109 => ?_)
            ·
              have nu0 : ∀ k : Int, 0 ≤ k → k ≤ 5 → h 164 k = 1 → h 165 k = 0 → h 166 k ≠ x1 := fun k a b c d => by
                have q := un_9_0 (by omega) k a (by omega)
                rw [i4_9_0, i5_9_0, i6_9_0] at q
                exact q c d
              refine w_aload_n gz_168_79 rfl ?_
              refine w_inv (k := 6) (as := []) (r := []) (x := 151) (ls0 := [(2, 151), (9, 0), (9, 0), (9, 0), (9, 0), (9, 0), (9, 0)]) gz_168_80 gm_169 rfl is_151 rd_10 rfl rfl rfl rfl rfl (c_Model_cutAll9 (d := (d + 2))   (fun h110 frh110 w111 w112 w113 xp114 Tok_h110t115 => ?_))
              have gh110 : my_fr [(10, 0), (10, 2), (10, 3), (10, 7), (10, 8), (10, 27), (10, 32), (10, 33), (52, -1), (53, -1), (54, -1), (63, -1), (64, -1), (65, -1), (66, -1), (67, -1), (68, -1), (69, -1), (70, -1), (71, -1), (72, -1), (73, -1), (74, -1), (75, -1), (76, -1), (77, -1), (78, -1), (79, -1)] h h110 := my_fr.tr gh_9_0 (frh110.mo rfl)
              have Mw_h110 : Mw h110 := Mw_ag (my_ag.fr frh110 rfl) n_Mw_9_0
              have Mw3_h110 : Mw3 h110 := Mw3_ag (my_ag.fr frh110 rfl) n_Mw3_9_0
              have Wrd_h110 : Wrd h110 := Wrd_ag (my_ag.fr frh110 rfl) n_Wrd_9_0
              have Wd9_h110 : Wd9 h110 := Wd9_ag (my_ag.fr frh110 rfl) n_Wd9_9_0
              have Ko_h110 : Ko h h110 := Ko_ag (my_ag.fr frh110 rfl) n_Ko_9_0
              have Kf_h110 : Kf h h110 := Kf_ag (my_ag.fr frh110 rfl) n_Kf_9_0
              show wp l rho (d + 5) 168 83 [(2, 151), (0, x1), (0, p9_0), (0, p9_1)] [] h110 Q
              have mt0 : ∃ n : Int, n ≤ 1000 ∧ Mt ((h 152, h 151 2) : (Int → Int) × Int) h110 n := by
                have q := xp114
                rw [show h9_0 152 = h 152 from funext (fun j => my_fr.at gh_9_0 is_152 rfl), t2_9_0] at q
                exact q
              refine w_aload_n gz_168_83 rfl ?_
              refine w_getX (v := 167) gz_168_84 is_151 rd_10 rfl (by decide) rfl ?_
              refine w_bipush gz_168_87 (by decide) ?_
              refine w_iconst gz_168_89 (by decide) ?_
              refine w_iast gz_168_90 is_167 rd_66 (by omega) (by omega) (by omega) (by omega) (fun h117 fh117 => ?_)
              have gh117 : my_fr [(10, 0), (10, 2), (10, 3), (10, 7), (10, 8), (10, 27), (10, 32), (10, 33), (52, -1), (53, -1), (54, -1), (63, -1), (64, -1), (65, -1), (66, -1), (67, -1), (68, -1), (69, -1), (70, -1), (71, -1), (72, -1), (73, -1), (74, -1), (75, -1), (76, -1), (77, -1), (78, -1), (79, -1)] h h117 := my_fr.up gh110 is_167 fh117 rfl
              have Wrd_h117 : Wrd h117 := Wrd_ag (my_ag.up fh117 is_167 rfl) Wrd_h110
              have Wd9_h117 : Wd9 h117 := Wd9_ag (my_ag.up fh117 is_167 rfl) Wd9_h110
              have Ko_h117 : Ko h h117 := Ko_7 (a := 167) hwv (by decide) (by omega) fh117 Ko_h110
              have Kf_h117 : Kf h h117 := Kf_ag (my_ag.up fh117 is_167 rfl) Kf_h110
              have Tok_h117 : Tok h117 := Tok_ag (my_ag.up fh117 is_167 rfl) Tok_h110t115
              have Mw3_h117t118 : Mw3 h117 := Mw3_6 (by decide) fh117 Mw3_h110
              have Mw_h117t119 : Mw h117 := (Mw3_6 (by decide) fh117 Mw3_h110).mw
              have k67 := my_up_self fh117
              refine w_iconst gz_168_91 (by decide) ?_
              refine w_istore_n (ls' := [(2, 151), (0, x1), (0, p9_0), (0, 0)]) gz_168_92 gm_168 rfl rfl rfl ?_
              have a164 : ∀ j : Int, h117 164 j = h9_0 164 j := fun j => ((my_up_role fh117 is_164 is_167 rfl).trans ((my_fr.at frh110 is_164 rfl).trans (rfl : h9_0 164 j = h9_0 164 j)))
              have a165 : ∀ j : Int, h117 165 j = h9_0 165 j := fun j => ((my_up_role fh117 is_165 is_167 rfl).trans ((my_fr.at frh110 is_165 rfl).trans (rfl : h9_0 165 j = h9_0 165 j)))
              have a166 : ∀ j : Int, h117 166 j = h9_0 166 j := fun j => ((my_up_role fh117 is_166 is_167 rfl).trans ((my_fr.at frh110 is_166 rfl).trans (rfl : h9_0 166 j = h9_0 166 j)))
              have a167 : ∀ j : Int, h117 167 j = h117 167 j := fun j => rfl
              have m3 : ∀ j : Int, h117 153 j = h110 153 j := fun j => ((my_up_role fh117 is_153 is_167 rfl).trans (rfl : h110 153 j = h110 153 j))
              have m4 : ∀ j : Int, h117 154 j = h110 154 j := fun j => ((my_up_role fh117 is_154 is_167 rfl).trans (rfl : h110 154 j = h110 154 j))
              have m5 : ∀ j : Int, h117 155 j = h110 155 j := fun j => ((my_up_role fh117 is_155 is_167 rfl).trans (rfl : h110 155 j = h110 155 j))
              have ce120 : h117 151 7 = 0 := ((my_up_role fh117 is_151 is_167 rfl).trans w112)
              have j173 : ∀ j : Int, h117 173 j = h9_0 173 j := fun j => ((my_up_role fh117 is_173 is_167 rfl).trans ((my_fr.at frh110 is_173 rfl).trans (rfl : h9_0 173 j = h9_0 173 j)))
              rw [show (p9_0 : Int) = 0 from by omega]
              exact J93_0 5 (0) h117 (gh117) (by omega) (by omega) (by omega) (by omega) (((my_up_role fh117 is_151 is_167 rfl).trans ((my_fr.at frh110 is_151 rfl).trans c151_0_9_0)).trans (by omega)) (((my_up_role fh117 is_151 is_167 rfl).trans w111).trans (by omega)) (((my_up_role fh117 is_151 is_167 rfl).trans w112).trans (by omega)) (((my_up_role fh117 is_151 is_167 rfl).trans w113).trans (by omega)) Mw_h117t119 Mw3_h117t118 Wrd_h117 Wd9_h117 Ko_h117 Kf_h117 (by rw [a167]; first | exact k67 | exact z6_93_0) (by intro k a b c e; rw [a164] at c; rw [a165] at e; rw [a166]; first | exact u9_93_0 k a b c e | exact un_9_0 (by omega) k a (by omega) c e) (Tok_h117) (by first | exact (fun j => a164 j) | exact (fun j => (a164 j).trans (i4_9_0 j)) | exact (fun j => (a164 j).trans (i4_93_0 j)) | exact (fun j => (a164 j).trans (i4_119_0 j)) | omega) (by first | (obtain ⟨n, nl, q⟩ := mt0; exact ⟨n, nl, Mt_cg q m3 m4 m5⟩) | (obtain ⟨n, nl, q⟩ := mt_93_0; exact ⟨n, nl, Mt_cg q m3 m4 m5⟩) | exact ⟨n9, nl9, Mt_cg q9 m3 m4 m5⟩ | omega) (by omega) (by first | exact nu0 | exact nv_93_0 | exact nv_119_0 | omega) (by first | (intro c a b; exfalso; omega) | exact FlI_s fl_93_0 b173 f73 j173 (by omega) (by omega) (by omega) | omega) (by omega)
            ·
              refine w_aload_n gz_168_72 rfl ?_
              refine w_iconst gz_168_73 (by decide) ?_
              refine v_putI (j := 2) gz_168_74 rfl is_151 rd_10 rfl (by omega) (by omega) rfl (fun h121 fh121 => ?_)
              have gh121 : my_fr [(10, 0), (10, 2), (10, 3), (10, 7), (10, 8), (10, 27), (10, 32), (10, 33), (52, -1), (53, -1), (54, -1), (63, -1), (64, -1), (65, -1), (66, -1), (67, -1), (68, -1), (69, -1), (70, -1), (71, -1), (72, -1), (73, -1), (74, -1), (75, -1), (76, -1), (77, -1), (78, -1), (79, -1)] h h121 := my_fr.up gh_9_0 is_151 fh121 rfl
              have Mw_h121 : Mw h121 := Mw_ag (my_ag.up fh121 is_151 rfl) n_Mw_9_0
              have Mw3_h121 : Mw3 h121 := Mw3_ag (my_ag.up fh121 is_151 rfl) n_Mw3_9_0
              have Wrd_h121 : Wrd h121 := Wrd_ag (my_ag.up fh121 is_151 rfl) n_Wrd_9_0
              have Wd9_h121 : Wd9 h121 := Wd9_ag (my_ag.up fh121 is_151 rfl) n_Wd9_9_0
              have Ko_h121 : Ko h h121 := Ko_ag (my_ag.up fh121 is_151 rfl) n_Ko_9_0
              have Kf_h121 : Kf h h121 := Kf_ag (my_ag.up fh121 is_151 rfl) n_Kf_9_0
              refine w_iconst gz_168_77 (by decide) ?_
              have c122 := ((my_up_fld fh121 (by decide)).trans c151_0_9_0)
              have c123 := (my_up_self fh121)
              exact w_iret gz_168_78 gm_168 (k0 h121 (gh121) (by omega) (by omega) (by first | exact Kf_h121 | exact ⟨NwM_mk (rs_119_0 (by omega)) (k9.1 (by omega)) ⟨kf, kc⟩ esm9 (bs_119_0 (by omega)) e57K (b167 6 (by omega) (by omega)).2, LoM_mk ⟨kf, kc⟩ n_Ko_119_0 n_Kf_119_0⟩ | exact t67 | exact Ko_h121 | exact Or.inl (by omega) | exact Or.inr (uy_9_0 (by omega)) | exact nv_119_0 | exact ⟨n9, nl9, q9, by have q := no_119_0 (by omega); rw [show (-1) = h119_0 151 8 by omega]; exact q⟩ | exact ⟨h119_0, n9, kf, mq_119_0 (by omega), n_Ko_119_0, fun j => my_fr.at gh_119_0 is_157 rfl, bs_119_0 (by omega), nl9, mt9, nv_119_0, by rw [esm9]; exact rm_e (ok_119_0 (by omega)) (k9.1 (by omega))⟩ | omega) (by first | exact Kf_h121 | exact ⟨NwM_mk (rs_119_0 (by omega)) (k9.1 (by omega)) ⟨kf, kc⟩ esm9 (bs_119_0 (by omega)) e57K (b167 6 (by omega) (by omega)).2, LoM_mk ⟨kf, kc⟩ n_Ko_119_0 n_Kf_119_0⟩ | exact t67 | exact Ko_h121 | exact Or.inl (by omega) | exact Or.inr (uy_9_0 (by omega)) | exact nv_119_0 | exact ⟨n9, nl9, q9, by have q := no_119_0 (by omega); rw [show (-1) = h119_0 151 8 by omega]; exact q⟩ | exact ⟨h119_0, n9, kf, mq_119_0 (by omega), n_Ko_119_0, fun j => my_fr.at gh_119_0 is_157 rfl, bs_119_0 (by omega), nl9, mt9, nv_119_0, by rw [esm9]; exact rm_e (ok_119_0 (by omega)) (k9.1 (by omega))⟩ | omega) (by first | exact Kf_h121 | exact ⟨NwM_mk (rs_119_0 (by omega)) (k9.1 (by omega)) ⟨kf, kc⟩ esm9 (bs_119_0 (by omega)) e57K (b167 6 (by omega) (by omega)).2, LoM_mk ⟨kf, kc⟩ n_Ko_119_0 n_Kf_119_0⟩ | exact t67 | exact Ko_h121 | exact Or.inl (by omega) | exact Or.inr (uy_9_0 (by omega)) | exact nv_119_0 | exact ⟨n9, nl9, q9, by have q := no_119_0 (by omega); rw [show (-1) = h119_0 151 8 by omega]; exact q⟩ | exact ⟨h119_0, n9, kf, mq_119_0 (by omega), n_Ko_119_0, fun j => my_fr.at gh_119_0 is_157 rfl, bs_119_0 (by omega), nl9, mt9, nv_119_0, by rw [esm9]; exact rm_e (ok_119_0 (by omega)) (k9.1 (by omega))⟩ | omega) (by first | exact Kf_h121 | exact ⟨NwM_mk (rs_119_0 (by omega)) (k9.1 (by omega)) ⟨kf, kc⟩ esm9 (bs_119_0 (by omega)) e57K (b167 6 (by omega) (by omega)).2, LoM_mk ⟨kf, kc⟩ n_Ko_119_0 n_Kf_119_0⟩ | exact t67 | exact Ko_h121 | exact Or.inl (by omega) | exact Or.inr (uy_9_0 (by omega)) | exact nv_119_0 | exact ⟨n9, nl9, q9, by have q := no_119_0 (by omega); rw [show (-1) = h119_0 151 8 by omega]; exact q⟩ | exact ⟨h119_0, n9, kf, mq_119_0 (by omega), n_Ko_119_0, fun j => my_fr.at gh_119_0 is_157 rfl, bs_119_0 (by omega), nl9, mt9, nv_119_0, by rw [esm9]; exact rm_e (ok_119_0 (by omega)) (k9.1 (by omega))⟩ | omega) Mw_h121 Mw3_h121 Wrd_h121 Wd9_h121)
      ·
        refine w_iload_n gz_168_15 rfl ?_
        refine w_ifne (t := 47) gz_168_16 rfl (fun u124 => ?_) (fun u124 => ?_)
        ·
          refine w_iconst gz_168_47 (by decide) ?_
          refine w_goto (t := 52) gz_168_48 rfl ?_
          refine w_istore_n (ls' := [(2, 151), (0, x1), (0, 1), (0, p9_1)]) gz_168_52 gm_168 rfl rfl rfl ?_
          refine w_iinc (ls' := [(2, 151), (0, x1), (0, 1), (0, (p9_1 + 1))]) gz_168_53 rfl gm_168 rfl rfl rfl ⟨by omega, by omega⟩ ?_
          refine w_goto (t := 9) gz_168_56 rfl ?_
          have a164 : ∀ j : Int, h9_0 164 j = h9_0 164 j := fun _ => rfl
          have a165 : ∀ j : Int, h9_0 165 j = h9_0 165 j := fun _ => rfl
          have a166 : ∀ j : Int, h9_0 166 j = h9_0 166 j := fun _ => rfl
          exact ih_9_0 (1) ((p9_1 + 1)) h9_0 (gh_9_0) (by omega) (by omega) (by omega) (by omega) (by omega) (c151_0_9_0.trans (by omega)) n_Mw_9_0 n_Mw3_9_0 n_Wrd_9_0 n_Wd9_9_0 n_Ko_9_0 n_Kf_9_0 (by first | (intro _ k a b; exfalso; omega) | (intro q; exfalso; omega) | (intro q k a b c e; rw [a164] at c; rw [a165] at e; rw [a166]; rcases (by omega : k = p9_1 ∨ k < p9_1) with z | z <;> first | exact un_9_0 (by omega) k a z c e | (subst z; omega) | (subst_vars; omega)) | omega) (by first | (intro q; exfalso; omega) | exact uy_9_0 | exact (fun _ => uy_9_0 (by omega)) | exact (fun _ => ⟨p9_1, by omega, by omega, by rw [← i4_9_0]; omega, by rw [← i5_9_0]; omega, by rw [← i6_9_0]; omega⟩) | omega) (by first | exact (fun j => a164 j) | exact (fun j => (a164 j).trans (i4_9_0 j)) | exact (fun j => (a164 j).trans (i4_93_0 j)) | exact (fun j => (a164 j).trans (i4_119_0 j)) | omega) (by first | exact (fun j => a165 j) | exact (fun j => (a165 j).trans (i5_9_0 j)) | omega) (by first | exact (fun j => a166 j) | exact (fun j => (a166 j).trans (i6_9_0 j)) | omega) (by omega) (by omega)
        ·
          refine w_aload_n gz_168_19 rfl ?_
          refine w_getX (v := 164) gz_168_20 is_151 rd_10 rfl (by decide) rfl ?_
          refine w_iload_n gz_168_23 rfl ?_
          refine w_bald gz_168_24 is_164 rd_63 (by omega) (by omega) (fun v126 ev126 pv126 qv126 => ?_)
          refine w_ifeq (t := 51) gz_168_25 rfl (fun u127 => ?_) (fun u127 => ?_)
          ·
            refine w_iconst gz_168_51 (by decide) ?_
            refine w_istore_n (ls' := [(2, 151), (0, x1), (0, 0), (0, p9_1)]) gz_168_52 gm_168 rfl rfl rfl ?_
            refine w_iinc (ls' := [(2, 151), (0, x1), (0, 0), (0, (p9_1 + 1))]) gz_168_53 rfl gm_168 rfl rfl rfl ⟨by omega, by omega⟩ ?_
            refine w_goto (t := 9) gz_168_56 rfl ?_
            have a164 : ∀ j : Int, h9_0 164 j = h9_0 164 j := fun _ => rfl
            have a165 : ∀ j : Int, h9_0 165 j = h9_0 165 j := fun _ => rfl
            have a166 : ∀ j : Int, h9_0 166 j = h9_0 166 j := fun _ => rfl
            exact ih_9_0 (0) ((p9_1 + 1)) h9_0 (gh_9_0) (by omega) (by omega) (by omega) (by omega) (by omega) (c151_0_9_0.trans (by omega)) n_Mw_9_0 n_Mw3_9_0 n_Wrd_9_0 n_Wd9_9_0 n_Ko_9_0 n_Kf_9_0 (by first | (intro _ k a b; exfalso; omega) | (intro q; exfalso; omega) | (intro q k a b c e; rw [a164] at c; rw [a165] at e; rw [a166]; rcases (by omega : k = p9_1 ∨ k < p9_1) with z | z <;> first | exact un_9_0 (by omega) k a z c e | (subst z; omega) | (subst_vars; omega)) | omega) (by first | (intro q; exfalso; omega) | exact uy_9_0 | exact (fun _ => uy_9_0 (by omega)) | exact (fun _ => ⟨p9_1, by omega, by omega, by rw [← i4_9_0]; omega, by rw [← i5_9_0]; omega, by rw [← i6_9_0]; omega⟩) | omega) (by first | exact (fun j => a164 j) | exact (fun j => (a164 j).trans (i4_9_0 j)) | exact (fun j => (a164 j).trans (i4_93_0 j)) | exact (fun j => (a164 j).trans (i4_119_0 j)) | omega) (by first | exact (fun j => a165 j) | exact (fun j => (a165 j).trans (i5_9_0 j)) | omega) (by first | exact (fun j => a166 j) | exact (fun j => (a166 j).trans (i6_9_0 j)) | omega) (by omega) (by omega)
          ·
            refine w_aload_n gz_168_28 rfl ?_
            refine w_getX (v := 165) gz_168_29 is_151 rd_10 rfl (by decide) rfl ?_
            refine w_iload_n gz_168_32 rfl ?_
            refine w_bald gz_168_33 is_165 rd_64 (by omega) (by omega) (fun v129 ev129 pv129 qv129 => ?_)
            refine w_ifne (t := 51) gz_168_34 rfl (fun u130 => ?_) (fun u130 => ?_)
            ·
              refine w_iconst gz_168_51 (by decide) ?_
              refine w_istore_n (ls' := [(2, 151), (0, x1), (0, 0), (0, p9_1)]) gz_168_52 gm_168 rfl rfl rfl ?_
              refine w_iinc (ls' := [(2, 151), (0, x1), (0, 0), (0, (p9_1 + 1))]) gz_168_53 rfl gm_168 rfl rfl rfl ⟨by omega, by omega⟩ ?_
              refine w_goto (t := 9) gz_168_56 rfl ?_
              have a164 : ∀ j : Int, h9_0 164 j = h9_0 164 j := fun _ => rfl
              have a165 : ∀ j : Int, h9_0 165 j = h9_0 165 j := fun _ => rfl
              have a166 : ∀ j : Int, h9_0 166 j = h9_0 166 j := fun _ => rfl
              exact ih_9_0 (0) ((p9_1 + 1)) h9_0 (gh_9_0) (by omega) (by omega) (by omega) (by omega) (by omega) (c151_0_9_0.trans (by omega)) n_Mw_9_0 n_Mw3_9_0 n_Wrd_9_0 n_Wd9_9_0 n_Ko_9_0 n_Kf_9_0 (by first | (intro _ k a b; exfalso; omega) | (intro q; exfalso; omega) | (intro q k a b c e; rw [a164] at c; rw [a165] at e; rw [a166]; rcases (by omega : k = p9_1 ∨ k < p9_1) with z | z <;> first | exact un_9_0 (by omega) k a z c e | (subst z; omega) | (subst_vars; omega)) | omega) (by first | (intro q; exfalso; omega) | exact uy_9_0 | exact (fun _ => uy_9_0 (by omega)) | exact (fun _ => ⟨p9_1, by omega, by omega, by rw [← i4_9_0]; omega, by rw [← i5_9_0]; omega, by rw [← i6_9_0]; omega⟩) | omega) (by first | exact (fun j => a164 j) | exact (fun j => (a164 j).trans (i4_9_0 j)) | exact (fun j => (a164 j).trans (i4_93_0 j)) | exact (fun j => (a164 j).trans (i4_119_0 j)) | omega) (by first | exact (fun j => a165 j) | exact (fun j => (a165 j).trans (i5_9_0 j)) | omega) (by first | exact (fun j => a166 j) | exact (fun j => (a166 j).trans (i6_9_0 j)) | omega) (by omega) (by omega)
            ·
              refine w_aload_n gz_168_37 rfl ?_
              refine w_getX (v := 166) gz_168_38 is_151 rd_10 rfl (by decide) rfl ?_
              refine w_iload_n gz_168_41 rfl ?_
              refine w_iald gz_168_42 is_166 rd_65 (by omega) (by omega) (fun v132 ev132 pv132 qv132 => ?_)
              refine w_iload_n gz_168_43 rfl ?_
              refine w_icne (t := 51) gz_168_44 rfl (fun u133 => ?_) (fun u133 => ?_)
              ·
                refine w_iconst gz_168_51 (by decide) ?_
                refine w_istore_n (ls' := [(2, 151), (0, x1), (0, 0), (0, p9_1)]) gz_168_52 gm_168 rfl rfl rfl ?_
                refine w_iinc (ls' := [(2, 151), (0, x1), (0, 0), (0, (p9_1 + 1))]) gz_168_53 rfl gm_168 rfl rfl rfl ⟨by omega, by omega⟩ ?_
                refine w_goto (t := 9) gz_168_56 rfl ?_
                have a164 : ∀ j : Int, h9_0 164 j = h9_0 164 j := fun _ => rfl
                have a165 : ∀ j : Int, h9_0 165 j = h9_0 165 j := fun _ => rfl
                have a166 : ∀ j : Int, h9_0 166 j = h9_0 166 j := fun _ => rfl
                exact ih_9_0 (0) ((p9_1 + 1)) h9_0 (gh_9_0) (by omega) (by omega) (by omega) (by omega) (by omega) (c151_0_9_0.trans (by omega)) n_Mw_9_0 n_Mw3_9_0 n_Wrd_9_0 n_Wd9_9_0 n_Ko_9_0 n_Kf_9_0 (by first | (intro _ k a b; exfalso; omega) | (intro q; exfalso; omega) | (intro q k a b c e; rw [a164] at c; rw [a165] at e; rw [a166]; rcases (by omega : k = p9_1 ∨ k < p9_1) with z | z <;> first | exact un_9_0 (by omega) k a z c e | (subst z; omega) | (subst_vars; omega)) | omega) (by first | (intro q; exfalso; omega) | exact uy_9_0 | exact (fun _ => uy_9_0 (by omega)) | exact (fun _ => ⟨p9_1, by omega, by omega, by rw [← i4_9_0]; omega, by rw [← i5_9_0]; omega, by rw [← i6_9_0]; omega⟩) | omega) (by first | exact (fun j => a164 j) | exact (fun j => (a164 j).trans (i4_9_0 j)) | exact (fun j => (a164 j).trans (i4_93_0 j)) | exact (fun j => (a164 j).trans (i4_119_0 j)) | omega) (by first | exact (fun j => a165 j) | exact (fun j => (a165 j).trans (i5_9_0 j)) | omega) (by first | exact (fun j => a166 j) | exact (fun j => (a166 j).trans (i6_9_0 j)) | omega) (by omega) (by omega)
              ·
                refine w_iconst gz_168_47 (by decide) ?_
                refine w_goto (t := 52) gz_168_48 rfl ?_
                refine w_istore_n (ls' := [(2, 151), (0, x1), (0, 1), (0, p9_1)]) gz_168_52 gm_168 rfl rfl rfl ?_
                refine w_iinc (ls' := [(2, 151), (0, x1), (0, 1), (0, (p9_1 + 1))]) gz_168_53 rfl gm_168 rfl rfl rfl ⟨by omega, by omega⟩ ?_
                refine w_goto (t := 9) gz_168_56 rfl ?_
                have a164 : ∀ j : Int, h9_0 164 j = h9_0 164 j := fun _ => rfl
                have a165 : ∀ j : Int, h9_0 165 j = h9_0 165 j := fun _ => rfl
                have a166 : ∀ j : Int, h9_0 166 j = h9_0 166 j := fun _ => rfl
                exact ih_9_0 (1) ((p9_1 + 1)) h9_0 (gh_9_0) (by omega) (by omega) (by omega) (by omega) (by omega) (c151_0_9_0.trans (by omega)) n_Mw_9_0 n_Mw3_9_0 n_Wrd_9_0 n_Wd9_9_0 n_Ko_9_0 n_Kf_9_0 (by first | (intro _ k a b; exfalso; omega) | (intro q; exfalso; omega) | (intro q k a b c e; rw [a164] at c; rw [a165] at e; rw [a166]; rcases (by omega : k = p9_1 ∨ k < p9_1) with z | z <;> first | exact un_9_0 (by omega) k a z c e | (subst z; omega) | (subst_vars; omega)) | omega) (by first | (intro q; exfalso; omega) | exact uy_9_0 | exact (fun _ => uy_9_0 (by omega)) | exact (fun _ => ⟨p9_1, by omega, by omega, by rw [← i4_9_0]; omega, by rw [← i5_9_0]; omega, by rw [← i6_9_0]; omega⟩) | omega) (by first | exact (fun j => a164 j) | exact (fun j => (a164 j).trans (i4_9_0 j)) | exact (fun j => (a164 j).trans (i4_93_0 j)) | exact (fun j => (a164 j).trans (i4_119_0 j)) | omega) (by first | exact (fun j => a165 j) | exact (fun j => (a165 j).trans (i5_9_0 j)) | omega) (by first | exact (fun j => a166 j) | exact (fun j => (a166 j).trans (i6_9_0 j)) | omega) (by omega) (by omega)
  refine w_aload_n gz_168_0 rfl ?_
  refine w_iconst gz_168_1 (by decide) ?_
  refine v_putI (j := 0) gz_168_2 rfl is_151 rd_10 rfl (by omega) (by omega) rfl (fun h134 fh134 => ?_)
  have gh134 : my_fr [(10, 0), (10, 2), (10, 3), (10, 7), (10, 8), (10, 27), (10, 32), (10, 33), (52, -1), (53, -1), (54, -1), (63, -1), (64, -1), (65, -1), (66, -1), (67, -1), (68, -1), (69, -1), (70, -1), (71, -1), (72, -1), (73, -1), (74, -1), (75, -1), (76, -1), (77, -1), (78, -1), (79, -1)] h h134 := my_fr.up my_fr.rf is_151 fh134 rfl
  have Mw_h134 : Mw h134 := Mw_ag (my_ag.up fh134 is_151 rfl) n_Mw
  have Mw3_h134 : Mw3 h134 := Mw3_ag (my_ag.up fh134 is_151 rfl) n_Mw3
  have Wrd_h134 : Wrd h134 := Wrd_ag (my_ag.up fh134 is_151 rfl) n_Wrd
  have Wd9_h134 : Wd9 h134 := Wd9_ag (my_ag.up fh134 is_151 rfl) n_Wd9
  have Ko_h134 : Ko h h134 := Ko_ag (my_ag.up fh134 is_151 rfl) (Ko_rf)
  have Kf_h134 : Kf h h134 := Kf_ag (my_ag.up fh134 is_151 rfl) (Kf_rf)
  refine w_iconst gz_168_5 (by decide) ?_
  refine w_istore_n (ls' := [(2, 151), (0, x1), (0, 0), (9, 0)]) gz_168_6 gm_168 rfl rfl rfl ?_
  refine w_iconst gz_168_7 (by decide) ?_
  refine w_istore_n (ls' := [(2, 151), (0, x1), (0, 0), (0, 0)]) gz_168_8 gm_168 rfl rfl rfl ?_
  have a164 : ∀ j : Int, h134 164 j = h 164 j := fun j => ((my_up_role fh134 is_164 is_151 rfl).trans (rfl : h 164 j = h 164 j))
  have a165 : ∀ j : Int, h134 165 j = h 165 j := fun j => ((my_up_role fh134 is_165 is_151 rfl).trans (rfl : h 165 j = h 165 j))
  have a166 : ∀ j : Int, h134 166 j = h 166 j := fun j => ((my_up_role fh134 is_166 is_151 rfl).trans (rfl : h 166 j = h 166 j))
  have ce135 : h134 151 2 = h 151 2 := ((my_up_fld fh134 (by decide)).trans (rfl : h 151 2 = h 151 2))
  exact J9_0 7 (0) (0) h134 (gh134) (by omega) (by omega) (by omega) (by omega) (by omega) ((my_up_self fh134).trans (by omega)) Mw_h134 Mw3_h134 Wrd_h134 Wd9_h134 Ko_h134 Kf_h134 (by first | (intro _ k a b; exfalso; omega) | (intro q; exfalso; omega) | (intro q k a b c e; rw [a164] at c; rw [a165] at e; rw [a166]; rcases (by omega : k = p9_1 ∨ k < p9_1) with z | z <;> first | exact un_9_0 (by omega) k a z c e | (subst z; omega) | (subst_vars; omega)) | omega) (by first | (intro q; exfalso; omega) | exact uy_9_0 | exact (fun _ => uy_9_0 (by omega)) | exact (fun _ => ⟨p9_1, by omega, by omega, by rw [← i4_9_0]; omega, by rw [← i5_9_0]; omega, by rw [← i6_9_0]; omega⟩) | omega) (by first | exact (fun j => a164 j) | exact (fun j => (a164 j).trans (i4_9_0 j)) | exact (fun j => (a164 j).trans (i4_93_0 j)) | exact (fun j => (a164 j).trans (i4_119_0 j)) | omega) (by first | exact (fun j => a165 j) | exact (fun j => (a165 j).trans (i5_9_0 j)) | omega) (by first | exact (fun j => a166 j) | exact (fun j => (a166 j).trans (i6_9_0 j)) | omega) (by omega) (by omega)
theorem c_Model_way4 {l : Launch} {rho : Nat → Int32} {d : Nat} {h : my_H} {Q : my_H → my_V → Prop} {x1 x2 x3 x4 x5 x6 x7 : Int} (n_Mw : Mw h) (n_Mw3 : Mw3 h) (n_Rws : Rws h) (hlm : LmW h) (hwo : zqWo (zqMA h) (zqMS h 0)) (k0 : ∀ (h' : my_H), my_fr [(10, 0), (10, 27), (10, 32), (10, 33), (10, 37), (10, 46), (10, 48), (61, -1), (62, -1), (73, -1), (74, -1), (75, -1), (76, -1), (77, -1), (78, -1), (79, -1), (80, -1), (81, -1), (82, -1), (83, -1), (84, -1), (85, -1), (86, -1), (88, -1), (89, -1), (90, -1), (91, -1), (92, -1), (93, -1), (94, -1)] h h' → h' 151 0 = 0 → Ot9 h h' → Rws h' → Q h' (0, (-1))) (k1 : ∀ (h' : my_H) (y : Int), my_fr [(10, 0), (10, 27), (10, 32), (10, 33), (10, 37), (10, 46), (10, 48), (61, -1), (62, -1), (73, -1), (74, -1), (75, -1), (76, -1), (77, -1), (78, -1), (79, -1), (80, -1), (81, -1), (82, -1), (83, -1), (84, -1), (85, -1), (86, -1), (88, -1), (89, -1), (90, -1), (91, -1), (92, -1), (93, -1), (94, -1)] h h' → (-1) ≤ y → y ≤ 19 → 0 ≤ x1 → x1 ≤ 5 → 0 ≤ x2 → x2 ≤ 2 → (-1) ≤ x6 → x6 ≤ 1799 → 0 ≤ x7 → x7 ≤ 5 → h' 151 0 = 0 → 1 ≤ h' 151 48 → h' 151 48 ≤ 1800 → Ot9 h h' → Rws h' → Q h' (0, y)) : wp l rho (d + 7) 219 0 [(2, 151), (0, x1), (0, x2), (0, x3), (0, x4), (0, x5), (0, x6), (0, x7), (9, 0)] [] h Q := by
  refine w_aload_n gz_219_0 rfl ?_
  refine w_iconst gz_219_1 (by decide) ?_
  refine v_putI (j := 0) gz_219_2 rfl is_151 rd_10 rfl (by omega) (by omega) rfl (fun h1 fh1 => ?_)
  have gh1 : my_fr [(10, 0), (10, 27), (10, 32), (10, 33), (10, 37), (10, 46), (10, 48), (61, -1), (62, -1), (73, -1), (74, -1), (75, -1), (76, -1), (77, -1), (78, -1), (79, -1), (80, -1), (81, -1), (82, -1), (83, -1), (84, -1), (85, -1), (86, -1), (88, -1), (89, -1), (90, -1), (91, -1), (92, -1), (93, -1), (94, -1)] h h1 := my_fr.up my_fr.rf is_151 fh1 rfl
  have Mw_h1 : Mw h1 := Mw_ag (my_ag.up fh1 is_151 rfl) n_Mw
  have Mw3_h1 : Mw3 h1 := Mw3_ag (my_ag.up fh1 is_151 rfl) n_Mw3
  have Rws_h1 : Rws h1 := Rws_ag (my_ag.up fh1 is_151 rfl) n_Rws
  refine w_iload gz_219_5 rfl ?_
  refine w_iconst gz_219_7 (by decide) ?_
  refine w_iconst gz_219_8 (by decide) ?_
  refine w_inS (k := 0) (as := [(0, 5), (0, 0), (0, x7)]) (r := []) (ls0 := [(0, x7), (0, 0), (0, 5)]) gz_219_9 gm_147 rfl rfl rfl rfl rfl rfl ?_
  refine w_iload_n gz_147_0 rfl ?_
  refine w_iload_n gz_147_1 rfl ?_
  refine w_iclt (t := 14) gz_147_2 rfl (fun u2 => ?_) (fun u2 => ?_)
  ·
    refine w_iconst gz_147_14 (by decide) ?_
    refine w_bret gz_147_15 gm_147 (by omega) (by omega) ?_
    show wp l rho (d + 7) 219 12 [(2, 151), (0, x1), (0, x2), (0, x3), (0, x4), (0, x5), (0, x6), (0, x7), (9, 0)] [(0, 0)] h1 Q
    refine w_ifeq (t := 30) gz_219_12 rfl (fun u3 => ?_) (fun u3 => by exfalso; omega)
    refine w_iconst gz_219_30 (by decide) ?_
    have r162 : ∀ j : Int, h1 162 j = h 162 j := fun j => ((my_up_role fh1 is_162 is_151 rfl).trans (rfl : h 162 j = h 162 j))
    have r163 : ∀ j : Int, h1 163 j = h 163 j := fun j => ((my_up_role fh1 is_163 is_151 rfl).trans (rfl : h 163 j = h 163 j))
    have c4 := (my_up_self fh1)
    exact w_iret gz_219_31 gm_219 (k0 h1 (gh1) (by omega) (by first | exact o9 | exact Ot9_e r162 r163 | assumption | omega) Rws_h1)
  ·
    refine w_iload_n gz_147_5 rfl ?_
    refine w_iload_n gz_147_6 rfl ?_
    refine w_icgt (t := 14) gz_147_7 rfl (fun u5 => ?_) (fun u5 => ?_)
    ·
      refine w_iconst gz_147_14 (by decide) ?_
      refine w_bret gz_147_15 gm_147 (by omega) (by omega) ?_
      show wp l rho (d + 7) 219 12 [(2, 151), (0, x1), (0, x2), (0, x3), (0, x4), (0, x5), (0, x6), (0, x7), (9, 0)] [(0, 0)] h1 Q
      refine w_ifeq (t := 30) gz_219_12 rfl (fun u6 => ?_) (fun u6 => by exfalso; omega)
      refine w_iconst gz_219_30 (by decide) ?_
      have r162 : ∀ j : Int, h1 162 j = h 162 j := fun j => ((my_up_role fh1 is_162 is_151 rfl).trans (rfl : h 162 j = h 162 j))
      have r163 : ∀ j : Int, h1 163 j = h 163 j := fun j => ((my_up_role fh1 is_163 is_151 rfl).trans (rfl : h 163 j = h 163 j))
      have c7 := (my_up_self fh1)
      exact w_iret gz_219_31 gm_219 (k0 h1 (gh1) (by omega) (by first | exact o9 | exact Ot9_e r162 r163 | assumption | omega) Rws_h1)
    ·
      refine w_iconst gz_147_10 (by decide) ?_
      refine w_goto (t := 15) gz_147_11 rfl ?_
      refine w_bret gz_147_15 gm_147 (by omega) (by omega) ?_
      show wp l rho (d + 7) 219 12 [(2, 151), (0, x1), (0, x2), (0, x3), (0, x4), (0, x5), (0, x6), (0, x7), (9, 0)] [(0, 1)] h1 Q
      refine w_ifeq (t := 30) gz_219_12 rfl (fun u8 => by exfalso; omega) (fun u8 => ?_)
      refine w_aload_n gz_219_15 rfl ?_
      refine w_iconst gz_219_16 (by decide) ?_
      refine w_iload_n gz_219_17 rfl ?_
      refine w_iload_n gz_219_18 rfl ?_
      refine w_iload_n gz_219_19 rfl ?_
      refine w_iload gz_219_20 rfl ?_
      refine w_iload gz_219_22 rfl ?_
      have c162 : ∀ j : Int, h1 162 j = h 162 j := fun j => ((my_up_role fh1 is_162 is_151 rfl).trans (rfl : h 162 j = h 162 j))
      have c163 : ∀ j : Int, h1 163 j = h 163 j := fun j => ((my_up_role fh1 is_163 is_151 rfl).trans (rfl : h 163 j = h 163 j))
      have ag1 : my_ag LmF h h1 := (my_ag.fr (F := LmF) gh1 rfl)
      refine w_inv (k := 1) (as := [(0, x5), (0, x4), (0, x3), (0, x2), (0, x1), (0, 0)]) (r := []) (x := 151) (ls0 := [(2, 151), (0, 0), (0, x1), (0, x2), (0, x3), (0, x4), (0, x5), (9, 0)]) gz_219_24 gm_208 rfl is_151 rd_10 rfl rfl rfl rfl rfl (c_Model_isEdit5 (d := (d + 2)) (x1 := 0) (x2 := x1) (x3 := x2) (x4 := x3) (x5 := x4) (x6 := x5) (by omega) (by omega) Mw_h1 Mw3_h1 Rws_h1 (fun h9 frh9 xp10 => ?_) (fun h11 frh11 w12 w13 w14 w15 xp16 xp17 xp18 xp19 xp20 xp21 xp22 xp23 xp24 xp25 xp26 xp27 => ?_))
      ·
        have gh9 : my_fr [(10, 0), (10, 27), (10, 32), (10, 33), (10, 37), (10, 46), (10, 48), (61, -1), (62, -1), (73, -1), (74, -1), (75, -1), (76, -1), (77, -1), (78, -1), (79, -1), (80, -1), (81, -1), (82, -1), (83, -1), (84, -1), (85, -1), (86, -1), (88, -1), (89, -1), (90, -1), (91, -1), (92, -1), (93, -1), (94, -1)] h h9 := my_fr.tr gh1 (frh9.mo rfl)
        have Mw_h9 : Mw h9 := Mw_ag (my_ag.fr frh9 rfl) Mw_h1
        have Mw3_h9 : Mw3 h9 := Mw3_ag (my_ag.fr frh9 rfl) Mw3_h1
        have Rws_h9 : Rws h9 := Rws_ag (my_ag.fr frh9 rfl) Rws_h1
        show wp l rho (d + 7) 219 27 [(2, 151), (0, x1), (0, x2), (0, x3), (0, x4), (0, x5), (0, x6), (0, x7), (9, 0)] [(0, 0)] h9 Q
        have agE : my_ag LmF h1 h9 := my_ag.fr frh9 rfl
        have e2E : ∀ j : Int, h9 162 j = h1 162 j := fun j => my_fr.at frh9 pis_162 rfl
        have e3E : ∀ j : Int, h9 163 j = h1 163 j := fun j => my_fr.at frh9 pis_163 rfl
        have nE := xp10
        refine w_ifne (t := 32) gz_219_27 rfl (fun u28 => by exfalso; omega) (fun u28 => ?_)
        refine w_iconst gz_219_30 (by decide) ?_
        have r162 : ∀ j : Int, h9 162 j = h 162 j := fun j => ((my_fr.at frh9 is_162 rfl).trans ((my_up_role fh1 is_162 is_151 rfl).trans (rfl : h 162 j = h 162 j)))
        have r163 : ∀ j : Int, h9 163 j = h 163 j := fun j => ((my_fr.at frh9 is_163 rfl).trans ((my_up_role fh1 is_163 is_151 rfl).trans (rfl : h 163 j = h 163 j)))
        have c29 := ((my_fr.at frh9 is_151 rfl).trans (my_up_self fh1))
        exact w_iret gz_219_31 gm_219 (k0 h9 (gh9) (by omega) (by first | exact o9 | exact Ot9_e r162 r163 | assumption | omega) Rws_h9)
      ·
        have gh11 : my_fr [(10, 0), (10, 27), (10, 32), (10, 33), (10, 37), (10, 46), (10, 48), (61, -1), (62, -1), (73, -1), (74, -1), (75, -1), (76, -1), (77, -1), (78, -1), (79, -1), (80, -1), (81, -1), (82, -1), (83, -1), (84, -1), (85, -1), (86, -1), (88, -1), (89, -1), (90, -1), (91, -1), (92, -1), (93, -1), (94, -1)] h h11 := my_fr.tr gh1 (frh11.mo rfl)
        have Mw_h11 : Mw h11 := Mw_ag (my_ag.fr frh11 rfl) Mw_h1
        have Mw3_h11 : Mw3 h11 := Mw3_ag (my_ag.fr frh11 rfl) Mw3_h1
        have Rws_h11 : Rws h11 := Rws_ag (my_ag.fr frh11 rfl) Rws_h1
        show wp l rho (d + 7) 219 27 [(2, 151), (0, x1), (0, x2), (0, x3), (0, x4), (0, x5), (0, x6), (0, x7), (9, 0)] [(0, 1)] h11 Q
        have Fp_h11t30 : Fp h11 x1 := xp18
        have agE : my_ag LmF h1 h11 := my_ag.fr frh11 rfl
        have e2E : ∀ j : Int, h11 162 j = h1 162 j := fun j => my_fr.at frh11 pis_162 rfl
        have e3E : ∀ j : Int, h11 163 j = h1 163 j := fun j => my_fr.at frh11 pis_163 rfl
        have nE := xp16
        have md8 := xp24
        refine w_ifne (t := 32) gz_219_27 rfl (fun u31 => ?_) (fun u31 => by exfalso; omega)
        refine w_aload_n gz_219_32 rfl ?_
        refine w_iconst gz_219_33 (by decide) ?_
        refine w_iload_n gz_219_34 rfl ?_
        refine w_iload_n gz_219_35 rfl ?_
        refine w_iload_n gz_219_36 rfl ?_
        refine w_iload gz_219_37 rfl ?_
        refine w_iload gz_219_39 rfl ?_
        have b162 : ∀ j : Int, h11 162 j = h 162 j := fun j => ((my_fr.at frh11 is_162 rfl).trans ((my_up_role fh1 is_162 is_151 rfl).trans (rfl : h 162 j = h 162 j)))
        have b163 : ∀ j : Int, h11 163 j = h 163 j := fun j => ((my_fr.at frh11 is_163 rfl).trans ((my_up_role fh1 is_163 is_151 rfl).trans (rfl : h 163 j = h 163 j)))
        have maF : zqMA h11 = zqMA h := zqMA_e (fun j => my_fr.at gh11 pis_157 rfl) (fun j => my_fr.at gh11 pis_158 rfl) (fun j => my_fr.at gh11 pis_159 rfl) (fun j => my_fr.at gh11 pis_160 rfl) (fun j => my_fr.at gh11 pis_161 rfl)
        have agF : my_ag LmF h h11 := (my_ag.fr (F := LmF) gh11 rfl)
        have e188F : ∀ j : Int, h11 188 j = h 188 j := fun j => my_fr.at gh11 pis_188 rfl
        refine w_inv (k := 4) (as := [(0, x5), (0, x4), (0, x3), (0, x2), (0, x1), (0, 0)]) (r := []) (x := 151) (ls0 := [(2, 151), (0, 0), (0, x1), (0, x2), (0, x3), (0, x4), (0, x5), (9, 0), (9, 0), (9, 0), (9, 0)]) gz_219_41 gm_209 rfl is_151 rd_10 rfl rfl rfl rfl rfl (c_Model_findWays5 (d := d) (x1 := 0) (x2 := x1) (x3 := x2) (x4 := x3) (x5 := x4) (x6 := x5) (by omega) (by omega) (by omega) (by omega) (by omega) (by omega) Mw_h11 Mw3_h11 Rws_h11 Fp_h11t30 (by first | assumption | exact Fp_h11t30 | exact Fp_told (by omega) (by omega) | omega | (subst_vars; omega) | omega) (by first | assumption | exact Fp_h11t30 | exact Fp_told (by omega) (by omega) | omega | (subst_vars; omega) | omega) (LmW_ag (my_ag.fr (F := LmF) gh11 rfl) hlm) ((by rw [maF, MS_eq b162 b163]; exact hwo.2.1)) (MdOk_cg agE (MS_eq e2E e3E) md8) (fun h32 frh32 xp33 xp34 xp35 Rws_h32t36 Wys_h32t37 => ?_))
        have gh32 : my_fr [(10, 0), (10, 27), (10, 32), (10, 33), (10, 37), (10, 46), (10, 48), (61, -1), (62, -1), (73, -1), (74, -1), (75, -1), (76, -1), (77, -1), (78, -1), (79, -1), (80, -1), (81, -1), (82, -1), (83, -1), (84, -1), (85, -1), (86, -1), (88, -1), (89, -1), (90, -1), (91, -1), (92, -1), (93, -1), (94, -1)] h h32 := my_fr.tr gh11 (frh32.mo rfl)
        have Mw_h32 : Mw h32 := Mw_ag (my_ag.fr frh32 rfl) Mw_h11
        have Mw3_h32 : Mw3 h32 := Mw3_ag (my_ag.fr frh32 rfl) Mw3_h11
        have Fp_h32 : Fp h32 x1 := Fp_ag (my_ag.fr frh32 rfl) Fp_h11t30
        show wp l rho (d + 7) 219 44 [(2, 151), (0, x1), (0, x2), (0, x3), (0, x4), (0, x5), (0, x6), (0, x7), (9, 0)] [] h32 Q
        have fA := xp33
        have fZ := xp34
        have o9 : Ot9 h h32 := (Ot9_e b162 b163).tr (Ot9_8 xp35)
        refine w_iload gz_219_44 rfl ?_
        refine w_iconst gz_219_46 (by decide) ?_
        refine w_icne (t := 57) gz_219_47 rfl (fun u38 => ?_) (fun u38 => ?_)
        ·
          refine w_iload gz_219_57 rfl ?_
          refine w_istore (ls' := [(2, 151), (0, x1), (0, x2), (0, x3), (0, x4), (0, x5), (0, x6), (0, x7), (0, x6)]) gz_219_59 gm_219 rfl rfl rfl ?_
          refine w_iload gz_219_61 rfl ?_
          refine w_iconst gz_219_63 (by decide) ?_
          refine w_aload_n gz_219_64 rfl ?_
          refine v_getI (j := 48) gz_219_65 rfl is_151 rd_10 rfl (fun v39 ev39 pv39 qv39 => ?_)
          refine w_iconst gz_219_68 (by decide) ?_
          refine w_isub gz_219_69 ⟨by omega, by omega⟩ ?_
          refine w_inS (k := 0) (as := [(0, (v39 - 1)), (0, 0), (0, x6)]) (r := []) (ls0 := [(0, x6), (0, 0), (0, (v39 - 1))]) gz_219_70 gm_147 rfl rfl rfl rfl rfl rfl ?_
          refine w_iload_n gz_147_0 rfl ?_
          refine w_iload_n gz_147_1 rfl ?_
          refine w_iclt (t := 14) gz_147_2 rfl (fun u40 => ?_) (fun u40 => ?_)
          ·
            refine w_iconst gz_147_14 (by decide) ?_
            refine w_bret gz_147_15 gm_147 (by omega) (by omega) ?_
            show wp l rho (d + 7) 219 73 [(2, 151), (0, x1), (0, x2), (0, x3), (0, x4), (0, x5), (0, x6), (0, x7), (0, x6)] [(0, 0)] h32 Q
            refine w_ifne (t := 78) gz_219_73 rfl (fun u41 => by exfalso; omega) (fun u41 => ?_)
            refine w_iconst gz_219_76 (by decide) ?_
            have r162 : ∀ j : Int, h32 162 j = h32 162 j := fun j => rfl
            have r163 : ∀ j : Int, h32 163 j = h32 163 j := fun j => rfl
            have c42 := ((my_fr.at frh32 is_151 rfl).trans ((my_fr.at frh11 is_151 rfl).trans (my_up_self fh1)))
            exact w_iret gz_219_77 gm_219 (k0 h32 (gh32) (by omega) (by first | exact o9 | exact Ot9_e r162 r163 | assumption | omega) Rws_h32t36)
          ·
            refine w_iload_n gz_147_5 rfl ?_
            refine w_iload_n gz_147_6 rfl ?_
            refine w_icgt (t := 14) gz_147_7 rfl (fun u43 => ?_) (fun u43 => ?_)
            ·
              refine w_iconst gz_147_14 (by decide) ?_
              refine w_bret gz_147_15 gm_147 (by omega) (by omega) ?_
              show wp l rho (d + 7) 219 73 [(2, 151), (0, x1), (0, x2), (0, x3), (0, x4), (0, x5), (0, x6), (0, x7), (0, x6)] [(0, 0)] h32 Q
              refine w_ifne (t := 78) gz_219_73 rfl (fun u44 => by exfalso; omega) (fun u44 => ?_)
              refine w_iconst gz_219_76 (by decide) ?_
              have r162 : ∀ j : Int, h32 162 j = h32 162 j := fun j => rfl
              have r163 : ∀ j : Int, h32 163 j = h32 163 j := fun j => rfl
              have c45 := ((my_fr.at frh32 is_151 rfl).trans ((my_fr.at frh11 is_151 rfl).trans (my_up_self fh1)))
              exact w_iret gz_219_77 gm_219 (k0 h32 (gh32) (by omega) (by first | exact o9 | exact Ot9_e r162 r163 | assumption | omega) Rws_h32t36)
            ·
              refine w_iconst gz_147_10 (by decide) ?_
              refine w_goto (t := 15) gz_147_11 rfl ?_
              refine w_bret gz_147_15 gm_147 (by omega) (by omega) ?_
              show wp l rho (d + 7) 219 73 [(2, 151), (0, x1), (0, x2), (0, x3), (0, x4), (0, x5), (0, x6), (0, x7), (0, x6)] [(0, 1)] h32 Q
              refine w_ifne (t := 78) gz_219_73 rfl (fun u46 => ?_) (fun u46 => by exfalso; omega)
              refine w_iload gz_219_78 rfl ?_
              by_cases u47 : x7 = 0
              ·
                refine w_tswE (t := 116) gz_219_80 u47 (by decide) (by decide) rfl rfl ?_
                refine w_aload_n gz_219_116 rfl ?_
                refine w_iload gz_219_117 rfl ?_
                refine w_inv (k := 0) (as := [(0, x6)]) (r := []) (x := 151) (ls0 := [(2, 151), (0, x6)]) gz_219_119 gm_221 rfl is_151 rd_10 rfl rfl rfl rfl rfl ?_
                refine w_aload_n gz_221_0 rfl ?_
                refine w_getX (v := 190) gz_221_1 is_151 rd_10 rfl (by decide) rfl ?_
                refine w_iload_n gz_221_4 rfl ?_
                refine w_iald gz_221_5 is_190 rd_89 (by omega) (by omega) (fun v49 ev49 pv49 qv49 => ?_)
                have pk_x6 : h32 190 x6 = v49 := by omega
                refine w_iconst gz_221_6 (by decide) ?_
                refine w_icge (t := 19) gz_221_7 rfl (fun u50 => ?_) (fun u50 => ?_)
                ·
                  refine w_aload_n gz_221_19 rfl ?_
                  refine w_getX (v := 157) gz_221_20 is_151 rd_10 rfl (by decide) rfl ?_
                  refine w_aload_n gz_221_23 rfl ?_
                  refine w_getX (v := 191) gz_221_24 is_151 rd_10 rfl (by decide) rfl ?_
                  refine w_iload_n gz_221_27 rfl ?_
                  refine w_iald gz_221_28 is_191 rd_90 (by omega) (by omega) (fun v53 ev53 pv53 qv53 => ?_)
                  have pw_x6 : h32 191 x6 = v53 := by omega
                  have hi54 : 0 ≤ v53 := by have q := Wys_h32t37 x6 (by omega) (by omega); omega
                  have hi55 : v53 ≤ 2 := by have q := Wys_h32t37 x6 (by omega) (by omega); omega
                  refine w_iald gz_221_29 is_157 rd_56 (by omega) (by omega) (fun v56 ev56 pv56 qv56 => ?_)
                  have px_x6 : v56 = zqPr (h32 157) (wyA h32 x6) := by first | exact Pr_k (by omega) (by omega) | exact Pr_w pk_x6 (by omega) pw_x6 (by omega)
                  refine w_iret gz_221_30 gm_221 ?_
                  show wp l rho (d + 7) 219 122 [(2, 151), (0, x1), (0, x2), (0, x3), (0, x4), (0, x5), (0, x6), (0, x7), (0, x6)] [(0, v56)] h32 Q
                  have r162 : ∀ j : Int, h32 162 j = h32 162 j := fun j => rfl
                  have r163 : ∀ j : Int, h32 163 j = h32 163 j := fun j => rfl
                  have c57 := ((my_fr.at frh32 is_151 rfl).trans ((my_fr.at frh11 is_151 rfl).trans (my_up_self fh1)))
                  have c58 := ev39.symm
                  exact w_iret gz_219_122 gm_219 (k1 h32 (v56) (gh32) (by omega) (by omega) (by omega) (by omega) (by omega) (by omega) (by omega) (by omega) (by omega) (by omega) (by omega) (by omega) (by omega) (by first | exact o9 | exact Ot9_e r162 r163 | assumption | omega) Rws_h32t36)
                ·
                  refine w_aload_n gz_221_10 rfl ?_
                  refine w_getX (v := 190) gz_221_11 is_151 rd_10 rfl (by decide) rfl ?_
                  refine w_iload_n gz_221_14 rfl ?_
                  refine w_iald gz_221_15 is_190 rd_89 (by omega) (by omega) (fun v60 ev60 pv60 qv60 => ?_)
                  have zv60 := ev60.trans ev49.symm
                  refine w_goto (t := 30) gz_221_16 rfl ?_
                  have px_x6 : v60 = zqPr (h32 157) (wyA h32 x6) := by first | exact Pr_k (by omega) (by omega) | exact Pr_w pk_x6 (by omega) pw_x6 (by omega)
                  refine w_iret gz_221_30 gm_221 ?_
                  show wp l rho (d + 7) 219 122 [(2, 151), (0, x1), (0, x2), (0, x3), (0, x4), (0, x5), (0, x6), (0, x7), (0, x6)] [(0, v60)] h32 Q
                  have r162 : ∀ j : Int, h32 162 j = h32 162 j := fun j => rfl
                  have r163 : ∀ j : Int, h32 163 j = h32 163 j := fun j => rfl
                  have c61 := ((my_fr.at frh32 is_151 rfl).trans ((my_fr.at frh11 is_151 rfl).trans (my_up_self fh1)))
                  have c62 := ev39.symm
                  exact w_iret gz_219_122 gm_219 (k1 h32 (v60) (gh32) (by omega) (by omega) (by omega) (by omega) (by omega) (by omega) (by omega) (by omega) (by omega) (by omega) (by omega) (by omega) (by omega) (by first | exact o9 | exact Ot9_e r162 r163 | assumption | omega) Rws_h32t36)
              ·
                by_cases u63 : x7 = 1
                ·
                  refine w_tswE (t := 123) gz_219_80 u63 (by decide) (by decide) rfl rfl ?_
                  refine w_aload_n gz_219_123 rfl ?_
                  refine w_getX (v := 190) gz_219_124 is_151 rd_10 rfl (by decide) rfl ?_
                  refine w_iload gz_219_127 rfl ?_
                  refine w_iald gz_219_129 is_190 rd_89 (by omega) (by omega) (fun v65 ev65 pv65 qv65 => ?_)
                  have r162 : ∀ j : Int, h32 162 j = h32 162 j := fun j => rfl
                  have r163 : ∀ j : Int, h32 163 j = h32 163 j := fun j => rfl
                  have c66 := ((my_fr.at frh32 is_151 rfl).trans ((my_fr.at frh11 is_151 rfl).trans (my_up_self fh1)))
                  have c67 := ev39.symm
                  exact w_iret gz_219_130 gm_219 (k1 h32 (v65) (gh32) (by omega) (by omega) (by omega) (by omega) (by omega) (by omega) (by omega) (by omega) (by omega) (by omega) (by omega) (by omega) (by omega) (by first | exact o9 | exact Ot9_e r162 r163 | assumption | omega) Rws_h32t36)
                ·
                  by_cases u68 : x7 = 2
                  ·
                    refine w_tswE (t := 131) gz_219_80 u68 (by decide) (by decide) rfl rfl ?_
                    refine w_aload_n gz_219_131 rfl ?_
                    refine w_getX (v := 191) gz_219_132 is_151 rd_10 rfl (by decide) rfl ?_
                    refine w_iload gz_219_135 rfl ?_
                    refine w_iald gz_219_137 is_191 rd_90 (by omega) (by omega) (fun v70 ev70 pv70 qv70 => ?_)
                    have r162 : ∀ j : Int, h32 162 j = h32 162 j := fun j => rfl
                    have r163 : ∀ j : Int, h32 163 j = h32 163 j := fun j => rfl
                    have c71 := ((my_fr.at frh32 is_151 rfl).trans ((my_fr.at frh11 is_151 rfl).trans (my_up_self fh1)))
                    have c72 := ev39.symm
                    exact w_iret gz_219_138 gm_219 (k1 h32 (v70) (gh32) (by omega) (by omega) (by omega) (by omega) (by omega) (by omega) (by omega) (by omega) (by omega) (by omega) (by omega) (by omega) (by omega) (by first | exact o9 | exact Ot9_e r162 r163 | assumption | omega) Rws_h32t36)
                  ·
                    by_cases u73 : x7 = 3
                    ·
                      refine w_tswE (t := 139) gz_219_80 u73 (by decide) (by decide) rfl rfl ?_
                      refine w_aload_n gz_219_139 rfl ?_
                      refine w_getX (v := 192) gz_219_140 is_151 rd_10 rfl (by decide) rfl ?_
                      refine w_iload gz_219_143 rfl ?_
                      refine w_iald gz_219_145 is_192 rd_91 (by omega) (by omega) (fun v75 ev75 pv75 qv75 => ?_)
                      have r162 : ∀ j : Int, h32 162 j = h32 162 j := fun j => rfl
                      have r163 : ∀ j : Int, h32 163 j = h32 163 j := fun j => rfl
                      have c76 := ((my_fr.at frh32 is_151 rfl).trans ((my_fr.at frh11 is_151 rfl).trans (my_up_self fh1)))
                      have c77 := ev39.symm
                      exact w_iret gz_219_146 gm_219 (k1 h32 (v75) (gh32) (by omega) (by omega) (by omega) (by omega) (by omega) (by omega) (by omega) (by omega) (by omega) (by omega) (by omega) (by omega) (by omega) (by first | exact o9 | exact Ot9_e r162 r163 | assumption | omega) Rws_h32t36)
                    ·
                      by_cases u78 : x7 = 4
                      ·
                        refine w_tswE (t := 147) gz_219_80 u78 (by decide) (by decide) rfl rfl ?_
                        refine w_aload_n gz_219_147 rfl ?_
                        refine w_getX (v := 193) gz_219_148 is_151 rd_10 rfl (by decide) rfl ?_
                        refine w_iload gz_219_151 rfl ?_
                        refine w_iald gz_219_153 is_193 rd_92 (by omega) (by omega) (fun v80 ev80 pv80 qv80 => ?_)
                        have r162 : ∀ j : Int, h32 162 j = h32 162 j := fun j => rfl
                        have r163 : ∀ j : Int, h32 163 j = h32 163 j := fun j => rfl
                        have c81 := ((my_fr.at frh32 is_151 rfl).trans ((my_fr.at frh11 is_151 rfl).trans (my_up_self fh1)))
                        have c82 := ev39.symm
                        exact w_iret gz_219_154 gm_219 (k1 h32 (v80) (gh32) (by omega) (by omega) (by omega) (by omega) (by omega) (by omega) (by omega) (by omega) (by omega) (by omega) (by omega) (by omega) (by omega) (by first | exact o9 | exact Ot9_e r162 r163 | assumption | omega) Rws_h32t36)
                      ·
                        refine w_tswD (t := 155) gz_219_80 (by omega) rfl ?_
                        refine w_aload_n gz_219_155 rfl ?_
                        refine w_getX (v := 194) gz_219_156 is_151 rd_10 rfl (by decide) rfl ?_
                        refine w_iload gz_219_159 rfl ?_
                        refine w_iald gz_219_161 is_194 rd_93 (by omega) (by omega) (fun v84 ev84 pv84 qv84 => ?_)
                        have r162 : ∀ j : Int, h32 162 j = h32 162 j := fun j => rfl
                        have r163 : ∀ j : Int, h32 163 j = h32 163 j := fun j => rfl
                        have c85 := ((my_fr.at frh32 is_151 rfl).trans ((my_fr.at frh11 is_151 rfl).trans (my_up_self fh1)))
                        have c86 := ev39.symm
                        exact w_iret gz_219_162 gm_219 (k1 h32 (v84) (gh32) (by omega) (by omega) (by omega) (by omega) (by omega) (by omega) (by omega) (by omega) (by omega) (by omega) (by omega) (by omega) (by omega) (by first | exact o9 | exact Ot9_e r162 r163 | assumption | omega) Rws_h32t36)
        ·
          refine w_aload_n gz_219_50 rfl ?_
          refine w_inv (k := 2) (as := []) (r := []) (x := 151) (ls0 := [(2, 151), (9, 0), (9, 0)]) gz_219_51 gm_220 rfl is_151 rd_10 rfl rfl rfl rfl rfl (c_Model_leastWay5 (d := (d + 5))  Wys_h32t37 (fun v87 w88 w89 xp90 xp91 => ?_))
          show wp l rho (d + 7) 219 54 [(2, 151), (0, x1), (0, x2), (0, x3), (0, x4), (0, x5), (0, x6), (0, x7), (9, 0)] [(0, v87)] h32 Q
          refine w_goto (t := 59) gz_219_54 rfl ?_
          refine w_istore (ls' := [(2, 151), (0, x1), (0, x2), (0, x3), (0, x4), (0, x5), (0, x6), (0, x7), (0, v87)]) gz_219_59 gm_219 rfl rfl rfl ?_
          refine w_iload gz_219_61 rfl ?_
          refine w_iconst gz_219_63 (by decide) ?_
          refine w_aload_n gz_219_64 rfl ?_
          refine v_getI (j := 48) gz_219_65 rfl is_151 rd_10 rfl (fun v92 ev92 pv92 qv92 => ?_)
          refine w_iconst gz_219_68 (by decide) ?_
          refine w_isub gz_219_69 ⟨by omega, by omega⟩ ?_
          refine w_inS (k := 0) (as := [(0, (v92 - 1)), (0, 0), (0, v87)]) (r := []) (ls0 := [(0, v87), (0, 0), (0, (v92 - 1))]) gz_219_70 gm_147 rfl rfl rfl rfl rfl rfl ?_
          refine w_iload_n gz_147_0 rfl ?_
          refine w_iload_n gz_147_1 rfl ?_
          refine w_iclt (t := 14) gz_147_2 rfl (fun u93 => ?_) (fun u93 => ?_)
          ·
            refine w_iconst gz_147_14 (by decide) ?_
            refine w_bret gz_147_15 gm_147 (by omega) (by omega) ?_
            show wp l rho (d + 7) 219 73 [(2, 151), (0, x1), (0, x2), (0, x3), (0, x4), (0, x5), (0, x6), (0, x7), (0, v87)] [(0, 0)] h32 Q
            refine w_ifne (t := 78) gz_219_73 rfl (fun u94 => by exfalso; omega) (fun u94 => ?_)
            refine w_iconst gz_219_76 (by decide) ?_
            have r162 : ∀ j : Int, h32 162 j = h32 162 j := fun j => rfl
            have r163 : ∀ j : Int, h32 163 j = h32 163 j := fun j => rfl
            have c95 := ((my_fr.at frh32 is_151 rfl).trans ((my_fr.at frh11 is_151 rfl).trans (my_up_self fh1)))
            exact w_iret gz_219_77 gm_219 (k0 h32 (gh32) (by omega) (by first | exact o9 | exact Ot9_e r162 r163 | assumption | omega) Rws_h32t36)
          ·
            refine w_iload_n gz_147_5 rfl ?_
            refine w_iload_n gz_147_6 rfl ?_
            refine w_icgt (t := 14) gz_147_7 rfl (fun u96 => ?_) (fun u96 => ?_)
            ·
              refine w_iconst gz_147_14 (by decide) ?_
              refine w_bret gz_147_15 gm_147 (by omega) (by omega) ?_
              show wp l rho (d + 7) 219 73 [(2, 151), (0, x1), (0, x2), (0, x3), (0, x4), (0, x5), (0, x6), (0, x7), (0, v87)] [(0, 0)] h32 Q
              refine w_ifne (t := 78) gz_219_73 rfl (fun u97 => by exfalso; omega) (fun u97 => ?_)
              refine w_iconst gz_219_76 (by decide) ?_
              have r162 : ∀ j : Int, h32 162 j = h32 162 j := fun j => rfl
              have r163 : ∀ j : Int, h32 163 j = h32 163 j := fun j => rfl
              have c98 := ((my_fr.at frh32 is_151 rfl).trans ((my_fr.at frh11 is_151 rfl).trans (my_up_self fh1)))
              exact w_iret gz_219_77 gm_219 (k0 h32 (gh32) (by omega) (by first | exact o9 | exact Ot9_e r162 r163 | assumption | omega) Rws_h32t36)
            ·
              refine w_iconst gz_147_10 (by decide) ?_
              refine w_goto (t := 15) gz_147_11 rfl ?_
              refine w_bret gz_147_15 gm_147 (by omega) (by omega) ?_
              show wp l rho (d + 7) 219 73 [(2, 151), (0, x1), (0, x2), (0, x3), (0, x4), (0, x5), (0, x6), (0, x7), (0, v87)] [(0, 1)] h32 Q
              refine w_ifne (t := 78) gz_219_73 rfl (fun u99 => ?_) (fun u99 => by exfalso; omega)
              refine w_iload gz_219_78 rfl ?_
              by_cases u100 : x7 = 0
              ·
                refine w_tswE (t := 116) gz_219_80 u100 (by decide) (by decide) rfl rfl ?_
                refine w_aload_n gz_219_116 rfl ?_
                refine w_iload gz_219_117 rfl ?_
                refine w_inv (k := 0) (as := [(0, v87)]) (r := []) (x := 151) (ls0 := [(2, 151), (0, v87)]) gz_219_119 gm_221 rfl is_151 rd_10 rfl rfl rfl rfl rfl ?_
                refine w_aload_n gz_221_0 rfl ?_
                refine w_getX (v := 190) gz_221_1 is_151 rd_10 rfl (by decide) rfl ?_
                refine w_iload_n gz_221_4 rfl ?_
                refine w_iald gz_221_5 is_190 rd_89 (by omega) (by omega) (fun v102 ev102 pv102 qv102 => ?_)
                have pk_v87 : h32 190 v87 = v102 := by omega
                refine w_iconst gz_221_6 (by decide) ?_
                refine w_icge (t := 19) gz_221_7 rfl (fun u103 => ?_) (fun u103 => ?_)
                ·
                  refine w_aload_n gz_221_19 rfl ?_
                  refine w_getX (v := 157) gz_221_20 is_151 rd_10 rfl (by decide) rfl ?_
                  refine w_aload_n gz_221_23 rfl ?_
                  refine w_getX (v := 191) gz_221_24 is_151 rd_10 rfl (by decide) rfl ?_
                  refine w_iload_n gz_221_27 rfl ?_
                  refine w_iald gz_221_28 is_191 rd_90 (by omega) (by omega) (fun v106 ev106 pv106 qv106 => ?_)
                  have pw_v87 : h32 191 v87 = v106 := by omega
                  have hi107 : 0 ≤ v106 := by have q := Wys_h32t37 v87 (by omega) (by omega); omega
                  have hi108 : v106 ≤ 2 := by have q := Wys_h32t37 v87 (by omega) (by omega); omega
                  refine w_iald gz_221_29 is_157 rd_56 (by omega) (by omega) (fun v109 ev109 pv109 qv109 => ?_)
                  have px_v87 : v109 = zqPr (h32 157) (wyA h32 v87) := by first | exact Pr_k (by omega) (by omega) | exact Pr_w pk_v87 (by omega) pw_v87 (by omega)
                  refine w_iret gz_221_30 gm_221 ?_
                  show wp l rho (d + 7) 219 122 [(2, 151), (0, x1), (0, x2), (0, x3), (0, x4), (0, x5), (0, x6), (0, x7), (0, v87)] [(0, v109)] h32 Q
                  have r162 : ∀ j : Int, h32 162 j = h32 162 j := fun j => rfl
                  have r163 : ∀ j : Int, h32 163 j = h32 163 j := fun j => rfl
                  have c110 := ((my_fr.at frh32 is_151 rfl).trans ((my_fr.at frh11 is_151 rfl).trans (my_up_self fh1)))
                  have c111 := ev92.symm
                  exact w_iret gz_219_122 gm_219 (k1 h32 (v109) (gh32) (by omega) (by omega) (by omega) (by omega) (by omega) (by omega) (by omega) (by omega) (by omega) (by omega) (by omega) (by omega) (by omega) (by first | exact o9 | exact Ot9_e r162 r163 | assumption | omega) Rws_h32t36)
                ·
                  refine w_aload_n gz_221_10 rfl ?_
                  refine w_getX (v := 190) gz_221_11 is_151 rd_10 rfl (by decide) rfl ?_
                  refine w_iload_n gz_221_14 rfl ?_
                  refine w_iald gz_221_15 is_190 rd_89 (by omega) (by omega) (fun v113 ev113 pv113 qv113 => ?_)
                  have zv113 := ev113.trans ev102.symm
                  refine w_goto (t := 30) gz_221_16 rfl ?_
                  have px_v87 : v113 = zqPr (h32 157) (wyA h32 v87) := by first | exact Pr_k (by omega) (by omega) | exact Pr_w pk_v87 (by omega) pw_v87 (by omega)
                  refine w_iret gz_221_30 gm_221 ?_
                  show wp l rho (d + 7) 219 122 [(2, 151), (0, x1), (0, x2), (0, x3), (0, x4), (0, x5), (0, x6), (0, x7), (0, v87)] [(0, v113)] h32 Q
                  have r162 : ∀ j : Int, h32 162 j = h32 162 j := fun j => rfl
                  have r163 : ∀ j : Int, h32 163 j = h32 163 j := fun j => rfl
                  have c114 := ((my_fr.at frh32 is_151 rfl).trans ((my_fr.at frh11 is_151 rfl).trans (my_up_self fh1)))
                  have c115 := ev92.symm
                  exact w_iret gz_219_122 gm_219 (k1 h32 (v113) (gh32) (by omega) (by omega) (by omega) (by omega) (by omega) (by omega) (by omega) (by omega) (by omega) (by omega) (by omega) (by omega) (by omega) (by first | exact o9 | exact Ot9_e r162 r163 | assumption | omega) Rws_h32t36)
              ·
                by_cases u116 : x7 = 1
                ·
                  refine w_tswE (t := 123) gz_219_80 u116 (by decide) (by decide) rfl rfl ?_
                  refine w_aload_n gz_219_123 rfl ?_
                  refine w_getX (v := 190) gz_219_124 is_151 rd_10 rfl (by decide) rfl ?_
                  refine w_iload gz_219_127 rfl ?_
                  refine w_iald gz_219_129 is_190 rd_89 (by omega) (by omega) (fun v118 ev118 pv118 qv118 => ?_)
                  have r162 : ∀ j : Int, h32 162 j = h32 162 j := fun j => rfl
                  have r163 : ∀ j : Int, h32 163 j = h32 163 j := fun j => rfl
                  have c119 := ((my_fr.at frh32 is_151 rfl).trans ((my_fr.at frh11 is_151 rfl).trans (my_up_self fh1)))
                  have c120 := ev92.symm
                  exact w_iret gz_219_130 gm_219 (k1 h32 (v118) (gh32) (by omega) (by omega) (by omega) (by omega) (by omega) (by omega) (by omega) (by omega) (by omega) (by omega) (by omega) (by omega) (by omega) (by first | exact o9 | exact Ot9_e r162 r163 | assumption | omega) Rws_h32t36)
                ·
                  by_cases u121 : x7 = 2
                  ·
                    refine w_tswE (t := 131) gz_219_80 u121 (by decide) (by decide) rfl rfl ?_
                    refine w_aload_n gz_219_131 rfl ?_
                    refine w_getX (v := 191) gz_219_132 is_151 rd_10 rfl (by decide) rfl ?_
                    refine w_iload gz_219_135 rfl ?_
                    refine w_iald gz_219_137 is_191 rd_90 (by omega) (by omega) (fun v123 ev123 pv123 qv123 => ?_)
                    have r162 : ∀ j : Int, h32 162 j = h32 162 j := fun j => rfl
                    have r163 : ∀ j : Int, h32 163 j = h32 163 j := fun j => rfl
                    have c124 := ((my_fr.at frh32 is_151 rfl).trans ((my_fr.at frh11 is_151 rfl).trans (my_up_self fh1)))
                    have c125 := ev92.symm
                    exact w_iret gz_219_138 gm_219 (k1 h32 (v123) (gh32) (by omega) (by omega) (by omega) (by omega) (by omega) (by omega) (by omega) (by omega) (by omega) (by omega) (by omega) (by omega) (by omega) (by first | exact o9 | exact Ot9_e r162 r163 | assumption | omega) Rws_h32t36)
                  ·
                    by_cases u126 : x7 = 3
                    ·
                      refine w_tswE (t := 139) gz_219_80 u126 (by decide) (by decide) rfl rfl ?_
                      refine w_aload_n gz_219_139 rfl ?_
                      refine w_getX (v := 192) gz_219_140 is_151 rd_10 rfl (by decide) rfl ?_
                      refine w_iload gz_219_143 rfl ?_
                      refine w_iald gz_219_145 is_192 rd_91 (by omega) (by omega) (fun v128 ev128 pv128 qv128 => ?_)
                      have r162 : ∀ j : Int, h32 162 j = h32 162 j := fun j => rfl
                      have r163 : ∀ j : Int, h32 163 j = h32 163 j := fun j => rfl
                      have c129 := ((my_fr.at frh32 is_151 rfl).trans ((my_fr.at frh11 is_151 rfl).trans (my_up_self fh1)))
                      have c130 := ev92.symm
                      exact w_iret gz_219_146 gm_219 (k1 h32 (v128) (gh32) (by omega) (by omega) (by omega) (by omega) (by omega) (by omega) (by omega) (by omega) (by omega) (by omega) (by omega) (by omega) (by omega) (by first | exact o9 | exact Ot9_e r162 r163 | assumption | omega) Rws_h32t36)
                    ·
                      by_cases u131 : x7 = 4
                      ·
                        refine w_tswE (t := 147) gz_219_80 u131 (by decide) (by decide) rfl rfl ?_
                        refine w_aload_n gz_219_147 rfl ?_
                        refine w_getX (v := 193) gz_219_148 is_151 rd_10 rfl (by decide) rfl ?_
                        refine w_iload gz_219_151 rfl ?_
                        refine w_iald gz_219_153 is_193 rd_92 (by omega) (by omega) (fun v133 ev133 pv133 qv133 => ?_)
                        have r162 : ∀ j : Int, h32 162 j = h32 162 j := fun j => rfl
                        have r163 : ∀ j : Int, h32 163 j = h32 163 j := fun j => rfl
                        have c134 := ((my_fr.at frh32 is_151 rfl).trans ((my_fr.at frh11 is_151 rfl).trans (my_up_self fh1)))
                        have c135 := ev92.symm
                        exact w_iret gz_219_154 gm_219 (k1 h32 (v133) (gh32) (by omega) (by omega) (by omega) (by omega) (by omega) (by omega) (by omega) (by omega) (by omega) (by omega) (by omega) (by omega) (by omega) (by first | exact o9 | exact Ot9_e r162 r163 | assumption | omega) Rws_h32t36)
                      ·
                        refine w_tswD (t := 155) gz_219_80 (by omega) rfl ?_
                        refine w_aload_n gz_219_155 rfl ?_
                        refine w_getX (v := 194) gz_219_156 is_151 rd_10 rfl (by decide) rfl ?_
                        refine w_iload gz_219_159 rfl ?_
                        refine w_iald gz_219_161 is_194 rd_93 (by omega) (by omega) (fun v137 ev137 pv137 qv137 => ?_)
                        have r162 : ∀ j : Int, h32 162 j = h32 162 j := fun j => rfl
                        have r163 : ∀ j : Int, h32 163 j = h32 163 j := fun j => rfl
                        have c138 := ((my_fr.at frh32 is_151 rfl).trans ((my_fr.at frh11 is_151 rfl).trans (my_up_self fh1)))
                        have c139 := ev92.symm
                        exact w_iret gz_219_162 gm_219 (k1 h32 (v137) (gh32) (by omega) (by omega) (by omega) (by omega) (by omega) (by omega) (by omega) (by omega) (by omega) (by omega) (by omega) (by omega) (by omega) (by first | exact o9 | exact Ot9_e r162 r163 | assumption | omega) Rws_h32t36)
end MYNModel_window7
