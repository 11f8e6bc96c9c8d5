/-! feed, sign by sign -/
section MTN
def tm_of (h : my_H) : (Int → Int) × Int := (h 152, h 151 2)
def f9k (c : Int) (s : (Int → Int) × Int) : (Int → Int) × Int := if (c = 10 ∨ (32 ≤ c ∧ c ≤ 126)) ∧ s.2 < 1000 then ((fun j => if j = s.2 then c else s.1 j), s.2 + 1) else s
def f9s (v : Int) : Nat → (Int → Int) × Int → (Int → Int) × Int
  | 0, n => n
  | k + 1, n => f9s v k (f9k (ft_b v (8 * (k : Int))) n)
def f9_3 (a b c : Int) (n : (Int → Int) × Int) : (Int → Int) × Int := f9s c 8 (f9s b 8 (f9s a 8 n))
theorem f9k_no {c : Int} {s : (Int → Int) × Int} (q : ¬ ((c = 10 ∨ (32 ≤ c ∧ c ≤ 126)) ∧ s.2 < 1000)) : s = f9k c s := (if_neg q).symm
theorem f9k_yes {c : Int} {s s' : (Int → Int) × Int} (q : (c = 10 ∨ (32 ≤ c ∧ c ≤ 126)) ∧ s.2 < 1000) (e1 : ∀ j : Int, s'.1 j = if j = s.2 then c else s.1 j) (e2 : s'.2 = s.2 + 1) : s' = f9k c s := by
  unfold f9k
  rw [if_pos q]
  exact Prod.ext (funext e1) e2
theorem c_Reader_take9 {l : Launch} {rho : Nat → Int32} {d : Nat} {h : my_H} {Q : my_H → my_V → Prop} {x1 : Int} (k0 : ∀ (h' : my_H), my_fr [(5, 4), (40, -1)] h h' → tp_of h' = f9s x1 8 (tp_of h) → Q h' (9, 0)) : wp l rho d 33 0 [(2, 82), (1, x1), (9, 0), (9, 0), (9, 0)] [] h Q := by
  have J3 : ∀ (n : Nat) (p : Int) (h3 : my_H), p = 8 * (n : Int) - 8 → n ≤ 8 → my_fr [(5, 4), (40, -1)] h h3 → (∀ h' : my_H, my_fr [(5, 4), (40, -1)] h h' → tp_of h' = f9s x1 n (tp_of h3) → Q h' (9, 0)) → wp l rho d 33 3 [(2, 82), (1, x1), (9, 0), (0, p), (9, 0)] [] h3 Q := by
    intro n
    induction n with
    | zero =>
      intro p h3 hp hn g3 kk
      refine w_iload_n gz_33_3 rfl ?_
      refine w_iflt (t := 73) gz_33_4 rfl (fun u7 => ?_) (fun u7 => by exfalso; omega)
      exact w_vret gz_33_73 gm_33 (kk h3 g3 rfl)
    | succ n ih =>
      intro p h3 hp hn g3 kk
      have hp2 : p = 8 * (n : Int) := by omega
      refine w_iload_n gz_33_3 rfl ?_
      refine w_iflt (t := 73) gz_33_4 rfl (fun u7 => by exfalso; omega) (fun u7 => ?_)
      refine w_lload_n gz_33_7 rfl ?_
      refine w_iload_n gz_33_8 rfl ?_
      refine w_jshfF gz_33_9 (fun _ => rfl) rfl (fun v8 ev8 pv8 => ?_)
      refine w_l2iF gz_33_10 (fun v9 ev9 pv9 qv9 => ?_)
      refine w_sipush gz_33_11 (by decide) ?_
      refine w_iandF gz_33_14 (by decide) (fun v10 ev10 pv10 qv10 => ?_)
      have eb : v10 = ft_b x1 (8 * (n : Int)) := by rw [ev10, ev9, ev8, hp2]; rfl
      have J67 : ∀ h67 : my_H, my_fr [(5, 4), (40, -1)] h h67 → tp_of h67 = f9k v10 (tp_of h3) → wp l rho d 33 67 [(2, 82), (1, x1), (9, 0), (0, p), (0, v10)] [] h67 Q := by
        intro h67 g67 e67
        refine w_iinc (ls' := [(2, 82), (1, x1), (9, 0), (0, p + (-8)), (0, v10)]) gz_33_67 rfl gm_33 rfl rfl rfl ⟨by omega, by omega⟩ ?_
        refine w_goto (t := 3) gz_33_70 rfl ?_
        refine w_weak (ls' := [(2, 82), (1, x1), (9, 0), (0, p + (-8)), (9, 0)]) (wk_e (wk_e (wk_9 (wk_e (wk_9 wk_n))))) ?_
        exact ih (p + (-8)) h67 (by omega) (by omega) g67 (fun h' g' e' => kk h' g' (by rw [e', e67, eb]; rfl))
      have J38 : (v10 = 10 ∨ (32 ≤ v10 ∧ v10 ≤ 126)) → wp l rho d 33 38 [(2, 82), (1, x1), (9, 0), (0, p), (0, v10)] [] h3 Q := by
        intro hg
        refine w_aload_n gz_33_38 rfl ?_
        refine v_getI (j := 4) gz_33_39 rfl is_82 rd_5 rfl (fun v1 ev1 pv1 qv1 => ?_)
        refine w_sipush gz_33_42 (by decide) ?_
        refine w_icge (t := 67) gz_33_45 rfl (fun u2 => ?_) (fun u2 => ?_)
        · exact J67 h3 g3 (f9k_no (by show ¬ (_ ∧ h3 82 4 < 1000); omega))
        · refine w_aload_n gz_33_48 rfl ?_
          refine w_getX (v := 92) gz_33_49 is_82 rd_5 rfl (by decide) rfl ?_
          refine w_aload_n gz_33_52 rfl ?_
          refine w_dup gz_33_53 rfl ?_
          refine v_getI (j := 4) gz_33_54 rfl is_82 rd_5 rfl (fun v4 ev4 pv4 qv4 => ?_)
          have zv4 := ev4.trans ev1.symm
          refine w_dupx gz_33_57 rfl rfl ?_
          refine w_iconst gz_33_58 (by decide) ?_
          refine w_iadd gz_33_59 ⟨by omega, by omega⟩ ?_
          refine v_putI (j := 4) gz_33_60 rfl is_82 rd_5 rfl (by omega) (by omega) rfl (fun h5 fh5 => ?_)
          have gh5 : my_fr [(5, 4), (40, -1)] h h5 := my_fr.up g3 is_82 fh5 rfl
          refine w_iload gz_33_63 rfl ?_
          refine w_i2b gz_33_65 (by omega) (by omega) ?_
          refine w_yast gz_33_66 is_92 rd_40 (by omega) (by omega) (by omega) (by omega) (by omega) (by omega) (fun h6 fh6 => ?_)
          have gh6 : my_fr [(5, 4), (40, -1)] h h6 := my_fr.up gh5 is_92 fh6 rfl
          have e6 : h6 82 4 = v4 + 1 := (my_up_role fh6 is_82 is_92 rfl).trans (my_up_self fh5)
          exact J67 h6 gh6 (f9k_yes (s := tp_of h3) (s' := tp_of h6) (by show _ ∧ h3 82 4 < 1000; omega) (fun j => by
            show h6 92 j = if j = h3 82 4 then v10 else h3 92 j
            by_cases q : j = h3 82 4
            · rw [if_pos q, show j = v4 by omega]; exact my_up_self fh6
            · rw [if_neg q, my_up_ne fh6 (by omega), my_up_ne fh5 (by omega)]) (by show h6 82 4 = h3 82 4 + 1; omega))
      refine w_istore (ls' := [(2, 82), (1, x1), (9, 0), (0, p), (0, v10)]) gz_33_15 gm_33 rfl rfl rfl ?_
      refine w_iload gz_33_17 rfl ?_
      refine w_bipush gz_33_19 (by decide) ?_
      refine w_iceq (t := 38) gz_33_21 rfl (fun u11 => ?_) (fun u11 => ?_)
      · exact J38 (Or.inl u11)
      · refine w_iload gz_33_24 rfl ?_
        refine w_bipush gz_33_26 (by decide) ?_
        refine w_iclt (t := 67) gz_33_28 rfl (fun u12 => ?_) (fun u12 => ?_)
        · exact J67 h3 g3 (f9k_no (by show ¬ (_ ∧ h3 82 4 < 1000); omega))
        · refine w_iload gz_33_31 rfl ?_
          refine w_bipush gz_33_33 (by decide) ?_
          refine w_icgt (t := 67) gz_33_35 rfl (fun u13 => ?_) (fun u13 => ?_)
          · exact J67 h3 g3 (f9k_no (by show ¬ (_ ∧ h3 82 4 < 1000); omega))
          · exact J38 (Or.inr ⟨by omega, by omega⟩)
  refine w_bipush gz_33_0 (by decide) ?_
  refine w_istore_n (ls' := [(2, 82), (1, x1), (9, 0), (0, 56), (9, 0)]) gz_33_2 gm_33 rfl rfl rfl ?_
  exact J3 8 56 h (by omega) (Nat.le_refl 8) my_fr.rf k0
theorem c_Model_lay9 {l : Launch} {rho : Nat → Int32} {d : Nat} {h : my_H} {Q : my_H → my_V → Prop} {x1 : Int} (k0 : ∀ (h' : my_H), my_fr [(10, 2), (51, -1)] h h' → tm_of h' = f9s x1 8 (tm_of h) → Q h' (9, 0)) : wp l rho d 144 0 [(2, 151), (1, x1), (9, 0), (9, 0), (9, 0)] [] h Q := by
  have J3 : ∀ (n : Nat) (p : Int) (h3 : my_H), p = 8 * (n : Int) - 8 → n ≤ 8 → my_fr [(10, 2), (51, -1)] h h3 → (∀ h' : my_H, my_fr [(10, 2), (51, -1)] h h' → tm_of h' = f9s x1 n (tm_of h3) → Q h' (9, 0)) → wp l rho d 144 3 [(2, 151), (1, x1), (9, 0), (0, p), (9, 0)] [] h3 Q := by
    intro n
    induction n with
    | zero =>
      intro p h3 hp hn g3 kk
      refine w_iload_n gz_144_3 rfl ?_
      refine w_iflt (t := 75) gz_144_4 rfl (fun u7 => ?_) (fun u7 => by exfalso; omega)
      exact w_vret gz_144_75 gm_144 (kk h3 g3 rfl)
    | succ n ih =>
      intro p h3 hp hn g3 kk
      have hp2 : p = 8 * (n : Int) := by omega
      refine w_iload_n gz_144_3 rfl ?_
      refine w_iflt (t := 75) gz_144_4 rfl (fun u7 => by exfalso; omega) (fun u7 => ?_)
      refine w_lload_n gz_144_7 rfl ?_
      refine w_iload_n gz_144_8 rfl ?_
      refine w_jshfF gz_144_9 (fun _ => rfl) rfl (fun v8 ev8 pv8 => ?_)
      refine w_l2iF gz_144_10 (fun v9 ev9 pv9 qv9 => ?_)
      refine w_sipush gz_144_11 (by decide) ?_
      refine w_iandF gz_144_14 (by decide) (fun v10 ev10 pv10 qv10 => ?_)
      have eb : v10 = ft_b x1 (8 * (n : Int)) := by rw [ev10, ev9, ev8, hp2]; rfl
      have J67 : ∀ h67 : my_H, my_fr [(10, 2), (51, -1)] h h67 → tm_of h67 = f9k v10 (tm_of h3) → wp l rho d 144 69 [(2, 151), (1, x1), (9, 0), (0, p), (0, v10)] [] h67 Q := by
        intro h67 g67 e67
        refine w_iinc (ls' := [(2, 151), (1, x1), (9, 0), (0, p + (-8)), (0, v10)]) gz_144_69 rfl gm_144 rfl rfl rfl ⟨by omega, by omega⟩ ?_
        refine w_goto (t := 3) gz_144_72 rfl ?_
        refine w_weak (ls' := [(2, 151), (1, x1), (9, 0), (0, p + (-8)), (9, 0)]) (wk_e (wk_e (wk_9 (wk_e (wk_9 wk_n))))) ?_
        exact ih (p + (-8)) h67 (by omega) (by omega) g67 (fun h' g' e' => kk h' g' (by rw [e', e67, eb]; rfl))
      have J38 : (v10 = 10 ∨ (32 ≤ v10 ∧ v10 ≤ 126)) → wp l rho d 144 38 [(2, 151), (1, x1), (9, 0), (0, p), (0, v10)] [] h3 Q := by
        intro hg
        refine w_aload_n gz_144_38 rfl ?_
        refine v_getI (j := 2) gz_144_39 rfl is_151 rd_10 rfl (fun v1 ev1 pv1 qv1 => ?_)
        refine w_sipush gz_144_42 (by decide) ?_
        refine w_icge (t := 69) gz_144_45 rfl (fun u2 => ?_) (fun u2 => ?_)
        · exact J67 h3 g3 (f9k_no (by show ¬ (_ ∧ h3 151 2 < 1000); omega))
        · refine w_aload_n gz_144_48 rfl ?_
          refine w_getX (v := 152) gz_144_49 is_151 rd_10 rfl (by decide) rfl ?_
          refine w_aload_n gz_144_52 rfl ?_
          refine v_getI (j := 2) gz_144_53 rfl is_151 rd_10 rfl (fun v4 ev4 pv4 qv4 => ?_)
          have zv4 := ev4.trans ev1.symm
          refine w_iload gz_144_56 rfl ?_
          refine w_iast gz_144_58 is_152 rd_51 (by omega) (by omega) (by omega) (by omega) (fun h5 fh5 => ?_)
          have gh5 : my_fr [(10, 2), (51, -1)] h h5 := my_fr.up g3 is_152 fh5 rfl
          refine w_aload_n gz_144_59 rfl ?_
          refine w_dup gz_144_60 rfl ?_
          refine v_getI (j := 2) gz_144_61 rfl is_151 rd_10 rfl (fun v6 ev6 pv6 qv6 => ?_)
          have zv6 := ev6.trans ((my_up_role fh5 is_151 is_152 rfl).trans ev4.symm)
          refine w_iconst gz_144_64 (by decide) ?_
          refine w_iadd gz_144_65 ⟨by omega, by omega⟩ ?_
          refine v_putI (j := 2) gz_144_66 rfl is_151 rd_10 rfl (by omega) (by omega) rfl (fun h7 fh7 => ?_)
          have gh7 : my_fr [(10, 2), (51, -1)] h h7 := my_fr.up gh5 is_151 fh7 rfl
          have e7 : h7 151 2 = v6 + 1 := my_up_self fh7
          exact J67 h7 gh7 (f9k_yes (s := tm_of h3) (s' := tm_of h7) (by show _ ∧ h3 151 2 < 1000; omega) (fun j => by
            show h7 152 j = if j = h3 151 2 then v10 else h3 152 j
            by_cases q : j = h3 151 2
            · rw [if_pos q, show j = v4 by omega, my_up_ne fh7 (by omega)]; exact my_up_self fh5
            · rw [if_neg q, my_up_ne fh7 (by omega), my_up_ne fh5 (by omega)]) (by show h7 151 2 = h3 151 2 + 1; omega))
      refine w_istore (ls' := [(2, 151), (1, x1), (9, 0), (0, p), (0, v10)]) gz_144_15 gm_144 rfl rfl rfl ?_
      refine w_iload gz_144_17 rfl ?_
      refine w_bipush gz_144_19 (by decide) ?_
      refine w_iceq (t := 38) gz_144_21 rfl (fun u11 => ?_) (fun u11 => ?_)
      · exact J38 (Or.inl u11)
      · refine w_iload gz_144_24 rfl ?_
        refine w_bipush gz_144_26 (by decide) ?_
        refine w_iclt (t := 69) gz_144_28 rfl (fun u12 => ?_) (fun u12 => ?_)
        · exact J67 h3 g3 (f9k_no (by show ¬ (_ ∧ h3 151 2 < 1000); omega))
        · refine w_iload gz_144_31 rfl ?_
          refine w_bipush gz_144_33 (by decide) ?_
          refine w_icgt (t := 69) gz_144_35 rfl (fun u13 => ?_) (fun u13 => ?_)
          · exact J67 h3 g3 (f9k_no (by show ¬ (_ ∧ h3 151 2 < 1000); omega))
          · exact J38 (Or.inr ⟨by omega, by omega⟩)
  refine w_bipush gz_144_0 (by decide) ?_
  refine w_istore_n (ls' := [(2, 151), (1, x1), (9, 0), (0, 56), (9, 0)]) gz_144_2 gm_144 rfl rfl rfl ?_
  exact J3 8 56 h (by omega) (Nat.le_refl 8) my_fr.rf k0
theorem c_ThroughWindow_feed9 {l : Launch} {rho : Nat → Int32} {d : Nat} {h : my_H} {Q : my_H → my_V → Prop} {x1 x2 x3 : Int} (k0 : ∀ (h' : my_H) (y : Int), my_fr [(5, 4), (40, -1)] h h' → tp_of h' = f9_3 x1 x2 x3 (tp_of h) → h' 82 4 = y → Q h' (0, y)) : wp l rho (d + 1) 32 0 [(2, 0), (1, x1), (9, 0), (1, x2), (9, 0), (1, x3), (9, 0)] [] h Q := by
  refine w_aload_n gz_32_0 rfl ?_
  refine w_getX (v := 82) gz_32_1 is_0 rd_9 rfl (by decide) rfl ?_
  refine w_lload_n gz_32_4 rfl ?_
  refine w_inv (k := 2) (as := [(1, x1)]) (r := []) (x := 82) (ls0 := [(2, 82), (1, x1), (9, 0), (9, 0), (9, 0)]) gz_32_5 gm_33 rfl is_82 rd_5 rfl rfl rfl rfl rfl (c_Reader_take9 (d := d) (x1 := x1)  (fun h2 frh2 e2 => ?_))
  have gh2 : my_fr [(5, 4), (40, -1)] h h2 := my_fr.tr my_fr.rf (frh2.mo rfl)
  show wp l rho (d + 1) 32 8 [(2, 0), (1, x1), (9, 0), (1, x2), (9, 0), (1, x3), (9, 0)] [] h2 Q
  refine w_aload_n gz_32_8 rfl ?_
  refine w_getX (v := 82) gz_32_9 is_0 rd_9 rfl (by decide) rfl ?_
  refine w_lload_n gz_32_12 rfl ?_
  refine w_inv (k := 2) (as := [(1, x2)]) (r := []) (x := 82) (ls0 := [(2, 82), (1, x2), (9, 0), (9, 0), (9, 0)]) gz_32_13 gm_33 rfl is_82 rd_5 rfl rfl rfl rfl rfl (c_Reader_take9 (d := d) (x1 := x2)  (fun h4 frh4 e4 => ?_))
  have gh4 : my_fr [(5, 4), (40, -1)] h h4 := my_fr.tr gh2 (frh4.mo rfl)
  show wp l rho (d + 1) 32 16 [(2, 0), (1, x1), (9, 0), (1, x2), (9, 0), (1, x3), (9, 0)] [] h4 Q
  refine w_aload_n gz_32_16 rfl ?_
  refine w_getX (v := 82) gz_32_17 is_0 rd_9 rfl (by decide) rfl ?_
  refine w_lload gz_32_20 rfl ?_
  refine w_inv (k := 2) (as := [(1, x3)]) (r := []) (x := 82) (ls0 := [(2, 82), (1, x3), (9, 0), (9, 0), (9, 0)]) gz_32_22 gm_33 rfl is_82 rd_5 rfl rfl rfl rfl rfl (c_Reader_take9 (d := d) (x1 := x3)  (fun h6 frh6 e6 => ?_))
  have gh6 : my_fr [(5, 4), (40, -1)] h h6 := my_fr.tr gh4 (frh6.mo rfl)
  show wp l rho (d + 1) 32 25 [(2, 0), (1, x1), (9, 0), (1, x2), (9, 0), (1, x3), (9, 0)] [] h6 Q
  refine w_aload_n gz_32_25 rfl ?_
  refine w_getX (v := 82) gz_32_26 is_0 rd_9 rfl (by decide) rfl ?_
  refine v_getI (j := 4) gz_32_29 rfl is_82 rd_5 rfl (fun v8 ev8 pv8 qv8 => ?_)
  exact w_iret gz_32_32 gm_32 (k0 h6 (v8) (gh6) (by rw [e6, e4, e2]; rfl) ev8.symm)
theorem c_Model_feed9 {l : Launch} {rho : Nat → Int32} {d : Nat} {h : my_H} {Q : my_H → my_V → Prop} {x1 x2 x3 : Int} (k0 : ∀ (h' : my_H) (y : Int), my_fr [(10, 0), (10, 2), (51, -1)] h h' → tm_of h' = f9_3 x1 x2 x3 (tm_of h) → h' 151 2 = y → Q h' (0, y)) : wp l rho (d + 1) 143 0 [(2, 151), (1, x1), (9, 0), (1, x2), (9, 0), (1, x3), (9, 0)] [] h Q := by
  refine w_aload_n gz_143_0 rfl ?_
  refine w_iconst gz_143_1 (by decide) ?_
  refine v_putI (j := 0) gz_143_2 rfl is_151 rd_10 rfl (by omega) (by omega) rfl (fun h1 fh1 => ?_)
  have gh1 : my_fr [(10, 0), (10, 2), (51, -1)] h h1 := my_fr.up my_fr.rf is_151 fh1 rfl
  have e1 : tm_of h1 = tm_of h := Prod.ext (funext (fun j => my_up_ne fh1 (by omega))) (my_up_fld fh1 (by decide))
  refine w_aload_n gz_143_5 rfl ?_
  refine w_lload_n gz_143_6 rfl ?_
  refine w_inv (k := 2) (as := [(1, x1)]) (r := []) (x := 151) (ls0 := [(2, 151), (1, x1), (9, 0), (9, 0), (9, 0)]) gz_143_7 gm_144 rfl is_151 rd_10 rfl rfl rfl rfl rfl (c_Model_lay9 (d := d) (x1 := x1)  (fun h2 frh2 e2 => ?_))
  have gh2 : my_fr [(10, 0), (10, 2), (51, -1)] h h2 := my_fr.tr gh1 (frh2.mo rfl)
  show wp l rho (d + 1) 143 10 [(2, 151), (1, x1), (9, 0), (1, x2), (9, 0), (1, x3), (9, 0)] [] h2 Q
  refine w_aload_n gz_143_10 rfl ?_
  refine w_lload_n gz_143_11 rfl ?_
  refine w_inv (k := 2) (as := [(1, x2)]) (r := []) (x := 151) (ls0 := [(2, 151), (1, x2), (9, 0), (9, 0), (9, 0)]) gz_143_12 gm_144 rfl is_151 rd_10 rfl rfl rfl rfl rfl (c_Model_lay9 (d := d) (x1 := x2)  (fun h3 frh3 e3 => ?_))
  have gh3 : my_fr [(10, 0), (10, 2), (51, -1)] h h3 := my_fr.tr gh2 (frh3.mo rfl)
  show wp l rho (d + 1) 143 15 [(2, 151), (1, x1), (9, 0), (1, x2), (9, 0), (1, x3), (9, 0)] [] h3 Q
  refine w_aload_n gz_143_15 rfl ?_
  refine w_lload gz_143_16 rfl ?_
  refine w_inv (k := 2) (as := [(1, x3)]) (r := []) (x := 151) (ls0 := [(2, 151), (1, x3), (9, 0), (9, 0), (9, 0)]) gz_143_18 gm_144 rfl is_151 rd_10 rfl rfl rfl rfl rfl (c_Model_lay9 (d := d) (x1 := x3)  (fun h4 frh4 e4 => ?_))
  have gh4 : my_fr [(10, 0), (10, 2), (51, -1)] h h4 := my_fr.tr gh3 (frh4.mo rfl)
  show wp l rho (d + 1) 143 21 [(2, 151), (1, x1), (9, 0), (1, x2), (9, 0), (1, x3), (9, 0)] [] h4 Q
  refine w_aload_n gz_143_21 rfl ?_
  refine v_getI (j := 2) gz_143_22 rfl is_151 rd_10 rfl (fun v5 ev5 pv5 qv5 => ?_)
  exact w_iret gz_143_25 gm_143 (k0 h4 (v5) (gh4) (by rw [e4, e3, e2, e1]; rfl) ev5.symm)
end MTN
