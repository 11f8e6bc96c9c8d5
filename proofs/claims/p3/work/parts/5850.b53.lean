/-! contracts, printed by wip/gen/gy.py -/
section MYNModel_isLess5
theorem c_Model_isLess5 {l : Launch} {rho : Nat → Int32} {d : Nat} {h : my_H} {Q : my_H → my_V → Prop} {x1 x2 : Int} (a1 : 1 ≤ x1) (b1 : x1 ≤ 10) (a2 : 0 ≤ x2) (b2 : x2 ≤ 9) (k0 : zqle (zqN (wv (h 151 27) h) (h 151 27) (x2).toNat).2 (zqN (wv (h 151 27) h) (h 151 27) (x1).toNat).2 → Q h (0, 0)) (k1 : 1 ≤ h 151 27 → h 151 27 ≤ 8 → zqle (zqN (wv (h 151 27) h) (h 151 27) (x1).toNat).2 (zqN (wv (h 151 27) h) (h 151 27) (x2).toNat).2 → Q h (0, 1)) : wp l rho d 211 0 [(2, 151), (0, x1), (0, x2), (9, 0)] [] h Q := by
  refine v_know (x := 151) (j := 27) (b := 27) rfl is_151 rd_10 rfl (fun k151_27 ek151_27 pk151_27 qk151_27 => ?_)
  have J2_0 : ∀ (n : Nat) (p2_0 : Int), 0 ≤ p2_0 → p2_0 ≤ 8 → p2_0 ≤ k151_27 → h 151 27 = k151_27 → (∀ j : Int, 0 ≤ j → j < p2_0 → h 189 (8 * x1 + j) = h 189 (8 * x2 + j)) → 9 - p2_0 ≤ (n : Int) → wp l rho d 211 2 [(2, 151), (0, x1), (0, x2), (0, p2_0)] [] h Q := by
    intro n
    induction n with
    | zero => intro p2_0 q0_2_0 q1_2_0 q2_2_0 c151_27_2_0 eq_2_0 hm_2_0; exfalso; omega
    | succ n ih_2_0 =>
      intro p2_0 q0_2_0 q1_2_0 q2_2_0 c151_27_2_0 eq_2_0 hm_2_0
      refine w_iload_n gz_211_2 rfl ?_
      refine w_aload_n gz_211_3 rfl ?_
      refine v_getI (j := 27) gz_211_4 rfl is_151 rd_10 rfl (fun v1 ev1 pv1 qv1 => ?_)
      have zv1 := ev1.trans c151_27_2_0
      refine w_icge (t := 72) gz_211_7 rfl (fun u2 => ?_) (fun u2 => ?_)
      ·
        refine w_iconst gz_211_72 (by decide) ?_
        exact w_bret gz_211_73 gm_211 (by omega) (by omega) (k0 (by first | exact Or.inl (Wf_eq (by omega) (by omega) (by omega) (fun j a b => (eq_2_0 j a (by omega)).symm)) | exact Wf_lt (by omega) (by omega) (by omega) eq_2_0 (by omega) (by omega) (by omega) | exact Wf_lt (by omega) (by omega) (by omega) (fun j a b => (eq_2_0 j a b).symm) (by omega) (by omega) (by omega) | assumption | omega))
      ·
        refine w_aload_n gz_211_10 rfl ?_
        refine w_getX (v := 189) gz_211_11 is_151 rd_10 rfl (by decide) rfl ?_
        refine w_bipush gz_211_14 (by decide) ?_
        refine w_iload_n gz_211_16 rfl ?_
        refine w_imul gz_211_17 ⟨by omega, by omega⟩ ?_
        refine w_iload_n gz_211_18 rfl ?_
        refine w_iadd gz_211_19 ⟨by omega, by omega⟩ ?_
        refine w_iald gz_211_20 is_189 rd_88 (by omega) (by omega) (fun v4 ev4 pv4 qv4 => ?_)
        refine w_aload_n gz_211_21 rfl ?_
        refine w_getX (v := 189) gz_211_22 is_151 rd_10 rfl (by decide) rfl ?_
        refine w_bipush gz_211_25 (by decide) ?_
        refine w_iload_n gz_211_27 rfl ?_
        refine w_imul gz_211_28 ⟨by omega, by omega⟩ ?_
        refine w_iload_n gz_211_29 rfl ?_
        refine w_iadd gz_211_30 ⟨by omega, by omega⟩ ?_
        refine w_iald gz_211_31 is_189 rd_88 (by omega) (by omega) (fun v6 ev6 pv6 qv6 => ?_)
        have e9 : h 189 (8 * x1 + p2_0) = v4 := by omega
        have e11 : h 189 (8 * x2 + p2_0) = v6 := by omega
        refine w_iceq (t := 66) gz_211_32 rfl (fun u7 => ?_) (fun u7 => ?_)
        ·
          refine w_iinc (ls' := [(2, 151), (0, x1), (0, x2), (0, (p2_0 + 1))]) gz_211_66 rfl gm_211 rfl rfl rfl ⟨by omega, by omega⟩ ?_
          refine w_goto (t := 2) gz_211_69 rfl ?_
          exact ih_2_0 ((p2_0 + 1)) (by omega) (by omega) (by omega) (ev1.symm.trans (by omega)) (by first | exact st_0 | exact st_1 eq_2_0 (by omega) | assumption | omega) (by omega)
        ·
          refine w_aload_n gz_211_35 rfl ?_
          refine w_getX (v := 189) gz_211_36 is_151 rd_10 rfl (by decide) rfl ?_
          refine w_bipush gz_211_39 (by decide) ?_
          refine w_iload_n gz_211_41 rfl ?_
          refine w_imul gz_211_42 ⟨by omega, by omega⟩ ?_
          refine w_iload_n gz_211_43 rfl ?_
          refine w_iadd gz_211_44 ⟨by omega, by omega⟩ ?_
          refine w_iald gz_211_45 is_189 rd_88 (by omega) (by omega) (fun v9 ev9 pv9 qv9 => ?_)
          refine w_aload_n gz_211_46 rfl ?_
          refine w_getX (v := 189) gz_211_47 is_151 rd_10 rfl (by decide) rfl ?_
          refine w_bipush gz_211_50 (by decide) ?_
          refine w_iload_n gz_211_52 rfl ?_
          refine w_imul gz_211_53 ⟨by omega, by omega⟩ ?_
          refine w_iload_n gz_211_54 rfl ?_
          refine w_iadd gz_211_55 ⟨by omega, by omega⟩ ?_
          refine w_iald gz_211_56 is_189 rd_88 (by omega) (by omega) (fun v11 ev11 pv11 qv11 => ?_)
          refine w_icge (t := 64) gz_211_57 rfl (fun u12 => ?_) (fun u12 => ?_)
          ·
            refine w_iconst gz_211_64 (by decide) ?_
            exact w_bret gz_211_65 gm_211 (by omega) (by omega) (k0 (by first | exact Or.inl (Wf_eq (by omega) (by omega) (by omega) (fun j a b => (eq_2_0 j a (by omega)).symm)) | exact Wf_lt (by omega) (by omega) (by omega) eq_2_0 (by omega) (by omega) (by omega) | exact Wf_lt (by omega) (by omega) (by omega) (fun j a b => (eq_2_0 j a b).symm) (by omega) (by omega) (by omega) | assumption | omega))
          ·
            refine w_iconst gz_211_60 (by decide) ?_
            refine w_goto (t := 65) gz_211_61 rfl ?_
            have c13 := ev1.symm
            exact w_bret gz_211_65 gm_211 (by omega) (by omega) (k1 (by omega) (by omega) (by first | exact Or.inl (Wf_eq (by omega) (by omega) (by omega) (fun j a b => (eq_2_0 j a (by omega)).symm)) | exact Wf_lt (by omega) (by omega) (by omega) eq_2_0 (by omega) (by omega) (by omega) | exact Wf_lt (by omega) (by omega) (by omega) (fun j a b => (eq_2_0 j a b).symm) (by omega) (by omega) (by omega) | assumption | omega))
  refine w_iconst gz_211_0 (by decide) ?_
  refine w_istore_n (ls' := [(2, 151), (0, x1), (0, x2), (0, 0)]) gz_211_1 gm_211 rfl rfl rfl ?_
  exact J2_0 9 (0) (by omega) (by omega) (by omega) (ek151_27.symm.trans (by omega)) (by first | exact st_0 | exact st_1 eq_2_0 (by omega) | assumption | omega) (by omega)
theorem c_Model_exchanges5 {l : Launch} {rho : Nat → Int32} {d : Nat} {h : my_H} {Q : my_H → my_V → Prop} {x1 x2 : Int} (a1 : 0 ≤ x1) (b1 : x1 ≤ 9) (a2 : 1 ≤ x2) (b2 : x2 ≤ 10) (pq : x1 < x2) (k0 : ∀ (h' : my_H), my_fr [(88, -1)] h h' → SwW h h' x1 x2 (h 151 27) → Q h' (9, 0)) : wp l rho d 212 0 [(2, 151), (0, x1), (0, x2), (9, 0), (9, 0)] [] h Q := by
  refine v_know (x := 151) (j := 27) (b := 27) rfl is_151 rd_10 rfl (fun k151_27 ek151_27 pk151_27 qk151_27 => ?_)
  have J2_0 : ∀ (n : Nat) (p2_0 : Int) (h2_0 : my_H), my_fr [(88, -1)] h h2_0 → 0 ≤ p2_0 → p2_0 ≤ 8 → p2_0 ≤ k151_27 → h2_0 151 27 = k151_27 → SwW h h2_0 x1 x2 p2_0 → p2_0 ≤ h 151 27 → 9 - p2_0 ≤ (n : Int) → wp l rho d 212 2 [(2, 151), (0, x1), (0, x2), (0, p2_0), (9, 0)] [] h2_0 Q := by
    intro n
    induction n with
    | zero => intro p2_0 h2_0 gh_2_0 q0_2_0 q1_2_0 q2_2_0 c151_27_2_0 sw_2_0 le_2_0 hm_2_0; exfalso; omega
    | succ n ih_2_0 =>
      intro p2_0 h2_0 gh_2_0 q0_2_0 q1_2_0 q2_2_0 c151_27_2_0 sw_2_0 le_2_0 hm_2_0
      refine w_iload_n gz_212_2 rfl ?_
      refine w_aload_n gz_212_3 rfl ?_
      refine v_getI (j := 27) gz_212_4 rfl is_151 rd_10 rfl (fun v1 ev1 pv1 qv1 => ?_)
      have zv1 := ev1.trans c151_27_2_0
      have m27 : h2_0 151 27 = h 151 27 := my_fr.at gh_2_0 is_151 rfl
      refine w_icge (t := 64) gz_212_7 rfl (fun u2 => ?_) (fun u2 => ?_)
      ·
        exact w_vret gz_212_64 gm_212 (k0 h2_0 (gh_2_0) (by first | (have q := sw_2_0; rw [show p2_0 = h 151 27 by omega] at q; exact q) | assumption | omega))
      ·
        refine w_aload_n gz_212_10 rfl ?_
        refine w_getX (v := 189) gz_212_11 is_151 rd_10 rfl (by decide) rfl ?_
        refine w_bipush gz_212_14 (by decide) ?_
        refine w_iload_n gz_212_16 rfl ?_
        refine w_imul gz_212_17 ⟨by omega, by omega⟩ ?_
        refine w_iload_n gz_212_18 rfl ?_
        refine w_iadd gz_212_19 ⟨by omega, by omega⟩ ?_
        refine w_iald gz_212_20 is_189 rd_88 (by omega) (by omega) (fun v4 ev4 pv4 qv4 => ?_)
        refine w_istore (ls' := [(2, 151), (0, x1), (0, x2), (0, p2_0), (0, v4)]) gz_212_21 gm_212 rfl rfl rfl ?_
        refine w_aload_n gz_212_23 rfl ?_
        refine w_getX (v := 189) gz_212_24 is_151 rd_10 rfl (by decide) rfl ?_
        refine w_bipush gz_212_27 (by decide) ?_
        refine w_iload_n gz_212_29 rfl ?_
        refine w_imul gz_212_30 ⟨by omega, by omega⟩ ?_
        refine w_iload_n gz_212_31 rfl ?_
        refine w_iadd gz_212_32 ⟨by omega, by omega⟩ ?_
        refine w_aload_n gz_212_33 rfl ?_
        refine w_getX (v := 189) gz_212_34 is_151 rd_10 rfl (by decide) rfl ?_
        refine w_bipush gz_212_37 (by decide) ?_
        refine w_iload_n gz_212_39 rfl ?_
        refine w_imul gz_212_40 ⟨by omega, by omega⟩ ?_
        refine w_iload_n gz_212_41 rfl ?_
        refine w_iadd gz_212_42 ⟨by omega, by omega⟩ ?_
        refine w_iald gz_212_43 is_189 rd_88 (by omega) (by omega) (fun v7 ev7 pv7 qv7 => ?_)
        refine w_iastU gz_212_44 is_189 rd_88 (by omega) (by omega) (by omega) (fun h8 fh8 => ?_)
        have gh8 : my_fr [(88, -1)] h h8 := my_fr.up gh_2_0 is_189 fh8 rfl
        refine w_aload_n gz_212_45 rfl ?_
        refine w_getX (v := 189) gz_212_46 is_151 rd_10 rfl (by decide) rfl ?_
        refine w_bipush gz_212_49 (by decide) ?_
        refine w_iload_n gz_212_51 rfl ?_
        refine w_imul gz_212_52 ⟨by omega, by omega⟩ ?_
        refine w_iload_n gz_212_53 rfl ?_
        refine w_iadd gz_212_54 ⟨by omega, by omega⟩ ?_
        refine w_iload gz_212_55 rfl ?_
        refine w_iastU gz_212_57 is_189 rd_88 (by omega) (by omega) (by omega) (fun h10 fh10 => ?_)
        have gh10 : my_fr [(88, -1)] h h10 := my_fr.up gh8 is_189 fh10 rfl
        refine w_iinc (ls' := [(2, 151), (0, x1), (0, x2), (0, (p2_0 + 1)), (0, v4)]) gz_212_58 rfl gm_212 rfl rfl rfl ⟨by omega, by omega⟩ ?_
        refine w_goto (t := 2) gz_212_61 rfl ?_
        refine w_weak (ls' := [(2, 151), (0, x1), (0, x2), (0, (p2_0 + 1)), (9, 0)]) (wk_e (wk_e (wk_e (wk_e (wk_9 wk_n))))) ?_
        exact ih_2_0 ((p2_0 + 1)) h10 (gh10) (by omega) (by omega) (by omega) (((my_up_role fh10 is_151 is_189 rfl).trans ((my_up_role fh8 is_151 is_189 rfl).trans ev1.symm)).trans (by omega)) (by first | exact SwW_0 | exact SwW_s (by omega) (by omega) (by omega) sw_2_0 fh8 (by omega) (by omega) fh10 (by omega) (by omega) | assumption | omega) (by omega) (by omega)
  refine w_iconst gz_212_0 (by decide) ?_
  refine w_istore_n (ls' := [(2, 151), (0, x1), (0, x2), (0, 0), (9, 0)]) gz_212_1 gm_212 rfl rfl rfl ?_
  exact J2_0 9 (0) h (my_fr.rf) (by omega) (by omega) (by omega) (ek151_27.symm.trans (by omega)) (by first | exact SwW_0 | exact SwW_s (by omega) (by omega) (by omega) sw_2_0 no_such_saying (by omega) (by omega) no_such_saying (by omega) (by omega) | assumption | omega) (by omega) (by omega)
end MYNModel_isLess5
