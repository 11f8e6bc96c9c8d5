/-! the law's loop -/
section MRL
variable {p : Program} {l : Launch} {e : Env} {s : State} {m : MethodId} {below : List Frame} {meth : Method} {c : Code} {b : Nat} {D : va_G} {tys : List (ClassId × FieldType)} {sg : Nat → Nat} {rho : Nat → Int32} {L4 : Nat}
theorem lw_switch {h : my_H} {kn : Nat} {i z : Int} (hL4 : L4 ≤ 4096) (hL : rho 4096 = Int32.ofNat L4) (hst : l.stackTraces = false) (hV : vv_W s.heap.size s s.heap) (hkn : kn + 1 ≤ 512) (I : LInv h) (i0 : 0 ≤ i) (i8 : i + 8 ≤ L4) (z0 : 0 ≤ z) (z1 : z ≤ 31) (K : ∀ h' : my_H, LInv h' → lwp p l e s m below meth c b D tys sg rho 1878 [(3, 0), (2, 0), (2, 151), (2, 203), (0, i), (9, 0), (9, 0)] [] h' kn) (K1 : ∀ h' : my_H, LInv h' → lwp p l e s m below meth c b D tys sg rho 1878 [(3, 0), (2, 0), (2, 151), (2, 203), (0, i), (9, 0), (9, 0)] [] h' (kn + 1)) : lwp p l e s m below meth c b D tys sg rho 40 [(3, 0), (2, 0), (2, 151), (2, 203), (0, i), (9, 0), (9, 0)] [(0, z)] h kn := by
  by_cases e0 : z = 0
  · exact lw_tswE (t := 172) gz_0_40 e0 (by decide) (by decide) rfl rfl (lcase_0 hL4 hL I i0 i8 K )
  by_cases e1 : z = 1
  · exact lw_tswE (t := 209) gz_0_40 e1 (by decide) (by decide) rfl rfl (lcase_1 hL4 hL I i0 i8 K )
  by_cases e2 : z = 2
  · exact lw_tswE (t := 282) gz_0_40 e2 (by decide) (by decide) rfl rfl (lcase_2 hL4 hL I i0 i8 K )
  by_cases e3 : z = 3
  · exact lw_tswE (t := 319) gz_0_40 e3 (by decide) (by decide) rfl rfl (lcase_3 hL4 hL I i0 i8 K )
  by_cases e4 : z = 4
  · exact lw_tswE (t := 380) gz_0_40 e4 (by decide) (by decide) rfl rfl (lcase_4 hL4 hL I i0 i8 K )
  by_cases e5 : z = 5
  · exact lw_tswE (t := 429) gz_0_40 e5 (by decide) (by decide) rfl rfl (lcase_5 hL4 hL I i0 i8 K )
  by_cases e6 : z = 6
  · exact lw_tswE (t := 494) gz_0_40 e6 (by decide) (by decide) rfl rfl (lcase_6 hL4 hL I i0 i8 K )
  by_cases e7 : z = 7
  · exact lw_tswE (t := 641) gz_0_40 e7 (by decide) (by decide) rfl rfl (lcase_7 hL4 hL I i0 i8 K )
  by_cases e8 : z = 8
  · exact lw_tswE (t := 666) gz_0_40 e8 (by decide) (by decide) rfl rfl (lcase_8 hL4 hL I i0 i8 K K1 hst hkn hV)
  by_cases e9 : z = 9
  · exact lw_tswE (t := 718) gz_0_40 e9 (by decide) (by decide) rfl rfl (lcase_9 hL4 hL I i0 i8 K )
  by_cases e10 : z = 10
  · exact lw_tswE (t := 767) gz_0_40 e10 (by decide) (by decide) rfl rfl (lcase_10 hL4 hL I i0 i8 K )
  by_cases e11 : z = 11
  · exact lw_tswE (t := 828) gz_0_40 e11 (by decide) (by decide) rfl rfl (lcase_11 hL4 hL I i0 i8 K )
  by_cases e12 : z = 12
  · exact lw_tswE (t := 865) gz_0_40 e12 (by decide) (by decide) rfl rfl (lcase_12 hL4 hL I i0 i8 K )
  by_cases e13 : z = 13
  · exact lw_tswE (t := 902) gz_0_40 e13 (by decide) (by decide) rfl rfl (lcase_13 hL4 hL I i0 i8 K )
  by_cases e14 : z = 14
  · exact lw_tswE (t := 975) gz_0_40 e14 (by decide) (by decide) rfl rfl (lcase_14 hL4 hL I i0 i8 K )
  by_cases e15 : z = 15
  · exact lw_tswE (t := 1076) gz_0_40 e15 (by decide) (by decide) rfl rfl (lcase_15 hL4 hL I i0 i8 K )
  by_cases e16 : z = 16
  · exact lw_tswE (t := 1149) gz_0_40 e16 (by decide) (by decide) rfl rfl (lcase_16 hL4 hL I i0 i8 K )
  by_cases e17 : z = 17
  · exact lw_tswE (t := 1236) gz_0_40 e17 (by decide) (by decide) rfl rfl (lcase_17 hL4 hL I i0 i8 K )
  by_cases e18 : z = 18
  · exact lw_tswE (t := 1309) gz_0_40 e18 (by decide) (by decide) rfl rfl (lcase_18 hL4 hL I i0 i8 K )
  by_cases e19 : z = 19
  · exact lw_tswE (t := 1382) gz_0_40 e19 (by decide) (by decide) rfl rfl (lcase_19 hL4 hL I i0 i8 K )
  by_cases e20 : z = 20
  · exact lw_tswE (t := 1443) gz_0_40 e20 (by decide) (by decide) rfl rfl (lcase_20 hL4 hL I i0 i8 K )
  by_cases e21 : z = 21
  · exact lw_tswE (t := 1530) gz_0_40 e21 (by decide) (by decide) rfl rfl (lcase_21 hL4 hL I i0 i8 K )
  by_cases e22 : z = 22
  · exact lw_tswE (t := 1567) gz_0_40 e22 (by decide) (by decide) rfl rfl (lcase_22 hL4 hL I i0 i8 K )
  by_cases e23 : z = 23
  · exact lw_tswE (t := 1628) gz_0_40 e23 (by decide) (by decide) rfl rfl (lcase_23 hL4 hL I i0 i8 K )
  by_cases e24 : z = 24
  · exact lw_tswE (t := 1653) gz_0_40 e24 (by decide) (by decide) rfl rfl (lcase_24 hL4 hL I i0 i8 K )
  by_cases e25 : z = 25
  · exact lw_tswE (t := 1690) gz_0_40 e25 (by decide) (by decide) rfl rfl (lcase_25 hL4 hL I i0 i8 K )
  by_cases e26 : z = 26
  · exact lw_tswE (t := 1739) gz_0_40 e26 (by decide) (by decide) rfl rfl (lcase_26 hL4 hL I i0 i8 K )
  by_cases e27 : z = 27
  · exact lw_tswE (t := 1800) gz_0_40 e27 (by decide) (by decide) rfl rfl (lcase_27 hL4 hL I i0 i8 K )
  by_cases e28 : z = 28
  · exact lw_tswE (t := 1853) gz_0_40 e28 (by decide) (by decide) rfl rfl (lcase_28 hL4 hL I i0 i8 K )
  exact lw_tswD (t := 1878) gz_0_40 (by omega) rfl (K h I)
theorem lw_loop (hL4 : L4 ≤ 4096) (hL : rho 4096 = Int32.ofNat L4) (hst : l.stackTraces = false) (hV : vv_W s.heap.size s s.heap) : ∀ (n : Nat) (i : Int) (kn : Nat) (h : my_H), LInv h → 0 ≤ i → i ≤ 4096 → (L4 : Int) < i + 8 + 8 * n → 8 * (kn : Int) ≤ i → lwp p l e s m below meth c b D tys sg rho 23 [(3, 0), (2, 0), (2, 151), (2, 203), (0, i), (9, 0), (9, 0)] [] h kn := by
  intro n
  induction n with
  | zero =>
    intro i kn h I i0 i1 hn hk
    refine lw_iload gz_0_23 rfl ?_
    refine lw_aload3_n gz_0_25 rfl ?_
    refine lw_slen gz_0_26 hL4 hL ?_
    refine lw_bipush gz_0_27 (by decide) ?_
    refine lw_isub gz_0_29 ⟨by omega, by omega⟩ ?_
    refine lw_icgt (t := 1884) gz_0_30 rfl (fun u => ?_) (fun u => by exfalso; omega)
    refine lw_iconst gz_0_1884 (by decide) ?_
    exact lw_fin gz_0_1885
  | succ n ih =>
    intro i kn h I i0 i1 hn hk
    refine lw_iload gz_0_23 rfl ?_
    refine lw_aload3_n gz_0_25 rfl ?_
    refine lw_slen gz_0_26 hL4 hL ?_
    refine lw_bipush gz_0_27 (by decide) ?_
    refine lw_isub gz_0_29 ⟨by omega, by omega⟩ ?_
    refine lw_icgt (t := 1884) gz_0_30 rfl (fun u => ?_) (fun u => ?_)
    · refine lw_iconst gz_0_1884 (by decide) ?_
      exact lw_fin gz_0_1885
    · refine lw_aload3_n gz_0_33 rfl ?_
      refine lw_iload gz_0_34 rfl ?_
      refine lw_sl gz_0_36 hL4 hL (by omega) (by omega) (fun z ez pz qz => ?_)
      refine lw_bipush gz_0_37 (by decide) ?_
      refine lw_iandM gz_0_39 (by decide) (fun z2 y0 y1 => ?_)
      have T : ∀ (k2 : Nat) (h' : my_H), LInv h' → 8 * (k2 : Int) ≤ i + 8 → lwp p l e s m below meth c b D tys sg rho 1878 [(3, 0), (2, 0), (2, 151), (2, 203), (0, i), (9, 0), (9, 0)] [] h' k2 := by
        intro k2 h' I' hk2
        refine lw_iinc (ls' := [(3, 0), (2, 0), (2, 151), (2, 203), (0, i + 8), (9, 0), (9, 0)]) gz_0_1878 rfl gm_0 rfl rfl rfl ⟨by omega, by omega⟩ ?_
        refine lw_goto (t := 23) gz_0_1881 rfl ?_
        exact ih (i + 8) k2 h' I' (by omega) (by omega) (by omega) (by omega)
      exact lw_switch hL4 hL hst hV (by omega) I i0 (by omega) y0 y1 (fun h' I' => T kn h' I' (by omega)) (fun h' I' => T (kn + 1) h' I' (by omega))
end MRL
