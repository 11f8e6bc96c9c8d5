/-! the law, from its entry -/
section MZX
theorem mz_tg_in {j lb : Nat} (off : Int) (h1 : ¬ (nI j).toInt < 0) (h2 : ¬ 28 < (nI j).toInt) (h3 : mz_offs[((nI j).toInt - 0).toNat]? = some off) (h4 : (40 : Int) + off = (lb : Int)) : mz_tgt (nI j) lb := Or.inr ⟨h1, h2, off, h3, h4⟩
theorem mz_tg_out {j : Nat} (h : (nI j).toInt < 0 ∨ 28 < (nI j).toInt) : mz_tgt (nI j) 1906 := Or.inl ⟨h, rfl⟩
set_option maxHeartbeats 4000000 in
theorem whole_start {p : Program} {e : Env} {s : State} {m : MethodId} {below : List Frame} {meth : Method} {c : Code} (l : Launch) (hst : l.stackTraces = false) {b L : Nat} {xs : Nat → Int32} (hL : L ≤ 8) (C0 : lw_At p s m meth c b L xs) : W p l e room_1 s m #[Value.ref b] below meth c s.heap [] 0 0 (lw_Z below #[Value.ref b] s) (entryFrame m ([Value.ref b] : List Value).toArray 7) := by
  obtain ⟨j, hj, e0⟩ := pk_andE (xs 0) (m := 31) 5 (by decide)
  have hx1 := mz_full (xs 1)
  match j, hj, e0 with
  | 0, _, e0 => exact mz_law hL C0 mz_ra (lb := 172) (by simp) hx1 (by rw [e0]; exact mz_tg_in (132) (by decide) (by decide) (by decide) (by decide))
  | 1, _, e0 => exact mz_law hL C0 mz_ra (lb := 209) (by simp) hx1 (by rw [e0]; exact mz_tg_in (169) (by decide) (by decide) (by decide) (by decide))
  | 2, _, e0 => exact mz_law hL C0 mz_ra (lb := 282) (by simp) hx1 (by rw [e0]; exact mz_tg_in (242) (by decide) (by decide) (by decide) (by decide))
  | 3, _, e0 => exact mz_law hL C0 mz_ra (lb := 319) (by simp) hx1 (by rw [e0]; exact mz_tg_in (279) (by decide) (by decide) (by decide) (by decide))
  | 4, _, e0 => exact mz_law hL C0 mz_ra (lb := 380) (by simp) hx1 (by rw [e0]; exact mz_tg_in (340) (by decide) (by decide) (by decide) (by decide))
  | 5, _, e0 => exact mz_law hL C0 mz_ra (lb := 429) (by simp) hx1 (by rw [e0]; exact mz_tg_in (389) (by decide) (by decide) (by decide) (by decide))
  | 6, _, e0 => exact mz_feed hL C0 mz_r6 (by rw [e0]; exact mz_tg_in (454) (by decide) (by decide) (by decide) (by decide))
  | 7, _, e0 => exact mz_law hL C0 mz_rb (lb := 641) (by simp) hx1 (by rw [e0]; exact mz_tg_in (601) (by decide) (by decide) (by decide) (by decide))
  | 8, _, e0 => exact mz_value hL C0 hst mz_r8 (by rw [e0]; exact mz_tg_in (626) (by decide) (by decide) (by decide) (by decide))
  | 9, _, e0 => exact mz_law hL C0 mz_rc (lb := 746) (by simp) hx1 (by rw [e0]; exact mz_tg_in (706) (by decide) (by decide) (by decide) (by decide))
  | 10, _, e0 => exact mz_law hL C0 mz_rc (lb := 795) (by simp) hx1 (by rw [e0]; exact mz_tg_in (755) (by decide) (by decide) (by decide) (by decide))
  | 11, _, e0 => exact mz_law hL C0 mz_rc (lb := 856) (by simp) hx1 (by rw [e0]; exact mz_tg_in (816) (by decide) (by decide) (by decide) (by decide))
  | 12, _, e0 => exact mz_law hL C0 mz_rc (lb := 893) (by simp) hx1 (by rw [e0]; exact mz_tg_in (853) (by decide) (by decide) (by decide) (by decide))
  | 13, _, e0 => exact mz_law hL C0 mz_rd (lb := 930) (by simp) hx1 (by rw [e0]; exact mz_tg_in (890) (by decide) (by decide) (by decide) (by decide))
  | 14, _, e0 => exact mz_law hL C0 mz_rd (lb := 1003) (by simp) hx1 (by rw [e0]; exact mz_tg_in (963) (by decide) (by decide) (by decide) (by decide))
  | 15, _, e0 => exact mz_law hL C0 mz_rd (lb := 1104) (by simp) hx1 (by rw [e0]; exact mz_tg_in (1064) (by decide) (by decide) (by decide) (by decide))
  | 16, _, e0 => exact mz_law hL C0 mz_rd (lb := 1177) (by simp) hx1 (by rw [e0]; exact mz_tg_in (1137) (by decide) (by decide) (by decide) (by decide))
  | 17, _, e0 =>
    have tg : mz_tgt (xs 0 &&& 31) 1264 := (by rw [e0]; exact mz_tg_in (1224) (by decide) (by decide) (by decide) (by decide))
    by_cases h0 : (xs 1).toInt ≤ -1
    · exact mz_law hL C0 mz_rput0 (by simp) ⟨by omega, h0⟩ tg
    by_cases h1 : (xs 1).toInt ≤ 1
    · exact mz_law hL C0 mz_rput1 (by simp) ⟨by omega, h1⟩ tg
    by_cases h2 : (xs 1).toInt ≤ 3
    · exact mz_law hL C0 mz_rput2 (by simp) ⟨by omega, h2⟩ tg
    by_cases h3 : (xs 1).toInt ≤ 5
    · exact mz_law hL C0 mz_rput3 (by simp) ⟨by omega, h3⟩ tg
    exact mz_law hL C0 mz_rput4 (by simp) ⟨by omega, hx1.2⟩ tg
  | 18, _, e0 => exact mz_law hL C0 mz_re (lb := 1337) (by simp) hx1 (by rw [e0]; exact mz_tg_in (1297) (by decide) (by decide) (by decide) (by decide))
  | 19, _, e0 => exact mz_law hL C0 mz_re (lb := 1410) (by simp) hx1 (by rw [e0]; exact mz_tg_in (1370) (by decide) (by decide) (by decide) (by decide))
  | 20, _, e0 => exact mz_law hL C0 mz_re (lb := 1471) (by simp) hx1 (by rw [e0]; exact mz_tg_in (1431) (by decide) (by decide) (by decide) (by decide))
  | 21, _, e0 => exact mz_law hL C0 mz_re (lb := 1558) (by simp) hx1 (by rw [e0]; exact mz_tg_in (1518) (by decide) (by decide) (by decide) (by decide))
  | 22, _, e0 => exact mz_law hL C0 mz_rf (lb := 1595) (by simp) hx1 (by rw [e0]; exact mz_tg_in (1555) (by decide) (by decide) (by decide) (by decide))
  | 23, _, e0 =>
    have tg : mz_tgt (xs 0 &&& 31) 1656 := (by rw [e0]; exact mz_tg_in (1616) (by decide) (by decide) (by decide) (by decide))
    by_cases h0 : (xs 1).toInt ≤ -1
    · exact mz_law hL C0 mz_rnight0 (by simp) ⟨by omega, h0⟩ tg
    by_cases h1 : (xs 1).toInt ≤ 0
    · exact mz_law hL C0 mz_rnight1 (by simp) ⟨by omega, h1⟩ tg
    by_cases h2 : (xs 1).toInt ≤ 1
    · exact mz_law hL C0 mz_rnight2 (by simp) ⟨by omega, h2⟩ tg
    by_cases h3 : (xs 1).toInt ≤ 2
    · exact mz_law hL C0 mz_rnight3 (by simp) ⟨by omega, h3⟩ tg
    by_cases h4 : (xs 1).toInt ≤ 3
    · exact mz_law hL C0 mz_rnight4 (by simp) ⟨by omega, h4⟩ tg
    exact mz_law hL C0 mz_rnight5 (by simp) ⟨by omega, hx1.2⟩ tg
  | 24, _, e0 => exact mz_law hL C0 mz_rh (lb := 1681) (by simp) hx1 (by rw [e0]; exact mz_tg_in (1641) (by decide) (by decide) (by decide) (by decide))
  | 25, _, e0 => exact mz_law hL C0 mz_rh (lb := 1718) (by simp) hx1 (by rw [e0]; exact mz_tg_in (1678) (by decide) (by decide) (by decide) (by decide))
  | 26, _, e0 => exact mz_law hL C0 mz_rh (lb := 1767) (by simp) hx1 (by rw [e0]; exact mz_tg_in (1727) (by decide) (by decide) (by decide) (by decide))
  | 27, _, e0 => exact mz_law hL C0 mz_rj (lb := 1828) (by simp) hx1 (by rw [e0]; exact mz_tg_in (1788) (by decide) (by decide) (by decide) (by decide))
  | 28, _, e0 => exact mz_law hL C0 mz_ri (lb := 1881) (by simp) hx1 (by rw [e0]; exact mz_tg_in (1841) (by decide) (by decide) (by decide) (by decide))
  | 29, _, e0 => exact mz_law hL C0 mz_ra (lb := 1906) (by simp) hx1 (by rw [e0]; exact mz_tg_out (by decide))
  | 30, _, e0 => exact mz_law hL C0 mz_ra (lb := 1906) (by simp) hx1 (by rw [e0]; exact mz_tg_out (by decide))
  | 31, _, e0 => exact mz_law hL C0 mz_ra (lb := 1906) (by simp) hx1 (by rw [e0]; exact mz_tg_out (by decide))
  | j + 32, hj, _ => omega
end MZX
