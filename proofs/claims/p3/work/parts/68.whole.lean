/-! the law, from its entry -/
section MRW
set_option maxHeartbeats 1000000 in
theorem whole_start {p : Program} {e : Env} {s : State} {m : MethodId} {below : List Frame} {meth : Method} {c : Code} (l : Launch) (hst : l.stackTraces = false) {b L : Nat} {xs : Nat → Int32} (hL : L ≤ 4096) (C0 : lw_At p s m meth c b L xs) : W p l e room_1 s m #[Value.ref b] below meth c s.heap [] 0 0 (lw_Z below #[Value.ref b] s) (entryFrame m ([Value.ref b] : List Value).toArray 7) := by
  obtain ⟨D, tys, sg, hsg, hFr, sl, hef, hI⟩ := mz_entry hL C0
  have hV : vv_W s.heap.size s s.heap := by
    obtain ⟨hx, hb, hr, hml, hown, hts, hX, hbl, hlocks, hgv, hnm⟩ := C0
    exact vv_of hts hgv
  rw [hef]
  obtain ⟨env1, f1, pc1, ls1, st1, mc1, ms1, hf1, hK1, -, hg1, hOk1⟩ := mz_runs (l := l) (rho := mz_rho L xs) (mz_x [23]) (mz_hPgx _) mz_fh0 mz_r23 (fun i q h => by simp at h)
  simp only [List.flatten_nil, List.length_nil, mx_sz, Nat.zero_add] at hg1
  unfold mz_K23 at hK1
  simp only [Bool.and_eq_true, List.isEmpty_iff] at hK1
  obtain ⟨hp, rfl, hls, hn1, hn2, hb1, hb2, hb3, hb4, hb5, hb6⟩ := hK1
  have hp := Nat.eq_of_beq_eq_true hp
  subst hp
  obtain ⟨g0, g1, g2, g3, g4⟩ := mz_l23_spec hls
  have hn1 := Nat.le_of_ble_eq_true hn1
  have hn2 := Nat.le_of_ble_eq_true hn2
  have I : LInv (hOf f1.flatten) := ⟨first_Ln hf1 hb2, (first_Mw hf1 hb3).mw, first_Mw hf1 hb3, first_Rws hf1 hb4, first_Wrd hf1 hb5, first_9 hf1 (first_Ln hf1 hb2) hb6⟩
  refine hOk1 p e room_1 s m _ below meth c s.heap [] 0 0 _ sl [] [] s.heap.size D tys sg hFr hI (by show 0 + mc1 ≤ 601024; omega) (by show 0 + ms1 ≤ 7293034; omega) (fun H' locs' sl' stk' ws' pre hI' => ?_)
  refine lw_loop hL mz_rho4 hst hV 513 0 0 _ I (by omega) (by omega) (by omega) (by omega) ?_ (fun _ h => by cases h) ls1 f1.flatten H' locs' _ _ sl' stk' ws' hFr (by omega) ?_ (fb_spec hf1 hb1) (by omega) (by omega) hI'
  · intro v hv
    simp only [List.mem_cons, List.not_mem_nil, or_false] at hv
    rcases hv with rfl | rfl | rfl | rfl | rfl | rfl | rfl
    · show (0 : Int) ≤ 0
      decide
    · show (0 : Int) ≤ 0
      decide
    · show (0 : Int) ≤ 151
      decide
    · show (0 : Int) ≤ 203
      decide
    · exact ⟨by decide, by decide⟩
    · show (0 : Int) ≤ 0
      decide
    · show (0 : Int) ≤ 0
      decide
  · intro j v hv h9
    match j, hv with
    | 0, hv => cases hv; exact g0
    | 1, hv => cases hv; exact g1
    | 2, hv => cases hv; exact g2
    | 3, hv => cases hv; exact g3
    | 4, hv => cases hv; exact g4
    | 5, hv => cases hv; exact absurd h9 (by decide)
    | 6, hv => cases hv; exact absurd h9 (by decide)
    | n + 7, hv => simp at hv
end MRW
