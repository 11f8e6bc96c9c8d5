/-! the law's case of value -/
section MZW
noncomputable def mz_Kv (n0 s0 : Nat) (ls0 : mx_L) : mf_K := fun env h pc _ st => Nat.beq pc 24 && st.isEmpty && (Nat.beq h.flatten.length n0 && Nat.beq (mx_sz h.flatten) s0) && mf mz_pg 20000 30 env h 0 689 ls0 [.int 1] mz_Kend
noncomputable def mz_K686 : mf_K := fun env h pc ls st => match st with
  | [.ref _, c3, c2, c1, .ref kx] => Nat.beq pc 686 && mx_isI c1 && mx_isI c2 && mx_isI c3 && (match fh_nth h kx with
    | some (.inr q) => Nat.beq q.1 9
    | _ => false) && mf mz_pg 20000 20 env h 142 0 (mx_args 0 [.ref kx, c1, c2, c3]) [] (mz_Kv h.flatten.length (mx_sz h.flatten) ls)
  | _ => false
noncomputable def mz_K8 : mf_K := fun env h pc ls st => bif Nat.beq pc 33 then mz_at33 env ls st && mf mz_pg 20000 30 env h 0 666 ls [] mz_K686 else mz_Kend env h pc ls st
theorem dz_686 : decode code 686 = .ok (.invokestatic 60, 3) := by decide +kernel
set_option maxHeartbeats 4000000 in
theorem mz_value {p : Program} {l : Launch} {e : Env} {s : State} {m : MethodId} {below : List Frame} {meth : Method} {c : Code} {b L : Nat} {xs : Nat → Int32} (hL : L ≤ 8) (C0 : lw_At p s m meth c b L xs) (hst : l.stackTraces = false)
    (hrun : mf (mz_x [33]) 3000 30 (mz_env (-2147483648) 2147483647) [] 0 0 [(0, .float 0)] [] mz_K8 = true) (htg : mz_tgt (xs 0 &&& 31) 666) :
    W p l e room_1 s m #[Value.ref b] below meth c s.heap [] 0 0 (lw_Z below #[Value.ref b] s) (entryFrame m ([Value.ref b] : List Value).toArray 7) := by
  obtain ⟨D, tys, sg, hsg, hFr, sl, hef, hI⟩ := mz_entry hL C0
  have hV0 : vv_W s.heap.size s s.heap := by
    obtain ⟨hx, hb, hr, hml, hown, hts, hX, hbl, hlocks, hgv, hnm⟩ := C0
    exact vv_of hts hgv
  rw [hef]
  obtain ⟨env1, f1, pc1, ls1, st1, mc1, ms1, hf1, hK1, he1, hg1, hOk1⟩ := mz_runs (l := l) (mz_x [33]) (mz_hPgx _) mz_fh0 hrun (mz_henv hL (mz_full _))
  simp only [List.flatten_nil, List.length_nil, mx_sz, Nat.zero_add] at hg1
  unfold mz_K8 at hK1
  cases hp : Nat.beq pc1 33 with
  | false =>
    rw [hp] at hK1
    simp only [cond_false] at hK1
    obtain ⟨u1, u2⟩ := mz_bounds hK1
    refine hOk1 p e room_1 s m _ below meth c s.heap [] 0 0 _ sl [] [] s.heap.size D tys sg hFr hI (by show 0 + mc1 ≤ 600002; omega) (by show 0 + ms1 ≤ 7302232; omega) (fun H' locs' sl' stk' ws' pre hI' => ?_)
    exact mz_fin hFr hI' hK1 (by omega) (by omega)
  | true =>
    rw [hp] at hK1
    simp only [cond_true, Bool.and_eq_true] at hK1
    have hp33 := Nat.eq_of_beq_eq_true hp
    subst hp33
    obtain ⟨rfl, g0, g4, g8⟩ := mz_at33_spec hK1.1
    obtain ⟨env2, f2, pc2, ls2, st2, mc2, ms2, hf2, hK2, he2, hg2, hOk2⟩ := mz_runs (l := l) mz_pg mz_hPg hf1 hK1.2 he1
    unfold mz_K686 at hK2
    split at hK2
    next ko c3 c2 c1 kx =>
      simp only [Bool.and_eq_true] at hK2
      obtain ⟨⟨⟨⟨⟨hpc, i1⟩, i2⟩, i3⟩, hcl⟩, hK2⟩ := hK2
      have hp2 := Nat.eq_of_beq_eq_true hpc
      subst hp2
      have hkx : ∃ fx, f2.flatten[kx]? = some (.inr (9, fx)) := by
        rw [fh_nth_eq f2 hf2] at hcl
        split at hcl
        next q hq => exact ⟨q.2, by rw [hq, ← Nat.eq_of_beq_eq_true hcl]⟩
        next => cases hcl
      obtain ⟨fx, hkx⟩ := hkx
      obtain ⟨env3, f3, pc3, ls3, st3, mc3, ms3, hf3, hK3, he3, hg3, hOk3⟩ := mz_runs (l := l) mz_pg mz_hPg hf2 hK2 he2
      unfold mz_Kv at hK3
      simp only [Bool.and_eq_true, List.isEmpty_iff] at hK3
      obtain ⟨⟨⟨hp3, rfl⟩, hz1, hz2⟩, hK3⟩ := hK3
      have hz1 := Nat.eq_of_beq_eq_true hz1
      have hz2 := Nat.eq_of_beq_eq_true hz2
      have hp3 := Nat.eq_of_beq_eq_true hp3
      subst hp3
      have z1 : mc3 = 0 := by omega
      have z2 : ms3 = 0 := by omega
      subst z1; subst z2
      obtain ⟨env4, f4, pc4, ls4, st4, mc4, ms4, hf4, hK4, he4, hg4, hOk4⟩ := mz_runs (l := l) mz_pg mz_hPg hf3 hK3 he3
      obtain ⟨u1, u2⟩ := mz_bounds hK4
      refine hOk1 p e room_1 s m _ below meth c s.heap [] 0 0 _ sl [] [] s.heap.size D tys sg hFr hI (by show 0 + mc1 ≤ 600002; omega) (by show 0 + ms1 ≤ 7302232; omega) (fun H1 locs1 sl1 stk1 ws1 pre1 hI1 => ?_)
      refine mz_sw hsg hFr hI1 he1 g0 g4 g8 htg (fun hI1' => ?_)
      refine hOk2 p e room_1 s m _ below meth c H1 locs1 (0 + mc1) (0 + ms1) _ sl1 [] ws1 s.heap.size D tys sg hFr hI1' (by show 0 + mc1 + mc2 ≤ 600002; omega) (by show 0 + ms1 + ms2 ≤ 7302232; omega) (fun H2 locs2 sl2 stk2 ws2 pre2 hI2 => ?_)
      obtain ⟨hP, hD, hS, hM, ⟨lv, hl1, hl2⟩, hst2⟩ := id hI2
      obtain ⟨hx, hb, hr0, hml, hown, hts, hnm, hlk, hfr, hlo, hWd, hn0, hSc⟩ := id hFr
      obtain ⟨wo, r1, rfl, hwo, hs1⟩ := hst2.c
      obtain ⟨v3, r2, rfl, hv3, hs2⟩ := hs1.c
      obtain ⟨v2, r3, rfl, hv2, hs3⟩ := hs2.c
      obtain ⟨v1, r4, rfl, hv1, hs4⟩ := hs3.c
      obtain ⟨vx, r5, rfl, hvx, hs5⟩ := hs4.c
      have e5 := hs5.n
      subst e5
      obtain ⟨w3, rfl⟩ := hv3.i i3
      obtain ⟨w2, rfl⟩ := hv2.i i2
      obtain ⟨w1, rfl⟩ := hv1.i i1
      obtain ⟨qo, -, rfl⟩ := hwo
      obtain ⟨qx, hqx, rfl⟩ := id hvx
      have hMet := vv_law (l := l) (D := D) (qo := qo) hst hOk3 hD hM hkx ⟨hvx, hv1, hv2, hv3, trivial⟩ i1 i2 i3
      have hb' : c.code = code := hb
      refine mx_callW (P := mz_P) (pc := 686) (vx_runSW (g := F0 m 686 sl2 [.ref qo, .int w3, .int w2, .int w1, .ref qx]) (As := [.ref qx, .int w1, .int w2, .int w3, .ref qo]) (rest := []) ⟨hx, hb', hml, hown, hts⟩ hMet
        (vx_cwSW (ws' := mz_tb) 5 hts (mx_goodIn mz_good (fun w hw => ?_)) rfl rfl rfl (by decide +kernel) ⟨Nat.le_of_ble_eq_true rfl, Nat.le_of_ble_eq_true rfl⟩)
        ⟨vv_Pc.blind, fun U hU hW => ⟨⟨rfl, by rw [hU]; exact hS.1, by rw [hU]; exact hP, hWd.moved hW, ?_⟩, hV0.moved hW (fun q q1 q2 => by rw [hU]; exact hS.2.1 q q1 q2)⟩⟩ rfl rfl hl1.1 rfl (lv_room (Nat.le_of_ble_eq_true rfl)) dz_686 ⟨by show 0 + mc1 + mc2 + 1 ≤ 600002; omega, by show 0 + ms1 + ms2 + 6 ≤ 7302232; omega⟩) hS (fun v ws3 H3 locs3 hv hP3 hD3 hS3 pre3 hM3 => ?_)
      · unfold va_wsS at hw
        rcases List.mem_append.mp hw with hw | hw
        · simp only [List.mem_cons, List.not_mem_nil, or_false] at hw
          have ec : (mx_mt mz_P 0).1.cls = "ThroughWindowLaw" := rfl
          rw [ec] at hw
          rcases hw with rfl | rfl | rfl
          · exact vv_lk _ (by simp)
          · exact vv_lk _ (by simp)
          · exact vv_lk _ (by simp [vv_y])
        · rcases List.mem_cons.mp hw with rfl | hw
          · exact vv_lk _ (by simp)
          · exact hw
      · obtain ⟨L', x1, x2, x3, x4⟩ := id hSc
        exact hSc.moved hW (by rw [hU]; exact hS.2.1 _ (Nat.lt_of_lt_of_le x4 hn0) (Nat.not_le.mpr x4))
      · have hv' : v = some (.int 1) := by
          cases v with
          | none => exact hv.elim
          | some z => have := hv.1; simp only [mx_R] at this; rw [this]
        subst hv'
        refine hOk4 p e room_1 s m _ below meth c H3 locs3 (0 + mc1 + mc2 + 1) (0 + ms1 + ms2 + 6) _ sl2 [.int 1] ws3 s.heap.size D tys sg hFr ⟨hP3, hD3, hS3, hM3, ?_, ⟨rfl, trivial⟩⟩ (by show 0 + mc1 + mc2 + 1 + mc4 ≤ 600002; omega) (by show 0 + ms1 + ms2 + 6 + ms4 ≤ 7302232; omega) (fun H4 locs4 sl4 stk4 ws4 pre4 hI4 => ?_)
        · obtain ⟨be, pre3⟩ := pre3
          rw [pre3]
          exact ⟨lv, hl1, hl2.imp (fun _ _ r => ⟨r.1, r.2.mono _⟩)⟩
        · exact mz_fin hFr hI4 hK4 (by omega) (by omega)
    next => cases hK2
end MZW
