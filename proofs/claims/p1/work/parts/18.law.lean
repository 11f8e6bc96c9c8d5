/-! the law out of the machine's runs -/
section MZL
noncomputable def mz_x (ex : List Nat) : mf_P := fun m pc => bif Nat.beq m 0 && ex.any (fun x => Nat.beq x pc) then none else mz_pg m pc
def mz_env (lo hi : Int) : mx_E := [(-2147483648, 2147483647), (lo, hi), (-2147483648, 2147483647), (-2147483648, 2147483647), (-2147483648, 2147483647), (-2147483648, 2147483647), (-2147483648, 2147483647), (-2147483648, 2147483647), (0, 8)]
def mz_is1 (ins : Instr) (st : List Value) : Bool := match ins, st with
  | .ireturn, [.int x] => decide (x = 1)
  | _, _ => false
noncomputable def mz_Kend : mf_K := fun _ h pc _ st => match mz_pg 0 pc with
  | some i => mz_is1 i.1 st && (Nat.ble h.flatten.length 600000 && Nat.ble (mx_sz h.flatten) 7000000)
  | none => false
def mz_at33 (env : mx_E) (ls : mx_L) (st : List Value) : Bool := match st, mx_look ls 0, mx_look ls 4, env[8]? with
  | [], some (.float u), some (.int x), some q => decide (u = 0) && decide (x = 0) && decide (q = (8, 8))
  | _, _, _, _ => false
noncomputable def mz_K1 (lbs : List Nat) : mf_K := fun env h pc ls st => bif Nat.beq pc 33 then mz_at33 env ls st && lbs.all (fun lb => mf mz_pg 20000 30 env h 0 lb ls [] mz_Kend) else mz_Kend env h pc ls st
theorem mz_hPgx (ex : List Nat) : mx_Pg (mz_Q (mz_x ex)) mz_G mz_tb := by
  intro m pc i hi
  have h : mz_x ex m pc = some i := hi
  have h2 : mz_pg m pc = some i := by
    unfold mz_x at h
    cases hc : (Nat.beq m 0 && ex.any (fun x => Nat.beq x pc)) with
    | true => rw [hc] at h; cases h
    | false => rw [hc] at h; exact h
  exact mz_hPg m pc i h2
theorem mz_fh0 : fh_ok [] := trivial
/-- the fast run, held against the model -/
theorem mz_runs {l : Launch} {rho : Nat → Int32} (pg : mf_P) (hpg : mx_Pg (mz_Q pg) mz_G mz_tb) {n d : Nat} {env : mx_E} {h : mf_H} {m pc : Nat} {ls : mx_L} {st : List Value} {K : mf_K} (hk : fh_ok h) (hrun : mf pg n d env h m pc ls st K = true) (he : mx_env rho env) :
    ∃ (env' : mx_E) (h' : mf_H) (pc' : Nat) (ls' : mx_L) (st' : List Value) (mc ms : Nat), fh_ok h' ∧ K env' h' pc' ls' st' = true ∧ mx_env rho env' ∧ (h'.flatten.length = h.flatten.length + mc ∧ mx_sz h'.flatten = mx_sz h.flatten + ms) ∧ mx_Ok l mz_P mz_G mz_tb rho d m pc ls st h.flatten pc' ls' st' h'.flatten mc ms := by
  have hmx := mf_mx pg n d env h m pc ls st K (fun env h pc ls st => @decide (∃ f : mf_H, fh_ok f ∧ f.flatten = h ∧ K env f pc ls st = true) (Classical.propDecidable _)) hk (fun env' h' pc' ls' st' hk' hK' => by
    simp only [decide_eq_true_eq]; exact ⟨h', hk', rfl, hK'⟩) hrun
  obtain ⟨env1, h1, pc1, ls1, st1, mc1, ms1, hK1, he1, hg1, hOk1⟩ := mx_sound (l := l) (P := mz_Q pg) (G := mz_G) (tb := mz_tb) mz_good mz_hCl mz_hCt hpg _ _ _ _ _ _ _ _ _ hmx he
  simp only [decide_eq_true_eq] at hK1
  obtain ⟨f1, hf1, rfl, hK1⟩ := hK1
  exact ⟨env1, f1, pc1, ls1, st1, mc1, ms1, hf1, hK1, he1, hg1, hOk1⟩
theorem mz_is1_spec {ins : Instr} {st : List Value} (h : mz_is1 ins st = true) : ins = .ireturn ∧ st = [.int 1] := by
  unfold mz_is1 at h
  split at h
  next x => exact ⟨rfl, by rw [of_decide_eq_true h]⟩
  next => cases h
theorem mz_at33_spec {env : mx_E} {ls : mx_L} {st : List Value} (h : mz_at33 env ls st = true) : st = [] ∧ mx_look ls 0 = some (.float 0) ∧ mx_look ls 4 = some (.int 0) ∧ env[8]? = some (8, 8) := by
  unfold mz_at33 at h
  split at h
  next u x q h0 h4 h8 =>
    simp only [Bool.and_eq_true, decide_eq_true_eq] at h
    obtain ⟨⟨rfl, rfl⟩, rfl⟩ := h
    exact ⟨rfl, h0, h4, h8⟩
  next => cases h
theorem dz_33 : decode code 33 = .ok (.aload_n 0, 1) := by decide +kernel
theorem dz_34 : decode code 34 = .ok (.iload 4, 2) := by decide +kernel
theorem dz_36 : decode code 36 = .ok (.iaload, 1) := by decide +kernel
theorem dz_37 : decode code 37 = .ok (.bipush 31, 2) := by decide +kernel
theorem dz_39 : decode code 39 = .ok (.iand, 1) := by decide +kernel
def mz_offs : Array Int := #[132, 169, 242, 279, 340, 389, 454, 601, 626, 706, 755, 816, 853, 890, 963, 1064, 1137, 1224, 1297, 1370, 1431, 1518, 1555, 1616, 1641, 1678, 1727, 1788, 1841]
theorem dz_40 : decode code 40 = .ok (.tableswitch 1866 0 28 mz_offs, 132) := by decide +kernel
/-- where the switch goes -/
def mz_tgt (o : Int32) (lb : Nat) : Prop := ((o.toInt < 0 ∨ 28 < o.toInt) ∧ lb = 1906) ∨ (¬ o.toInt < 0 ∧ ¬ 28 < o.toInt ∧ ∃ off : Int, mz_offs[(o.toInt - 0).toNat]? = some off ∧ (40 : Int) + off = (lb : Int))
def mz_rho (L : Nat) (xs : Nat → Int32) : Nat → Int32 := fun j => if j < 8 then xs j else Int32.ofNat L
theorem mz_full (x : Int32) : (-2147483648 : Int) ≤ x.toInt ∧ x.toInt ≤ 2147483647 := by
  have h := fz_int x
  have h2 := fz_n_lt x
  rw [h]
  split <;> omega
theorem mz_henv {L : Nat} {xs : Nat → Int32} {lo hi : Int} (hL : L ≤ 8) (h1 : lo ≤ (xs 1).toInt ∧ (xs 1).toInt ≤ hi) : mx_env (mz_rho L xs) (mz_env lo hi) := by
  intro i q hq
  match i, hq with
  | 0, hq => cases hq; exact mz_full _
  | 1, hq => cases hq; exact h1
  | 2, hq => cases hq; exact mz_full _
  | 3, hq => cases hq; exact mz_full _
  | 4, hq => cases hq; exact mz_full _
  | 5, hq => cases hq; exact mz_full _
  | 6, hq => cases hq; exact mz_full _
  | 7, hq => cases hq; exact mz_full _
  | 8, hq =>
    cases hq
    have e : (mz_rho L xs 8).toInt = (L : Int) := Int32.toInt_ofNat_of_lt (by omega)
    rw [e]
    omega
  | k + 9, hq => simp [mz_env] at hq
/-- what stands at the law's entry, for the machine -/
theorem mz_entry {p : Program} {s : State} {m : MethodId} {meth : Method} {c : Code} {b L : Nat} {xs : Nat → Int32} (hL : L ≤ 8) (C0 : lw_At p s m meth c b L xs) :
    ∃ (D : va_G) (tys : List (ClassId × FieldType)) (sg : Nat → Nat), sg 0 = b ∧ mx_Fr mz_P mz_G mz_tb s.heap.size D tys sg (mz_rho L xs) p room_1 s m #[Value.ref b] meth c 30 0 ∧
      ∃ sl : Array Slot, entryFrame m ([Value.ref b] : List Value).toArray 7 = F0 m 0 sl [] ∧ mx_In mz_P s.heap.size D tys sg (mz_rho L xs) s s.heap [] 0 [] [] [(0, .float 0)] [] sl [] := by
  obtain ⟨hx, hb, hr, hml, hown, hts, hX, hbl, hlocks, hgv, hnm⟩ := C0
  obtain ⟨D, tys, sg, hsg, hWd⟩ := mz_world b hts hgv
  refine ⟨D, tys, sg, hsg, ⟨hx, hb, hr, hml, hown, fun w hw => hts w (mz_sub w hw), hnm, hlocks, Nat.le_of_ble_eq_true rfl, Nat.le_of_ble_eq_true rfl, hWd, Nat.le_refl _, ⟨L, hL, rfl, ?_, by rw [hsg]; exact hbl⟩⟩, _, lg_entry_eq m [Value.ref b] 7, ?_⟩
  · rw [hsg]
    obtain ⟨scr, q1, q2, q3, q4, q5⟩ := hX
    exact ⟨scr, q1, q2, q3, q4, fun j hj => by rw [q5 j hj]; simp only [mz_rho]; rw [if_pos (by omega)]⟩
  · refine ⟨fun k q h => by simp at h, ⟨fun i j p q h => by simp at h, fun k q h => by simp at h⟩, va_S.rf, trivial, ⟨_, lv_entry ([.ref b]) (n := 7) (Nat.le_of_ble_eq_true rfl), ⟨⟨rfl, ?_⟩, trivial⟩⟩, trivial⟩
    show Value.ref b = Value.ref (sg 0)
    rw [hsg]
/-- the end of the law -/
theorem mz_fin {p : Program} {l : Launch} {e : Env} {s : State} {m : MethodId} {below : List Frame} {meth : Method} {c : Code} {b : Nat} {D : va_G} {tys : List (ClassId × FieldType)} {sg : Nat → Nat} {rho : Nat → Int32} {env : mx_E} {h : mf_H} {pc : Nat} {ls : mx_L} {st : List Value} {H : Heap} {locs : List Loc} {ws : va_W} {sl : Array Slot} {stk : List Value} {cells slots : Nat}
    (hFr : mx_Fr mz_P mz_G mz_tb s.heap.size D tys sg rho p room_1 s m #[Value.ref b] meth c 30 0) (hI : mx_In mz_P s.heap.size D tys sg rho s H locs 0 ws h.flatten ls st sl stk) (hK : mz_Kend env h pc ls st = true) (hc : cells ≤ 600002) (hs : slots ≤ 7302232) :
    W p l e room_1 s m #[Value.ref b] below meth c H locs cells slots (lw_Z below #[Value.ref b] s) (F0 m pc sl stk) := by
  unfold mz_Kend at hK
  split at hK
  next i hi =>
    simp only [Bool.and_eq_true] at hK
    obtain ⟨hi1, hst⟩ := mz_is1_spec hK.1
    obtain ⟨hdc, -⟩ := mz_hPg 0 pc i hi
    rw [hi1] at hdc
    subst hst
    obtain ⟨hP, hD, hS, hM, hl, hst⟩ := hI
    obtain ⟨w, rr, e1, hw, hr⟩ := hst.c
    have e2 := hr.n
    subst e2; subst e1
    simp only [mx_R] at hw
    subst hw
    refine va_forget hS.2.2 ?_
    refine W.widen (k := 600002) (n := 7302232) (by omega) (by omega) ?_
    exact lw_ret hFr.1 hFr.2.1 hFr.2.2.1 hFr.2.2.2.2.2.2.2.1 (hdc.of rfl)
  next => cases hK
theorem mz_bounds {env : mx_E} {h : mf_H} {pc : Nat} {ls : mx_L} {st : List Value} (hK : mz_Kend env h pc ls st = true) : h.flatten.length ≤ 600000 ∧ mx_sz h.flatten ≤ 7000000 := by
  unfold mz_Kend at hK
  split at hK
  next i hi =>
    simp only [Bool.and_eq_true] at hK
    exact ⟨Nat.le_of_ble_eq_true hK.2.1, Nat.le_of_ble_eq_true hK.2.2⟩
  next => cases hK
set_option maxHeartbeats 1000000 in
/-- the walk from the switch, for what the machine told -/
theorem mz_sw {p : Program} {l : Launch} {e : Env} {s : State} {m : MethodId} {below : List Frame} {meth : Method} {c : Code} {b L : Nat} {xs : Nat → Int32} {D : va_G} {tys : List (ClassId × FieldType)} {sg : Nat → Nat} {env : mx_E} {h : mx_H} {ls : mx_L} {H : Heap} {locs : List Loc} {ws : va_W} {sl : Array Slot} {stk : List Value} {cells slots : Nat} {Q : State → Prop} {lb : Nat}
    (hsg : sg 0 = b) (hFr : mx_Fr mz_P mz_G mz_tb s.heap.size D tys sg (mz_rho L xs) p room_1 s m #[Value.ref b] meth c 30 0) (hI : mx_In mz_P s.heap.size D tys sg (mz_rho L xs) s H locs 0 ws h ls [] sl stk) (he : mx_env (mz_rho L xs) env)
    (h0 : mx_look ls 0 = some (.float 0)) (h4 : mx_look ls 4 = some (.int 0)) (h8 : env[8]? = some (8, 8)) (htg : mz_tgt (xs 0 &&& 31) lb)
    (kk : mx_In mz_P s.heap.size D tys sg (mz_rho L xs) s H locs 0 ws h ls [] sl [] → W p l e room_1 s m #[Value.ref b] below meth c H locs cells slots Q (F0 m lb sl [])) : W p l e room_1 s m #[Value.ref b] below meth c H locs cells slots Q (F0 m 33 sl stk) := by
  obtain ⟨hx, hb, hr0, hml, hown, hts, hnm, hlk, hfr, hlo, hWd, hn0, hSc⟩ := id hFr
  obtain ⟨hP, hD, hS, hM, ⟨lv, hl1, hl2⟩, hst⟩ := id hI
  have e2 := hst.n
  subst e2
  obtain ⟨k0, v0, a1, a2⟩ := mx_look_get hl2 h0
  obtain ⟨k4, v4, b1, b2⟩ := mx_look_get hl2 h4
  have a2 : v0 = .ref (sg 0) := a2
  have b2 : v4 = .int 0 := b2
  subst a2; subst b2
  obtain ⟨L', hL', hr8, hX, hb0⟩ := hSc
  have hr := he 8 _ h8
  dsimp only at hr
  have hL8 : L' = 8 := by
    rw [hr8] at hr
    have : (Int32.ofNat L').toInt = (L' : Int) := Int32.toInt_ofNat_of_lt (by omega)
    omega
  subst hL8
  have hb' : c.code = code := hb
  refine lv_aload_n hx hb' dz_33 rfl (lv_at hl1 k0 a1) ?_
  refine lv_iload hx hb' dz_34 (lv_at hl1 k4 b1) ?_
  refine va_sld hx hb' hX (Nat.lt_of_lt_of_le hb0 hn0) (Nat.not_le.mpr hb0) hS (i := 0) (by unfold vp_in; decide) dz_36 ?_
  refine lv_bipush hx hb' dz_37 rfl ?_
  refine lv_iand hx hb' dz_39 ?_
  have hv : (mz_rho L xs ((0 : Int32).toNatClampNeg) &&& (Int8.ofInt 31).toInt32) = xs 0 &&& 31 := rfl
  rw [hv]
  have K := kk ⟨hP, hD, hS, hM, ⟨lv, hl1, hl2⟩, trivial⟩
  rcases htg with ⟨t1, rfl⟩ | ⟨t1, t2, off, t3, t4⟩
  · exact lv_tableOut hx hb' dz_40 t1 (by decide) K
  · exact lv_tableIn hx hb' dz_40 t1 t2 t3 t4 K
set_option maxHeartbeats 1000000 in
theorem mz_law {p : Program} {l : Launch} {e : Env} {s : State} {m : MethodId} {below : List Frame} {meth : Method} {c : Code} {b L : Nat} {xs : Nat → Int32} {lbs : List Nat} {lb : Nat} {lo hi : Int} (hL : L ≤ 8) (C0 : lw_At p s m meth c b L xs)
    (hrun : mf (mz_x [33]) 3000 30 (mz_env lo hi) [] 0 0 [(0, .float 0)] [] (mz_K1 lbs) = true) (hlb : lb ∈ lbs) (h1 : lo ≤ (xs 1).toInt ∧ (xs 1).toInt ≤ hi) (htg : mz_tgt (xs 0 &&& 31) lb) :
    W p l e room_1 s m #[Value.ref b] below meth c s.heap [] 0 0 (lw_Z below #[Value.ref b] s) (entryFrame m ([Value.ref b] : List Value).toArray 7) := by
  obtain ⟨D, tys, sg, hsg, hFr, sl, hef, hI⟩ := mz_entry hL C0
  rw [hef]
  obtain ⟨env1, f1, pc1, ls1, st1, mc1, ms1, hf1, hK1, he1, hg1, hOk1⟩ := mz_runs (l := l) (mz_x [33]) (mz_hPgx _) mz_fh0 hrun (mz_henv hL h1)
  simp only [List.flatten_nil, List.length_nil, mx_sz, Nat.zero_add] at hg1
  unfold mz_K1 at hK1
  cases hp : Nat.beq pc1 33 with
  | true =>
    rw [hp] at hK1
    simp only [cond_true, Bool.and_eq_true] at hK1
    have hp33 := Nat.eq_of_beq_eq_true hp
    subst hp33
    obtain ⟨rfl, g0, g4, g8⟩ := mz_at33_spec hK1.1
    have hrun2 := List.all_eq_true.mp hK1.2 lb hlb
    obtain ⟨env2, f2, pc2, ls2, st2, mc2, ms2, hf2, hK2, he2, hg2, hOk2⟩ := mz_runs (l := l) mz_pg mz_hPg hf1 hrun2 he1
    obtain ⟨u1, u2⟩ := mz_bounds hK2
    refine hOk1 p e room_1 s m _ below meth c s.heap [] 0 0 _ sl [] [] s.heap.size D tys sg hFr hI (by show 0 + mc1 ≤ 600002; omega) (by show 0 + ms1 ≤ 7302232; omega) (fun H' locs' sl' stk' ws' pre hI' => ?_)
    refine mz_sw hsg hFr hI' he1 g0 g4 g8 htg (fun hI3 => ?_)
    refine hOk2 p e room_1 s m _ below meth c H' locs' (0 + mc1) (0 + ms1) _ sl' [] ws' s.heap.size D tys sg hFr hI3 (by show 0 + mc1 + mc2 ≤ 600002; omega) (by show 0 + ms1 + ms2 ≤ 7302232; omega) (fun H2 locs2 sl2 stk2 ws2 pre2 hI2 => ?_)
    exact mz_fin hFr hI2 hK2 (by omega) (by omega)
  | false =>
    rw [hp] at hK1
    simp only [cond_false] at hK1
    obtain ⟨u1, u2⟩ := mz_bounds hK1
    refine hOk1 p e room_1 s m _ below meth c s.heap [] 0 0 _ sl [] [] s.heap.size D tys sg hFr hI (by show 0 + mc1 ≤ 600002; omega) (by show 0 + ms1 ≤ 7302232; omega) (fun H' locs' sl' stk' ws' pre hI' => ?_)
    exact mz_fin hFr hI' hK1 (by omega) (by omega)
end MZL
