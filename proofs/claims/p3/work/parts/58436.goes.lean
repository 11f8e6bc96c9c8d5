/-! going through the ways: rows that go -/
section ZSJ
/-- that row r goes is a way -/
def zqQ2 (A : zqA) (S : Int → Int) (b m : Int) (P : List zqP) (W : List zqR) (r : Int) : Prop :=
  zqUw b P (r / 20) ∧ zqHas S (r / 20) (r % 20) ∧ zqLf A (zqDrop S (r / 20) (r % 20)) ∧ (zqRun (zqDrop S (r / 20) (r % 20)) m ((zqLd (zqDrop S (r / 20) (r % 20)) b m 20).map Prod.snd) P).Perm W
theorem zqDrop_off {S : Int → Int} {w k : Int} : ∀ j : Int, (j < 4 * (20 * w + k) ∨ 4 * (20 * w + k) + 4 ≤ j) → zqDrop S w k j = S j := fun j hj => by
  unfold zqDrop
  rw [if_neg (by omega), if_neg (by omega)]
theorem zqDrop_k {S : Int → Int} {w k u q : Int} (k0 : 0 ≤ k) (k9 : k ≤ 19) (q0 : 0 ≤ q) (q9 : q ≤ 19) : zqDrop S w k (80 * u + 4 * q) = if u = w ∧ q = k then -1 else S (80 * u + 4 * q) := by
  unfold zqDrop
  by_cases z : u = w ∧ q = k
  · rw [if_pos z, if_pos (by omega)]
  · rw [if_neg z, if_neg (by omega), if_neg (by omega)]
theorem zqDrop_c {S : Int → Int} {w k u q c : Int} (k0 : 0 ≤ k) (k9 : k ≤ 19) (q0 : 0 ≤ q) (q9 : q ≤ 19) (c1 : 1 ≤ c) (c3 : c ≤ 3) : zqDrop S w k (80 * u + 4 * q + c) = if u = w ∧ q = k then 0 else S (80 * u + 4 * q + c) := by
  unfold zqDrop
  by_cases z : u = w ∧ q = k
  · rw [if_pos z, if_neg (by omega), if_pos (by omega)]
  · rw [if_neg z, if_neg (by omega), if_neg (by omega)]
theorem zqCn_le {S S' : Int → Int} {w : Int} : ∀ n : Nat, (∀ k : Int, 0 ≤ k → k < n → S (80 * w + 4 * k) = -1 → S' (80 * w + 4 * k) = -1) → zqCn S' w n ≤ zqCn S w n
  | 0, _ => Int.le_refl 0
  | n + 1, h => by
    have ih := zqCn_le n (fun k a b => h k a (by omega))
    have e := h n (by omega) (by omega)
    rw [zqCn, zqCn]
    by_cases q : S (80 * w + 4 * (n : Int)) = -1
    · rw [if_pos q, if_pos (e q)]; exact ih
    · rw [if_neg q]
      by_cases q' : S' (80 * w + 4 * (n : Int)) = -1
      · rw [if_pos q']; omega
      · rw [if_neg q']; omega
theorem zqGd_drop {S : Int → Int} {w k : Int} (k0 : 0 ≤ k) (k9 : k ≤ 19) (G : zqGd S) : zqGd (zqDrop S w k) := by
  refine ⟨fun u q u0 u2 hq => ?_, fun u u0 u2 => ?_⟩
  · obtain ⟨q0, q9, h⟩ := hq
    have e := zqDrop_k (S := S) (w := w) (u := u) k0 k9 q0 q9
    by_cases z : u = w ∧ q = k
    · rw [if_pos z] at e; exact absurd e h
    · rw [if_neg z] at e
      obtain ⟨g1, g2, g3⟩ := G.1 u q u0 u2 ⟨q0, q9, by rw [← e]; exact h⟩
      refine ⟨by rw [e]; exact g1, by rw [e]; exact g2, fun c c1 c3 => ?_⟩
      rw [zqDrop_c k0 k9 q0 q9 c1 c3, if_neg z]
      exact g3 c c1 c3
  · have := zqCn_le (S := S) (S' := zqDrop S w k) (w := u) 20 (fun q q0 q1 hq => by
      rw [zqDrop_k k0 k9 q0 (by omega)]
      split
      · rfl
      · exact hq)
    have := G.2 u u0 u2
    omega
theorem zqSt_drop {A : zqA} {S : Int → Int} {w k : Int} (k0 : 0 ≤ k) (k9 : k ≤ 19) (T : zqSt A S) : zqSt A (zqDrop S w k) := fun u q u0 u2 q0 q9 => by
  have e := zqDrop_k (S := S) (w := w) (u := u) k0 k9 q0 q9
  have f := fun c c1 c3 => zqDrop_c (S := S) (w := w) (u := u) (c := c) k0 k9 q0 q9 c1 c3
  by_cases z : u = w ∧ q = k
  · rw [if_pos z] at e
    have f' := fun c c1 c3 => (f c c1 c3).trans (if_pos z)
    exact Or.inl ⟨e, f' 1 (by omega) (by omega), f' 2 (by omega) (by omega), f' 3 (by omega) (by omega)⟩
  · rw [if_neg z] at e
    have f' := fun c c1 c3 => (f c c1 c3).trans (if_neg z)
    rcases T u q u0 u2 q0 q9 with ⟨t0, t1, t2, t3⟩ | ⟨t0, t1, t2⟩
    · exact Or.inl ⟨e.trans t0, (f' 1 (by omega) (by omega)).trans t1, (f' 2 (by omega) (by omega)).trans t2, (f' 3 (by omega) (by omega)).trans t3⟩
    · exact Or.inr ⟨e.trans t0, t1, fun c c1 c3 => by rw [f' c c1 c3]; exact t2 c c1 c3⟩
/-- a row that doesn't tell goes: all is seen as it is -/
theorem tell_no2 {h : my_H} {w tl r : Int} (K : SrC h w) (tp : TlP h w tl) (r0 : 0 ≤ r) (r1 : r < 60) (hr : zqHas (h 96) (r / 20) (r % 20)) (off : ¬ zqlb tl r) : (zqRun (zqDrop (h 96) (r / 20) (r % 20)) (h (h 27 w) 3) ((zqLd (zqDrop (h 96) (r / 20) (r % 20)) (h (h 27 w) 2) (h (h 27 w) 3) 20).map Prod.snd) (zqCW h w)).Perm (WLs h) ↔ h 94 14 ≠ 0 := by
  obtain ⟨⟨w0, w5, ht⟩, D, L, V, -, -, -, -, -, k1, k2, ⟨j, v, dr, kp⟩, as, -⟩ := K
  obtain ⟨wf, b0, b2, m0, m4⟩ := L w w0 w5 ht
  obtain ⟨d1, d2, d3, d4, d5, d6, d7⟩ := D
  have s0 : h (h 27 w) 7 = 0 := by
    by_cases z : h (h 27 w) 7 = 0
    · exact z
    · rw [tp.1 z] at off
      exact absurd (zqlb_m1 (by omega) (by omega)) off
  refine tell_skip (D := dr) (j := j) (v := v) (tp.2 s0) (fun _ => rfl) r0 (by omega) off V (d5.mp s0) m4 (fun j hj => zqDrop_off j (by omega)) (by rw [show 4 * r = 80 * (r / 20) + 4 * (r % 20) by omega]; exact hr.2.2) (fun p hp k4 => ?_) k1 k2 rfl (WLs h) kp as
  obtain ⟨n, q⟩ := zqWf_mem wf hp
  have := q.2.1 k4
  omega
def Q2h (h : my_H) (w r : Int) : Prop := zqQ2 (zqCA h) (h 96) (h (h 27 w) 2) (h (h 27 w) 3) (zqCW h w) (WLs h) r
noncomputable def LLh (h : my_H) (w : Int) : List zqY := zqV2 (Qh h w) 240 ++ L0h h
theorem LLh_len {h : my_H} {w : Int} : (LLh h w).length ≤ 4801 := by
  have l2 := zqV2_len (Q := Qh h w) 240
  have l3 := L0h_len (h := h)
  unfold LLh
  rw [List.length_append]
  omega
/-- before row r -/
def TgI (h g : my_H) (w r : Int) : Prop := (∀ j : Int, g 96 j = h 96 j) ∧ (∀ j : Int, g 97 j = h 97 j) ∧ SmV h g ∧ DkE g (h 2) (zqV3 (Q2h h w) r.toNat ++ LLh h w)
theorem zqV3_y {Q : Int → Prop} {v : Int} (v0 : 0 ≤ v) (q : Q v) : zqV3 Q (v + 1).toNat = (2, v / 20, v % 20, -1, -1) :: zqV3 Q v.toNat := by
  rw [show (v + 1).toNat = v.toNat + 1 by omega, zqV3, zqIf_t (by rw [Int.toNat_of_nonneg v0]; exact q), Int.toNat_of_nonneg v0]
theorem zqV3_n {Q : Int → Prop} {v : Int} (v0 : 0 ≤ v) (q : ¬ Q v) : zqV3 Q (v + 1).toNat = zqV3 Q v.toNat := by
  rw [show (v + 1).toNat = v.toNat + 1 by omega, zqV3, zqIf_f (by rw [Int.toNat_of_nonneg v0]; exact q)]
theorem zqV3_ext {Q : Int → Prop} {n : Nat} : ∀ d : Nat, ∃ M : List zqY, zqV3 Q (n + d) = M ++ zqV3 Q n ∧ ∀ y ∈ M, y.1 = 2 ∧ ∃ r : Int, 0 ≤ r ∧ r < n + d ∧ Q r ∧ y.2.1 = r / 20
  | 0 => ⟨[], rfl, fun y hy => by cases hy⟩
  | d + 1 => by
    obtain ⟨M, e, h⟩ := zqV3_ext (Q := Q) (n := n) d
    have h' : ∀ y ∈ M, y.1 = 2 ∧ ∃ r : Int, 0 ≤ r ∧ r < n + ((d + 1 : Nat) : Int) ∧ Q r ∧ y.2.1 = r / 20 := fun y hy => by
      obtain ⟨a, r, b, c, d, e⟩ := h y hy
      exact ⟨a, r, b, by omega, d, e⟩
    by_cases z : Q ((n + d : Nat) : Int)
    · refine ⟨(2, ((n + d : Nat) : Int) / 20, ((n + d : Nat) : Int) % 20, -1, -1) :: M, ?_, fun y hy => ?_⟩
      · rw [Nat.add_succ, zqV3, zqIf_t z, e]; rfl
      · rcases List.mem_cons.mp hy with q | q
        · rw [q]; exact ⟨rfl, _, by omega, by omega, z, rfl⟩
        · exact h' y q
    · exact ⟨M, by rw [Nat.add_succ, zqV3, zqIf_f z, e], h'⟩
theorem zqV3_sk {Q : Int → Prop} {n : Nat} : ∀ d : Nat, (∀ r : Int, n ≤ r → r < n + d → ¬ Q r) → zqV3 Q (n + d) = zqV3 Q n
  | 0, _ => rfl
  | d + 1, h => by rw [Nat.add_succ, zqV3, zqIf_f (h _ (by omega) (by omega)), zqV3_sk d (fun r a b => h r a (by omega))]
theorem TgI_0 {h : my_H} {w : Int} (D : DkE h (h 2) (LLh h w)) {g : my_H} (e : ∀ j : Int, g 96 j = h 96 j) (e7 : ∀ j : Int, g 97 j = h 97 j) (K : KpS h g) : TgI h g w 0 := ⟨e, e7, K.1, DkE_cg D K⟩
theorem TgI_cg {h g g1 : my_H} {w r : Int} (T : TgI h g w r) (e : ∀ j : Int, g1 96 j = g 96 j) (e7 : ∀ j : Int, g1 97 j = g 97 j) (K : KpS g g1) : TgI h g1 w r :=
  ⟨fun j => (e j).trans (T.1 j), fun j => (e7 j).trans (T.2.1 j), T.2.2.1.tr K.1, DkE_cg T.2.2.2 K⟩
theorem TgI_n {h g g1 : my_H} {w r : Int} (r0 : 0 ≤ r) (T : TgI h g w r) (e : ∀ j : Int, g1 96 j = h 96 j) (e7 : ∀ j : Int, g1 97 j = h 97 j) (K : KpS g g1) (q : ¬ Q2h h w r) : TgI h g1 w (r + 1) :=
  ⟨e, e7, T.2.2.1.tr K.1, by rw [zqV3_n r0 q]; exact DkE_cg T.2.2.2 K⟩
theorem zqPr_2 {C : Int → Int} {y : zqY} (h : y.1 = 2) : zqPr C y = C y.2.1 := by
  unfold zqPr
  rw [if_neg (by omega)]
theorem TgI_y {h g g1 g2 g3 : my_H} {w r pr a b : Int} (r0 : 0 ≤ r) (T : TgI h g w r) (e : ∀ j : Int, g3 96 j = h 96 j) (e7 : ∀ j : Int, g3 97 j = h 97 j) (K : KpS g g1) (no : g 94 13 = 0 ∨ g 112 0 = -1 ∨ 1 < g 112 0) (P : KpP g1 g2 2 pr) (s : SmV g1 g2) (K3 : KpS g2 g3) (h2 : g1 111 2 = r / 20) (h3 : g1 111 3 = r % 20) (h4 : g1 111 4 = -1) (h5 : g1 111 5 = -1) (hp : pr = h 2 (r / 20)) (p0 : 0 ≤ pr) (q : Q2h h w r) : TgI h g3 w (r + 1) := by
  refine ⟨e, e7, ((T.2.2.1.tr K.1).tr s).tr K3.1, DkE_cg ?_ K3⟩
  rw [zqV3_y r0 q]
  exact DkE_keep T.2.2.2 no K P (by rw [h2, h3, h4, h5]) hp p0
theorem TgI_s {h g : my_H} {w r r2 : Int} (r0 : 0 ≤ r) (r1 : r ≤ r2) (T : TgI h g w r) (q : ∀ p : Int, r ≤ p → p < r2 → ¬ Q2h h w p) : TgI h g w r2 := by
  refine ⟨T.1, T.2.1, T.2.2.1, ?_⟩
  have e := zqV3_sk (Q := Q2h h w) (n := r.toNat) (r2.toNat - r.toNat) (fun p a b => q p (by omega) (by omega))
  rw [show r.toNat + (r2.toNat - r.toNat) = r2.toNat by omega] at e
  rw [e]
  exact T.2.2.2
theorem TgI_e {h g : my_H} {w r r2 : Int} (K : SrC h w) (r0 : 0 ≤ r) (r1 : r ≤ r2) (r60 : r2 ≤ 60) (T : TgI h g w r) (en : g 94 13 ≠ 0) (p0 : g 112 0 ≠ -1) (p1 : g 112 0 ≤ 1) : TgI h g w r2 := by
  refine ⟨T.1, T.2.1, T.2.2.1, ?_⟩
  obtain ⟨M, eM, hM⟩ := zqV3_ext (Q := Q2h h w) (n := r.toNat) (r2.toNat - r.toNat)
  rw [show r.toNat + (r2.toNat - r.toNat) = r2.toNat by omega] at eM
  rw [eM, List.append_assoc]
  refine DkE_en T.2.2.2 en p0 p1 (fun y hy => ?_)
  obtain ⟨y1, q, q0, q1, hq, y2⟩ := hM y hy
  rw [zqPr_2 y1, y2]
  have st := K.2.2.2.2.2.2.2.2.2.2.2.2.2.2.2.1 (q / 20) (q % 20) (by omega) (by omega) (by omega) (by omega)
  rcases st with ⟨t0, -⟩ | ⟨-, t1, -⟩
  · exact absurd t0 hq.2.1.2.2
  · exact t1
theorem TgI_f {h g : my_H} {w r : Int} (r1 : r ≤ 60) (T : TgI h g w r) (no : g 94 13 = 0 ∨ g 112 0 = -1 ∨ 1 < g 112 0) : 0 ≤ g 94 11 ∧ g 94 11 ≤ 100000 := by
  have d := (DkE_no T.2.2.2 no).1
  have l1 := zqV3_len (Q := Q2h h w) r.toNat
  have l2 := LLh_len (h := h) (w := w)
  rw [List.length_append] at d
  omega
theorem Q2_no {h : my_H} {w r : Int} (n : ¬ zqHas (h 96) (r / 20) (r % 20)) : ¬ Q2h h w r := fun z => n z.2.1
theorem Q2_un {h : my_H} {w u : Int} (K : SrC h w) (u0 : 0 ≤ u) (u2 : u ≤ 2) (n : ¬ zqlb (h (h 27 w) 6) u) : ∀ p : Int, 20 * u ≤ p → p < 20 * u + 20 → ¬ Q2h h w p := fun p a b z => by
  have := z.1
  rw [show p / 20 = u by omega] at this
  exact n ((K.2.1.2.2.2.1 u u0 u2).mpr this)
theorem Q2_nt {h : my_H} {w tl r : Int} (K : SrC h w) (tp : TlP h w tl) (r0 : 0 ≤ r) (r1 : r < 60) (off : ¬ zqlb tl r) (as : h 94 14 = 0) : ¬ Q2h h w r := fun z => (tell_no2 K tp r0 r1 z.2.1 off).mp z.2.2.2 as
/-- the law of the trial -/
theorem Lw_drop {h g : my_H} {w r : Int} (K : SrC h w) (r0 : 0 ≤ r) (r1 : r < 60) (e : g 96 = zqDrop (h 96) (r / 20) (r % 20)) (ca : zqCA g = zqCA h) : qLaw (zqCA g) (g 96) ↔ zqLf (zqCA h) (zqDrop (h 96) (r / 20) (r % 20)) := by
  rw [ca, e]
  obtain ⟨-, -, -, -, -, -, -, -, -, -, -, -, -, -, -, st, ld, c4, -⟩ := K
  exact qLaw_lf ld (fun u a b => (c4 u a b).2) (zqSt_drop (by omega) (by omega) st)
theorem Q2_la {h : my_H} {w r : Int} (n : ¬ zqLf (zqCA h) (zqDrop (h 96) (r / 20) (r % 20))) : ¬ Q2h h w r := fun z => n z.2.2.1
theorem Q2_ta {h : my_H} {w tl r : Int} (K : SrC h w) (tp : TlP h w tl) (r0 : 0 ≤ r) (r1 : r < 60) (off : ¬ zqlb tl r) (as : h 94 14 ≠ 0) (un : zqlb (h (h 27 w) 6) (r / 20)) (hr : zqHas (h 96) (r / 20) (r % 20)) (la : zqLf (zqCA h) (zqDrop (h 96) (r / 20) (r % 20))) : Q2h h w r :=
  ⟨(K.2.1.2.2.2.1 _ (by omega) (by omega)).mp un, hr, la, (tell_no2 K tp r0 r1 hr off).mpr as⟩
theorem Q2_sh {h g1 g2 : my_H} {w r : Int} (K : SrC h w) (n : Ln h) (a : my_ag LwF h g1) (s : SmV h g2) (r0 : 0 ≤ r) (r1 : r < 60) (e : g1 96 = zqDrop (h 96) (r / 20) (r % 20)) (V : VwI g2 106 (g1 96) (g1 (g1 27 w) 2) (g1 (g1 27 w) 3) (zqCW g1 w)) (o : VwS g2 106) (un : zqlb (h (h 27 w) 6) (r / 20)) (hr : zqHas (h 96) (r / 20) (r % 20)) (la : zqLf (zqCA h) (zqDrop (h 96) (r / 20) (r % 20))) : zqSame g2 106 102 ↔ Q2h h w r := by
  rw [e] at V
  exact (ShS K n a s V o).trans ⟨fun z => ⟨(K.2.1.2.2.2.1 _ (by omega) (by omega)).mp un, hr, la, z⟩, fun z => z.2.2.2⟩
theorem Gd_r {h g : my_H} {w u k : Int} (K : SrC h w) (k0 : 0 ≤ k) (k9 : k ≤ 19) (e : g 96 = zqDrop (h 96) u k) : zqGd (g 96) := by
  rw [e]
  exact zqGd_drop k0 k9 K.2.2.2.2.2.2.2.2.2.2.2.2.2.1
end ZSJ
