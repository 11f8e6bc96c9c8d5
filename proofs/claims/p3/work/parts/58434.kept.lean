/-! going through the ways: what is kept, cell by cell -/
section ZSH
theorem zqLe_mem {C : Int → Int} {b : zqY} : ∀ {L : List zqY}, zqLe C L = some b → b ∈ L
  | [], h => by cases h
  | y :: t, h => by
    have h' : (match zqLe C t with | none => some y | some b => if zqPr C y < zqPr C b then some y else some b) = some b := h
    cases e : zqLe C t with
    | none =>
      rw [e] at h'
      cases h'
      exact List.mem_cons_self ..
    | some d =>
      rw [e] at h'
      have h2 : (if zqPr C y < zqPr C d then some y else some d) = some b := h'
      by_cases z : zqPr C y < zqPr C d
      · rw [if_pos z] at h2
        cases h2
        exact List.mem_cons_self ..
      · rw [if_neg z] at h2
        cases h2
        exact List.mem_cons_of_mem _ (zqLe_mem e)
/-- the ways so far are kept, or enough of them -/
def DkE (g : my_H) (C : Int → Int) (L : List zqY) : Prop := (∀ y ∈ L, 0 ≤ zqPr C y) ∧ (DkL g C L ∨ (g 94 13 ≠ 0 ∧ ∃ b : zqY, zqLe C L = some b ∧ zqPr C b ≤ 1 ∧ StpW g 112 C (some b)))
theorem DkE_en {g : my_H} {C : Int → Int} {L M : List zqY} (D : DkE g C L) (en : g 94 13 ≠ 0) (p0 : g 112 0 ≠ -1) (p1 : g 112 0 ≤ 1) (hM : ∀ y ∈ M, 1 ≤ zqPr C y) : DkE g C (M ++ L) := by
  obtain ⟨nn, D⟩ := D
  refine ⟨fun y hy => ?_, Or.inr ⟨en, ?_⟩⟩
  · rcases List.mem_append.mp hy with q | q
    · have := hM y q; omega
    · exact nn y q
  · rcases D with ⟨d1, d2, d3⟩ | ⟨d1, b, d2, d3, d4⟩
    · cases e : zqLe C L with
      | none => rw [e] at d2; exact absurd d2.1 p0
      | some b =>
        rw [e] at d2
        have : zqPr C b ≤ 1 := by have := d2.1; omega
        exact ⟨b, zqLe_stop e this M hM, this, d2⟩
    · exact ⟨b, zqLe_stop d2 d3 M hM, d3, d4⟩
theorem DkE_no {g : my_H} {C : Int → Int} {L : List zqY} (D : DkE g C L) (no : g 94 13 = 0 ∨ g 112 0 = -1 ∨ 1 < g 112 0) : DkL g C L := by
  obtain ⟨nn, D⟩ := D
  rcases D with D | ⟨d1, b, d2, d3, d4⟩
  · exact D
  · exfalso
    have := nn b (zqLe_mem d2)
    have := d4.1
    omega
/-- what the search reads stays as it is -/
def SmV (h g : my_H) : Prop := g 94 13 = h 94 13 ∧ g 94 14 = h 94 14 ∧ g 94 15 = h 94 15 ∧ g 94 16 = h 94 16 ∧ g 98 0 = h 98 0 ∧ g 98 1 = h 98 1 ∧ g 102 0 = h 102 0 ∧ g 102 1 = h 102 1 ∧ (∀ j : Int, g 99 j = h 99 j) ∧ (∀ j : Int, g 101 j = h 101 j) ∧ ∀ j : Int, g 103 j = h 103 j
theorem SmV.rf {h : my_H} : SmV h h := ⟨rfl, rfl, rfl, rfl, rfl, rfl, rfl, rfl, fun _ => rfl, fun _ => rfl, fun _ => rfl⟩
theorem SmV.tr {h g k : my_H} (p : SmV h g) (q : SmV g k) : SmV h k := by
  obtain ⟨p1, p2, p3, p4, p5, p6, p7, p8, p9, pa, pb⟩ := p
  obtain ⟨q1, q2, q3, q4, q5, q6, q7, q8, q9, qa, qb⟩ := q
  exact ⟨q1.trans p1, q2.trans p2, q3.trans p3, q4.trans p4, q5.trans p5, q6.trans p6, q7.trans p7, q8.trans p8, fun j => (q9 j).trans (p9 j), fun j => (qa j).trans (pa j), fun j => (qb j).trans (pb j)⟩
/-- and what it has kept -/
def KpS (h g : my_H) : Prop := SmV h g ∧ (g 94 11 = h 94 11 ∧ g 94 12 = h 94 12) ∧ (g 112 0 = h 112 0 ∧ g 112 1 = h 112 1 ∧ g 112 2 = h 112 2 ∧ g 112 3 = h 112 3 ∧ g 112 4 = h 112 4 ∧ g 112 5 = h 112 5) ∧ (g 113 0 = h 113 0 ∧ g 113 1 = h 113 1 ∧ g 113 2 = h 113 2 ∧ g 113 3 = h 113 3 ∧ g 113 4 = h 113 4 ∧ g 113 5 = h 113 5)
theorem KpS.rf {h : my_H} : KpS h h := ⟨SmV.rf, ⟨rfl, rfl⟩, ⟨rfl, rfl, rfl, rfl, rfl, rfl⟩, ⟨rfl, rfl, rfl, rfl, rfl, rfl⟩⟩
theorem DkL_cg {h g : my_H} {C : Int → Int} {L : List zqY} (D : DkL h C L) (K : KpS h g) : DkL g C L := by
  obtain ⟨d1, d2, d3⟩ := D
  obtain ⟨-, ⟨k1, k2⟩, ⟨a0, a1, a2, a3, a4, a5⟩, ⟨b0, b1, b2, b3, b4, b5⟩⟩ := K
  exact ⟨k1.trans d1, StpW_eq d2 a0 a1 a2 a3 a4 a5, by rw [k2]; exact StpW_eq d3 b0 b1 b2 b3 b4 b5⟩
theorem DkE_cg {h g : my_H} {C : Int → Int} {L : List zqY} (D : DkE h C L) (K : KpS h g) : DkE g C L := by
  refine ⟨D.1, ?_⟩
  rcases D.2 with d | ⟨d1, b, d2, d3, d4⟩
  · exact Or.inl (DkL_cg d K)
  · obtain ⟨s, -, ⟨a0, a1, a2, a3, a4, a5⟩, -⟩ := K
    exact Or.inr ⟨by rw [s.1]; exact d1, b, d2, d3, StpW_eq d4 a0 a1 a2 a3 a4 a5⟩
theorem DkE_keep {h g g1 : my_H} {C : Int → Int} {L : List zqY} {k pr : Int} {y : zqY} (D : DkE h C L) (no : h 94 13 = 0 ∨ h 112 0 = -1 ∨ 1 < h 112 0) (S : KpS h g) (K : KpP g g1 k pr) (hy : y = (k, g 111 2, g 111 3, g 111 4, g 111 5)) (hp : pr = zqPr C y) (p0 : 0 ≤ pr) : DkE g1 C (y :: L) := by
  refine ⟨fun z hz => ?_, Or.inl ?_⟩
  · rcases List.mem_cons.mp hz with q | q
    · rw [q, ← hp]; exact p0
    · exact D.1 z q
  · exact DkL_keep (DkL_cg (DkE_no D no) S) K hy hp (fun b e => by have := D.1 b (zqLe_mem e); omega)
theorem zqV_y {Q : Int → Int → Prop} {x v : Int} (v0 : 0 ≤ v) (q : Q x v) : zqV Q x (v + 1).toNat = (1, x / 80, x / 4 % 20, x % 4, v) :: zqV Q x v.toNat := by
  rw [show (v + 1).toNat = v.toNat + 1 by omega, zqV, zqIf_t (by rw [Int.toNat_of_nonneg v0]; exact q), Int.toNat_of_nonneg v0]
theorem zqV_n {Q : Int → Int → Prop} {x v : Int} (v0 : 0 ≤ v) (q : ¬ Q x v) : zqV Q x (v + 1).toNat = zqV Q x v.toNat := by
  rw [show (v + 1).toNat = v.toNat + 1 by omega, zqV, zqIf_f (by rw [Int.toNat_of_nonneg v0]; exact q)]
theorem zqV_ext {Q : Int → Int → Prop} {x : Int} {n : Nat} : ∀ d : Nat, ∃ M : List zqY, zqV Q x (n + d) = M ++ zqV Q x n ∧ ∀ y ∈ M, y.1 = 1
  | 0 => ⟨[], rfl, fun y hy => by cases hy⟩
  | d + 1 => by
    obtain ⟨M, e, h⟩ := zqV_ext (Q := Q) (x := x) (n := n) d
    by_cases z : Q x ((n + d : Nat) : Int)
    · refine ⟨(1, x / 80, x / 4 % 20, x % 4, ((n + d : Nat) : Int)) :: M, ?_, fun y hy => ?_⟩
      · rw [Nat.add_succ, zqV, zqIf_t z, e]; rfl
      · rcases List.mem_cons.mp hy with q | q
        · rw [q]
        · exact h y q
    · exact ⟨M, by rw [Nat.add_succ, zqV, zqIf_f z, e], h⟩
theorem zqV2_ext {Q : Int → Int → Prop} {n : Nat} : ∀ d : Nat, ∃ M : List zqY, zqV2 Q (n + d) = M ++ zqV2 Q n ∧ ∀ y ∈ M, y.1 = 1
  | 0 => ⟨[], rfl, fun y hy => by cases hy⟩
  | d + 1 => by
    obtain ⟨M, e, h⟩ := zqV2_ext (Q := Q) (n := n) d
    refine ⟨zqV Q ((n + d : Nat) : Int) 20 ++ M, by rw [Nat.add_succ, zqV2, e, List.append_assoc], fun y hy => ?_⟩
    rcases List.mem_append.mp hy with q | q
    · exact zqV_k q
    · exact h y q
theorem zqV_len {Q : Int → Int → Prop} {x : Int} : ∀ n : Nat, (zqV Q x n).length ≤ n
  | 0 => Nat.le_refl 0
  | n + 1 => by
    have ih := zqV_len (Q := Q) (x := x) n
    rw [zqV]
    by_cases z : Q x (n : Int)
    · rw [zqIf_t z, List.length_cons]; omega
    · rw [zqIf_f z]; omega
theorem zqV2_len {Q : Int → Int → Prop} : ∀ n : Nat, (zqV2 Q n).length ≤ 20 * n
  | 0 => Nat.le_refl 0
  | n + 1 => by
    have ih := zqV2_len (Q := Q) n
    have := zqV_len (Q := Q) (x := (n : Int)) 20
    rw [zqV2, List.length_append]; omega
theorem zqV3_len {Q : Int → Prop} : ∀ n : Nat, (zqV3 Q n).length ≤ n
  | 0 => Nat.le_refl 0
  | n + 1 => by
    have ih := zqV3_len (Q := Q) n
    rw [zqV3]
    by_cases z : Q (n : Int)
    · rw [zqIf_t z, List.length_cons]; omega
    · rw [zqIf_f z]; omega
theorem zqPr_1 {C : Int → Int} {y : zqY} (h : y.1 = 1) : zqPr C y = 1 := by
  unfold zqPr
  rw [if_pos (by omega), h]
/-- the ways by another value, of what lies ready in h -/
def Qh (h : my_H) (w x v : Int) : Prop := zqQ1 (zqCA h) (h 96) (h (h 27 w) 2) (h (h 27 w) 3) (zqCW h w) (WLs h) x v
/-- the way that changes nothing -/
noncomputable def L0h (h : my_H) : List zqY := zqIf (h 94 14 ≠ 0) [(0, -1, -1, -1, -1)] []
theorem L0h_len {h : my_H} : (L0h h).length ≤ 1 := by
  unfold L0h
  by_cases z : h 94 14 ≠ 0
  · rw [zqIf_t z]; exact Nat.le_refl 1
  · rw [zqIf_f z]; exact Nat.zero_le _
theorem L0h_nn {h : my_H} {C : Int → Int} : ∀ y ∈ L0h h, 0 ≤ zqPr C y := fun y hy => by
  unfold L0h at hy
  by_cases z : h 94 14 ≠ 0
  · rw [zqIf_t z] at hy
    rcases List.mem_cons.mp hy with q | q
    · rw [q]; exact Int.le_refl 0
    · cases q
  · rw [zqIf_f z] at hy; cases hy
/-- before cell x -/
def TvO (h g : my_H) (w x : Int) : Prop := (∀ j : Int, g 96 j = h 96 j) ∧ SmV h g ∧ DkE g (h 2) (zqV2 (Qh h w) x.toNat ++ L0h h)
/-- in cell x, before value u -/
def TvN (h g : my_H) (w x u : Int) : Prop := (∀ j : Int, j ≠ x → g 96 j = h 96 j) ∧ SmV h g ∧ DkE g (h 2) (zqV (Qh h w) x u.toNat ++ (zqV2 (Qh h w) x.toNat ++ L0h h))
theorem TvO_0 {h : my_H} {w : Int} (D : DkL h (h 2) (L0h h)) : TvO h h w 0 := ⟨fun _ => rfl, SmV.rf, L0h_nn, Or.inl D⟩
theorem TvN_0 {h g g1 : my_H} {w x : Int} (T : TvO h g w x) (e : ∀ j : Int, g1 96 j = g 96 j) (K : KpS g g1) : TvN h g1 w x 0 :=
  ⟨fun j _ => (e j).trans (T.1 j), T.2.1.tr K.1, DkE_cg T.2.2 K⟩
theorem TvN_n {h g g1 : my_H} {w x u : Int} (u0 : 0 ≤ u) (T : TvN h g w x u) (e : ∀ j : Int, j ≠ x → g1 96 j = g 96 j) (K : KpS g g1) (q : ¬ Qh h w x u) : TvN h g1 w x (u + 1) :=
  ⟨fun j hj => (e j hj).trans (T.1 j hj), T.2.1.tr K.1, by rw [zqV_n u0 q]; exact DkE_cg T.2.2 K⟩
theorem TvN_y {h g g1 g2 : my_H} {w x u : Int} (u0 : 0 ≤ u) (T : TvN h g w x u) (e : ∀ j : Int, j ≠ x → g2 96 j = g 96 j) (K : KpS g g1) (no : g 94 13 = 0 ∨ g 112 0 = -1 ∨ 1 < g 112 0) (P : KpP g1 g2 1 1) (s : SmV g1 g2) (h2 : g1 111 2 = x / 80) (h3 : g1 111 3 = x / 4 % 20) (h4 : g1 111 4 = x % 4) (h5 : g1 111 5 = u) (q : Qh h w x u) : TvN h g2 w x (u + 1) := by
  refine ⟨fun j hj => (e j hj).trans (T.1 j hj), (T.2.1.tr K.1).tr s, ?_⟩
  rw [zqV_y u0 q]
  exact DkE_keep T.2.2 no K P (by rw [h2, h3, h4, h5]) rfl (by omega)
theorem TvO_e {h g g1 : my_H} {w x u o : Int} (x0 : 0 ≤ x) (u0 : 0 ≤ u) (u20 : u ≤ 20) (T : TvN h g w x u) (en : u = 20 ∨ (g 94 13 ≠ 0 ∧ g 112 0 ≠ -1 ∧ g 112 0 ≤ 1)) (e : g1 = my_up g 96 x o) (ho : o = h 96 x) : TvO h g1 w (x + 1) := by
  have o94 : ∀ k j : Int, k ≠ 96 → g1 k j = g k j := fun k j hk => my_up_ne e (by omega)
  have K : KpS g g1 := ⟨⟨o94 _ _ (by decide), o94 _ _ (by decide), o94 _ _ (by decide), o94 _ _ (by decide), o94 _ _ (by decide), o94 _ _ (by decide), o94 _ _ (by decide), o94 _ _ (by decide), fun j => o94 _ _ (by decide), fun j => o94 _ _ (by decide), fun j => o94 _ _ (by decide)⟩, ⟨o94 _ _ (by decide), o94 _ _ (by decide)⟩, ⟨o94 _ _ (by decide), o94 _ _ (by decide), o94 _ _ (by decide), o94 _ _ (by decide), o94 _ _ (by decide), o94 _ _ (by decide)⟩, ⟨o94 _ _ (by decide), o94 _ _ (by decide), o94 _ _ (by decide), o94 _ _ (by decide), o94 _ _ (by decide), o94 _ _ (by decide)⟩⟩
  refine ⟨fun j => ?_, T.2.1.tr K.1, DkE_cg ?_ K⟩
  · by_cases z : j = x
    · rw [z, my_up_self e, ho]
    · rw [my_up_ne e (by omega)]; exact T.1 j z
  · rw [show (x + 1).toNat = x.toNat + 1 by omega, zqV2, Int.toNat_of_nonneg x0, List.append_assoc]
    rcases en with en | ⟨e1, e2, e3⟩
    · have q := T.2.2
      rw [en] at q
      exact q
    · obtain ⟨M, eM, hM⟩ := zqV_ext (Q := Qh h w) (x := x) (n := u.toNat) (20 - u.toNat)
      rw [show u.toNat + (20 - u.toNat) = 20 by omega] at eM
      rw [eM, List.append_assoc]
      exact DkE_en T.2.2 e1 e2 e3 (fun y hy => by rw [zqPr_1 (hM y hy)]; exact Int.le_refl 1)
theorem TvO_n {h g g1 : my_H} {w x : Int} (x0 : 0 ≤ x) (T : TvO h g w x) (e : ∀ j : Int, g1 96 j = g 96 j) (K : KpS g g1) (q : ∀ v : Int, 0 ≤ v → v < 20 → ¬ Qh h w x v) : TvO h g1 w (x + 1) := by
  refine ⟨fun j => (e j).trans (T.1 j), T.2.1.tr K.1, ?_⟩
  rw [show (x + 1).toNat = x.toNat + 1 by omega, zqV2, Int.toNat_of_nonneg x0, zqV_no 20 (fun v a b => q v a (by omega)), List.nil_append]
  exact DkE_cg T.2.2 K
theorem TvO_z {h g : my_H} {w x : Int} (x0 : 0 ≤ x) (x1 : x ≤ 240) (T : TvO h g w x) (en : x = 240 ∨ (g 94 13 ≠ 0 ∧ g 112 0 ≠ -1 ∧ g 112 0 ≤ 1)) : TvO h g w 240 := by
  refine ⟨T.1, T.2.1, ?_⟩
  rcases en with en | ⟨e1, e2, e3⟩
  · rw [← en]; exact T.2.2
  · obtain ⟨M, eM, hM⟩ := zqV2_ext (Q := Qh h w) (n := x.toNat) (240 - x.toNat)
    rw [show x.toNat + (240 - x.toNat) = (240 : Int).toNat by omega] at eM
    rw [eM, List.append_assoc]
    exact DkE_en T.2.2 e1 e2 e3 (fun y hy => by rw [zqPr_1 (hM y hy)]; exact Int.le_refl 1)
theorem TvN_f {h g : my_H} {w x u : Int} (x1 : x ≤ 240) (u1 : u ≤ 20) (T : TvN h g w x u) (no : g 94 13 = 0 ∨ g 112 0 = -1 ∨ 1 < g 112 0) : 0 ≤ g 94 11 ∧ g 94 11 ≤ 100000 := by
  have d := (DkE_no T.2.2 no).1
  have l1 := zqV_len (Q := Qh h w) (x := x) u.toNat
  have l2 := zqV2_len (Q := Qh h w) x.toNat
  have l3 := L0h_len (h := h)
  rw [List.length_append, List.length_append] at d
  omega
end ZSH
