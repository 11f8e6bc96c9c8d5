/-! going through the ways: what a change of one cell comes to -/
section ZSG
theorem zqlb_bt {v p : Int} (p0 : 0 ≤ p) (p1 : p ≤ 31) : zqlb v p ↔ zqbt v p := by
  have e : (Int64.ofInt v).toBitVec.getLsbD p.toNat = (Int32.ofInt v).toBitVec.getLsbD p.toNat := by
    rw [Int64.toBitVec_ofInt, Int32.toBitVec_ofInt]
    have e : BitVec.ofInt 32 v = (BitVec.ofInt 64 v).truncate 32 := by
      apply BitVec.eq_of_toInt_eq
      rw [BitVec.toInt_ofInt, BitVec.truncate_eq_setWidth, BitVec.toInt_setWidth, BitVec.toNat_ofInt]
      simp only [Int.bmod_def]
      omega
    rw [e, BitVec.truncate_eq_setWidth, BitVec.getLsbD_setWidth]
    simp [show p.toNat < 32 by omega]
  unfold zqlb zqbt bt
  rw [e, show (p % 32).toNat = p.toNat by omega]
theorem zqCA_e {h g : my_H} (e2 : ∀ j : Int, g 2 j = h 2 j) (e3 : ∀ j : Int, g 3 j = h 3 j) (e4 : ∀ j : Int, g 4 j = h 4 j) (e5 : ∀ j : Int, g 5 j = h 5 j) (e6 : ∀ j : Int, g 6 j = h 6 j) : zqCA g = zqCA h := by
  unfold zqCA
  rw [funext e2, funext e3, funext e4, funext e5, funext e6]
/-- another value in a cell leaves what that cell may hold as it was -/
theorem zqOk_off {A : zqA} {S S' : Int → Int} {w k c v : Int} (c1 : 1 ≤ c) (c3 : c ≤ 3) (e : ∀ j : Int, j ≠ 80 * w + 4 * k + c → S' j = S j) : zqOk A S' w k c v ↔ zqOk A S w k c v := by
  have hs : ∀ u q : Int, zqHas S' u q ↔ zqHas S u q := fun u q => by
    unfold zqHas
    rw [e _ (by omega)]
  unfold zqOk
  rw [hs]
  refine and_congr_right (fun _ => and_congr_right (fun _ => and_congr_right (fun _ => ?_)))
  constructor
  · intro h z k' a b d x
    have := h z k' a b d (by rw [e _ (by omega)]; exact x)
    rwa [e _ (by omega)] at this
  · intro h z k' a b d x
    rw [e _ (by omega)] at x ⊢
    exact h z k' a b d x
theorem zqCn_cg {S S' : Int → Int} {w : Int} : ∀ n : Nat, (∀ k : Int, 0 ≤ k → k < n → (S' (80 * w + 4 * k) = -1 ↔ S (80 * w + 4 * k) = -1)) → zqCn S' w n = zqCn S w n
  | 0, _ => rfl
  | n + 1, h => by
    have ih := zqCn_cg n (fun k a b => h k a (by omega))
    have e := h n (by omega) (by omega)
    rw [zqCn, zqCn, ih]
    by_cases q : S (80 * w + 4 * (n : Int)) = -1
    · rw [if_pos q, if_pos (e.mpr q)]
    · rw [if_neg q, if_neg (fun z => q (e.mp z))]
theorem zqGd_off {S S' : Int → Int} {x : Int} (c1 : 1 ≤ x % 4) (e : ∀ j : Int, j ≠ x → S' j = S j) (x0 : 0 ≤ S' x) (x1 : S' x ≤ 19) (G : zqGd S) : zqGd S' := by
  refine ⟨fun w k w0 w2 hk => ?_, fun w w0 w2 => ?_⟩
  · have hk' : zqHas S w k := ⟨hk.1, hk.2.1, by rw [← e _ (by omega)]; exact hk.2.2⟩
    obtain ⟨g1, g2, g3⟩ := G.1 w k w0 w2 hk'
    refine ⟨by rw [e _ (by omega)]; exact g1, by rw [e _ (by omega)]; exact g2, fun c a b => ?_⟩
    by_cases z : 80 * w + 4 * k + c = x
    · rw [z]; exact ⟨x0, x1⟩
    · rw [e _ z]; exact g3 c a b
  · rw [zqCn_cg 20 (fun k _ _ => by rw [e _ (by omega)])]
    exact G.2 w w0 w2
/-- walls under a window -/
def zqUw (b : Int) (P : List zqP) (w : Int) : Prop := w = b ∨ ∃ p ∈ P, p.1 = 4 ∧ p.2.2.1 = w
/-- a change of cell x to v is a way -/
def zqQ1 (A : zqA) (S : Int → Int) (b m : Int) (P : List zqP) (W : List zqR) (x v : Int) : Prop :=
  (0 < x % 4 ∧ x % 4 < A.1 (x / 80) ∧ zqUw b P (x / 80) ∧ zqHas S (x / 80) (x / 4 % 20)) ∧ v ≠ S x ∧ zqOk A S (x / 80) (x / 4 % 20) (x % 4) v ∧ (zqRun (zqSet S x v) m ((zqLd (zqSet S x v) b m 20).map Prod.snd) P).Perm W
/-- what a lens keeps beside its panes is right -/
def LwD1 (h : my_H) (w : Int) : Prop :=
  h (h 27 w) 4 = zqW (h (h 27 w) 3) (zqCW h w) ∧
  (∀ c : Int, 0 ≤ c → c < h (h 27 w) 4 → h (h 27 w + 6) c = zqOg (h (h 27 w) 2) (h (h 27 w) 3) (zqCW h w) c) ∧
  (∀ p : Int, 0 ≤ p → p ≤ 11 → (zqbt (h (h 27 w) 8) p ↔ zqUs (h (h 27 w) 2) (h (h 27 w) 3) (zqCW h w) p)) ∧
  (∀ u : Int, 0 ≤ u → u ≤ 2 → (zqlb (h (h 27 w) 6) u ↔ zqUw (h (h 27 w) 2) (zqCW h w) u)) ∧
  (h (h 27 w) 7 = 0 ↔ zqNS (zqCW h w)) ∧ h 2 (h (h 27 w) 2) = h (h 27 w) 3 ∧ 1 ≤ h (h 27 w) 3 ∧ ∀ c : Int, h (h 27 w) 3 ≤ c → c ≤ 3 → h (h 27 w + 7) c = 0
/-- rows that are seen -/
def NLs (g : my_H) : List zqR := (zqL (zqE g 98 (g 98 1)) (g 98 0).toNat).map Prod.snd
/-- what a search finds ready -/
def SrC (h : my_H) (w : Int) : Prop :=
  (0 ≤ w ∧ w ≤ 5 ∧ h (h 27 w) 0 = 1) ∧ LwD1 h w ∧ Lw h ∧ VwI h 98 (h 96) (h (h 27 w) 2) (h (h 27 w) 3) (zqCW h w) ∧ VwS h 98 ∧ VwS h 102 ∧ WtB h ∧ h 102 1 = h 98 1 ∧ (0 ≤ h 102 0 ∧ h 102 0 ≤ 11) ∧ (0 ≤ h 94 15 ∧ h 94 15 ≤ 2) ∧ (h 94 15 ≠ 2 → 0 ≤ h 94 16 ∧ h 94 16 < h 98 0) ∧ (∃ (j v : Int) (D : Int → Int), (WLs h).Perm (EdLh h (h 94 15) (h 94 16) j v D)) ∧ (h 94 14 ≠ 0 ↔ (NLs h).Perm (WLs h)) ∧ zqGd (h 96) ∧ zqLf (zqCA h) (h 96) ∧ zqSt (zqCA h) (h 96) ∧ zqLD (zqCA h) ∧ (∀ u : Int, 0 ≤ u → u ≤ 2 → 0 ≤ h 2 u ∧ h 2 u ≤ 4) ∧ (∀ p : Int, 0 ≤ p → p ≤ 11 → -1 ≤ h 5 p ∧ h 5 p ≤ 2) ∧ ∀ u : Int, 0 ≤ u → u ≤ 2 → h 97 u = zqCn (h 96) u 20
/-- the telling rows, of any window -/
def TlP (h : my_H) (w y : Int) : Prop := (h (h 27 w) 7 ≠ 0 → y = -1) ∧ (h (h 27 w) 7 = 0 → TeI h (h (h 27 w) 2) y 20)
theorem zqWf_mem {m : Int} {p : zqP} : ∀ {P : List zqP}, zqWf m P → p ∈ P → ∃ n : Int, zqWf1 n p
  | [], _, hp => by cases hp
  | q :: t, w, hp => by
    rcases List.mem_cons.mp hp with e | e
    · rw [e]; exact ⟨_, w.2⟩
    · exact zqWf_mem w.1 e
theorem zqWf_suf {m : Int} {P Q : List zqP} (w : zqWf m P) (s : Q <:+ P) : zqWf m Q := by
  obtain ⟨A, e⟩ := s
  rw [← e] at w
  exact zqWf_app w
/-- a cell that isn't live or whose row doesn't tell: all is seen as it is -/
theorem tell_no {h : my_H} {w live tl x : Int} (K : SrC h w) (lv : LvI h (h 27 w) (h (h 27 w) 4) live) (tp : TlP h w tl) (x0 : 0 ≤ x) (x1 : x < 240) (c1 : 1 ≤ x % 4) (hr : zqHas (h 96) (x / 80) (x / 4 % 20)) (off : ¬ zqlb live (4 * (x / 80) + x % 4) ∨ ¬ zqlb tl (20 * (x / 80) + x / 4 % 20)) {S' : Int → Int} (e : ∀ j : Int, j ≠ x → S' j = h 96 j) : (zqRun S' (h (h 27 w) 3) ((zqLd S' (h (h 27 w) 2) (h (h 27 w) 3) 20).map Prod.snd) (zqCW h w)).Perm (WLs h) ↔ h 94 14 ≠ 0 := by
  obtain ⟨⟨w0, w5, ht⟩, D, L, V, -, -, -, -, -, k1, k2, ⟨j, v, dr, kp⟩, as, -⟩ := K
  obtain ⟨wf, b0, b2, m0, m4⟩ := L w w0 w5 ht
  obtain ⟨d1, d2, d3, d4, d5, d6, d7⟩ := D
  have n4 : ∀ p ∈ zqCW h w, p.1 = 4 → p.2.2.2.1 ≤ 4 ∧ 0 ≤ p.2.2.1 ∧ p.2.2.1 ≤ 2 := fun p hp k4 => by
    obtain ⟨n, q⟩ := zqWf_mem wf hp
    have := q.2.1 k4
    omega
  rcases off with off | off
  · have us : ¬ zqUs (h (h 27 w) 2) (h (h 27 w) 3) (zqCW h w) (4 * (x / 80) + x % 4) := fun z => off ((zqlb_bt (by omega) (by omega)).mpr ((lv _ (by omega) (by omega)).mpr (Or.inl ((d3 _ (by omega) (by omega)).mpr z))))
    have og : ∀ c : Int, zqOg (h (h 27 w) 2) (h (h 27 w) 3) (zqCW h w) c % 16 ≠ 4 * (x / 80) + x % 4 := fun c z => by
      by_cases q : 0 ≤ c ∧ c < h (h 27 w) 4
      · have o := d2 c q.1 q.2
        refine off ((zqlb_bt (by omega) (by omega)).mpr ((lv _ (by omega) (by omega)).mpr (Or.inr ⟨c, q.1, q.2, by omega, by omega⟩)))
      · have := zqOg_out (b := h (h 27 w) 2) (m := h (h 27 w) 3) (j := c) (zqCW h w) (fun p hp k4 => by
          obtain ⟨n, q⟩ := zqWf_mem wf hp
          have := q.2.1 k4
          omega) (fun Q hQ => (zqWf_W m0 (by omega) (zqWf_suf wf hQ)).1) (by omega)
        omega
    have dd := zqDead (S := h 96) (S' := S') (b := h (h 27 w) 2) (m := h (h 27 w) 3) (w := x / 80) (c := x % 4) (k0 := x / 4 % 20) (P := zqCW h w) (by omega) (by omega) c1 (by omega) (by omega) (by omega) m4 b0 b2 (fun j hj => e j (by omega)) n4 us og
    rw [← dd, as]
    have q := V.2.2.2.1
    rw [← V.1] at q
    exact ⟨fun z => List.Perm.trans q z, fun z => q.symm.trans z⟩
  · have s0 : h (h 27 w) 7 = 0 := by
      by_cases z : h (h 27 w) 7 = 0
      · exact z
      · rw [tp.1 z] at off
        exact absurd (zqlb_m1 (by omega) (by omega)) off
    exact tell_skip (D := dr) (j := j) (v := v) (tp.2 s0) (fun _ => rfl) (by omega) (by omega) off V (d5.mp s0) m4 (fun j hj => e j (by omega)) (by rw [show 4 * (20 * (x / 80) + x / 4 % 20) = 80 * (x / 80) + 4 * (x / 4 % 20) by omega]; exact hr.2.2) (fun p hp k4 => (n4 p hp k4).1) k1 k2 rfl (WLs h) kp as
end ZSG
