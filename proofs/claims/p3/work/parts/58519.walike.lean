/-! class and reference: the ways are alike where the laws and the window are -/
section ZTT
/-- laws alike -/
def LEq (A B : zqA) : Prop := (∀ w : Int, 0 ≤ w → w ≤ 2 → A.1 w = B.1 w) ∧ ∀ p : Int, 0 ≤ p → p ≤ 11 → A.2.1 p = B.2.1 p ∧ A.2.2.1 p = B.2.2.1 p ∧ A.2.2.2.1 p = B.2.2.2.1 p ∧ A.2.2.2.2 p = B.2.2.2.2 p
theorem zqOk_L {A B : zqA} {S : Int → Int} {w k c v : Int} (e : LEq A B) (w0 : 0 ≤ w) (w2 : w ≤ 2) (c0 : 0 ≤ c) (c3 : c ≤ 3) : zqOk A S w k c v ↔ zqOk B S w k c v := by
  obtain ⟨q1, q2, q3, q4⟩ := e.2 (4 * w + c) (by omega) (by omega)
  unfold zqOk
  rw [q1, q2, q3, q4]
theorem zqAl_e {A B : zqA} {S : Int → Int} {b m : Int} {P P' : List zqP} {W : List zqR} {f f' : Int → Int} (e : LEq A B) (A4 : ∀ u : Int, 0 ≤ u → u ≤ 2 → A.1 u ≤ 4) (uw : ∀ u : Int, zqUw b P u ↔ zqUw b P' u) (run : ∀ (S : Int → Int) (L : List zqR), zqRun S m L P = zqRun S m L P') (ef : ∀ c : Int, 0 ≤ c → c ≤ 3 → f c = f' c) : zqAl A S b m P W f = zqAl B S b m P' W f' := by
  have lf : ∀ T : Int → Int, zqLf A T ↔ zqLf B T := fun T => zqLf_cg e.1 e.2 A4 rfl
  have e0 := ef 0 (by omega) (by omega)
  have ad : zqAdd S b (f 0) f = zqAdd S b (f' 0) f' := by rw [e0]; exact zqAdd_cg ef
  have q3 : zqQ3 A S b m P W f ↔ zqQ3 B S b m P' W f' := by
    unfold zqQ3
    rw [ad, lf, run, e0]
  have q2 : ∀ r : Int, 0 ≤ r → r < (60 : Nat) → (zqQ2 A S b m P W r ↔ zqQ2 B S b m P' W r) := fun r r0 r1 => by
    unfold zqQ2
    rw [uw, lf, run]
  have q1 : ∀ x v : Int, 0 ≤ x → x < (240 : Nat) → 0 ≤ v → v < 20 → (zqQ1 A S b m P W x v ↔ zqQ1 B S b m P' W x v) := fun x v x0 x1 v0 v1 => by
    unfold zqQ1
    rw [uw, run, zqOk_L e (by omega) (by omega) (by omega) (by omega), e.1 (x / 80) (by omega) (by omega)]
  unfold zqAl
  rw [zqIf_cg q3, zqV3_cg 60 q2, zqV2_cg 240 q1, run, e0]
theorem WntL_e {S : Int → Int} {b m : Int} {P P' : List zqP} {e i j v : Int} {D D' : Int → Int} {W : List zqR} (run : ∀ (S : Int → Int) (L : List zqR), zqRun S m L P = zqRun S m L P') (ew : zqW m P = zqW m P') (ed : ∀ (f : Nat → zqR) (n : Nat), (EdL f n (zqW m P) e i j v D).Perm (EdL f n (zqW m P) e i j v D')) (p : WntL S b m P e i j v D W) : WntL S b m P' e i j v D' W := by
  obtain ⟨f, n, p1, p2, p3⟩ := p
  refine ⟨f, n, p1, by rw [← run]; exact p2, ?_⟩
  rw [← ew]
  exact p3.trans (ed f n)
end ZTT
