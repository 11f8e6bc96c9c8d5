/-! only the walls' cells count -/
section ZSO
def zqAg (S S' : Int → Int) : Prop := ∀ j : Int, 0 ≤ j → j < 240 → S' j = S j
theorem zqAg.sym {S S' : Int → Int} (e : zqAg S S') : zqAg S' S := fun j a b => (e j a b).symm
theorem zqHas_c {S S' : Int → Int} {w k : Int} (e : zqAg S S') (w0 : 0 ≤ w) (w2 : w ≤ 2) : zqHas S' w k ↔ zqHas S w k := by
  unfold zqHas
  refine and_congr_right (fun a => and_congr_right (fun b => ?_))
  rw [e _ (by omega) (by omega)]
theorem zqB_c {S S' : Int → Int} {b m k : Int} (e : zqAg S S') (b0 : 0 ≤ b) (b2 : b ≤ 2) (m4 : m ≤ 4) (k0 : 0 ≤ k) (k9 : k ≤ 19) : zqB S' b m k = zqB S b m k := funext fun j => by
  unfold zqB
  by_cases q : 0 ≤ j ∧ j < m
  · rw [if_pos q, if_pos q]; exact e _ (by omega) (by omega)
  · rw [if_neg q, if_neg q]
theorem zqLd_c {S S' : Int → Int} {b m : Int} (e : zqAg S S') (b0 : 0 ≤ b) (b2 : b ≤ 2) (m4 : m ≤ 4) : ∀ n : Nat, n ≤ 20 → zqLd S' b m n = zqLd S b m n
  | 0, _ => rfl
  | k + 1, h => by
    rw [zqLd, zqLd, zqLd_c e b0 b2 m4 k (by omega), e _ (by omega) (by omega), zqB_c e b0 b2 m4 (by omega) (by omega)]
theorem zqO_c {S S' : Int → Int} {m : Int} {p : zqP} (e : zqAg S S') (w : zqWf1 m p) : zqO S' m p = zqO S m p := funext fun r => by
  unfold zqO
  by_cases k3 : p.1 = 3
  · rw [if_pos k3, if_pos k3]
  · rw [if_neg k3, if_neg k3]
    by_cases k4 : p.1 = 4
    · obtain ⟨q1, q2, q3, q4, q5, q6, q7⟩ := w.2.1 k4
      rw [if_pos k4, if_pos k4]
      have hh := zqHas_c (k := r p.2.1) e q3 q4
      by_cases z : zqHas S p.2.2.1 (r p.2.1)
      · rw [if_pos z, if_pos (hh.mpr z)]
        have z0 := z.1
        have z1 := z.2.1
        refine congrArg some (funext fun j => ?_)
        unfold zqJn
        by_cases y : m ≤ j ∧ j < m + p.2.2.2.1 - 1
        · rw [if_pos y, if_pos y]; exact e _ (by omega) (by omega)
        · rw [if_neg y, if_neg y]
      · rw [if_neg z, if_neg (fun y => z (hh.mp y))]
    · rw [if_neg k4, if_neg k4]
theorem zqT_c {S S' : Int → Int} {m : Int} {p : zqP} {L : List zqR} (e : zqAg S S') (w : zqWf1 m p) : zqT S' m p L = zqT S m p L := by
  unfold zqT
  rw [zqO_c e w]
theorem zqRun_c {S S' : Int → Int} {m : Int} {L : List zqR} (e : zqAg S S') : ∀ P : List zqP, zqWf m P → zqRun S' m L P = zqRun S m L P
  | [], _ => rfl
  | p :: t, w => by rw [zqRun, zqRun, zqRun_c e t w.1, zqT_c e w.2]
theorem zqD_c {S S' : Int → Int} {m : Int} (e : zqAg S S') : ∀ P : List zqP, zqWf m P → zqD S' m P = zqD S m P
  | [], _ => rfl
  | p :: t, w => by
    funext r
    rw [zqD, zqD, zqD_c e t w.1, zqO_c e w.2]
theorem zqTd_c {S S' : Int → Int} {m c : Int} {r : zqR} (e : zqAg S S') : ∀ P : List zqP, zqWf m P → (zqTd S' m P r c ↔ zqTd S m P r c)
  | [], _ => Iff.rfl
  | p :: t, w => by
    unfold zqTd
    rw [zqTd_c e t w.1]
    refine or_congr_right (and_congr_right (fun k4 => exists_congr fun r' => ?_))
    obtain ⟨q1, q2, q3, q4, q5, q6, q7⟩ := w.2.2.1 k4
    rw [zqD_c e t w.1, zqHas_c e q3 q4]
theorem zqAll_c {S S' : Int → Int} {b m : Int} {P : List zqP} (e : zqAg S S') (b0 : 0 ≤ b) (b2 : b ≤ 2) (m4 : m ≤ 4) (w : zqWf m P) : zqRun S' m ((zqLd S' b m 20).map Prod.snd) P = zqRun S m ((zqLd S b m 20).map Prod.snd) P := by
  rw [zqLd_c e b0 b2 m4 20 (Nat.le_refl _), zqRun_c e P w]
theorem VwI_c {g : my_H} {v b m : Int} {S S' : Int → Int} {P : List zqP} (e : zqAg S S') (b0 : 0 ≤ b) (b2 : b ≤ 2) (m4 : m ≤ 4) (w : zqWf m P) (V : VwI g v S b m P) : VwI g v S' b m P := by
  obtain ⟨v1, v2, v3, v4, v5⟩ := V
  refine ⟨v1, v2, v3, by rw [zqAll_c e b0 b2 m4 w]; exact v4, fun ns => ?_⟩
  obtain ⟨w1, w2⟩ := v5 ns
  refine ⟨?_, fun k c k0 k9 c0 c9 hk => ?_⟩
  · rw [zqLd_c e b0 b2 m4 20 (Nat.le_refl _), show zqD2 S' m P = zqD2 S m P from funext fun z => by unfold zqD2; rw [zqD_c e P w]]
    exact w1
  · rw [e _ (by omega) (by omega)] at hk
    rw [w2 k c k0 k9 c0 c9 hk]
    unfold zqTk
    rw [zqTd_c e P w, zqB_c e b0 b2 m4 k0 k9]
theorem zqCn_c {S S' : Int → Int} {w : Int} (e : zqAg S S') (w0 : 0 ≤ w) (w2 : w ≤ 2) : zqCn S' w 20 = zqCn S w 20 := zqCn_cg 20 (fun k a b => by rw [e _ (by omega) (by omega)])
theorem zqGd_c {S S' : Int → Int} (e : zqAg S S') (G : zqGd S) : zqGd S' := by
  refine ⟨fun w k w0 w2 hk => ?_, fun w w0 w2 => by rw [zqCn_c e w0 w2]; exact G.2 w w0 w2⟩
  have hk' := (zqHas_c e w0 w2).mp hk
  have k0 := hk.1
  have k9 := hk.2.1
  obtain ⟨g1, g2, g3⟩ := G.1 w k w0 w2 hk'
  rw [e _ (by omega) (by omega)]
  exact ⟨g1, g2, fun c a b => by rw [e _ (by omega) (by omega)]; exact g3 c a b⟩
theorem zqSt_c {A : zqA} {S S' : Int → Int} (e : zqAg S S') (T : zqSt A S) : zqSt A S' := fun w k w0 w2 k0 k9 => by
  have q := fun c (a : 0 ≤ c) (b : c ≤ 3) => e (80 * w + 4 * k + c) (by omega) (by omega)
  have q0 := e (80 * w + 4 * k) (by omega) (by omega)
  rw [q0, q 1 (by omega) (by omega), q 2 (by omega) (by omega), q 3 (by omega) (by omega)]
  rcases T w k w0 w2 k0 k9 with t | ⟨t1, t2, t3⟩
  · exact Or.inl t
  · exact Or.inr ⟨t1, t2, fun c a b => by rw [q c (by omega) b]; exact t3 c a b⟩
theorem zqOk_c {A : zqA} {S S' : Int → Int} {w k c v : Int} (e : zqAg S S') (w0 : 0 ≤ w) (w2 : w ≤ 2) (c0 : 0 ≤ c) (c3 : c ≤ 3) (N2 : ∀ p : Int, 0 ≤ p → p ≤ 11 → -1 ≤ A.2.2.2.1 p ∧ A.2.2.2.1 p ≤ 2) : zqOk A S' w k c v ↔ zqOk A S w k c v := by
  have nn := N2 (4 * w + c) (by omega) (by omega)
  unfold zqOk
  refine and_congr_right (fun _ => and_congr_right (fun _ => and_congr ?_ ?_))
  · by_cases z : A.2.2.2.1 (4 * w + c) = -1
    · exact ⟨fun _ y => absurd z y, fun _ y => absurd z y⟩
    · rw [zqHas_c e (by omega) nn.2]
  · refine forall_congr' fun _ => forall_congr' fun k' => forall_congr' fun a => forall_congr' fun b => forall_congr' fun _ => ?_
    rw [e _ (by omega) (by omega), e _ (by omega) (by omega)]
theorem zqLf_c {A : zqA} {S S' : Int → Int} (e : zqAg S S') (A4 : ∀ u : Int, 0 ≤ u → u ≤ 2 → A.1 u ≤ 4) (N2 : ∀ p : Int, 0 ≤ p → p ≤ 11 → -1 ≤ A.2.2.2.1 p ∧ A.2.2.2.1 p ≤ 2) : zqLf A S' ↔ zqLf A S := by
  unfold zqLf
  refine forall_congr' fun w => forall_congr' fun k => forall_congr' fun c => forall_congr' fun w0 => forall_congr' fun w2 => forall_congr' fun k0 => forall_congr' fun k9 => forall_congr' fun c0 => forall_congr' fun c4 => ?_
  have := A4 w w0 w2
  rw [e _ (by omega) (by omega), e _ (by omega) (by omega), zqOk_c e w0 w2 c0 (by omega) N2]
theorem zqSet_a {S S' : Int → Int} {x v : Int} (e : zqAg S S') : zqAg (zqSet S x v) (zqSet S' x v) := fun j a b => by
  unfold zqSet
  by_cases z : j = x
  · rw [if_pos z, if_pos z]
  · rw [if_neg z, if_neg z]; exact e j a b
theorem zqDrop_a {S S' : Int → Int} {w k : Int} (e : zqAg S S') : zqAg (zqDrop S w k) (zqDrop S' w k) := fun j a b => by
  unfold zqDrop
  rw [e j a b]
theorem zqAdd_a {S S' : Int → Int} {w k : Int} {f : Int → Int} (e : zqAg S S') : zqAg (zqAdd S w k f) (zqAdd S' w k f) := fun j a b => by
  unfold zqAdd
  rw [e j a b]
/-- all ways alike -/
theorem zqAl_c {A : zqA} {S S' : Int → Int} {b m : Int} {P : List zqP} {W : List zqR} {f : Int → Int} (e : zqAg S S') (b0 : 0 ≤ b) (b2 : b ≤ 2) (m4 : m ≤ 4) (w : zqWf m P) (A4 : ∀ u : Int, 0 ≤ u → u ≤ 2 → A.1 u ≤ 4) (N2 : ∀ p : Int, 0 ≤ p → p ≤ 11 → -1 ≤ A.2.2.2.1 p ∧ A.2.2.2.1 p ≤ 2) (f0 : 0 ≤ f 0 ∧ f 0 ≤ 19) : zqAl A S' b m P W f = zqAl A S b m P W f := by
  unfold zqAl
  have q3 : zqQ3 A S' b m P W f ↔ zqQ3 A S b m P W f := by
    unfold zqQ3
    rw [zqCn_c e b0 b2, e _ (by omega) (by omega), zqLf_c (zqAdd_a e) A4 N2, zqAll_c (zqAdd_a e) b0 b2 m4 w]
  have q2 : ∀ r : Int, 0 ≤ r → r < (60 : Nat) → (zqQ2 A S' b m P W r ↔ zqQ2 A S b m P W r) := fun r r0 r1 => by
    unfold zqQ2
    rw [zqHas_c e (by omega) (by omega), zqLf_c (zqDrop_a e) A4 N2, zqAll_c (zqDrop_a e) b0 b2 m4 w]
  have q1 : ∀ x v : Int, 0 ≤ x → x < (240 : Nat) → 0 ≤ v → v < 20 → (zqQ1 A S' b m P W x v ↔ zqQ1 A S b m P W x v) := fun x v x0 x1 v0 v1 => by
    unfold zqQ1
    rw [zqHas_c e (by omega) (by omega), e x x0 (by omega), zqOk_c e (by omega) (by omega) (by omega) (by omega) N2, zqAll_c (zqSet_a e) b0 b2 m4 w]
  rw [zqIf_cg q3, zqV3_cg 60 q2, zqV2_cg 240 q1, zqAll_c e b0 b2 m4 w]
end ZSO
