/-! the reference: where columns come from -/
section ZTD
/-- of the first n columns wall, column and whether it is the base's own -/
def CoI (g : my_H) (n : Int) (og : Int → Int) : Prop := ∀ j : Int, 0 ≤ j → j < n → (g 176 j = 1 ↔ 0 ≤ og j ∧ og j < 16) ∧ (0 ≤ og j → g 175 j = og j % 4 ∧ g 174 j = og j / 4 % 4) ∧ (og j < 0 → g 175 j = -1 ∧ g 174 j = -1)
def BcI (g : my_H) (b n : Int) : Prop := ∀ j : Int, 0 ≤ j → j < n → g 174 j = b ∧ g 175 j = j ∧ g 176 j = 1
theorem BcI_0 {g : my_H} {b : Int} : BcI g b 0 := fun j a c => by omega
theorem BcI_s {g g1 g2 g3 : my_H} {b n i1 i2 i3 v1 v2 : Int} (p : BcI g b n) (e1 : g1 = my_up g 174 i1 v1) (h1 : i1 = n) (w1 : v1 = b) (e2 : g2 = my_up g1 175 i2 v2) (h2 : i2 = n) (w2 : v2 = n) (e3 : g3 = my_up g2 176 i3 1) (h3 : i3 = n) : BcI g3 b (n + 1) := fun j a c => by
  by_cases z : j = n
  · refine ⟨?_, ?_, ?_⟩
    · rw [my_up_ne e3 (by omega), my_up_ne e2 (by omega), my_up_at e1 (by omega), w1]
    · rw [my_up_ne e3 (by omega), my_up_at e2 (by omega), w2, z]
    · rw [my_up_at e3 (by omega)]
  · have q := p j a (by omega)
    refine ⟨?_, ?_, ?_⟩
    · rw [my_up_ne e3 (by omega), my_up_ne e2 (by omega), my_up_ne e1 (by omega)]; exact q.1
    · rw [my_up_ne e3 (by omega), my_up_ne e2 (by omega), my_up_ne e1 (by omega)]; exact q.2.1
    · rw [my_up_ne e3 (by omega), my_up_ne e2 (by omega), my_up_ne e1 (by omega)]; exact q.2.2
theorem BcI_e {g : my_H} {b m n : Int} (p : BcI g b n) (b0 : 0 ≤ b) (b2 : b ≤ 2) (m4 : m ≤ 4) (hn : m ≤ n) : CoI g m (zqOg b m []) := fun j a c => by
  obtain ⟨q1, q2, q3⟩ := p j a (by omega)
  rw [show zqOg b m [] j = 4 * b + j from if_pos ⟨a, c⟩]
  exact ⟨⟨fun _ => by omega, fun _ => q3⟩, fun _ => ⟨by omega, by omega⟩, fun z => by omega⟩
def P5I (g : my_H) (n : Int) : Prop := ∀ j : Int, 0 ≤ j → j < n → g 174 j = -1 ∧ g 175 j = -1 ∧ g 176 j = 0
theorem P5_0 {g : my_H} : P5I g 0 := fun j a c => by omega
theorem P5_s {g g1 g2 g3 : my_H} {n i1 i2 i3 : Int} (p : P5I g n) (e1 : g1 = my_up g 174 i1 (-1)) (h1 : i1 = n) (e2 : g2 = my_up g1 175 i2 (-1)) (h2 : i2 = n) (e3 : g3 = my_up g2 176 i3 0) (h3 : i3 = n) : P5I g3 (n + 1) := fun j a c => by
  by_cases z : j = n
  · refine ⟨?_, ?_, ?_⟩
    · rw [my_up_ne e3 (by omega), my_up_ne e2 (by omega), my_up_at e1 (by omega)]
    · rw [my_up_ne e3 (by omega), my_up_at e2 (by omega)]
    · rw [my_up_at e3 (by omega)]
  · have q := p j a (by omega)
    refine ⟨?_, ?_, ?_⟩
    · rw [my_up_ne e3 (by omega), my_up_ne e2 (by omega), my_up_ne e1 (by omega)]; exact q.1
    · rw [my_up_ne e3 (by omega), my_up_ne e2 (by omega), my_up_ne e1 (by omega)]; exact q.2.1
    · rw [my_up_ne e3 (by omega), my_up_ne e2 (by omega), my_up_ne e1 (by omega)]; exact q.2.2
def Sm3 (h g : my_H) (j k : Int) : Prop := g 174 j = h 174 k ∧ g 175 j = h 175 k ∧ g 176 j = h 176 k
def P4I (h g : my_H) (W w n : Int) : Prop := (∀ j : Int, j < W → Sm3 h g j j) ∧ ∀ j : Int, W ≤ j → j < W + n - 1 → g 174 j = w ∧ g 175 j = j - W + 1 ∧ g 176 j = 0
theorem P4_0 {h : my_H} {W w : Int} : P4I h h W w 1 := ⟨fun j _ => ⟨rfl, rfl, rfl⟩, fun j a c => by omega⟩
theorem P4_s {h g g1 g2 g3 g4 : my_H} {W w n i1 i2 i3 v1 v2 m : Int} (n1 : 1 ≤ n) (p : P4I h g W w n) (e1 : g1 = my_up g 174 i1 v1) (h1 : i1 = W + n - 1) (w1 : v1 = w) (e2 : g2 = my_up g1 175 i2 v2) (h2 : i2 = W + n - 1) (w2 : v2 = n) (e3 : g3 = my_up g2 176 i3 0) (h3 : i3 = W + n - 1) (e4 : g4 = my_up g3 151 27 m) : P4I h g4 W w (n + 1) := by
  have o : ∀ j : Int, j ≠ W + n - 1 → Sm3 g g4 j j := fun j z => by
    refine ⟨?_, ?_, ?_⟩
    · rw [my_up_ne e4 (by omega), my_up_ne e3 (by omega), my_up_ne e2 (by omega), my_up_ne e1 (by omega)]
    · rw [my_up_ne e4 (by omega), my_up_ne e3 (by omega), my_up_ne e2 (by omega), my_up_ne e1 (by omega)]
    · rw [my_up_ne e4 (by omega), my_up_ne e3 (by omega), my_up_ne e2 (by omega), my_up_ne e1 (by omega)]
  refine ⟨fun j c => ?_, fun j a c => ?_⟩
  · obtain ⟨o1, o2, o3⟩ := o j (by omega)
    obtain ⟨q1, q2, q3⟩ := p.1 j c
    exact ⟨o1.trans q1, o2.trans q2, o3.trans q3⟩
  · by_cases z : j = W + n - 1
    · refine ⟨?_, ?_, ?_⟩
      · rw [my_up_ne e4 (by omega), my_up_ne e3 (by omega), my_up_ne e2 (by omega), my_up_at e1 (by omega), w1]
      · rw [my_up_ne e4 (by omega), my_up_ne e3 (by omega), my_up_at e2 (by omega), w2]; omega
      · rw [my_up_ne e4 (by omega), my_up_at e3 (by omega)]
    · obtain ⟨o1, o2, o3⟩ := o j z
      obtain ⟨q1, q2, q3⟩ := p.2 j a (by omega)
      exact ⟨o1.trans q1, o2.trans q2, o3.trans q3⟩
def K3I (h g : my_H) (n : Int) : Prop := ∀ j : Int, 0 ≤ j → j < n → g 178 j = h 174 j ∧ g 179 j = h 175 j ∧ g 180 j = h 176 j
theorem K3_0 {h g : my_H} : K3I h g 0 := fun j a c => by omega
theorem K3_s {h g g1 g2 g3 : my_H} {n i1 i2 i3 v1 v2 v3 : Int} (p : K3I h g n) (s : ∀ j : Int, Sm3 h g j j) (e1 : g1 = my_up g 178 i1 v1) (h1 : i1 = n) (w1 : v1 = g 174 n) (e2 : g2 = my_up g1 179 i2 v2) (h2 : i2 = n) (w2 : v2 = g 175 n) (e3 : g3 = my_up g2 180 i3 v3) (h3 : i3 = n) (w3 : v3 = g 176 n) : K3I h g3 (n + 1) ∧ ∀ j : Int, Sm3 h g3 j j := by
  refine ⟨fun j a c => ?_, fun j => ?_⟩
  · by_cases z : j = n
    · obtain ⟨s1, s2, s3⟩ := s n
      refine ⟨?_, ?_, ?_⟩
      · rw [my_up_ne e3 (by omega), my_up_ne e2 (by omega), my_up_at e1 (by omega), w1, s1, z]
      · rw [my_up_ne e3 (by omega), my_up_at e2 (by omega), w2, s2, z]
      · rw [my_up_at e3 (by omega), w3, s3, z]
    · have q := p j a (by omega)
      refine ⟨?_, ?_, ?_⟩
      · rw [my_up_ne e3 (by omega), my_up_ne e2 (by omega), my_up_ne e1 (by omega)]; exact q.1
      · rw [my_up_ne e3 (by omega), my_up_ne e2 (by omega), my_up_ne e1 (by omega)]; exact q.2.1
      · rw [my_up_ne e3 (by omega), my_up_ne e2 (by omega), my_up_ne e1 (by omega)]; exact q.2.2
  · obtain ⟨s1, s2, s3⟩ := s j
    refine ⟨?_, ?_, ?_⟩
    · rw [my_up_ne e3 (by omega), my_up_ne e2 (by omega), my_up_ne e1 (by omega)]; exact s1
    · rw [my_up_ne e3 (by omega), my_up_ne e2 (by omega), my_up_ne e1 (by omega)]; exact s2
    · rw [my_up_ne e3 (by omega), my_up_ne e2 (by omega), my_up_ne e1 (by omega)]; exact s3
theorem K3_w {h g g1 : my_H} {n k m : Int} (p : K3I h g n) (u : g1 = my_up g 151 27 m) (hk : k ≤ n) : K3I h g1 k := fun j a c => by
  have s := p j a (by omega)
  refine ⟨?_, ?_, ?_⟩
  · rw [my_up_ne u (by omega)]; exact s.1
  · rw [my_up_ne u (by omega)]; exact s.2.1
  · rw [my_up_ne u (by omega)]; exact s.2.2
def F3I (h g : my_H) (p n : Int) : Prop := ∀ j : Int, 0 ≤ j → j < n → Sm3 h g j (h 172 (8 * p + j))
theorem F3_0 {h g : my_H} {p : Int} : F3I h g p 0 := fun j a c => by omega
theorem F3_s {h g g1 g2 g3 : my_H} {p W n i1 i2 i3 v1 v2 v3 k1 k2 k3 : Int} (q : F3I h g p n) (k : K3I h g W) (k0 : 0 ≤ h 172 (8 * p + n)) (kW : h 172 (8 * p + n) < W) (e1 : g1 = my_up g 174 i1 v1) (h1 : i1 = n) (w1 : v1 = g 178 k1) (x1 : k1 = h 172 (8 * p + n)) (e2 : g2 = my_up g1 175 i2 v2) (h2 : i2 = n) (w2 : v2 = g 179 k2) (x2 : k2 = h 172 (8 * p + n)) (e3 : g3 = my_up g2 176 i3 v3) (h3 : i3 = n) (w3 : v3 = g 180 k3) (x3 : k3 = h 172 (8 * p + n)) : F3I h g3 p (n + 1) ∧ K3I h g3 W := by
  refine ⟨fun j a c => ?_, fun j a c => ?_⟩
  · by_cases z : j = n
    · obtain ⟨s1, s2, s3⟩ := k _ k0 kW
      refine ⟨?_, ?_, ?_⟩
      · rw [my_up_ne e3 (by omega), my_up_ne e2 (by omega), my_up_at e1 (by omega), w1, x1, s1, z]
      · rw [my_up_ne e3 (by omega), my_up_at e2 (by omega), w2, x2, s2, z]
      · rw [my_up_at e3 (by omega), w3, x3, s3, z]
    · obtain ⟨q1, q2, q3⟩ := q j a (by omega)
      refine ⟨?_, ?_, ?_⟩
      · rw [my_up_ne e3 (by omega), my_up_ne e2 (by omega), my_up_ne e1 (by omega)]; exact q1
      · rw [my_up_ne e3 (by omega), my_up_ne e2 (by omega), my_up_ne e1 (by omega)]; exact q2
      · rw [my_up_ne e3 (by omega), my_up_ne e2 (by omega), my_up_ne e1 (by omega)]; exact q3
  · have s := k j a c
    refine ⟨?_, ?_, ?_⟩
    · rw [my_up_ne e3 (by omega), my_up_ne e2 (by omega), my_up_ne e1 (by omega)]; exact s.1
    · rw [my_up_ne e3 (by omega), my_up_ne e2 (by omega), my_up_ne e1 (by omega)]; exact s.2.1
    · rw [my_up_ne e3 (by omega), my_up_ne e2 (by omega), my_up_ne e1 (by omega)]; exact s.2.2
/-- what a pane makes of columns -/
def PnC (h g : my_H) (p : Int) : Prop := (h 168 p = 5 → P5I g 2) ∧ (h 168 p = 4 → P4I h g (h 151 27) (h 170 p) (h 157 (h 170 p))) ∧ (h 168 p = 3 → F3I h g p (h 171 p)) ∧ (h 168 p ≠ 3 → h 168 p ≠ 4 → h 168 p ≠ 5 → ∀ j : Int, Sm3 h g j j)
theorem CoI_pane {h g : my_H} {b m p : Int} {P : List zqP} (c : CoI h (h 151 27) (zqOg b m P)) (hw : h 151 27 = zqW m P) (q : PnC h g p) (e27 : g 151 27 = ms h p (h 151 27)) (wf : zqWf1 (zqW m P) (mPk h p)) : CoI g (g 151 27) (zqOg b m (mPk h p :: P)) ∧ g 151 27 = zqW m (mPk h p :: P) := by
  obtain ⟨q5, q4, q3, q0⟩ := q
  refine ⟨fun j j0 j1 => ?_, ?_⟩
  · rw [e27] at j1
    have eo : zqOg b m (mPk h p :: P) j = if (mPk h p).1 = 3 then (if 0 ≤ j ∧ j < (mPk h p).2.2.2.1 then zqOg b m P ((mPk h p).2.2.2.2 j) else -1) else if (mPk h p).1 = 4 then (if zqW m P ≤ j ∧ j < zqW m P + (mPk h p).2.2.2.1 - 1 then 16 + 4 * (mPk h p).2.2.1 + (j - zqW m P + 1) else zqOg b m P j) else if (mPk h p).1 = 5 then -1 else zqOg b m P j := rfl
    rw [eo, mPk_1]
    unfold ms at j1
    by_cases k5 : h 168 p = 5
    · rw [if_pos k5] at j1
      rw [if_neg (by omega), if_neg (by omega), if_pos k5]
      obtain ⟨s1, s2, s3⟩ := q5 k5 j j0 j1
      exact ⟨⟨fun z => by omega, fun z => by omega⟩, fun z => by omega, fun _ => ⟨s2, s1⟩⟩
    · rw [if_neg k5] at j1
      by_cases k4 : h 168 p = 4
      · rw [if_pos k4] at j1
        have w4 := wf.2.1 (mPk_1.trans k4)
        rw [if_neg (by omega), if_pos k4]
        rw [mPk_4 k4] at w4 ⊢
        show (g 176 j = 1 ↔ 0 ≤ (if zqW m P ≤ j ∧ j < zqW m P + h 157 (h 170 p) - 1 then 16 + 4 * h 170 p + (j - zqW m P + 1) else zqOg b m P j) ∧ (if zqW m P ≤ j ∧ j < zqW m P + h 157 (h 170 p) - 1 then 16 + 4 * h 170 p + (j - zqW m P + 1) else zqOg b m P j) < 16) ∧ _
        obtain ⟨p1, p2⟩ := q4 k4
        by_cases z : zqW m P ≤ j
        · rw [if_pos ⟨z, by omega⟩]
          obtain ⟨s1, s2, s3⟩ := p2 j (by omega) (by omega)
          have r1 : 0 ≤ h 170 p := w4.2.2.1
          have r2 : h 170 p ≤ 2 := w4.2.2.2.1
          have r3 : h 157 (h 170 p) ≤ 4 := w4.2.2.2.2.2.1
          exact ⟨⟨fun y => by omega, fun y => by omega⟩, fun _ => ⟨by omega, by omega⟩, fun y => by omega⟩
        · rw [if_neg (by omega)]
          obtain ⟨s1, s2, s3⟩ := p1 j (by omega)
          rw [s1, s2, s3]
          exact c j j0 (by omega)
      · rw [if_neg k4] at j1
        by_cases k3 : h 168 p = 3
        · rw [if_pos k3] at j1
          have w3 := wf.1 (mPk_1.trans k3)
          rw [if_pos k3]
          rw [mPk_n (by omega) (by omega)] at w3 ⊢
          show (g 176 j = 1 ↔ 0 ≤ (if 0 ≤ j ∧ j < h 171 p then zqOg b m P (h 172 (8 * p + j)) else -1) ∧ (if 0 ≤ j ∧ j < h 171 p then zqOg b m P (h 172 (8 * p + j)) else -1) < 16) ∧ _
          rw [if_pos ⟨j0, j1⟩]
          obtain ⟨s1, s2, s3⟩ := q3 k3 j j0 j1
          have pk : 0 ≤ h 172 (8 * p + j) ∧ h 172 (8 * p + j) < zqW m P := w3.2.2 j j0 j1
          rw [s1, s2, s3]
          exact c _ pk.1 (by omega)
        · rw [if_neg k3] at j1
          rw [if_neg k3, if_neg k4, if_neg k5]
          obtain ⟨s1, s2, s3⟩ := q0 k3 k4 k5 j
          rw [s1, s2, s3]
          exact c j j0 j1
  · rw [e27, hw, ← mPk_M]
    rfl
end ZTD
