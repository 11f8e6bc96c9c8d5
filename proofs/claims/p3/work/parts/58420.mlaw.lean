/-! the reference's states and laws -/
section ZQW
def MLw (h : my_H) (s g v : Int) : Prop := h 158 g ≤ v ∧ v ≤ h 159 g ∧ (h 160 g = -1 ∨ h 162 (60 * s + 20 * h 160 g + v) = 1)
/-- a cell keeps its laws, as the reference looks at them -/
def MLc (h : my_H) (s w k c : Int) : Prop := MLw h s (4 * w + c) (h 163 (4 * (60 * s + 20 * w + k) + c)) ∧ (h 161 (4 * w + c) = 1 → ∀ k' : Int, 0 ≤ k' → k' < k → h 162 (60 * s + 20 * w + k') = 1 → h 163 (4 * (60 * s + 20 * w + k') + c) ≠ h 163 (4 * (60 * s + 20 * w + k) + c))
theorem MLc_i {h : my_H} {s w k c v g : Int} (hg : g = 4 * w + c) (hv : v = h 163 (4 * (60 * s + 20 * w + k) + c)) (wn : MLw h s g v) (q : h 161 g ≠ 1 ∨ ∀ k' : Int, 0 ≤ k' → k' < k → h 162 (60 * s + 20 * w + k') = 1 → h 163 (4 * (60 * s + 20 * w + k') + c) ≠ v) : MLc h s w k c := by
  subst hg; subst hv
  exact ⟨wn, fun o => q.elim (fun z => absurd o z) id⟩
theorem MLc_1 {h : my_H} {s w k c v f : Int} (hv : h 163 (4 * (60 * s + 20 * w + k) + c) = v) (hf : h 158 (4 * w + c) = f) (a : v < f) : ¬ MLc h s w k c := fun z => by
  have q := z.1.1
  rw [hv, hf] at q
  omega
theorem MLc_2 {h : my_H} {s w k c v t : Int} (hv : h 163 (4 * (60 * s + 20 * w + k) + c) = v) (ht : h 159 (4 * w + c) = t) (a : t < v) : ¬ MLc h s w k c := fun z => by
  have q := z.1.2.1
  rw [hv, ht] at q
  omega
theorem MLc_3 {h : my_H} {s w k c v v5 n y : Int} (hv : h 163 (4 * (60 * s + 20 * w + k) + c) = v) (hn : h 160 (4 * w + c) = n) (a : 0 ≤ n) (ht : h 162 (60 * s + 20 * n + v5) = y) (e : v5 = v) (b : y ≠ 1) : ¬ MLc h s w k c := fun z => by
  have q := z.1.2.2
  rw [hv, hn, ← e, ht] at q
  omega
theorem MLc_4 {h : my_H} {s w k c v g k' y u : Int} (hg : g = 4 * w + c) (hv : v = h 163 (4 * (60 * s + 20 * w + k) + c)) (o : h 161 g = 1) (k0 : 0 ≤ k') (k1 : k' < k) (ht : h 162 (60 * s + 20 * w + k') = y) (hy : y = 1) (hu : h 163 (4 * (60 * s + 20 * w + k') + c) = u) (e : u = v) : ¬ MLc h s w k c := fun z => by
  subst hg; subst hv
  exact z.2 o k' k0 k1 (ht.trans hy) (hu.trans e)
def MLr (h : my_H) (s w k : Int) : Prop := ∀ c : Int, 0 ≤ c → c < h 157 w → MLc h s w k c
def MLs (h : my_H) (s : Int) : Prop := ∀ w : Int, 0 ≤ w → w < 3 → ∀ k : Int, 0 ≤ k → k < 20 → h 162 (60 * s + 20 * w + k) = 1 → MLr h s w k
def zqMA (h : my_H) : zqA := (h 157, h 158, h 159, h 160, h 161)
/-- what is typed -/
def MTy (h : my_H) : Prop := (∀ j : Int, 0 ≤ j → j < 3840 → 0 ≤ h 163 j ∧ h 163 j ≤ 19) ∧ (∀ j : Int, 0 ≤ j → j < 960 → 0 ≤ h 162 j ∧ h 162 j ≤ 1) ∧ (∀ j : Int, 0 ≤ j → j < 12 → -1 ≤ h 160 j ∧ h 160 j ≤ 2) ∧ ∀ j : Int, 0 ≤ j → j < 3 → 0 ≤ h 157 j ∧ h 157 j ≤ 4
theorem MS_has {h : my_H} {s w k : Int} (T : MTy h) (s0 : 0 ≤ s) (s15 : s ≤ 15) (w0 : 0 ≤ w) (w2 : w ≤ 2) (k0 : 0 ≤ k) (k9 : k ≤ 19) : zqMS h s (80 * w + 4 * k) ≠ -1 ↔ h 162 (60 * s + 20 * w + k) = 1 := zqMS_has (T.1 _ (by omega) (by omega)).1
theorem MS_at {h : my_H} {s w k c : Int} (c0 : 0 ≤ c) (c3 : c ≤ 3) (q : h 162 (60 * s + 20 * w + k) = 1) : zqMS h s (80 * w + 4 * k + c) = h 163 (4 * (60 * s + 20 * w + k) + c) := by
  rw [zqMS_at c0 c3 q]
  congr 1
  omega
theorem MLs_lf {h : my_H} {s : Int} (T : MTy h) (s0 : 0 ≤ s) (s15 : s ≤ 15) : MLs h s ↔ zqLf (zqMA h) (zqMS h s) := by
  have has := fun (w k : Int) (w0 : 0 ≤ w) (w2 : w ≤ 2) (k0 : 0 ≤ k) (k9 : k ≤ 19) => MS_has (h := h) (s := s) T s0 s15 w0 w2 k0 k9
  constructor
  · intro H w k c w0 w2 k0 k9 c0 c4 hr
    have cw := (T.2.2.2 w w0 (by omega)).2
    have c4' : c < h 157 w := c4
    have r1 := (has w k w0 w2 k0 k9).mp hr
    have q := H w w0 (by omega) k k0 (by omega) r1 c c0 c4'
    rw [MS_at c0 (by omega) r1]
    obtain ⟨⟨q1, q2, q3⟩, q4⟩ := q
    refine ⟨q1, q2, fun z => ?_, fun z k' a b d e f => ?_⟩
    · have z' : h 160 (4 * w + c) ≠ -1 := z
      have nb := T.2.2.1 (4 * w + c) (by omega) (by omega)
      have v1 := T.1 (4 * (60 * s + 20 * w + k) + c) (by omega) (by omega)
      refine ⟨v1.1, v1.2, (has (h 160 (4 * w + c)) _ (by omega) (by omega) v1.1 v1.2).mpr ?_⟩
      rcases q3 with q3 | q3
      · exact absurd q3 z'
      · exact q3
    · have r2 := (has w k' w0 w2 a b).mp e
      rw [MS_at c0 (by omega) r2] at f
      rcases Int.lt_trichotomy k' k with y | y | y
      · exact q4 z k' a y r2 f
      · exact d y
      · have q' := H w w0 (by omega) k' a (by omega) r2 c c0 c4'
        exact q'.2 z k k0 y r1 f.symm
  · intro H w w0 w3 k k0 k20 r1 c c0 c4
    have cw := (T.2.2.2 w w0 (by omega)).2
    have q := H w k c w0 (by omega) k0 (by omega) c0 c4 ((has w k w0 (by omega) k0 (by omega)).mpr r1)
    rw [MS_at c0 (by omega) r1] at q
    obtain ⟨q1, q2, q3, q4⟩ := q
    refine ⟨⟨q1, q2, ?_⟩, fun z k' a b r2 f => ?_⟩
    · have nb := T.2.2.1 (4 * w + c) (by omega) (by omega)
      by_cases z : h 160 (4 * w + c) = -1
      · exact Or.inl z
      · have y := q3 z
        exact Or.inr ((has (h 160 (4 * w + c)) _ (by omega) (by omega) y.1 y.2.1).mp y.2.2)
    · refine q4 z k' a (by omega) (by omega) ((has w k' w0 (by omega) a (by omega)).mpr r2) ?_
      rw [MS_at c0 (by omega) r2]
      exact f
/-- a state copied -/
def CpI (h g : my_H) (f t k : Int) : Prop := (∀ j : Int, 0 ≤ j → j < k → g 163 (240 * t + j) = h 163 (240 * f + j)) ∧ (∀ j : Int, (j < 240 * t ∨ 240 * t + 240 ≤ j) → g 163 j = h 163 j) ∧ ∀ j : Int, k ≤ j → j < 240 → g 163 (240 * t + j) = h 163 (240 * t + j)
theorem CpI_0 {h g : my_H} {f t : Int} (e : ∀ j : Int, g 163 j = h 163 j) : CpI h g f t 0 := ⟨fun j a b => by omega, fun j _ => e j, fun j _ _ => e _⟩
theorem Cp3_s {h g g2 : my_H} {f t k i v : Int} (k0 : 0 ≤ k) (k9 : k < 240) (p : CpI h g f t k) (e : g2 = my_up g 163 i v) (hi : i = 240 * t + k) (hv : v = g 163 (240 * f + k)) : CpI h g2 f t (k + 1) := by
  obtain ⟨p1, p2, p3⟩ := p
  subst hi
  have rd : g 163 (240 * f + k) = h 163 (240 * f + k) := by
    by_cases q : f = t
    · subst q; exact p3 k (by omega) k9
    · exact p2 _ (by omega)
  refine ⟨fun j a b => ?_, fun j a => (my_up_ne e (by omega)).trans (p2 j a), fun j a b => (my_up_ne e (by omega)).trans (p3 j (by omega) b)⟩
  by_cases z : j = k
  · subst z
    rw [my_up_self e, hv, rd]
  · rw [my_up_ne e (by omega)]
    exact p1 j a (by omega)
theorem Cp_MS {h g : my_H} {f t : Int} (p : Cp h g f t) (q : CpI h g f t 240) : (∀ j : Int, 0 ≤ j → j < 240 → zqMS g t j = zqMS h f j) ∧ ∀ s : Int, s ≠ t → ∀ j : Int, 0 ≤ j → j < 240 → zqMS g s j = zqMS h s j := by
  refine ⟨fun j a b => ?_, fun s hs j a b => ?_⟩
  · unfold zqMS
    rw [p.1 (j / 4) (by omega) (by omega), q.1 j a b]
  · unfold zqMS
    rw [p.2 (60 * s + j / 4) (by omega), q.2.1 (240 * s + j) (by omega)]
/-- a row is laid -/
def LyP (h g : my_H) (r a0 a1 a2 a3 : Int) : Prop := g 162 r = 1 ∧ (∀ j : Int, j ≠ r → g 162 j = h 162 j) ∧ g 163 (4 * r) = a0 ∧ g 163 (4 * r + 1) = a1 ∧ g 163 (4 * r + 2) = a2 ∧ g 163 (4 * r + 3) = a3 ∧ ∀ j : Int, (j < 4 * r ∨ 4 * r + 4 ≤ j) → g 163 j = h 163 j
theorem LyP_i {h g1 g2 g3 g4 g5 : my_H} {r i k0 k1 k2 k3 a0 a1 a2 a3 : Int} (e1 : g1 = my_up h 162 i 1) (hi : i = r) (e2 : g2 = my_up g1 163 k0 a0) (h0 : k0 = 4 * r) (e3 : g3 = my_up g2 163 k1 a1) (h1 : k1 = 4 * r + 1) (e4 : g4 = my_up g3 163 k2 a2) (h2 : k2 = 4 * r + 2) (e5 : g5 = my_up g4 163 k3 a3) (h3 : k3 = 4 * r + 3) : LyP h g5 r a0 a1 a2 a3 := by
  subst hi; subst h0; subst h1; subst h2; subst h3
  refine ⟨?_, fun j hj => ?_, ?_, ?_, ?_, my_up_self e5, fun j hj => ?_⟩
  · rw [my_up_ne e5 (by omega), my_up_ne e4 (by omega), my_up_ne e3 (by omega), my_up_ne e2 (by omega), my_up_self e1]
  · rw [my_up_ne e5 (by omega), my_up_ne e4 (by omega), my_up_ne e3 (by omega), my_up_ne e2 (by omega), my_up_ne e1 (by omega)]
  · rw [my_up_ne e5 (by omega), my_up_ne e4 (by omega), my_up_ne e3 (by omega), my_up_self e2]
  · rw [my_up_ne e5 (by omega), my_up_ne e4 (by omega), my_up_self e3]
  · rw [my_up_ne e5 (by omega), my_up_self e4]
  · rw [my_up_ne e5 (by omega), my_up_ne e4 (by omega), my_up_ne e3 (by omega), my_up_ne e2 (by omega), my_up_ne e1 (by omega)]
theorem LyP_MS {h g : my_H} {s w k a0 a1 a2 a3 r : Int} (hr : r = 60 * s + 20 * w + k) (w0 : 0 ≤ w) (w2 : w ≤ 2) (k0 : 0 ≤ k) (k9 : k ≤ 19) (p : LyP h g r a0 a1 a2 a3) : (∀ j : Int, 0 ≤ j → j < 240 → zqMS g s j = zqAdd (zqMS h s) w k (fun i => if i = 0 then a0 else if i = 1 then a1 else if i = 2 then a2 else a3) j) ∧ ∀ t : Int, t ≠ s → ∀ j : Int, 0 ≤ j → j < 240 → zqMS g t j = zqMS h t j := by
  obtain ⟨p1, p2, q0, q1, q2, q3, p3⟩ := p
  subst hr
  refine ⟨fun j a b => ?_, fun t ht j a b => ?_⟩
  · unfold zqAdd
    by_cases z : 80 * w + 4 * k ≤ j ∧ j < 80 * w + 4 * k + 4
    · rw [if_pos z]
      unfold zqMS
      rw [show 60 * s + j / 4 = 60 * s + 20 * w + k by omega, if_pos p1]
      show g 163 (240 * s + j) = if j - (80 * w + 4 * k) = 0 then a0 else if j - (80 * w + 4 * k) = 1 then a1 else if j - (80 * w + 4 * k) = 2 then a2 else a3
      by_cases z0 : j - (80 * w + 4 * k) = 0
      · rw [if_pos z0, show 240 * s + j = 4 * (60 * s + 20 * w + k) by omega]; exact q0
      · by_cases z1 : j - (80 * w + 4 * k) = 1
        · rw [if_neg z0, if_pos z1, show 240 * s + j = 4 * (60 * s + 20 * w + k) + 1 by omega]; exact q1
        · by_cases z2 : j - (80 * w + 4 * k) = 2
          · rw [if_neg z0, if_neg z1, if_pos z2, show 240 * s + j = 4 * (60 * s + 20 * w + k) + 2 by omega]; exact q2
          · rw [if_neg z0, if_neg z1, if_neg z2, show 240 * s + j = 4 * (60 * s + 20 * w + k) + 3 by omega]; exact q3
    · rw [if_neg z]
      unfold zqMS
      rw [p2 _ (by omega), p3 _ (by omega)]
  · unfold zqMS
    rw [p2 _ (by omega), p3 _ (by omega)]
end ZQW
