/-! class and reference: a window is told alike; what may be wanted is alike -/
section ZTS
/-- the window w is told alike on both sides -/
def WAl (h : my_H) (w : Int) : Prop := h (h 27 w) 2 = mBs h w ∧ h (h 27 w) 3 = h 157 (mBs h w) ∧ zqW (h (h 27 w) 3) (zqCW h w) = zqW (h (h 27 w) 3) (mCW h w) ∧ (∀ (S : Int → Int) (L : List zqR), zqRun S (h (h 27 w) 3) L (zqCW h w) = zqRun S (h (h 27 w) 3) L (mCW h w)) ∧ (∀ u : Int, zqUw (mBs h w) (zqCW h w) u ↔ zqUw (mBs h w) (mCW h w) u) ∧ ∀ c : Int, 0 ≤ c → c ≤ 3 → cmR h w c = cmM h w c
theorem EdOk_m {h : my_H} {S : Int → Int} {w e i j v : Int} (t : 0 ≤ w → w ≤ 5 → (h (h 27 w) 0 = 1 ↔ h 164 w ≠ 0)) (W : 0 ≤ w → w ≤ 5 → h (h 27 w) 0 = 1 → WAl h w) : EdOk h S w e i j v ↔ mOk h S w e i j v := by
  constructor
  · intro p
    obtain ⟨p1, ⟨w0, w5, ht⟩, p3, p4⟩ := p
    obtain ⟨a1, a2, a3, a4, -⟩ := W w0 w5 ht
    refine ⟨p1, ⟨w0, w5, (t w0 w5).mp ht⟩, fun z => ?_, fun z => ?_⟩
    · rw [← a2, ← a1, ← a4]; exact p3 z
    · rw [← a2, ← a3]; exact p4 z
  · intro p
    obtain ⟨p1, ⟨w0, w5, ht⟩, p3, p4⟩ := p
    have ht' := (t w0 w5).mpr ht
    obtain ⟨a1, a2, a3, a4, -⟩ := W w0 w5 ht'
    refine ⟨p1, ⟨w0, w5, ht'⟩, fun z => ?_, fun z => ?_⟩
    · rw [a4, a1, a2]; exact p3 z
    · rw [a3, a2]; exact p4 z
theorem zqPut_f {S : Int → Int} {y : zqY} {f f' : Int → Int} (e : ∀ c : Int, 0 ≤ c → c ≤ 3 → f c = f' c) : zqPut S y f = zqPut S y f' := by
  unfold zqPut
  by_cases k1 : y.1 = 1
  · rw [if_pos k1, if_pos k1]
  · rw [if_neg k1, if_neg k1]
    by_cases k2 : y.1 = 2
    · rw [if_pos k2, if_pos k2]
    · rw [if_neg k2, if_neg k2]
      by_cases k3 : y.1 = 3
      · rw [if_pos k3, if_pos k3]
        funext j
        unfold zqAdd
        by_cases c : 80 * y.2.1 + 4 * y.2.2.1 ≤ j ∧ j < 80 * y.2.1 + 4 * y.2.2.1 + 4
        · rw [if_pos c, if_pos c]; exact e _ (by omega) (by omega)
        · rw [if_neg c, if_neg c]
      · rw [if_neg k3, if_neg k3]
end ZTS
