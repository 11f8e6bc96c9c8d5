/-! slots that are forgotten -/
section MYW
def my_wk : List my_V → List my_V → Prop
  | [], [] => True
  | u :: us, v :: vs => (u = v ∨ u = (9, 0)) ∧ my_wk us vs
  | _, _ => False
theorem wk_n : my_wk [] [] := trivial
theorem wk_e {v : my_V} {us vs : List my_V} (h : my_wk us vs) : my_wk (v :: us) (v :: vs) := ⟨Or.inl rfl, h⟩
theorem wk_9 {v : my_V} {us vs : List my_V} (h : my_wk us vs) : my_wk ((9, 0) :: us) (v :: vs) := ⟨Or.inr rfl, h⟩
theorem my_wk.at : ∀ {us vs : List my_V} {i : Nat} {v : my_V}, my_wk us vs → us[i]? = some v → v.1 < 9 → vs[i]? = some v
  | [], [], i, v, _, hv, _ => by simp at hv
  | u :: us, w :: vs, 0, v, h, hv, h9 => by
    rcases h.1 with e | e
    · rw [← e]; exact hv
    · simp only [List.getElem?_cons_zero, Option.some.injEq] at hv
      rw [← hv, e] at h9
      simp at h9
  | u :: us, w :: vs, i + 1, v, h, hv, h9 => by
    simp only [List.getElem?_cons_succ] at hv ⊢
    exact my_wk.at h.2 hv h9
  | [], _ :: _, _, _, h, _, _ => absurd h (by simp [my_wk])
  | _ :: _, [], _, _, h, _, _ => absurd h (by simp [my_wk])
theorem my_wk.all : ∀ {us vs : List my_V}, my_wk us vs → my_all vs → my_all us
  | [], [], _, _ => fun v hv => by cases hv
  | u :: us, w :: vs, h, hv => by
    have ih := my_wk.all h.2 hv.c.2
    rcases h.1 with e | e
    · rw [e]; exact ih.p hv.c.1
    · rw [e]; exact ih.p (v := (9, 0)) (by decide : (0 : Int) ≤ 0)
  | [], _ :: _, h, _ => absurd h (by simp [my_wk])
  | _ :: _, [], h, _ => absurd h (by simp [my_wk])
theorem w_weak {l : Launch} {rho : Nat → Int32} {d m pc : Nat} {ls ls' st : List my_V} {h : my_H} {Q : my_H → my_V → Prop} (hw : my_wk ls' ls) (k : wp l rho d m pc ls' st h Q) : wp l rho d m pc ls st h Q := by
  intro a1 a2 L H a3 a4
  exact k (hw.all a1) a2 L H (fun i v hv h9 => a3 i v (hw.at hv h9) h9) a4
end MYW
