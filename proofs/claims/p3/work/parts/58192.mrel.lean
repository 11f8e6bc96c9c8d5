/-! the reference's reader: panes without their ends -/
section MTI
def fillM (σ : tst) (x b φ y : Int) : Prop := rNum σ x b φ (rNum σ (sN σ x) 20 φ (φ = 0 ∧ y = sN σ (sN σ x)))
def cutM (σ : tst) (x c φ y : Int) : Prop := rNum σ x c φ ((sW σ (sN σ x) ≠ 615403 ∧ sW σ (sN σ x) ≠ 352 ∧ sW σ (sN σ x) ≠ 679695 ∧ φ = 1 + 16 * sP σ (sN σ x)) ∨ ((sW σ (sN σ x) = 615403 ∨ sW σ (sN σ x) = 352 ∨ sW σ (sN σ x) = 679695) ∧ rNum σ (sN σ (sN σ x)) 200 φ (φ = 0 ∧ y = sN σ (sN σ (sN σ x)))))
def sumM (σ : tst) (x c φ y : Int) : Prop := rNum σ x c φ (rWd σ (sN σ x) 99 φ ((sK σ (sN σ (sN σ x)) = 2 ∧ sV σ (sN σ (sN σ x)) = sV σ x ∧ φ = 3 + 16 * sP σ (sN σ (sN σ x))) ∨ ((sK σ (sN σ (sN σ x)) ≠ 2 ∨ sV σ (sN σ (sN σ x)) ≠ sV σ x) ∧ rNum σ (sN σ (sN σ x)) c φ (φ = 0 ∧ y = sN σ (sN σ (sN σ x))))))
def joinM (σ : tst) (cl : Int → Int) (x c φ y : Int) : Prop := rNum σ x 3 φ ((cl (sV σ x) ≤ 0 ∧ φ = 2 + 16 * sP σ x) ∨ (1 ≤ cl (sV σ x) ∧ 9 < c + cl (sV σ x) ∧ φ = 5 + 16 * sP σ x) ∨ (1 ≤ cl (sV σ x) ∧ c + cl (sV σ x) ≤ 9 ∧ rWd σ (sN σ x) 99 φ (rNum σ (sN σ (sN σ x)) c φ (φ = 0 ∧ y = sN σ (sN σ (sN σ x))))))
def fewM (σ : tst) (c : Int) : Nat → Int → (Int → Prop) → Int → Int → Int → Int → Prop
  | 0, _, _, _, _, _, _ => False
  | k + 1, x, M, m, φ, y, m' => rNum σ x c φ ((M (sV σ x) ∧ φ = 3 + 16 * sP σ x) ∨ (¬ M (sV σ x) ∧ ((sK σ (sN σ x) ≠ 2 ∧ φ = 0 ∧ y = sN σ x ∧ m' = m + 1) ∨ (sK σ (sN σ x) = 2 ∧ fewM σ c k (sN σ x) (fun v => M v ∨ v = sV σ x) (m + 1) φ y m'))))
/-- a pane and its semicolon -/
abbrev thn (σ : tst) (φ1 y1 φ y : Int) : Prop := (φ1 ≠ 0 ∧ φ = φ1) ∨ (φ1 = 0 ∧ rEnd σ y1 φ y)
theorem fillM_R {σ : tst} {x b φ1 y1 φ y : Int} (p : fillM σ x b φ1 y1) (q : thn σ φ1 y1 φ y) : fillR σ x b φ y := by
  unfold fillM at p
  unfold fillR
  rcases p with p | p | ⟨a, b, p⟩
  · exact Or.inl ⟨p.1, by omega⟩
  · exact Or.inr (Or.inl ⟨p.1, p.2.1, by omega⟩)
  refine Or.inr (Or.inr ⟨a, b, ?_⟩)
  rcases p with p | p | ⟨a, b, p1, p2⟩
  · exact Or.inl ⟨p.1, by omega⟩
  · exact Or.inr (Or.inl ⟨p.1, p.2.1, by omega⟩)
  refine Or.inr (Or.inr ⟨a, b, ?_⟩)
  rcases q with q | ⟨-, q⟩
  · omega
  · rw [← p2]; exact q
theorem cutM_R {σ : tst} {x c φ1 y1 φ y : Int} (p : cutM σ x c φ1 y1) (q : thn σ φ1 y1 φ y) : cutR σ x c φ y := by
  unfold cutM at p
  unfold cutR
  rcases p with p | p | ⟨a, b, p⟩
  · exact Or.inl ⟨p.1, by omega⟩
  · exact Or.inr (Or.inl ⟨p.1, p.2.1, by omega⟩)
  refine Or.inr (Or.inr ⟨a, b, ?_⟩)
  rcases p with ⟨p1, p2, p3, p⟩ | ⟨w, p⟩
  · exact Or.inl ⟨p1, p2, p3, by omega⟩
  refine Or.inr ⟨w, ?_⟩
  rcases p with p | p | ⟨a, b, p1, p2⟩
  · exact Or.inl ⟨p.1, by omega⟩
  · exact Or.inr (Or.inl ⟨p.1, p.2.1, by omega⟩)
  refine Or.inr (Or.inr ⟨a, b, ?_⟩)
  rcases q with q | ⟨-, q⟩
  · omega
  · rw [← p2]; exact q
theorem sumM_R {σ : tst} {x c φ1 y1 φ y : Int} (p : sumM σ x c φ1 y1) (q : thn σ φ1 y1 φ y) : sumR σ x c φ y := by
  unfold sumM at p
  unfold sumR
  rcases p with p | p | ⟨a, b, p⟩
  · exact Or.inl ⟨p.1, by omega⟩
  · exact Or.inr (Or.inl ⟨p.1, p.2.1, by omega⟩)
  refine Or.inr (Or.inr ⟨a, b, ?_⟩)
  rcases p with p | ⟨w, p⟩
  · exact Or.inl ⟨p.1, by omega⟩
  refine Or.inr ⟨w, ?_⟩
  rcases p with p | ⟨z, p⟩
  · exact Or.inl ⟨p.1, p.2.1, by omega⟩
  refine Or.inr ⟨z, ?_⟩
  rcases p with p | p | ⟨a, b, p1, p2⟩
  · exact Or.inl ⟨p.1, by omega⟩
  · exact Or.inr (Or.inl ⟨p.1, p.2.1, by omega⟩)
  refine Or.inr (Or.inr ⟨a, b, ?_⟩)
  rcases q with q | ⟨-, q⟩
  · omega
  · rw [← p2]; exact q
theorem joinM_R {σ : tst} {cl : Int → Int} {x c φ1 y1 φ y : Int} (p : joinM σ cl x c φ1 y1) (q : thn σ φ1 y1 φ y) : joinR σ cl x c φ y := by
  unfold joinM at p
  unfold joinR
  rcases p with p | p | ⟨a, b, p⟩
  · exact Or.inl ⟨p.1, by omega⟩
  · exact Or.inr (Or.inl ⟨p.1, p.2.1, by omega⟩)
  refine Or.inr (Or.inr ⟨a, b, ?_⟩)
  rcases p with p | p | ⟨c1, c2, p⟩
  · exact Or.inl ⟨p.1, by omega⟩
  · exact Or.inr (Or.inl ⟨p.1, p.2.1, by omega⟩)
  refine Or.inr (Or.inr ⟨c1, c2, ?_⟩)
  rcases p with p | ⟨w, p⟩
  · exact Or.inl ⟨p.1, by omega⟩
  refine Or.inr ⟨w, ?_⟩
  rcases p with p | p | ⟨a, b, p1, p2⟩
  · exact Or.inl ⟨p.1, by omega⟩
  · exact Or.inr (Or.inl ⟨p.1, p.2.1, by omega⟩)
  refine Or.inr (Or.inr ⟨a, b, ?_⟩)
  rcases q with q | ⟨-, q⟩
  · omega
  · rw [← p2]; exact q
theorem fewM_R {σ : tst} {c : Int} : ∀ (k : Nat) {x m φ1 y1 φ y u : Int} {M : Int → Prop}, fewM σ c k x M m φ1 y1 u → thn σ φ1 y1 φ y → ∃ k' : Nat, fewR σ c k' x M m φ y u
  | 0, _, _, _, _, _, _, _, _, p, _ => False.elim p
  | k + 1, x, m, φ1, y1, φ, y, u, M, p, q => by
    unfold fewM at p
    rcases p with p | p | ⟨a, b, p⟩
    · refine ⟨1, ?_⟩
      unfold fewR
      exact Or.inl ⟨p.1, by omega⟩
    · refine ⟨1, ?_⟩
      unfold fewR
      exact Or.inr (Or.inl ⟨p.1, p.2.1, by omega⟩)
    rcases p with ⟨p1, p2⟩ | ⟨p1, p⟩
    · refine ⟨1, ?_⟩
      unfold fewR
      exact Or.inr (Or.inr ⟨a, b, Or.inl ⟨p1, by omega⟩⟩)
    rcases p with ⟨k2, p2, p3, p4⟩ | ⟨k2, p2⟩
    · rcases q with q | ⟨-, q⟩
      · omega
      · subst p3
        rcases q with ⟨q1, q2⟩ | ⟨q1, q2, q3⟩
        · refine ⟨2, ?_⟩
          unfold fewR
          refine Or.inr (Or.inr ⟨a, b, Or.inr ⟨p1, Or.inr ⟨q1, ?_⟩⟩⟩)
          unfold fewR
          exact Or.inl ⟨k2, q2⟩
        · refine ⟨1, ?_⟩
          unfold fewR
          exact Or.inr (Or.inr ⟨a, b, Or.inr ⟨p1, Or.inl ⟨q1, q2, q3, p4⟩⟩⟩)
    · obtain ⟨k', r⟩ := fewM_R k p2 q
      refine ⟨k' + 1, ?_⟩
      unfold fewR
      exact Or.inr (Or.inr ⟨a, b, Or.inr ⟨p1, Or.inr ⟨by omega, r⟩⟩⟩)
/-- words of the reference -/
def wm (k : Int) : Int := if k = 0 then 790116 else if k = 1 then 1166844 else if k = 2 then 1612493656 else if k = 3 then 4904 else if k = 4 then 615403 else if k = 5 then 352 else if k = 6 then 679695 else if k = 7 then 8422 else if k = 8 then 527412 else if k = 9 then 99 else if k = 10 then 316695 else 26801
theorem wm_pos {k : Int} (h0 : 0 ≤ k) (h1 : k ≤ 11) : 1 ≤ wm k := by
  unfold wm
  repeat' split
  all_goals omega
def Wd9 (h : my_H) : Prop := ∀ x : Int, 0 ≤ x → x ≤ 11 → h 156 x = wm x
theorem Wd9_ag {h h' : my_H} (g : my_ag [(55, -1)] h h') (p : Wd9 h) : Wd9 h' := by
  intro x a b
  rw [g.at (j := x) mis_156 rfl]
  exact p x a b
theorem sK_ld {h : my_H} {x v : Int} (e : v = h 153 x) : (v ≠ 3 → sK (sm h) x = v) ∧ (v = 3 → sV (sm h) x = 59 → sK (sm h) x = 3) ∧ (v = 3 → sV (sm h) x ≠ 59 → sK (sm h) x = 4) := by
  subst e
  have d : sK (sm h) x = if h 153 x = 3 ∧ h 155 x ≠ 59 then 4 else h 153 x := rfl
  have dv : sV (sm h) x = h 155 x := rfl
  rw [d, dv]
  refine ⟨fun q => if_neg (fun z => q z.1), fun q z => ?_, fun q z => if_pos ⟨q, z⟩⟩
  rw [if_neg (fun z' => z'.2 z)]
  exact q
theorem sW_1 {h : my_H} {x c : Int} (a : sK (sm h) x = 1) (b : sV (sm h) x = c) : sW (sm h) x = c := by
  have d : sK (sm h) x = if h 153 x = 3 ∧ h 155 x ≠ 59 then 4 else h 153 x := rfl
  have q : h 153 x = 1 := by
    by_cases z : h 153 x = 3 ∧ h 155 x ≠ 59
    · rw [d, if_pos z] at a; omega
    · rw [d, if_neg z] at a; exact a
  show (if h 153 x = 1 then h 155 x else 0) = c
  rw [if_pos q]
  exact b
theorem sW_0 {h : my_H} {x c : Int} (hc : 1 ≤ c) (z : sW (sm h) x = c) : sK (sm h) x = 1 ∧ sV (sm h) x = c := by
  have z' : (if h 153 x = 1 then h 155 x else 0) = c := z
  by_cases q : h 153 x = 1
  · rw [if_pos q] at z'
    refine ⟨?_, z'⟩
    show (if h 153 x = 3 ∧ h 155 x ≠ 59 then 4 else h 153 x) = 1
    rw [if_neg (by omega)]
    exact q
  · rw [if_neg q] at z'
    omega
theorem wm_cut {p : Int} (h0 : 0 ≤ p) (h2 : p ≤ 2) : (p = 0 → wm (4 + p) = 615403) ∧ (p = 1 → wm (4 + p) = 352) ∧ (p = 2 → wm (4 + p) = 679695) := by
  refine ⟨fun q => ?_, fun q => ?_, fun q => ?_⟩ <;> (subst q; decide)
end MTI
