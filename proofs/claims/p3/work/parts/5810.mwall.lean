/-! sayings of the reference: a wall that comes leaves the windows as they are -/
section MQM
theorem mwf_wall {h h' : my_H} {k c : Int} (ne : ∀ x j : Int, x ≠ 157 → h' x j = h x j) (s157 : ∀ j : Int, 1 ≤ h 157 j → h' 157 j = h 157 j) : ∀ n : Nat, mok h k c n → mwf h' k c n = mwf h k c n
  | 0, _ => rfl
  | n + 1, m => by
    rw [mwf, mwf, mwf_wall ne s157 n (fun j hj => m j (Nat.lt_succ_of_lt hj))]
    have z := (m n (Nat.lt_succ_self n)).1
    unfold ms
    rw [ne 168 _ (by decide), ne 170 _ (by decide), ne 171 _ (by decide)]
    by_cases q5 : h 168 (6 * k + n) = 5
    · rw [if_pos q5, if_pos q5]
    · rw [if_neg q5, if_neg q5]
      by_cases q4 : h 168 (6 * k + n) = 4
      · rw [if_pos q4, if_pos q4, s157 _ (z q4).2.2.1]
      · rw [if_neg q4, if_neg q4]
theorem Mw3_wall {h h' : my_H} {w v : Int} (e : h' = my_up h 157 w v) (h0 : h 157 w ≤ 0) (p : Mw3 h) : Mw3 h' := by
  obtain ⟨W, q, q3⟩ := p
  have ne : ∀ x j : Int, x ≠ 157 → h' x j = h x j := fun x j z => my_up_ne e (by omega)
  have s157 : ∀ j : Int, 1 ≤ h 157 j → h' 157 j = h 157 j := fun j hj => my_up_ne e (fun z => by rw [z.2] at hj; omega)
  have est : ∀ k : Int, 0 ≤ k → k ≤ 5 → h 164 k = 1 → mst h' W k = mst h W k := by
    intro k a b c
    obtain ⟨⟨o1, o2, o3, o4, o5⟩, -⟩ := q k a b c
    unfold mst
    rw [ne 165 _ (by decide), ne 166 _ (by decide)]
    by_cases z : h 165 k = 1
    · rw [if_pos z, if_pos z, s157 _ (o3 z).2]
    · rw [if_neg z, if_neg z]
  refine ⟨W, fun k a b c => ?_, fun k a b c => ?_⟩
  · rw [ne 164 _ (by decide)] at c
    obtain ⟨⟨o1, o2, o3, o4, o5⟩, r2⟩ := q k a b c
    rw [est k a b c, ne 167 _ (by decide), mwf_wall ne s157 _ o5]
    refine ⟨⟨by rw [ne 165 _ (by decide)]; exact o1, by rw [ne 166 _ (by decide)]; exact o2, ?_, ?_, ?_⟩, r2⟩
    · rw [ne 165 _ (by decide), ne 166 _ (by decide)]
      intro z
      rw [s157 _ (o3 z).2]
      exact o3 z
    · rw [ne 165 _ (by decide), ne 166 _ (by decide), ne 164 _ (by decide)]
      exact o4
    · rw [est k a b c, ne 167 _ (by decide)]
      intro j hj
      rw [ne 168 _ (by decide), ne 170 _ (by decide), mwf_wall ne s157 j (fun i hi => o5 i (Nat.lt_trans hi hj))]
      refine ⟨fun z => ?_, (o5 j hj).2⟩
      have y := (o5 j hj).1 z
      rw [s157 _ y.2.2.1]
      exact y
  · rw [ne 164 _ (by decide)] at c
    obtain ⟨⟨o1, o2, o3, o4, o5⟩, r2⟩ := q k a b c
    rw [est k a b c, ne 167 _ (by decide)]
    intro j hj
    rw [mwf_wall ne s157 j (fun i hi => o5 i (Nat.lt_trans hi hj))]
    obtain ⟨u1, u2, u3⟩ := q3 k a b c j hj
    unfold Pk3
    rw [ne 168 _ (by decide), ne 169 _ (by decide), ne 170 _ (by decide), ne 171 _ (by decide)]
    exact ⟨u1, u2, fun z i i0 i7 il => by rw [ne 172 _ (by decide)]; exact u3 z i i0 i7 il⟩
end MQM
