/-! class and reference have the same tape and the same windows -/
section MTO
def Teq (h : my_H) : Prop := tp_of h = tm_of h
theorem Teq_ag {h h' : my_H} (g : my_ag [(5, 4), (40, -1), (10, 2), (51, -1)] h h') (p : Teq h) : Teq h' := by
  unfold Teq tp_of tm_of at p ⊢
  rw [show h' 92 = h 92 from funext (fun j => g.at (j := j) is_92 rfl), show h' 152 = h 152 from funext (fun j => g.at (j := j) is_152 rfl), g.at (j := 4) pis_82 rfl, g.at (j := 2) pis_151 rfl]
  exact p
theorem Teq_0 {h h' : my_H} (T : Teq h) (e1 : ∀ j : Int, h' 92 j = h 92 j) (e2 : ∀ j : Int, h' 152 j = h 152 j) (e3 : h' 82 4 = 0) (e4 : h' 151 2 = 0) : Teq h' := by
  unfold Teq tp_of tm_of at T ⊢
  rw [show h' 92 = h 92 from funext e1, show h' 152 = h 152 from funext e2, e3, e4]
  rw [show h 92 = h 152 from congrArg Prod.fst T]
theorem MwW_ext {h : my_H} {W W' : Int → Int} (e : ∀ v : Int, 0 ≤ v → v ≤ 5 → W v = W' v) (p : MwW h W) : MwW h W' := by
  intro k a b c
  obtain ⟨⟨o1, o2, o3, o4, o5⟩, o6⟩ := p k a b c
  have es : mst h W' k = mst h W k := by
    unfold mst
    by_cases z : h 165 k = 1
    · rw [if_pos z, if_pos z]
    · rw [if_neg z, if_neg z, e _ o2 (by have := (o4 (by omega)).1; omega)]
  refine ⟨⟨o1, o2, o3, o4, ?_⟩, ?_⟩
  · rw [es]; exact o5
  · rw [es, ← e k a b]; exact o6
theorem BwB_ext {h : my_H} {W B B' : Int → Int} (q : MwW h W) (e : ∀ v : Int, 0 ≤ v → v ≤ 5 → B v = B' v) (p : BwB h B) : BwB h B' := by
  intro k a b c
  obtain ⟨⟨o1, o2, o3, o4, -⟩, -⟩ := q k a b c
  have r := p k a b c
  rw [← e k a b, r]
  by_cases z : h 165 k = 1
  · rw [if_pos z, if_pos z]
  · rw [if_neg z, if_neg z, e _ o2 (by have := (o4 (by omega)).1; omega)]
def Wnq (h : my_H) : Prop := (∀ v : Int, 0 ≤ v → v ≤ 5 → my_is 4 (h 27 v)) ∧ (∀ v : Int, 0 ≤ v → v ≤ 5 → h (h 27 v) 0 = h 164 v) ∧ (∀ v : Int, 0 ≤ v → v ≤ 5 → h 164 v = 1 → h (h 27 v) 1 = ovo h v) ∧ MwW h (cW h) ∧ BwB h (cB h)
abbrev WqF : List (Nat × Int) := [(22, -1), (4, 0), (4, 1), (4, 3), (4, 4), (56, -1), (63, -1), (64, -1), (65, -1), (66, -1), (67, -1), (69, -1), (70, -1)]
abbrev WqG : List (Nat × Int) := [(22, -1), (4, 0), (4, 1), (4, 3), (4, 4), (63, -1), (64, -1), (65, -1), (66, -1), (67, -1), (69, -1), (70, -1)]
theorem mwf_w {h h' : my_H} {k c : Int} (e8 : ∀ j : Int, h' 168 j = h 168 j) (e0 : ∀ j : Int, h' 170 j = h 170 j) (e1 : ∀ j : Int, h' 171 j = h 171 j) (s157 : ∀ j : Int, 1 ≤ h 157 j → h' 157 j = h 157 j) : ∀ n : Nat, mok h k c n → mwf h' k c n = mwf h k c n
  | 0, _ => rfl
  | n + 1, m => by
    rw [mwf, mwf, mwf_w e8 e0 e1 s157 n (fun j hj => m j (Nat.lt_succ_of_lt hj))]
    have z := (m n (Nat.lt_succ_self n)).1
    unfold ms
    rw [e8, e0, e1]
    by_cases q5 : h 168 (6 * k + n) = 5
    · rw [if_pos q5, if_pos q5]
    · rw [if_neg q5, if_neg q5]
      by_cases q4 : h 168 (6 * k + n) = 4
      · rw [if_pos q4, if_pos q4, s157 _ (z q4).2.2.1]
      · rw [if_neg q4, if_neg q4]
/-- a wall that comes leaves the windows as they are -/
theorem Wnq_wall {h h' : my_H} (g : my_ag WqG h h') (s157 : ∀ j : Int, 1 ≤ h 157 j → h' 157 j = h 157 j) (p : Wnq h) : Wnq h' := by
  obtain ⟨p1, p2, p3, p4, p5⟩ := p
  have e27 : ∀ v : Int, h' 27 v = h 27 v := fun v => g.at pis_27 rfl
  have e4 : ∀ j : Int, h' 164 j = h 164 j := fun j => g.at mis_164 rfl
  have e5 : ∀ j : Int, h' 165 j = h 165 j := fun j => g.at mis_165 rfl
  have e6 : ∀ j : Int, h' 166 j = h 166 j := fun j => g.at mis_166 rfl
  have e7 : ∀ j : Int, h' 167 j = h 167 j := fun j => g.at mis_167 rfl
  have e8 : ∀ j : Int, h' 168 j = h 168 j := fun j => g.at mis_168 rfl
  have e0 : ∀ j : Int, h' 170 j = h 170 j := fun j => g.at mis_170 rfl
  have e1 : ∀ j : Int, h' 171 j = h 171 j := fun j => g.at mis_171 rfl
  have eW : ∀ v : Int, 0 ≤ v → v ≤ 5 → cW h v = cW h' v := fun v a b => by
    unfold cW
    rw [e27, g.at (j := 4) (p1 v a b) rfl]
  have eB : ∀ v : Int, 0 ≤ v → v ≤ 5 → cB h v = cB h' v := fun v a b => by
    unfold cB
    rw [e27, g.at (j := 3) (p1 v a b) rfl]
  have eo : ∀ v : Int, ovo h' v = ovo h v := fun v => by
    unfold ovo
    rw [e5, e6]
  have est : ∀ k : Int, 0 ≤ k → k ≤ 5 → h 164 k = 1 → mst h' (cW h) k = mst h (cW h) k := by
    intro k a b c
    obtain ⟨⟨o1, o2, o3, o4, o5⟩, -⟩ := p4 k a b c
    unfold mst
    rw [e5, e6]
    by_cases z : h 165 k = 1
    · rw [if_pos z, if_pos z, s157 _ (o3 z).2]
    · rw [if_neg z, if_neg z]
  have q4 : MwW h' (cW h) := by
    intro k a b c
    rw [e4] at c
    obtain ⟨⟨o1, o2, o3, o4, o5⟩, r2⟩ := p4 k a b c
    refine ⟨⟨by rw [e5]; exact o1, by rw [e6]; exact o2, ?_, ?_, ?_⟩, ?_⟩
    · rw [e5, e6]
      intro z
      rw [s157 _ (o3 z).2]
      exact o3 z
    · rw [e5, e6, e4]
      exact o4
    · rw [est k a b c, e7]
      intro j hj
      rw [e8, e0, mwf_w e8 e0 e1 s157 j (fun i hi => o5 i (Nat.lt_trans hi hj))]
      refine ⟨fun z => ?_, (o5 j hj).2⟩
      have y := (o5 j hj).1 z
      rw [s157 _ y.2.2.1]
      exact y
    · rw [est k a b c, e7, mwf_w e8 e0 e1 s157 _ o5]
      exact r2
  have q5 : BwB h' (cB h) := by
    intro k a b c
    rw [e4] at c
    obtain ⟨⟨o1, o2, o3, o4, o5⟩, -⟩ := p4 k a b c
    rw [p5 k a b c, e5, e6]
    by_cases z : h 165 k = 1
    · rw [if_pos z, if_pos z, s157 _ (o3 z).2]
    · rw [if_neg z, if_neg z]
  refine ⟨fun v a b => by rw [e27]; exact p1 v a b, fun v a b => ?_, fun v a b c => ?_, MwW_ext eW q4, BwB_ext q4 eB q5⟩
  · rw [e27, e4, g.at (j := 0) (p1 v a b) rfl]
    exact p2 v a b
  · rw [e4] at c
    rw [e27, eo, g.at (j := 1) (p1 v a b) rfl]
    exact p3 v a b c
theorem Wnq_ag {h h' : my_H} (g : my_ag WqF h h') (p : Wnq h) : Wnq h' :=
  Wnq_wall (g.mo rfl) (fun j _ => g.at mis_157 rfl) p
/-- the lenses as they were: the windows are the same -/
theorem Wnq_lo {h h' : my_H} (K : Lo h h') (g : my_ag [(56, -1), (63, -1), (64, -1), (65, -1), (66, -1), (67, -1), (69, -1), (70, -1)] h h') (p : Wnq h) : Wnq h' := by
  obtain ⟨p1, p2, p3, p4, p5⟩ := p
  have e4 : ∀ j : Int, h' 164 j = h 164 j := fun j => g.at mis_164 rfl
  have q4 : MwW h' (cW h) := MwW_cg (Msm.of g) p4
  have q5 : BwB h' (cB h) := by
    intro k a b c
    rw [e4] at c
    rw [g.at (j := k) mis_165 rfl, g.at (j := k) mis_166 rfl, g.at (j := h 166 k) mis_157 rfl]
    exact p5 k a b c
  refine ⟨fun v a b => by rw [(K v a b).1]; exact p1 v a b, fun v a b => ?_, fun v a b c => ?_, MwW_ext (fun v a b => ?_) q4, BwB_ext q4 (fun v a b => ?_) q5⟩
  · obtain ⟨k1, k2, k3, k4, k5⟩ := K v a b
    rw [k1, k2, e4]; exact p2 v a b
  · obtain ⟨k1, k2, k3, k4, k5⟩ := K v a b
    rw [e4] at c
    unfold ovo
    rw [k1, k3, g.at (j := v) mis_165 rfl, g.at (j := v) mis_166 rfl]
    exact p3 v a b c
  · obtain ⟨k1, k2, k3, k4, k5⟩ := K v a b
    unfold cW
    rw [k1, k5]
  · obtain ⟨k1, k2, k3, k4, k5⟩ := K v a b
    unfold cB
    rw [k1, k4]
/-- the reference's windows as they were -/
theorem Wnq_ko {h h' : my_H} (K : Ko h h') (t : ∀ k : Int, 0 ≤ k → k ≤ 6 → 0 ≤ h 167 k ∧ h 167 k ≤ 6) (g : my_ag [(22, -1), (4, 0), (4, 1), (4, 3), (4, 4), (56, -1)] h h') (p : Wnq h) : Wnq h' := by
  obtain ⟨p1, p2, p3, p4, p5⟩ := p
  have e57 : ∀ j : Int, h' 157 j = h 157 j := fun j => g.at mis_157 rfl
  have e27 : ∀ v : Int, h' 27 v = h 27 v := fun v => g.at pis_27 rfl
  have q4 : MwW h' (cW h) := MwW_ko K e57 t p4
  have q5 : BwB h' (cB h) := BwB_ko K e57 p5
  refine ⟨fun v a b => by rw [e27]; exact p1 v a b, fun v a b => ?_, fun v a b c => ?_, MwW_ext (fun v a b => ?_) q4, BwB_ext q4 (fun v a b => ?_) q5⟩
  · rw [e27, g.at (j := 0) (p1 v a b) rfl, (K.1 v b).1]; exact p2 v a b
  · rw [(K.1 v b).1] at c
    unfold ovo
    rw [e27, g.at (j := 1) (p1 v a b) rfl, (K.1 v b).2.1, (K.1 v b).2.2.1]
    exact p3 v a b c
  · unfold cW
    rw [e27, g.at (j := 4) (p1 v a b) rfl]
  · unfold cB
    rw [e27, g.at (j := 3) (p1 v a b) rfl]
end MTO
