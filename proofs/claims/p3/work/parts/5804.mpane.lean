/-! sayings of the reference: its words; panes, and which columns they speak of -/
section MQB
def Wrd (h : my_H) : Prop := h 156 10 ≠ h 156 3 ∧ h 156 10 ≠ h 156 7 ∧ h 156 10 ≠ h 156 8 ∧ h 156 10 ≠ h 156 11
theorem mis_156 : my_is 55 156 := by unfold my_is; decide +kernel
theorem mis_169 : my_is 68 169 := by unfold my_is; decide +kernel
theorem mis_172 : my_is 71 172 := by unfold my_is; decide +kernel
theorem Wrd_ag {h h' : my_H} (g : my_ag [(55, -1)] h h') (p : Wrd h) : Wrd h' := by
  have e : ∀ j : Int, h' 156 j = h 156 j := fun j => g.at mis_156 rfl
  unfold Wrd at p ⊢
  rw [e, e, e, e, e]
  exact p
/-- a pane over wd columns speaks of these alone -/
def Pk3 (h : my_H) (p wd : Int) : Prop := (h 168 p ≠ 3 → h 169 p < wd) ∧ (h 168 p = 5 → h 170 p < wd) ∧ (h 168 p = 3 → ∀ j : Int, 0 ≤ j → j ≤ 7 → j < h 171 p → h 172 (8 * p + j) < wd)
def mok3 (h : my_H) (w c : Int) (n : Nat) : Prop := ∀ k : Nat, k < n → Pk3 h (6 * w + k) (mwf h w c k)
def Mw3W (h : my_H) (W : Int → Int) : Prop := MwW h W ∧ ∀ k : Int, 0 ≤ k → k ≤ 5 → h 164 k = 1 → mok3 h k (mst h W k) (h 167 k).toNat
def Mw3 (h : my_H) : Prop := ∃ W : Int → Int, Mw3W h W
def Mq (h : my_H) (w : Int) : Prop := (∃ W : Int → Int, Mw3W h W ∧ Mo h W 6 w ∧ mok3 h 6 (mst h W 6) (h 167 6).toNat ∧ mwf h 6 (mst h W 6) (h 167 6).toNat = h 151 27) ∧ ∀ k : Int, 0 ≤ k → k ≤ 6 → 0 ≤ h 167 k ∧ h 167 k ≤ 6
theorem Mw3.mw {h : my_H} (p : Mw3 h) : Mw h := by
  obtain ⟨W, q, -⟩ := p
  exact ⟨W, q⟩
theorem Mq.mw3 {h : my_H} {w : Int} (p : Mq h w) : Mw3 h := by
  obtain ⟨⟨W, q, -⟩, -⟩ := p
  exact ⟨W, q⟩
abbrev M3F : List (Nat × Int) := [(56, -1), (63, -1), (64, -1), (65, -1), (66, -1), (67, -1), (68, -1), (69, -1), (70, -1), (71, -1)]
abbrev MqF : List (Nat × Int) := [(56, -1), (63, -1), (64, -1), (65, -1), (66, -1), (67, -1), (68, -1), (69, -1), (70, -1), (71, -1), (10, 27)]
theorem mok3_far {h h' : my_H} {w c : Int} {n : Nat} (g : ∀ j : Int, 6 * w ≤ j → j < 6 * w + n → h' 168 j = h 168 j ∧ h' 170 j = h 170 j ∧ h' 171 j = h 171 j) (g9 : ∀ j : Int, 6 * w ≤ j → j < 6 * w + n → h' 169 j = h 169 j ∧ ∀ i : Int, 0 ≤ i → i ≤ 7 → h' 172 (8 * j + i) = h 172 (8 * j + i)) (g1 : ∀ j : Int, h' 157 j = h 157 j) (p : mok3 h w c n) : mok3 h' w c n := by
  intro k hk
  obtain ⟨a, b, d⟩ := g (6 * w + k) (by omega) (by omega)
  obtain ⟨e, f⟩ := g9 (6 * w + k) (by omega) (by omega)
  obtain ⟨p1, p2, p3⟩ := p k hk
  rw [mwf_far k (fun j u v => g j u (by omega)) g1]
  refine ⟨by rw [a, e]; exact p1, by rw [a, b]; exact p2, ?_⟩
  rw [a, d]
  intro q i i0 i7 il
  rw [f i i0 i7]
  exact p3 q i i0 i7 il
theorem Mw3_far {h h' : my_H} {W : Int → Int} (p : Mw3W h W) (t : ∀ k : Int, 0 ≤ k → k ≤ 5 → h 167 k ≤ 6) (e4 : ∀ j : Int, h' 164 j = h 164 j) (e5 : ∀ j : Int, j ≤ 5 → h' 165 j = h 165 j) (e6 : ∀ j : Int, j ≤ 5 → h' 166 j = h 166 j) (e7 : ∀ j : Int, j ≤ 5 → h' 167 j = h 167 j) (e1 : ∀ j : Int, h' 157 j = h 157 j) (g : ∀ j : Int, j < 36 → h' 168 j = h 168 j ∧ h' 170 j = h 170 j ∧ h' 171 j = h 171 j) (g9 : ∀ j : Int, j < 36 → h' 169 j = h 169 j ∧ ∀ i : Int, 0 ≤ i → i ≤ 7 → h' 172 (8 * j + i) = h 172 (8 * j + i)) : Mw3W h' W := by
  obtain ⟨q, q3⟩ := p
  refine ⟨fun k a b c => ?_, fun k a b c => ?_⟩
  · rw [e4] at c
    obtain ⟨r1, r2⟩ := q k a b c
    have hk := t k a b
    obtain ⟨s1, s2, s3⟩ := Mo_far r1 (e5 k b) (e6 k b) (e7 k b) (e4 _) e1 (fun j u v => g j (by omega))
    exact ⟨s1, by rw [s2, e7 k b, s3]; exact r2⟩
  · rw [e4] at c
    obtain ⟨r1, r2⟩ := q k a b c
    have hk := t k a b
    obtain ⟨s1, s2, s3⟩ := Mo_far r1 (e5 k b) (e6 k b) (e7 k b) (e4 _) e1 (fun j u v => g j (by omega))
    rw [s2, e7 k b]
    exact mok3_far (fun j u v => g j (by omega)) (fun j u v => g9 j (by omega)) e1 (q3 k a b c)
theorem Mq_far {h h' : my_H} {w : Int} (p : Mq h w) (e4 : ∀ j : Int, h' 164 j = h 164 j) (e5 : ∀ j : Int, h' 165 j = h 165 j) (e6 : ∀ j : Int, h' 166 j = h 166 j) (e7 : ∀ j : Int, h' 167 j = h 167 j) (e1 : ∀ j : Int, h' 157 j = h 157 j) (e27 : h' 151 27 = h 151 27) (g : ∀ j : Int, j < 36 + h 167 6 → h' 168 j = h 168 j ∧ h' 170 j = h 170 j ∧ h' 171 j = h 171 j) (g9 : ∀ j : Int, j < 36 + h 167 6 → h' 169 j = h 169 j ∧ ∀ i : Int, 0 ≤ i → i ≤ 7 → h' 172 (8 * j + i) = h 172 (8 * j + i)) : Mq h' w := by
  obtain ⟨⟨W, q, qo, qm, qw⟩, t⟩ := p
  have t6 := (t 6 (by omega) (by omega)).1
  obtain ⟨s1, s2, s3⟩ := Mo_far qo (e5 6) (e6 6) (e7 6) (e4 _) e1 (fun j u v => g j (by omega))
  refine ⟨⟨W, Mw3_far q (fun k a b => (t k a (by omega)).2) e4 (fun j _ => e5 j) (fun j _ => e6 j) (fun j _ => e7 j) e1 (fun j a => g j (by omega)) (fun j a => g9 j (by omega)), s1, ?_, ?_⟩, fun k a b => by rw [e7]; exact t k a b⟩
  · rw [s2, e7]
    exact mok3_far (fun j u v => g j (by omega)) (fun j u v => g9 j (by omega)) e1 qm
  · rw [s2, e7, s3, e27]
    exact qw
theorem Mq_ag {h h' : my_H} {w : Int} (g : my_ag MqF h h') (p : Mq h w) : Mq h' w :=
  Mq_far p (fun _ => g.at mis_164 rfl) (fun _ => g.at mis_165 rfl) (fun _ => g.at mis_166 rfl) (fun _ => g.at mis_167 rfl) (fun _ => g.at mis_157 rfl) (g.at (j := 27) pis_151 rfl) (fun _ _ => ⟨g.at mis_168 rfl, g.at mis_170 rfl, g.at mis_171 rfl⟩) (fun _ _ => ⟨g.at mis_169 rfl, fun _ _ _ => g.at mis_172 rfl⟩)
theorem Mq_u {h h' : my_H} {w a i v : Int} (hw : w ≤ 5) (ha : a = 168 ∨ a = 169 ∨ a = 170 ∨ a = 171) (hi : i = 36 + h 167 6) (e : h' = my_up h a i v) (p : Mq h w) : Mq h' w := by
  have ne : ∀ x j : Int, ¬ (x = a ∧ j = i) → h' x j = h x j := fun x j q => my_up_ne e q
  exact Mq_far p (fun j => ne _ _ (by omega)) (fun j => ne _ _ (by omega)) (fun j => ne _ _ (by omega)) (fun j => ne _ _ (by omega)) (fun j => ne _ _ (by omega)) (ne _ _ (by omega)) (fun j hj => ⟨ne _ _ (by omega), ne _ _ (by omega), ne _ _ (by omega)⟩) (fun j hj => ⟨ne _ _ (by omega), fun k _ _ => ne _ _ (by omega)⟩)
theorem Mq_v {h h' : my_H} {w a i v : Int} (hw : w ≤ 5) (ha : a = 172) (hi : 8 * (36 + h 167 6) ≤ i) (e : h' = my_up h a i v) (p : Mq h w) : Mq h' w := by
  have ne : ∀ x j : Int, ¬ (x = a ∧ j = i) → h' x j = h x j := fun x j q => my_up_ne e q
  exact Mq_far p (fun j => ne _ _ (by omega)) (fun j => ne _ _ (by omega)) (fun j => ne _ _ (by omega)) (fun j => ne _ _ (by omega)) (fun j => ne _ _ (by omega)) (ne _ _ (by omega)) (fun j hj => ⟨ne _ _ (by omega), ne _ _ (by omega), ne _ _ (by omega)⟩) (fun j hj => ⟨ne _ _ (by omega), fun k _ _ => ne _ _ (by omega)⟩)
theorem Mw3_ag {h h' : my_H} (g : my_ag M3F h h') (p : Mw3 h) : Mw3 h' := by
  obtain ⟨W, q, q3⟩ := p
  have g1 := Msm.of (g.mo (G := MwF) rfl)
  refine ⟨W, MwW_cg g1 q, fun k a b c => ?_⟩
  rw [g.at mis_164 rfl] at c
  rw [mst_cg g1, g.at (j := k) mis_167 rfl]
  exact mok3_far (fun j _ _ => ⟨g.at mis_168 rfl, g.at mis_170 rfl, g.at mis_171 rfl⟩) (fun j _ _ => ⟨g.at mis_169 rfl, fun _ _ _ => g.at mis_172 rfl⟩) (fun _ => g.at mis_157 rfl) (q3 k a b c)
/-- what is laid in the draft's own cells -/
theorem Mw3_6 {h h' : my_H} {a v : Int} (ha : a = 165 ∨ a = 166 ∨ a = 167) (e : h' = my_up h a 6 v) (p : Mw3 h) : Mw3 h' := by
  obtain ⟨W, q, q3⟩ := p
  have ne : ∀ x j : Int, ¬ (x = a ∧ j = 6) → h' x j = h x j := fun x j q => my_up_ne e q
  refine ⟨W, fun k a b c => ?_, fun k a b c => ?_⟩
  · rw [ne _ _ (by omega)] at c
    obtain ⟨r1, r2⟩ := q k a b c
    obtain ⟨s1, s2, s3⟩ := Mo_far r1 (ne _ _ (by omega)) (ne _ _ (by omega)) (ne _ _ (by omega)) (ne _ _ (by omega)) (fun j => ne _ _ (by omega)) (fun j u v => ⟨ne _ _ (by omega), ne _ _ (by omega), ne _ _ (by omega)⟩)
    exact ⟨s1, by rw [s2, ne 167 k (by omega), s3]; exact r2⟩
  · rw [ne _ _ (by omega)] at c
    obtain ⟨r1, r2⟩ := q k a b c
    obtain ⟨s1, s2, s3⟩ := Mo_far r1 (ne _ _ (by omega)) (ne _ _ (by omega)) (ne _ _ (by omega)) (ne _ _ (by omega)) (fun j => ne _ _ (by omega)) (fun j u v => ⟨ne _ _ (by omega), ne _ _ (by omega), ne _ _ (by omega)⟩)
    rw [s2, ne 167 k (by omega)]
    exact mok3_far (fun j _ _ => ⟨ne _ _ (by omega), ne _ _ (by omega), ne _ _ (by omega)⟩) (fun j _ _ => ⟨ne _ _ (by omega), fun _ _ _ => ne _ _ (by omega)⟩) (fun j => ne _ _ (by omega)) (q3 k a b c)
/-- the widths are told by the heap -/
theorem Mw_uniq {h : my_H} {W W' : Int → Int} (p : MwW h W) (p' : MwW h W') : ∀ (n : Nat) (k : Int), 0 ≤ k → k ≤ 5 → k < n → h 164 k = 1 → W k = W' k := by
  intro n
  induction n with
  | zero => intro k a _ b; omega
  | succ n ih =>
    intro k a b c t
    obtain ⟨⟨o1, o2, o3, o4, -⟩, e⟩ := p k a b t
    obtain ⟨-, e'⟩ := p' k a b t
    have es : mst h W k = mst h W' k := by
      unfold mst
      by_cases q : h 165 k = 1
      · rw [if_pos q, if_pos q]
      · rw [if_neg q, if_neg q]
        obtain ⟨r1, r2⟩ := o4 (by omega)
        exact ih _ o2 (by omega) (by omega) r2
    rw [← e, ← e', es]
theorem mst_uniq {h : my_H} {W W' : Int → Int} (p : MwW h W) (p' : MwW h W') {k lim : Int} (hl : lim ≤ 6) (o : Mo h W k lim) : mst h W k = mst h W' k := by
  obtain ⟨o1, o2, o3, o4, -⟩ := o
  unfold mst
  by_cases q : h 165 k = 1
  · rw [if_pos q, if_pos q]
  · rw [if_neg q, if_neg q]
    obtain ⟨r1, r2⟩ := o4 (by omega)
    exact Mw_uniq p p' ((h 166 k).toNat + 1) _ o2 (by omega) (by omega) r2
theorem Fp6 {h : my_H} {w : Int} (fo : (h 165 6 = 0 ∨ h 165 6 = 1) ∧ 0 ≤ h 166 6 ∧ (h 165 6 = 1 → h 166 6 ≤ 2 ∧ 1 ≤ h 157 (h 166 6)) ∧ (h 165 6 = 0 → h 166 6 < w ∧ h 164 (h 166 6) = 1)) (hw : w ≤ 5) : Fp h 6 :=
  ⟨fun q => absurd q (by omega), fun _ => ⟨fo.1, fo.2.1, fo.2.2.1, fun q => ⟨by have := (fo.2.2.2 q).1; omega, (fo.2.2.2 q).2⟩⟩⟩
/-- the draft begins -/
theorem Mq_new {h h' : my_H} {w : Int} (M : Mw3 h) (x : ∃ W : Int → Int, MwW h W ∧ h' 151 27 = mwf h 6 (mst h W 6) (h 167 6).toNat) (g : my_ag M3F h h') (fo : (h 165 6 = 0 ∨ h 165 6 = 1) ∧ 0 ≤ h 166 6 ∧ (h 165 6 = 1 → h 166 6 ≤ 2 ∧ 1 ≤ h 157 (h 166 6)) ∧ (h 165 6 = 0 → h 166 6 < w ∧ h 164 (h 166 6) = 1)) (h6 : h 167 6 = 0) (hw : w ≤ 5) (t : ∀ k : Int, 0 ≤ k → k ≤ 6 → 0 ≤ h 167 k ∧ h 167 k ≤ 6) : Mq h' w := by
  obtain ⟨W, q, q3⟩ := M
  obtain ⟨W', q', e⟩ := x
  have g1 := Msm.of (g.mo (G := MwF) rfl)
  have o : Mo h W 6 w := ⟨fo.1, fo.2.1, fo.2.2.1, fo.2.2.2, by rw [h6]; intro k hk; exact absurd hk (Nat.not_lt_zero k)⟩
  have m3 : Mw3 h' := Mw3_ag g ⟨W, q, q3⟩
  refine ⟨⟨W, ⟨MwW_cg g1 q, fun k a b c => ?_⟩, Mo_cg g1 o, ?_, ?_⟩, fun k a b => by rw [g.at (j := k) mis_167 rfl]; exact t k a b⟩
  · rw [g.at mis_164 rfl] at c
    rw [mst_cg g1, g.at (j := k) mis_167 rfl]
    exact mok3_far (fun j _ _ => ⟨g.at mis_168 rfl, g.at mis_170 rfl, g.at mis_171 rfl⟩) (fun j _ _ => ⟨g.at mis_169 rfl, fun _ _ _ => g.at mis_172 rfl⟩) (fun _ => g.at mis_157 rfl) (q3 k a b c)
  · rw [g.at (j := 6) mis_167 rfl, h6]
    intro k hk
    exact absurd hk (Nat.not_lt_zero k)
  · rw [mwf_cg g1, mst_cg g1, g.at (j := 6) mis_167 rfl, mst_uniq q q' (by omega) o]
    exact e.symm
/-- the pane that was read counts -/
theorem Mq_add {h h1 h2 : my_H} {w p v : Int} (q : Mq h w) (hp : p = 36 + h 167 6) (ok : PaneOk h p) (ok3 : Pk3 h p (h 151 27)) (g : my_ag M3F h h1) (e27 : h1 151 27 = ms h p (h 151 27)) (e : h2 = my_up h1 167 6 v) (hv : v = h1 167 6 + 1) (h6 : h 167 6 ≤ 5) : Mq h2 w := by
  have gw : my_ag MwF h h1 := g.mo rfl
  have g1 := Msm.of gw
  obtain ⟨⟨W, ⟨M, M3⟩, D, D3, F⟩, t⟩ := q
  have n0 := (t 6 (by omega) (by omega)).1
  have e7 : h1 167 6 = h 167 6 := g.at mis_167 rfl
  have ne : ∀ x j : Int, ¬ (x = 167 ∧ j = 6) → h2 x j = h1 x j := fun x j hx => my_up_ne e hx
  have e76 : h2 167 6 = h 167 6 + 1 := by rw [my_up_self e]; omega
  have s157 : ∀ j : Int, h2 157 j = h 157 j := fun j => by rw [ne 157 j (by omega)]; exact g1.1 j
  have s164 : ∀ j : Int, h2 164 j = h 164 j := fun j => by rw [ne 164 j (by omega)]; exact g1.2.1 j
  have s165 : ∀ j : Int, h2 165 j = h 165 j := fun j => by rw [ne 165 j (by omega)]; exact g1.2.2.1 j
  have s166 : ∀ j : Int, h2 166 j = h 166 j := fun j => by rw [ne 166 j (by omega)]; exact g1.2.2.2.1 j
  have s167 : ∀ j : Int, j ≠ 6 → h2 167 j = h 167 j := fun j hj => by rw [ne 167 j (by omega)]; exact g1.2.2.2.2.1 j
  have s168 : ∀ j : Int, h2 168 j = h 168 j := fun j => by rw [ne 168 j (by omega)]; exact g1.2.2.2.2.2.1 j
  have s169 : ∀ j : Int, h2 169 j = h 169 j := fun j => by rw [ne 169 j (by omega)]; exact g.at mis_169 rfl
  have s170 : ∀ j : Int, h2 170 j = h 170 j := fun j => by rw [ne 170 j (by omega)]; exact g1.2.2.2.2.2.2.1 j
  have s171 : ∀ j : Int, h2 171 j = h 171 j := fun j => by rw [ne 171 j (by omega)]; exact g1.2.2.2.2.2.2.2 j
  have s172 : ∀ j : Int, h2 172 j = h 172 j := fun j => by rw [ne 172 j (by omega)]; exact g.at mis_172 rfl
  have sms : ∀ j c : Int, ms h2 j c = ms h j c := fun j c => by unfold ms; rw [s168, s170, s157, s171]
  have swf : ∀ (k c : Int) (n : Nat), mwf h2 k c n = mwf h k c n := fun k c n => mwf_far n (fun j _ _ => ⟨s168 j, s170 j, s171 j⟩) s157
  have sst : ∀ k : Int, mst h2 W k = mst h W k := fun k => by unfold mst; rw [s165, s166, s157]
  have en : (h2 167 6).toNat = (h 167 6).toNat + 1 := by omega
  have ecn : (((h 167 6).toNat : Nat) : Int) = h 167 6 := Int.toNat_of_nonneg n0
  have ep : 6 * (6 : Int) + ((h 167 6).toNat : Int) = p := by omega
  refine ⟨⟨W, ⟨fun k a b c => ?_, fun k a b c => ?_⟩, ?_, ?_, ?_⟩, fun k a b => ?_⟩
  · rw [s164] at c
    obtain ⟨r1, r2⟩ := M k a b c
    obtain ⟨u1, u2, u3⟩ := Mo_far r1 (s165 k) (s166 k) (s167 k (by omega)) (s164 _) s157 (fun j _ _ => ⟨s168 j, s170 j, s171 j⟩)
    exact ⟨u1, by rw [u2, s167 k (by omega), u3]; exact r2⟩
  · rw [s164] at c
    rw [sst, s167 k (by omega)]
    exact mok3_far (fun j _ _ => ⟨s168 j, s170 j, s171 j⟩) (fun j _ _ => ⟨s169 j, fun _ _ _ => s172 _⟩) s157 (M3 k a b c)
  · obtain ⟨d1, d2, d3, d4, d5⟩ := D
    refine ⟨by rw [s165]; exact d1, by rw [s166]; exact d2, by rw [s165, s166, s157]; exact d3, by rw [s165, s166, s164]; exact d4, ?_⟩
    rw [sst, en]
    intro j hj
    by_cases hjn : j < (h 167 6).toNat
    · exact (mok_far (fun i _ _ => ⟨s168 i, s170 i, s171 i⟩) s157 d5) j hjn
    · have : j = (h 167 6).toNat := by omega
      subst this
      rw [ep, s168, s170, s157, swf, F]
      exact ok
  · rw [sst, en]
    intro j hj
    by_cases hjn : j < (h 167 6).toNat
    · exact (mok3_far (fun i _ _ => ⟨s168 i, s170 i, s171 i⟩) (fun i _ _ => ⟨s169 i, fun _ _ _ => s172 _⟩) s157 D3) j hjn
    · have : j = (h 167 6).toNat := by omega
      subst this
      rw [ep, swf, F]
      unfold Pk3
      rw [s168, s169, s170, s171]
      exact ⟨ok3.1, ok3.2.1, fun z i i0 i7 il => by rw [s172]; exact ok3.2.2 z i i0 i7 il⟩
  · rw [sst, en, mwf, swf, F, ep, sms, ne 151 27 (by omega), e27]
  · by_cases hk : k = 6
    · subst hk
      rw [e76]
      omega
    · rw [s167 k hk]
      exact t k a b
end MQB
section MQC
/-- a stretch of an array is as another's -/
def Cpy (h g : my_H) (a lo n src : Int) : Prop := ∀ j : Int, g a j = if lo ≤ j ∧ j < lo + n then h a (j - lo + src) else h a j
theorem Cpy_0 {h g : my_H} {a lo n src : Int} (hn : n ≤ 0) (e : ∀ j : Int, g a j = h a j) : Cpy h g a lo n src := fun j => by rw [if_neg (by omega)]; exact e j
theorem Cpy_eq {h g g' : my_H} {a lo n src : Int} (e : ∀ j : Int, g' a j = g a j) (p : Cpy h g a lo n src) : Cpy h g' a lo n src := fun j => by rw [e]; exact p j
theorem Cpy_s {h g g' : my_H} {a lo n n' src i v : Int} (p : Cpy h g a lo n src) (e : g' = my_up g a i v) (hn : 0 ≤ n) (hi : i = lo + n) (h1 : n' = n + 1) (hs : lo + n ≤ src + n) (hv : v = g a (src + n)) : Cpy h g' a lo n' src := by
  subst hi; subst h1
  intro j
  by_cases hj : j = lo + n
  · subst hj
    rw [my_up_self e, hv, p, if_neg (by omega), if_pos (by omega), show lo + n - lo + src = src + n by omega]
  · rw [my_up_ne e (by omega), p j]
    by_cases q : lo ≤ j ∧ j < lo + n
    · rw [if_pos q, if_pos (by omega)]
    · rw [if_neg q, if_neg (by omega)]
/-- one cell is another -/
def Put1 (h g : my_H) (a i v : Int) : Prop := ∀ j : Int, g a j = if j = i then v else h a j
theorem Put1_up {h g : my_H} {a i v : Int} (e : g = my_up h a i v) : Put1 h g a i v := fun j => by
  by_cases q : j = i
  · subst q; rw [if_pos rfl, my_up_self e]
  · rw [if_neg q, my_up_ne e (by omega)]
theorem Put1_eq {h g g' : my_H} {a i v : Int} (e : ∀ j : Int, g' a j = g a j) (p : Put1 h g a i v) : Put1 h g' a i v := fun j => by rw [e]; exact p j
/-- the draft is kept as window w -/
theorem Mw3_keep {h g : my_H} {w : Int} (M : Mq h w) (w0 : 0 ≤ w) (w5 : w ≤ 5) (hu : ∀ k : Int, 0 ≤ k → k ≤ 5 → h 164 k = 1 → h 165 k = 0 → h 166 k ≠ w) (e1 : ∀ j : Int, g 157 j = h 157 j) (p4 : Put1 h g 164 w 1) (p5 : Put1 h g 165 w (h 165 6)) (p6 : Put1 h g 166 w (h 166 6)) (p7 : Put1 h g 167 w (h 167 6)) (c8 : Cpy h g 168 (6 * w) 6 36) (c9 : Cpy h g 169 (6 * w) 6 36) (c0 : Cpy h g 170 (6 * w) 6 36) (c1 : Cpy h g 171 (6 * w) 6 36) (c2 : Cpy h g 172 (48 * w) 48 288) : Mw3 g := by
  obtain ⟨⟨W, ⟨M1, M3⟩, D, D3, F⟩, t⟩ := M
  -- panes of w are the draft's
  have nw : ∀ a : Int, Cpy h g a (6 * w) 6 36 → ∀ k : Int, 0 ≤ k → k < 6 → g a (6 * w + k) = h a (36 + k) := fun a c k k0 k6 => by rw [c, if_pos (by omega), show 6 * w + k - 6 * w + 36 = 36 + k by omega]
  have nf : ∀ a : Int, Cpy h g a (6 * w) 6 36 → ∀ j : Int, j < 6 * w ∨ 6 * w + 6 ≤ j → g a j = h a j := fun a c j q => by rw [c, if_neg (by omega)]
  have n2w : ∀ k i : Int, 0 ≤ k → k < 6 → 0 ≤ i → i ≤ 7 → g 172 (8 * (6 * w + k) + i) = h 172 (8 * (36 + k) + i) := fun k i k0 k6 i0 i7 => by rw [c2, if_pos (by omega), show 8 * (6 * w + k) + i - 48 * w + 288 = 8 * (36 + k) + i by omega]
  have n2f : ∀ j i : Int, j < 6 * w ∨ 6 * w + 6 ≤ j → 0 ≤ i → i ≤ 7 → g 172 (8 * j + i) = h 172 (8 * j + i) := fun j i q i0 i7 => by rw [c2, if_neg (by omega)]
  have q4 : ∀ j : Int, j ≠ w → g 164 j = h 164 j := fun j q => by rw [p4, if_neg q]
  have q5 : ∀ j : Int, j ≠ w → g 165 j = h 165 j := fun j q => by rw [p5, if_neg q]
  have q6 : ∀ j : Int, j ≠ w → g 166 j = h 166 j := fun j q => by rw [p6, if_neg q]
  have q7 : ∀ j : Int, j ≠ w → g 167 j = h 167 j := fun j q => by rw [p7, if_neg q]
  have r4 : g 164 w = 1 := by rw [p4, if_pos rfl]
  have r5 : g 165 w = h 165 6 := by rw [p5, if_pos rfl]
  have r6 : g 166 w = h 166 6 := by rw [p6, if_pos rfl]
  have r7 : g 167 w = h 167 6 := by rw [p7, if_pos rfl]
  obtain ⟨d1, d2, d3, d4, d5⟩ := D
  have t6 := t 6 (by omega) (by omega)
  -- the widths
  refine ⟨fun k => if k = w then h 151 27 else W k, ?_⟩
  have hst : ∀ k : Int, 0 ≤ k → k ≤ 5 → k ≠ w → h 164 k = 1 → mst g (fun k => if k = w then h 151 27 else W k) k = mst h W k := by
    intro k a b c e
    obtain ⟨⟨o1, o2, o3, o4, -⟩, -⟩ := M1 k a b e
    unfold mst
    rw [q5 k c, q6 k c]
    by_cases z : h 165 k = 1
    · rw [if_pos z, if_pos z, e1]
    · rw [if_neg z, if_neg z]
      show (if h 166 k = w then h 151 27 else W (h 166 k)) = _
      rw [if_neg (hu k a b e (by omega))]
  have hsw : mst g (fun k => if k = w then h 151 27 else W k) w = mst h W 6 := by
    unfold mst
    rw [r5, r6]
    by_cases z : h 165 6 = 1
    · rw [if_pos z, if_pos z, e1]
    · rw [if_neg z, if_neg z]
      show (if h 166 6 = w then h 151 27 else W (h 166 6)) = _
      rw [if_neg (by have := (d4 (by omega)).1; omega)]
  have hwf : ∀ (c : Int) (n : Nat), n ≤ 6 → mwf g w c n = mwf h 6 c n := by
    intro c n
    induction n with
    | zero => intro _; rfl
    | succ n ih =>
      intro hn
      rw [mwf, mwf, ih (by omega)]
      unfold ms
      rw [nw 168 c8 n (by omega) (by omega), nw 170 c0 n (by omega) (by omega), nw 171 c1 n (by omega) (by omega), e1, show 6 * (6 : Int) + n = 36 + n by omega]
  have pn : ∀ k : Int, 0 ≤ k → k ≤ 5 → k ≠ w → ∀ j : Int, 6 * k ≤ j → j < 6 * k + (h 167 k).toNat → j < 6 * w ∨ 6 * w + 6 ≤ j := by
    intro k a b c j u v
    have := t k a (by omega)
    omega
  refine ⟨fun k a b c => ?_, fun k a b c => ?_⟩
  · by_cases hk : k = w
    · subst hk
      rw [hsw, r7, hwf _ _ (by omega), F]
      refine ⟨⟨by rw [r5]; exact d1, by rw [r6]; exact d2, by rw [r5, r6, e1]; exact d3, ?_, ?_⟩, (if_pos rfl).symm⟩
      · rw [r5, r6]
        intro z
        obtain ⟨z1, z2⟩ := d4 z
        exact ⟨z1, by rw [q4 _ (by omega)]; exact z2⟩
      · rw [hsw, r7]
        intro j hj
        have dj := d5 j hj
        rw [show 6 * (6 : Int) + j = 36 + j by omega] at dj
        rw [nw 168 c8 j (by omega) (by omega), nw 170 c0 j (by omega) (by omega), e1, hwf _ _ (by omega)]
        exact dj
    · rw [q4 k hk] at c
      obtain ⟨r1, r2⟩ := M1 k a b c
      obtain ⟨o1, o2, o3, o4, o5⟩ := r1
      have far : ∀ j : Int, 6 * k ≤ j → j < 6 * k + (h 167 k).toNat → g 168 j = h 168 j ∧ g 170 j = h 170 j ∧ g 171 j = h 171 j := fun j u v => ⟨nf 168 c8 j (pn k a b hk j u v), nf 170 c0 j (pn k a b hk j u v), nf 171 c1 j (pn k a b hk j u v)⟩
      rw [hst k a b hk c, q7 k hk, mwf_far _ far e1, r2]
      refine ⟨⟨by rw [q5 k hk]; exact o1, by rw [q6 k hk]; exact o2, by rw [q5 k hk, q6 k hk, e1]; exact o3, ?_, ?_⟩, (if_neg hk).symm⟩
      · rw [q5 k hk, q6 k hk]
        intro z
        obtain ⟨z1, z2⟩ := o4 z
        exact ⟨z1, by rw [q4 _ (hu k a b c z)]; exact z2⟩
      · rw [hst k a b hk c, q7 k hk]
        exact mok_far far e1 o5
  · by_cases hk : k = w
    · subst hk
      rw [hsw, r7]
      intro j hj
      obtain ⟨u1, u2, u3⟩ := D3 j hj
      rw [show 6 * (6 : Int) + j = 36 + j by omega] at u1 u2 u3
      unfold Pk3
      rw [nw 168 c8 j (by omega) (by omega), nw 169 c9 j (by omega) (by omega), nw 170 c0 j (by omega) (by omega), nw 171 c1 j (by omega) (by omega), hwf _ _ (by omega)]
      refine ⟨u1, u2, fun z i i0 i7 il => ?_⟩
      rw [n2w j i (by omega) (by omega) i0 i7]
      exact u3 z i i0 i7 il
    · rw [q4 k hk] at c
      have far : ∀ j : Int, 6 * k ≤ j → j < 6 * k + (h 167 k).toNat → g 168 j = h 168 j ∧ g 170 j = h 170 j ∧ g 171 j = h 171 j := fun j u v => ⟨nf 168 c8 j (pn k a b hk j u v), nf 170 c0 j (pn k a b hk j u v), nf 171 c1 j (pn k a b hk j u v)⟩
      rw [hst k a b hk c, q7 k hk]
      exact mok3_far far (fun j u v => ⟨nf 169 c9 j (pn k a b hk j u v), fun i i0 i7 => n2f j i (pn k a b hk j u v) i0 i7⟩) e1 (M3 k a b c)
end MQC
section MQD
variable {l : Launch} {rho : Nat → Int32} {d m pc : Nat} {ls st : List my_V} {h : my_H} {Q : my_H → my_V → Prop}
/-- the bounds of an array's cells -/
theorem v_all {ρ n : Nat} {lo hi x : Int} (hx : my_is ρ x) (hD : my_rd ρ = .inl (0, n, [(0, lo, hi)])) (k : (∀ j : Int, 0 ≤ j → j < n → lo ≤ h x j ∧ h x j ≤ hi) → wp l rho d m pc ls st h Q) : wp l rho d m pc ls st h Q := by
  intro a1 a2 L H hL hH
  refine k (fun j j0 jn => ?_) a1 a2 L H hL hH
  obtain ⟨dd, us, -, q⟩ := my_HR.arr hH hx hD
  obtain ⟨-, q1⟩ := q j.toNat (0, lo, hi) (by omega) (by simp [Nat.mod_one])
  rw [Int.toNat_of_nonneg j0] at q1
  exact ⟨q1.1, q1.2.1⟩
end MQD
section MQE
theorem Put1_of {h h0 g : my_H} {a i v v' : Int} (e : g = my_up h0 a i v) (b : ∀ j : Int, h0 a j = h a j) (hv : v = v') : Put1 h g a i v' := fun j => by
  subst hv
  by_cases q : j = i
  · subst q; rw [if_pos rfl, my_up_self e]
  · rw [if_neg q, my_up_ne e (by omega)]; exact b j
theorem Cpy_n {h g : my_H} {a lo n n' src : Int} (p : Cpy h g a lo n src) (e : n' = n) : Cpy h g a lo n' src := e ▸ p
end MQE
def S56 (h g : my_H) : Prop := ∀ k : Int, k ≤ 5 → g 165 k = h 165 k ∧ g 166 k = h 166 k
