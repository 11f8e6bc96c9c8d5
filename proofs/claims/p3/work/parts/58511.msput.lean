/-! the reference: put, in terms of what the walls hold -/
section ZTK
theorem zqAg.rf {S : Int → Int} : zqAg S S := fun _ _ _ => rfl
theorem zqWo_c {A : zqA} {S S' : Int → Int} (e : zqAg S S') (A4 : ∀ u : Int, 0 ≤ u → u ≤ 2 → A.1 u ≤ 4) (N2 : ∀ p : Int, 0 ≤ p → p ≤ 11 → -1 ≤ A.2.2.2.1 p ∧ A.2.2.2.1 p ≤ 2) (p : zqWo A S) : zqWo A S' := ⟨zqGd_c e p.1, (zqLf_c e A4 N2).mpr p.2.1, zqSt_c e p.2.2⟩
/-- an edit may be wanted where the walls hold S -/
def mOk (h : my_H) (S : Int → Int) (w e i j v : Int) : Prop := (0 ≤ e ∧ e ≤ 2) ∧ (0 ≤ w ∧ w ≤ 5 ∧ h 164 w ≠ 0) ∧ (e ≠ 2 → 0 ≤ i ∧ i < ((zqRun S (h 157 (mBs h w)) ((zqLd S (mBs h w) (h 157 (mBs h w)) 20).map Prod.snd) (mCW h w)).length : Int)) ∧ (e = 0 → 0 ≤ j ∧ j < zqW (h 157 (mBs h w)) (mCW h w) ∧ 0 ≤ v ∧ v ≤ 199)
/-- what a put makes of S -/
def mPR (h : my_H) (S : Int → Int) (w e i j v ans : Int) (S' : Int → Int) : Prop := ∃ W : List zqR, WntL S (mBs h w) (h 157 (mBs h w)) (mCW h w) e i j v (h 188) W ∧ ((zqLe (h 157) (zqAl (zqMA h) S (mBs h w) (h 157 (mBs h w)) (mCW h w) W (cmM h w)) = none ∧ ans = -1 ∧ zqAg S S') ∨ ∃ y : zqY, zqLe (h 157) (zqAl (zqMA h) S (mBs h w) (h 157 (mBs h w)) (mCW h w) W (cmM h w)) = some y ∧ ans = zqPr (h 157) y ∧ zqAg (zqPut S y (cmM h w)) S')
theorem mOk_i {h : my_H} {s w e i j v : Int} : MdOk h s w e i j v ↔ mOk h (zqMS h s) w e i j v := Iff.rfl
theorem mPR_i {h g : my_H} {s w e i j v ans : Int} : MPutR h g s w e i j v ans ↔ mPR h (zqMS h s) w e i j v ans (zqMS g s) := Iff.rfl
section
variable {h g : my_H} {S T S' T' : Int → Int} {w e i j v ans : Int}
theorem mOk_ag (a : my_ag LmF h g) : mOk g S w e i j v ↔ mOk h S w e i j v := by
  obtain ⟨q, e157, e164, -⟩ := Lm_e a
  unfold mOk
  rw [(q w).1, (q w).2.1, e157, e164]
theorem mPR_ag (a : my_ag LmF h g) (ma : zqMA g = zqMA h) (e188 : ∀ j : Int, g 188 j = h 188 j) : mPR g S w e i j v ans S' ↔ mPR h S w e i j v ans S' := by
  obtain ⟨q, e157, -⟩ := Lm_e a
  unfold mPR
  rw [(q w).1, (q w).2.1, e157, ma, cmM_cg a e188, show g 188 = h 188 from funext e188, show g 157 = h 157 from funext e157]
theorem mOk_c (L : LmW h) (B : ∀ j : Int, 0 ≤ j → j < 7 → 0 ≤ h 164 j ∧ h 164 j ≤ 1) (ag : zqAg S T) (p : mOk h S w e i j v) : mOk h T w e i j v := by
  obtain ⟨p1, p2, p3, p4⟩ := p
  have b := B w p2.1 (by omega)
  obtain ⟨wf, b0, b2, m1, m4⟩ := L w p2.1 p2.2.1 (by omega)
  refine ⟨p1, p2, fun z => ?_, p4⟩
  rw [zqAll_c ag b0 b2 m4 wf]
  exact p3 z
theorem zqPut_a {y : zqY} {f : Int → Int} (ag : zqAg S T) : zqAg (zqPut S y f) (zqPut T y f) := by
  unfold zqPut
  by_cases k1 : y.1 = 1
  · rw [if_pos k1, if_pos k1]; exact zqSet_a ag
  · rw [if_neg k1, if_neg k1]
    by_cases k2 : y.1 = 2
    · rw [if_pos k2, if_pos k2]; exact zqDrop_a ag
    · rw [if_neg k2, if_neg k2]
      by_cases k3 : y.1 = 3
      · rw [if_pos k3, if_pos k3]; exact zqAdd_a ag
      · rw [if_neg k3, if_neg k3]; exact ag
theorem WntL_c {b m : Int} {P : List zqP} {D : Int → Int} {W : List zqR} (ag : zqAg S T) (b0 : 0 ≤ b) (b2 : b ≤ 2) (m4 : m ≤ 4) (wf : zqWf m P) (p : WntL S b m P e i j v D W) : WntL T b m P e i j v D W := by
  unfold WntL at p ⊢
  rw [zqAll_c ag b0 b2 m4 wf]
  exact p
/-- cells past the walls' own don't count -/
theorem mPR_c (L : LmW h) (M : MTy h) (w0 : 0 ≤ w) (w5 : w ≤ 5) (t : h 164 w = 1) (kf : 0 ≤ cmM h w 0 ∧ cmM h w 0 ≤ 19) (ag : zqAg S T) (ag' : zqAg S' T') (p : mPR h S w e i j v ans S') : mPR h T w e i j v ans T' := by
  obtain ⟨wf, b0, b2, m1, m4⟩ := L w w0 w5 t
  obtain ⟨W, p1, p2⟩ := p
  have ea := zqAl_c (A := zqMA h) (W := W) (f := cmM h w) ag b0 b2 m4 wf (fun u a b => (M.2.2.2 u a (by omega)).2) (fun p a b => M.2.2.1 p a (by omega)) kf
  refine ⟨W, WntL_c ag b0 b2 m4 wf p1, ?_⟩
  rw [ea]
  rcases p2 with ⟨q1, q2, q3⟩ | ⟨y, q1, q2, q3⟩
  · exact Or.inl ⟨q1, q2, zqAg.tr (zqAg.tr (zqAg.sym ag) q3) ag'⟩
  · exact Or.inr ⟨y, q1, q2, zqAg.tr (zqAg.tr (zqPut_a (zqAg.sym ag)) q3) ag'⟩
end
/-- other states than a, b, c (and the trial's) stay -/
def OtT (h g : my_H) (a b c : Int) : Prop := ∀ s : Int, s ≠ 8 → s ≠ a → s ≠ b → s ≠ c → (∀ j : Int, 0 ≤ j → j < 60 → g 162 (60 * s + j) = h 162 (60 * s + j)) ∧ ∀ j : Int, 0 ≤ j → j < 240 → g 163 (240 * s + j) = h 163 (240 * s + j)
theorem OtT.ms {h g : my_H} {a b c s : Int} (p : OtT h g a b c) (s8 : s ≠ 8) (sa : s ≠ a) (sb : s ≠ b) (sc : s ≠ c) : zqAg (zqMS h s) (zqMS g s) := fun j a b => by
  obtain ⟨q1, q2⟩ := p s s8 sa sb sc
  unfold zqMS
  rw [q1 (j / 4) (by omega) (by omega), q2 j a b]
theorem OtT_Cp {h g g1 : my_H} {a b c f t : Int} (p : OtT h g a b c) (q : Cp g g1 f t) (r : CpI g g1 f t 240) (ht : t = 8 ∨ t = a ∨ t = b ∨ t = c) : OtT h g1 a b c := fun s s8 sa sb sc => by
  obtain ⟨q1, q2⟩ := p s s8 sa sb sc
  exact ⟨fun j x y => (q.2 _ (by omega)).trans (q1 j x y), fun j x y => (r.2.1 _ (by omega)).trans (q2 j x y)⟩
theorem OtT_S {h g g1 : my_H} {a b c t : Int} (p : OtT h g a b c) (q : OtS g g1 t) (ht : t = 8 ∨ t = a ∨ t = b ∨ t = c) : OtT h g1 a b c := fun s s8 sa sb sc => by
  obtain ⟨q1, q2⟩ := p s s8 sa sb sc
  exact ⟨fun j x y => (q.1 _ (by omega) (by omega)).trans (q1 j x y), fun j x y => (q.2 _ (by omega) (by omega)).trans (q2 j x y)⟩
theorem OtT_0 {h g : my_H} {a b c : Int} (e2 : ∀ j : Int, g 162 j = h 162 j) (e3 : ∀ j : Int, g 163 j = h 163 j) : OtT h g a b c := fun s _ _ _ _ => ⟨fun j _ _ => e2 _, fun j _ _ => e3 _⟩
theorem OtT_e {h g g1 : my_H} {a b c : Int} (p : OtT h g a b c) (e2 : ∀ j : Int, g1 162 j = g 162 j) (e3 : ∀ j : Int, g1 163 j = g 163 j) : OtT h g1 a b c := fun s s8 sa sb sc => by
  obtain ⟨q1, q2⟩ := p s s8 sa sb sc
  exact ⟨fun j x y => (e2 _).trans (q1 j x y), fun j x y => (e3 _).trans (q2 j x y)⟩
theorem OtT.w {h g : my_H} {a b c a' b' c' : Int} (p : OtT h g a b c) (ha : a = 8 ∨ a = a' ∨ a = b' ∨ a = c') (hb : b = 8 ∨ b = a' ∨ b = b' ∨ b = c') (hc : c = 8 ∨ c = a' ∨ c = b' ∨ c = c') : OtT h g a' b' c' := fun s s8 sa sb sc => p s s8 (by omega) (by omega) (by omega)
section
variable {h h1 h2 h7 h9 h0 g : my_H} {w e i j v ans : Int}
theorem Cp_ag5 {f t : Int} (c1 : Cp h1 h2 f t) (q1 : CpI h1 h2 f t 240) (e2 : ∀ j : Int, h1 162 j = h 162 j) (e3 : ∀ j : Int, h1 163 j = h 163 j) : zqAg (zqMS h f) (zqMS h2 t) := fun j a b => by
  rw [(Cp_MS c1 q1).1 j a b, MS_eq e2 e3]
/-- put, where it did nothing -/
theorem Mput_n (a : my_ag LmF h h2) (ma : zqMA h2 = zqMA h) (e188 : ∀ j : Int, h2 188 j = h 188 j) (L : LmW h) (M : MTy h) (B : ∀ j : Int, 0 ≤ j → j < 7 → 0 ≤ h 164 j ∧ h 164 j ≤ 1) (kf : 0 ≤ w → w ≤ 5 → h 164 w = 1 → 0 ≤ cmM h w 0 ∧ cmM h w 0 ≤ 19) (ag : zqAg (zqMS h 0) (zqMS h2 5)) (p : (¬ MdOk h2 5 w e i j v ∧ zqAg (zqMS h2 5) (zqMS h7 5)) ∨ (MdOk h2 5 w e i j v ∧ MPutR h2 h7 5 w e i j v (-1))) : ¬ mOk h (zqMS h 0) w e i j v ∨ (mOk h (zqMS h 0) w e i j v ∧ ∃ S : Int → Int, mPR h (zqMS h 0) w e i j v (-1) S) := by
  rcases p with ⟨p, -⟩ | ⟨p, q⟩
  · exact Or.inl (fun z => p ((mOk_ag a).mpr (mOk_c L B ag z)))
  · have ok := mOk_c L B (zqAg.sym ag) ((mOk_ag a).mp p)
    have b := B w ok.2.1.1 (by have := ok.2.1.2.1; omega)
    have t : h 164 w = 1 := by have := ok.2.1.2.2; omega
    exact Or.inr ⟨ok, _, mPR_c L M ok.2.1.1 ok.2.1.2.1 t (kf ok.2.1.1 ok.2.1.2.1 t) (zqAg.sym ag) zqAg.rf ((mPR_ag a ma e188).mp q)⟩
/-- put, where it was done -/
theorem Mput_y (a : my_ag LmF h h2) (ma : zqMA h2 = zqMA h) (e188 : ∀ j : Int, h2 188 j = h 188 j) (L : LmW h) (M : MTy h) (B : ∀ j : Int, 0 ≤ j → j < 7 → 0 ≤ h 164 j ∧ h 164 j ≤ 1) (kf : 0 ≤ w → w ≤ 5 → h 164 w = 1 → 0 ≤ cmM h w 0 ∧ cmM h w 0 ≤ 19) (ag : zqAg (zqMS h 0) (zqMS h2 5)) (ok : MdOk h2 5 w e i j v) (p : MPutR h2 h7 5 w e i j v ans) (ot : OtT h h7 5 5 5) (c2 : Cp h7 h9 0 9) (q2 : CpI h7 h9 0 9 240) (c3 : Cp h9 h0 5 0) (q3 : CpI h9 h0 5 0 240) (e2 : ∀ j : Int, g 162 j = h0 162 j) (e3 : ∀ j : Int, g 163 j = h0 163 j) : (mOk h (zqMS h 0) w e i j v ∧ mPR h (zqMS h 0) w e i j v ans (zqMS g 0)) ∧ zqAg (zqMS h 0) (zqMS g 9) ∧ OtT h g 0 5 9 := by
  have ok := mOk_c L B (zqAg.sym ag) ((mOk_ag a).mp ok)
  have b := B w ok.2.1.1 (by have := ok.2.1.2.1; omega)
  have t : h 164 w = 1 := by have := ok.2.1.2.2; omega
  have g0 : zqAg (zqMS h7 5) (zqMS g 0) := fun j x y => by
    rw [MS_eq e2 e3, (Cp_MS c3 q3).1 j x y, (Cp_MS c2 q2).2 5 (by omega) j x y]
  have g9 : zqAg (zqMS h7 0) (zqMS g 9) := fun j x y => by
    rw [MS_eq e2 e3, (Cp_MS c3 q3).2 9 (by omega) j x y, (Cp_MS c2 q2).1 j x y]
  refine ⟨⟨ok, mPR_c L M ok.2.1.1 ok.2.1.2.1 t (kf ok.2.1.1 ok.2.1.2.1 t) (zqAg.sym ag) g0 ((mPR_ag a ma e188).mp p)⟩, zqAg.tr (ot.ms (by omega) (by omega) (by omega) (by omega)) g9, ?_⟩
  exact OtT_e (OtT_Cp (OtT_Cp (ot.w (by omega) (by omega) (by omega)) c2 q2 (by omega)) c3 q3 (by omega)) e2 e3
end
end ZTK
