/-! the reference: walls under a window, what fills, the least way -/
section ZTC
def UwB (y b : Int) (P : List zqP) : Prop := ∀ u : Int, 0 ≤ u → u ≤ 2 → (zqbt y u ↔ zqUw b P u)
theorem UwB_0 {y b x : Int} (b0 : 0 ≤ b) (b2 : b ≤ 2) (e : y = bsl 1 x) (hx : x = b) : UwB y b [] := fun u u0 u2 => by
  rw [e, hx, zqbt_bsl (by omega) (by omega) (by omega) (by omega)]
  exact ⟨Or.inl, fun z => z.elim id (fun ⟨p, hp, _⟩ => by cases hp)⟩
theorem zqUw_s {b u : Int} {p : zqP} {P : List zqP} : zqUw b (p :: P) u ↔ zqUw b P u ∨ (p.1 = 4 ∧ p.2.2.1 = u) := by
  unfold zqUw
  constructor
  · rintro (z | ⟨q, hq, e⟩)
    · exact Or.inl (Or.inl z)
    · rcases List.mem_cons.mp hq with r | r
      · rw [r] at e; exact Or.inr e
      · exact Or.inl (Or.inr ⟨q, r, e⟩)
  · rintro ((z | ⟨q, hq, e⟩) | e)
    · exact Or.inl z
    · exact Or.inr ⟨q, List.mem_cons_of_mem _ hq, e⟩
    · exact Or.inr ⟨p, List.mem_cons_self .., e⟩
theorem UwB_j {h : my_H} {y y' b n v p : Int} {P : List zqP} (B : UwB y b P) (k4 : h 168 p = 4) (en : h 170 p = n) (n0 : 0 ≤ n) (n2 : n ≤ 2) (ev : v = bsl 1 n) (e : y' = bor y v) : UwB y' b (mPk h p :: P) := fun u u0 u2 => by
  rw [e, zqbt_bor, ev, zqbt_bsl (by omega) (by omega) (by omega) (by omega), B u u0 u2, zqUw_s, mPk_4 k4]
  refine or_congr_right ⟨fun z => ⟨rfl, by show h 170 p = u; omega⟩, fun z => by have q : h 170 p = u := z.2; omega⟩
theorem UwB_n {h : my_H} {y y' b v p : Int} {P : List zqP} (B : UwB y b P) (k4 : h 168 p ≠ 4) (ev : v = 0) (e : y' = bor y v) : UwB y' b (mPk h p :: P) := fun u u0 u2 => by
  rw [e, zqbt_bor, ev, B u u0 u2, zqUw_s]
  refine or_congr_right ⟨fun z => absurd z zqbt_0, fun z => absurd (mPk_1.symm.trans z.1) k4⟩
theorem mPs_s {h : my_H} {w l : Int} {U : List zqP} (l0 : 0 ≤ l) : mPs h w (l + 1).toNat ++ U = mPk h (6 * w + l) :: (mPs h w l.toNat ++ U) := by
  rw [show (l + 1).toNat = l.toNat + 1 by omega]
  show mPk h (6 * w + ((l.toNat : Nat) : Int)) :: _ = _
  rw [Int.toNat_of_nonneg l0]
  rfl
theorem mWf_ps {h : my_H} {w m : Int} {U : List zqP} : ∀ {n : Nat}, zqWf m (mPs h w n ++ U) → ∀ {s : Nat}, s < n → zqWf m (mPs h w s ++ U) ∧ zqWf1 (zqW m (mPs h w s ++ U)) (mPk h (6 * w + (s : Int)))
  | 0, _, _, hs => by omega
  | n + 1, wf, s, hs => by
    have w' : zqWf m (mPs h w n ++ U) ∧ zqWf1 (zqW m (mPs h w n ++ U)) (mPk h (6 * w + (n : Int))) := wf
    by_cases q : s = n
    · subst q; exact w'
    · exact mWf_ps w'.1 (by omega)
/-- a told window's join is with a wall -/
theorem Lm_join {h : my_H} {W : Int → Int} (M : MwW h W) (L : LmW h) {w l : Int} (w0 : 0 ≤ w) (w5 : w ≤ 5) (t : h 164 w = 1) (l0 : 0 ≤ l) (l1 : l < h 167 w) (k4 : h 168 (6 * w + l) = 4) : 0 ≤ h 170 (6 * w + l) ∧ h 170 (6 * w + l) ≤ 2 := by
  obtain ⟨wf, -⟩ := L w w0 w5 t
  rw [(mCW_eq M w0 w5 t).1] at wf
  have q := (mWf_ps wf (s := l.toNat) (by omega)).2
  rw [Int.toNat_of_nonneg l0, mPk_4 k4] at q
  have r := q.2.1 rfl
  exact ⟨r.2.2.1, r.2.2.2.1⟩
/-- what fills column c of rows that come through window w -/
def mFf (h : my_H) (c : Int) : Nat → Int → Int
  | 0, _ => 0
  | f + 1, w => if 0 ≤ h 173 (4 * w + c) then h 173 (4 * w + c) else if h 165 w = 1 then 0 else mFf h c f (h 166 w)
def mFil (h : my_H) (w c : Int) : Int := mFf h c 6 w
theorem mFf_st {h : my_H} {W : Int → Int} (M : MwW h W) {c : Int} : ∀ (f g : Nat) (w : Int), 0 ≤ w → w ≤ 5 → h 164 w = 1 → w < f → w < g → mFf h c f w = mFf h c g w
  | 0, _, _, w0, _, _, a, _ => by omega
  | _, 0, _, w0, _, _, _, b => by omega
  | f + 1, g + 1, w, w0, w5, t, a, b => by
    obtain ⟨⟨o1, o2, o3, o4, -⟩, -⟩ := M w w0 w5 t
    rw [mFf, mFf]
    by_cases u : h 165 w = 1
    · rw [if_pos u, if_pos u]
    · have q := o4 (by omega)
      rw [if_neg u, if_neg u, mFf_st M f g (h 166 w) o2 (by omega) q.2 (by omega) (by omega)]
theorem mFil_eq {h : my_H} {W : Int → Int} (M : MwW h W) {w c : Int} (w0 : 0 ≤ w) (w5 : w ≤ 5) (t : h 164 w = 1) : mFil h w c = if 0 ≤ h 173 (4 * w + c) then h 173 (4 * w + c) else if h 165 w = 1 then 0 else mFil h (h 166 w) c := by
  obtain ⟨⟨o1, o2, o3, o4, -⟩, -⟩ := M w w0 w5 t
  unfold mFil
  rw [mFf]
  by_cases u : h 165 w = 1
  · rw [if_pos u, if_pos u]
  · have q := o4 (by omega)
    rw [if_neg u, if_neg u, mFf_st M 5 6 (h 166 w) o2 (by omega) q.2 (by omega) (by omega)]
/-- the first so many ways -/
def wyA (h : my_H) (i : Int) : zqY := (h 190 i, h 191 i, h 192 i, h 193 i, h 194 i)
def WyK (h : my_H) (n : Int) : List zqY := zqL (fun i : Nat => wyA h (i : Int)) n.toNat
def LeI (h : my_H) (b n : Int) : Prop := (b < 0 → b = -1 ∧ zqLe (h 157) (WyK h n) = none) ∧ (0 ≤ b → b < n ∧ zqLe (h 157) (WyK h n) = some (wyA h b))
theorem WyK_s {h : my_H} {n : Int} (n0 : 0 ≤ n) : WyK h (n + 1) = wyA h n :: WyK h n := by
  unfold WyK
  rw [show (n + 1).toNat = n.toNat + 1 by omega, zqL, Int.toNat_of_nonneg n0]
theorem LeI_0 {h : my_H} : LeI h (-1) 0 := ⟨fun _ => ⟨rfl, rfl⟩, fun z => by omega⟩
theorem LeI_f {h : my_H} {b n : Int} (n0 : 0 ≤ n) (p : LeI h b n) (b0 : b < 0) : LeI h n (n + 1) := by
  refine ⟨fun z => by omega, fun _ => ⟨by omega, ?_⟩⟩
  rw [WyK_s n0]
  show (match zqLe (h 157) (WyK h n) with | none => some (wyA h n) | some b => if zqPr (h 157) (wyA h n) < zqPr (h 157) b then some (wyA h n) else some b) = _
  rw [(p.1 b0).2]
theorem LeI_y {h : my_H} {b n x y : Int} (n0 : 0 ≤ n) (p : LeI h b n) (b0 : 0 ≤ b) (ex : x = zqPr (h 157) (wyA h n)) (ey : y = zqPr (h 157) (wyA h b)) (lt : x < y) : LeI h n (n + 1) := by
  refine ⟨fun z => by omega, fun _ => ⟨by omega, ?_⟩⟩
  rw [WyK_s n0]
  show (match zqLe (h 157) (WyK h n) with | none => some (wyA h n) | some b => if zqPr (h 157) (wyA h n) < zqPr (h 157) b then some (wyA h n) else some b) = _
  rw [(p.2 b0).2]
  show (if zqPr (h 157) (wyA h n) < zqPr (h 157) (wyA h b) then some (wyA h n) else some (wyA h b)) = _
  rw [if_pos (by omega)]
theorem LeI_n {h : my_H} {b n x y : Int} (n0 : 0 ≤ n) (p : LeI h b n) (b0 : 0 ≤ b) (ex : x = zqPr (h 157) (wyA h n)) (ey : y = zqPr (h 157) (wyA h b)) (lt : ¬ x < y) : LeI h b (n + 1) := by
  refine ⟨fun z => by omega, fun _ => ⟨by have := (p.2 b0).1; omega, ?_⟩⟩
  rw [WyK_s n0]
  show (match zqLe (h 157) (WyK h n) with | none => some (wyA h n) | some b => if zqPr (h 157) (wyA h n) < zqPr (h 157) b then some (wyA h n) else some b) = _
  rw [(p.2 b0).2]
  show (if zqPr (h 157) (wyA h n) < zqPr (h 157) (wyA h b) then some (wyA h n) else some (wyA h b)) = _
  rw [if_neg (by omega)]
theorem Pr_k {h : my_H} {n k : Int} (e : h 190 n = k) (k1 : k ≤ 1) : k = zqPr (h 157) (wyA h n) := by
  unfold zqPr
  have z : (wyA h n).1 = k := e
  rw [if_pos (by omega), z]
theorem Pr_w {h : my_H} {n k w v : Int} (e : h 190 n = k) (k1 : ¬ k ≤ 1) (ew : h 191 n = w) (ev : v = h 157 w) : v = zqPr (h 157) (wyA h n) := by
  unfold zqPr
  have z : (wyA h n).1 = k := e
  have y : (wyA h n).2.1 = w := ew
  rw [if_neg (by omega), y, ev]
def FlI (h : my_H) (w c k : Int) : Prop := (0 ≤ k → mFil h w c = mFil h (h 177 k) c) ∧ (k < 0 → mFil h w c = 0)
theorem Fl_0 {h : my_H} {w c k : Int} (k0 : 0 ≤ k) (e : h 177 k = w) : FlI h w c k := ⟨fun _ => by rw [e], fun z => by omega⟩
theorem Fl_s {h : my_H} {W : Int → Int} (M : MwW h W) {w c k n v : Int} (w0 : 0 ≤ w) (w5 : w ≤ 5) (t : h 164 w = 1) (p : Fc h h n (-1) w) (k0 : 0 ≤ k) (kn : k < n) (q : FlI h w c k) (ev : h 173 (4 * h 177 k + c) = v) (v0 : v < 0) : FlI h w c (k - 1) := by
  obtain ⟨t1, t2, t3⟩ := Fc_told w5 t w0 p k0 kn
  have e := mFil_eq M (c := c) t1 t2 t3
  rw [if_neg (by omega), ← q.1 k0] at e
  by_cases z : k = 0
  · have b := (p.2.1 (by omega)).2.2.2 rfl
    rw [z, if_pos b.1] at e
    exact ⟨fun y => by omega, fun _ => e⟩
  · obtain ⟨b1, b2⟩ := p.2.2.1 k (by omega) kn
    rw [if_neg (by omega), b2] at e
    exact ⟨fun _ => e, fun y => by omega⟩
theorem Fl_y {h : my_H} {W : Int → Int} (M : MwW h W) {w c k n v : Int} (w0 : 0 ≤ w) (w5 : w ≤ 5) (t : h 164 w = 1) (p : Fc h h n (-1) w) (k0 : 0 ≤ k) (kn : k < n) (q : FlI h w c k) (ev : h 173 (4 * h 177 k + c) = v) (v0 : 0 ≤ v) : v = mFil h w c := by
  obtain ⟨t1, t2, t3⟩ := Fc_told w5 t w0 p k0 kn
  have e := mFil_eq M (c := c) t1 t2 t3
  rw [if_pos (by omega), ← q.1 k0] at e
  omega
end ZTC
