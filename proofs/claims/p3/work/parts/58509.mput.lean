/-! the reference: an edit is put -/
section ZTI
noncomputable def MAl (h : my_H) (s w : Int) (W : List zqR) : List zqY := zqAl (zqMA h) (zqMS h s) (mBs h w) (h 157 (mBs h w)) (mCW h w) W (cmM h w)
def MPutR (h g : my_H) (s w e i j v ans : Int) : Prop := ∃ W : List zqR, WnM h s w e i j v W ∧ ((zqLe (h 157) (MAl h s w W) = none ∧ ans = -1 ∧ zqAg (zqMS h s) (zqMS g s)) ∨ ∃ y : zqY, zqLe (h 157) (MAl h s w W) = some y ∧ ans = zqPr (h 157) y ∧ zqAg (zqPut (zqMS h s) y (cmM h w)) (zqMS g s))
/-- other states than s (and the trial's) stay -/
def OtS (h g : my_H) (s : Int) : Prop := (∀ j : Int, (j < 480 ∨ 540 ≤ j) → (j < 60 * s ∨ 60 * s + 60 ≤ j) → g 162 j = h 162 j) ∧ ∀ j : Int, (j < 1920 ∨ 2160 ≤ j) → (j < 240 * s ∨ 240 * s + 240 ≤ j) → g 163 j = h 163 j
theorem OtS_8 {h g : my_H} {s : Int} (p : Ot8 h g) : OtS h g s := ⟨fun j a _ => p.1 j a, fun j a _ => p.2 j a⟩
theorem OtS_eq {h g g1 : my_H} {s : Int} (p : OtS h g s) (e2 : ∀ j : Int, (j < 60 * s ∨ 60 * s + 60 ≤ j) → g1 162 j = g 162 j) (e3 : ∀ j : Int, (j < 240 * s ∨ 240 * s + 240 ≤ j) → g1 163 j = g 163 j) : OtS h g1 s := ⟨fun j a b => (e2 j b).trans (p.1 j a b), fun j a b => (e3 j b).trans (p.2 j a b)⟩
theorem Ot8_MS {h g : my_H} {s : Int} (p : Ot8 h g) (s0 : 0 ≤ s) (s15 : s ≤ 15) (s8 : s ≠ 8) : zqAg (zqMS h s) (zqMS g s) := fun j a b => by
  unfold zqMS
  rw [p.1 _ (by omega), p.2 _ (by omega)]
theorem MdOk_cg {h g : my_H} {s w e i j v : Int} (a : my_ag LmF h g) (ms : zqMS g s = zqMS h s) (p : MdOk h s w e i j v) : MdOk g s w e i j v := by
  obtain ⟨q, e157, e164, -⟩ := Lm_e a
  unfold MdOk at p ⊢
  rw [ms, (q w).1, (q w).2.1, e157, e164]
  exact p
/-- what lies ready before the least way is done -/
def MPB (h g : my_H) (s w e i j v : Int) : Prop := FwA h g s w e i j v ∧ FwZ h g s w ∧ Ot8 h g
theorem MPB_mk {h h1 g : my_H} {s w e i j v : Int} (a : my_ag LmF h h1) (ma : zqMA h1 = zqMA h) (e188 : ∀ j : Int, h1 188 j = h 188 j) (e2 : ∀ j : Int, h1 162 j = h 162 j) (e3 : ∀ j : Int, h1 163 j = h 163 j) (p : FwA h1 g s w e i j v) (q : FwZ h1 g s w) (o : Ot8 h1 g) : MPB h g s w e i j v := by
  obtain ⟨r, e157, -⟩ := Lm_e a
  have ms : zqMS h1 s = zqMS h s := MS_eq e2 e3
  have cm := cmM_cg (w := w) a e188
  unfold FwA WnM at p
  unfold FwZ at q
  rw [ms, (r w).1, (r w).2.1, (r w).2.2, e157, show h1 188 = h 188 from funext e188] at p
  rw [ms, ma, (r w).1, (r w).2.1, (r w).2.2, e157, cm] at q
  exact ⟨p, q, ⟨fun j x => (o.1 j x).trans (e2 j), fun j x => (o.2 j x).trans (e3 j)⟩⟩
section
variable {h g g1 : my_H} {s w e i j v b : Int}
theorem MP_0 (s0 : 0 ≤ s) (s15 : s ≤ 15) (s8 : s ≠ 8) (B : MPB h g s w e i j v) (e157 : ∀ j : Int, g 157 j = h 157 j) (le : LeI g b (g 151 48)) (b0 : b < 0) : MPutR h g s w e i j v (-1) := by
  obtain ⟨A, Z, O⟩ := B
  have q := (le.1 b0).2
  rw [show g 157 = h 157 from funext e157, show WyK g (g 151 48) = WyL g from rfl, show WyL g = _ from Z] at q
  exact ⟨_, A.1, Or.inl ⟨q, rfl, Ot8_MS O s0 s15 s8⟩⟩
/-- all that is known of the way -/
theorem MP_y (L : LmW h) (w0 : 0 ≤ w) (w5 : w ≤ 5) (t : h 164 w = 1) (T : MTy h) (D : zqWo (zqMA h) (zqMS h s)) (kf : ∀ c : Int, 0 ≤ c → c ≤ 3 → 0 ≤ cmM h w c ∧ cmM h w c ≤ 19) (B : MPB h g s w e i j v) (e157 : ∀ j : Int, g 157 j = h 157 j) (le : LeI g b (g 151 48)) (b0 : 0 ≤ b) : zqLe (h 157) (MAl h s w (WLm g (MWd h w))) = some (wyA g b) ∧ zqWo (zqMA h) (zqPut (zqMS h s) (wyA g b) (cmM h w)) ∧ (0 ≤ g 190 b ∧ g 190 b ≤ 3) ∧ (g 190 b ≠ 0 → 0 ≤ g 191 b ∧ g 191 b ≤ 2 ∧ 0 ≤ g 192 b ∧ g 192 b ≤ 19) ∧ (g 190 b = 1 → 1 ≤ g 193 b ∧ g 193 b ≤ 3 ∧ 0 ≤ g 194 b ∧ g 194 b ≤ 19) ∧ (g 190 b = 2 → zqMS h s (80 * g 191 b + 4 * g 192 b) ≠ -1) ∧ (g 190 b = 3 → g 191 b = mBs h w ∧ g 192 b = cmM h w 0 ∧ zqCn (zqMS h s) (mBs h w) 20 < 10 ∧ zqMS h s (80 * mBs h w + 4 * cmM h w 0) = -1) := by
  obtain ⟨A, Z, O⟩ := B
  obtain ⟨wf, c0, c2, m1, m4⟩ := L w w0 w5 t
  have q := (le.2 b0).2
  rw [show g 157 = h 157 from funext e157, show WyK g (g 151 48) = WyL g from rfl, show WyL g = _ from Z] at q
  refine ⟨q, ?_⟩
  have r := Put_ok (b := mBs h w) (m := h 157 (mBs h w)) (P := mCW h w) (W := WLm g (MWd h w)) (f := cmM h w) D c0 c2 (fun u a b => (T.2.2.2 u a (by omega)).2) (fun p a b => T.2.2.1 p a (by omega)) m1 kf (fun c a b => ?_) (zqLe_mem q)
  · exact r
  · have a' : h 157 (mBs h w) ≤ c := a
    unfold cmM zqCm
    rw [zqFo_no _ (fun k x y => by
      rcases zqOg_at (m := h 157 (mBs h w)) (j := k) c0 (mCW h w) (fun p hp k4 => by
        obtain ⟨n, q⟩ := zqWf_mem wf hp
        have := q.2.1 k4
        omega) with z | ⟨i, i0, i1, z⟩ | z
      · omega
      · omega
      · omega)]
    show mFu h w c = 0
    unfold mFu
    rw [if_neg (by omega)]
theorem zqSet_g {S S' : Int → Int} {x y v u : Int} (e : zqAg S S') (hx : x = y) (hv : v = u) : zqAg (zqSet S x v) (zqSet S' y u) := by
  subst hx; subst hv; exact zqSet_a e
end
theorem MS_dr {g g1 : my_H} {s w k i : Int} (e : g1 = my_up g 162 i 0) (hi : i = 60 * s + 20 * w + k) (w0 : 0 ≤ w) (w2 : w ≤ 2) (k0 : 0 ≤ k) (k9 : k ≤ 19) : zqAg (zqDrop (zqMS g s) w k) (zqMS g1 s) := fun j a b => by
  have e3 : ∀ k : Int, g1 163 k = g 163 k := fun k => my_up_ne e (by omega)
  by_cases z : j / 4 = 20 * w + k
  · have e1 : g1 162 (60 * s + j / 4) = 0 := by rw [show 60 * s + j / 4 = i by omega]; exact my_up_self e
    unfold zqMS zqDrop
    rw [if_neg (by omega)]
    by_cases y : j % 4 = 0
    · rw [if_pos y, if_pos (by omega)]
    · rw [if_neg y, if_neg (by omega), if_pos (by omega)]
  · have e1 : g1 162 (60 * s + j / 4) = g 162 (60 * s + j / 4) := my_up_ne e (by omega)
    rw [zqDrop_off j (by omega)]
    unfold zqMS
    rw [e1, e3]
end ZTI
