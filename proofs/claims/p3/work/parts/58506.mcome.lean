/-! the reference: the row that comes -/
section ZTF
theorem pis_174 : my_is 73 174 := by unfold my_is; decide +kernel
theorem pis_175 : my_is 74 175 := by unfold my_is; decide +kernel
theorem pis_176 : my_is 75 176 := by unfold my_is; decide +kernel
theorem pis_177 : my_is 76 177 := by unfold my_is; decide +kernel
theorem pis_195 : my_is 94 195 := by unfold my_is; decide +kernel
def mFu (h : my_H) (w c : Int) : Int := if c < h 157 (mBs h w) then mFil h w c else 0
def cmM (h : my_H) (w c : Int) : Int := zqCm (zqOg (mBs h w) (h 157 (mBs h w)) (mCW h w)) (mBs h w) (MWd h w).toNat (h 188) (mFu h w) c
theorem CoM {g : my_H} {n b m j c : Int} {P : List zqP} (co : CoI g n (zqOg b m P)) (b0 : 0 ≤ b) (b2 : b ≤ 2) (m4 : m ≤ 4) (wf : zqWf m P) (j0 : 0 ≤ j) (jn : j < n) (c0 : 0 ≤ c) (c3 : c ≤ 3) : (g 176 j = 1 ∧ g 175 j = c) ↔ zqOg b m P j = 4 * b + c := by
  obtain ⟨q1, q2, q3⟩ := co j j0 jn
  have o := zqOg_at (m := m) (j := j) b0 P (fun p hp k4 => by
    obtain ⟨n, q⟩ := zqWf_mem wf hp
    have := q.2.1 k4
    omega)
  constructor
  · rintro ⟨z1, z2⟩
    have r := q1.mp z1
    have s := q2 r.1
    rcases o with o | ⟨i, i0, i1, o⟩ | o
    · omega
    · omega
    · omega
  · intro z
    exact ⟨q1.mpr (by omega), by have := q2 (by omega); omega⟩
/-- looked through from the last column down to k -/
def CmI (og : Int → Int) (t : Int) (D : Int → Int) (W F k v : Int) : Prop := ((∀ j : Int, k < j → j < W → og j ≠ t) ∧ v = F) ∨ ∃ y : Int, k < y ∧ y < W ∧ og y = t ∧ (∀ j : Int, k < j → j < y → og j ≠ t) ∧ v = D y
theorem CmI_0 {og D : Int → Int} {t W F k v : Int} (hk : k = W - 1) (hv : v = F) : CmI og t D W F k v := Or.inl ⟨fun j a b => by omega, hv⟩
theorem CmI_n {og D : Int → Int} {t W F k v v' : Int} (p : CmI og t D W F k v) (n : og k ≠ t) (hv : v' = v) : CmI og t D W F (k - 1) v' := by
  rcases p with ⟨p, q⟩ | ⟨y, y0, y1, e, p, q⟩
  · exact Or.inl ⟨fun j a b => by
      by_cases z : j = k
      · rw [z]; exact n
      · exact p j (by omega) b, hv.trans q⟩
  · exact Or.inr ⟨y, by omega, y1, e, fun j a b => by
      by_cases z : j = k
      · rw [z]; exact n
      · exact p j (by omega) b, hv.trans q⟩
theorem CmI_y {og D : Int → Int} {t W F k v' : Int} (kW : k < W) (n : og k = t) (hv : v' = D k) : CmI og t D W F (k - 1) v' := Or.inr ⟨k, by omega, kW, n, fun j a b => by omega, hv⟩
theorem CmI_e {og D Fu : Int → Int} {b c W F k v : Int} (p : CmI og (4 * b + c) D W F k v) (hk : k = -1) (W0 : 0 ≤ W) (hF : F = Fu c) : v = zqCm og b W.toNat D Fu c := by
  unfold zqCm
  rcases p with ⟨p, q⟩ | ⟨y, y0, y1, e, p, q⟩
  · rw [zqFo_no _ (fun j a b => p j (by omega) (by omega)), q, hF]; rfl
  · rw [zqFo_yes (by omega) e (fun j a b => p j (by omega) b) _ (by omega), q]; rfl
theorem mFf_cg {h g : my_H} {c : Int} (a : my_ag LmF h g) : ∀ (f : Nat) (w : Int), mFf g c f w = mFf h c f w
  | 0, _ => rfl
  | f + 1, w => by
    have e3 : g 173 (4 * w + c) = h 173 (4 * w + c) := a.at pis_173 rfl
    have e5 : g 165 w = h 165 w := a.at pis_165 rfl
    have e6 : g 166 w = h 166 w := a.at pis_166 rfl
    rw [mFf, mFf, e3, e5, e6, mFf_cg a f (h 166 w)]
theorem Fc_hh {h g : my_H} {c w x : Int} (a : my_ag LmF h g) (p : Fc h g c w x) : Fc g g c w x := by
  have e4 : ∀ j : Int, g 164 j = h 164 j := fun j => a.at pis_164 rfl
  have e5 : ∀ j : Int, g 165 j = h 165 j := fun j => a.at pis_165 rfl
  have e6 : ∀ j : Int, g 166 j = h 166 j := fun j => a.at pis_166 rfl
  unfold Fc at p ⊢
  simp only [e4, e5, e6]
  exact p
theorem cmM_cg {h g : my_H} {w : Int} (a : my_ag LmF h g) (e188 : ∀ j : Int, g 188 j = h 188 j) : cmM g w = cmM h w := by
  obtain ⟨e, e157, -⟩ := Lm_e a
  funext c
  unfold cmM
  rw [(e w).1, (e w).2.1, (e w).2.2, e157, show g 188 = h 188 from funext e188]
  have ef : mFu g w = mFu h w := funext fun c => by
    unfold mFu mFil
    rw [(e w).2.1, e157, mFf_cg a]
  rw [ef]
/-- a row is laid where it comes -/
theorem LyP_add {h g : my_H} {s w k a0 a1 a2 a3 r : Int} {f : Int → Int} (hr : r = 60 * s + 20 * w + k) (w0 : 0 ≤ w) (w2 : w ≤ 2) (k0 : 0 ≤ k) (k9 : k ≤ 19) (p : LyP h g r a0 a1 a2 a3) (e0 : a0 = f 0) (e1 : a1 = f 1) (e2 : a2 = f 2) (e3 : a3 = f 3) : zqAg (zqAdd (zqMS h s) w k f) (zqMS g s) := fun j a b => by
  obtain ⟨p1, p2, p3, p4, p5, p6, p7⟩ := p
  unfold zqMS zqAdd
  by_cases z : 80 * w + 4 * k ≤ j ∧ j < 80 * w + 4 * k + 4
  · rw [if_pos z, show 60 * s + j / 4 = r by omega, if_pos p1]
    rcases (by omega : j = 80 * w + 4 * k ∨ j = 80 * w + 4 * k + 1 ∨ j = 80 * w + 4 * k + 2 ∨ j = 80 * w + 4 * k + 3) with y | y | y | y
    · rw [show 240 * s + j = 4 * r by omega, p3, e0, show j - (80 * w + 4 * k) = 0 by omega]
    · rw [show 240 * s + j = 4 * r + 1 by omega, p4, e1, show j - (80 * w + 4 * k) = 1 by omega]
    · rw [show 240 * s + j = 4 * r + 2 by omega, p5, e2, show j - (80 * w + 4 * k) = 2 by omega]
    · rw [show 240 * s + j = 4 * r + 3 by omega, p6, e3, show j - (80 * w + 4 * k) = 3 by omega]
  · rw [if_neg z, p2 _ (by omega), p7 _ (by omega)]
theorem LyP_cg {h k g : my_H} {r a0 a1 a2 a3 : Int} (e2 : ∀ j : Int, k 162 j = h 162 j) (e3 : ∀ j : Int, k 163 j = h 163 j) (p : LyP k g r a0 a1 a2 a3) : LyP h g r a0 a1 a2 a3 := by
  obtain ⟨p1, p2, p3, p4, p5, p6, p7⟩ := p
  exact ⟨p1, fun j hj => (p2 j hj).trans (e2 j), p3, p4, p5, p6, fun j hj => (p7 j hj).trans (e3 j)⟩
/-- how many rows there are -/
theorem rc_Cn {h : my_H} {s w : Int} (T : MTy h) (s0 : 0 ≤ s) (s15 : s ≤ 15) (w0 : 0 ≤ w) (w2 : w ≤ 2) : ∀ n : Nat, n ≤ 20 → rc h (60 * s + 20 * w) n = zqCn (zqMS h s) w n
  | 0, _ => rfl
  | n + 1, hn => by
    have ih := rc_Cn T s0 s15 w0 w2 n (by omega)
    have t := T.2.1 (60 * s + 20 * w + (n : Int)) (by omega) (by omega)
    have q := MS_has T s0 s15 w0 w2 (k := (n : Int)) (by omega) (by omega)
    rw [rc, zqCn, ih]
    by_cases z : h 162 (60 * s + 20 * w + (n : Int)) = 1
    · rw [if_neg (q.mpr z), z]
    · have y : zqMS h s (80 * w + 4 * (n : Int)) = -1 := by
        by_cases x : zqMS h s (80 * w + 4 * (n : Int)) = -1
        · exact x
        · exact absurd (q.mp x) z
      rw [if_pos y]
      omega
/-- the row can come, or not -/
def CmOk (h : my_H) (s w : Int) : Prop := zqCn (zqMS h s) (mBs h w) 20 < 10 ∧ zqMS h s (80 * mBs h w + 4 * cmM h w 0) = -1
theorem CmOk_i {h : my_H} {s w k t n : Int} (T : MTy h) (s0 : 0 ≤ s) (s15 : s ≤ 15) (b0 : 0 ≤ mBs h w) (b2 : mBs h w ≤ 2) (hk : k = cmM h w 0) (k0 : 0 ≤ k) (k9 : k ≤ 19) (ht : t = h 162 (60 * s + 20 * mBs h w + k)) (R : rc h (60 * s + 20 * mBs h w) 20 ≤ 10) : (t ≠ 0 → ¬ CmOk h s w) ∧ (rc h (60 * s + 20 * mBs h w) 20 = 10 → ¬ CmOk h s w) ∧ (t = 0 → rc h (60 * s + 20 * mBs h w) 20 ≠ 10 → CmOk h s w) := by
  have c := rc_Cn T s0 s15 b0 b2 20 (Nat.le_refl _)
  have q := MS_has T s0 s15 b0 b2 k0 k9
  have ty := T.2.1 (60 * s + 20 * mBs h w + k) (by omega) (by omega)
  unfold CmOk
  rw [← hk, ← c]
  refine ⟨fun z y => (q.mpr (by omega)) y.2, fun z y => by omega, fun z y => ⟨by omega, ?_⟩⟩
  by_cases x : zqMS h s (80 * mBs h w + 4 * k) = -1
  · exact x
  · have := q.mp x
    omega
theorem rc_cg9 {h g : my_H} {b : Int} (e : ∀ j : Int, g 162 j = h 162 j) : ∀ n : Nat, rc g b n = rc h b n
  | 0 => rfl
  | n + 1 => by rw [rc, rc, rc_cg9 e n, e]
end ZTF
