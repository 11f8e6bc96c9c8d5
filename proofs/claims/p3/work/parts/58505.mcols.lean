/-! the reference: all columns of a window -/
section ZTE
def CoS (h g : my_H) (w : Int) (P : List zqP) : Prop := CoI g (g 151 27) (zqOg (mBs h w) (h 157 (mBs h w)) P) ∧ g 151 27 = zqW (h 157 (mBs h w)) P
theorem CoS_0 {h g : my_H} {w b : Int} (bc : BcI g b (g 151 27)) (eb : b = mBs h w) (b0 : 0 ≤ b) (b2 : b ≤ 2) (m4 : h 157 (mBs h w) ≤ 4) (e27 : g 151 27 = h 157 (mBs h w)) : CoS h g w [] := by
  subst eb
  refine ⟨?_, e27⟩
  have q := BcI_e (m := h 157 (mBs h w)) bc b0 b2 m4 (by omega)
  rw [e27]
  exact q
theorem mPk_m {h g : my_H} (a : my_ag LmF h g) (p : Int) : mPk g p = mPk h p ∧ ms g p = ms h p := by
  have e157 : ∀ j : Int, g 157 j = h 157 j := fun j => a.at pis_157 rfl
  have e168 : ∀ j : Int, g 168 j = h 168 j := fun j => a.at pis_168 rfl
  have e170 : ∀ j : Int, g 170 j = h 170 j := fun j => a.at pis_170 rfl
  have e171 : ∀ j : Int, g 171 j = h 171 j := fun j => a.at pis_171 rfl
  refine ⟨(mPk_eq e157 e168 (fun j => a.at pis_169 rfl) e170 e171 (fun j => a.at pis_172 rfl)).1, ?_⟩
  funext c
  unfold ms
  rw [e168, e170, e157, e171]
theorem CoS_pane {h h1 g : my_H} {w p : Int} {P : List zqP} (a : my_ag LmF h h1) (c : CoS h h1 w P) (q : PnC h1 g p) (e27 : g 151 27 = ms h1 p (h1 151 27)) (wf : zqWf1 (zqW (h 157 (mBs h w)) P) (mPk h p)) : CoS h g w (mPk h p :: P) := by
  have r := CoI_pane c.1 c.2 q e27 (by rw [(mPk_m a p).1]; exact wf)
  rw [(mPk_m a p).1] at r
  exact r
theorem CoS_cg {h g g1 : my_H} {w : Int} {P : List zqP} (c : CoS h g w P) (e27 : g1 151 27 = g 151 27) (e1 : ∀ j : Int, g1 174 j = g 174 j) (e2 : ∀ j : Int, g1 175 j = g 175 j) (e3 : ∀ j : Int, g1 176 j = g 176 j) : CoS h g1 w P := by
  obtain ⟨c1, c2⟩ := c
  refine ⟨fun j a b => ?_, e27.trans c2⟩
  rw [e1, e2, e3]
  exact c1 j a (by omega)
theorem Fc_bsn {h g : my_H} {W : Int → Int} (M : MwW h W) {c x2 : Int} (x0 : 0 ≤ x2) (x5 : x2 ≤ 5) (t : h 164 x2 = 1) (p : Fc h g c (-1) x2) {j : Int} (j0 : 0 ≤ j) (jc : j < c) : mBs h (g 177 j) = g 151 33 := by
  have key : ∀ n : Nat, (n : Int) < c → mBs h (g 177 n) = g 151 33 := by
    intro n
    induction n with
    | zero =>
      intro hn
      have q := (p.2.1 (by omega)).2.2.2 rfl
      have td := Fc_told x5 t x0 p (j := 0) (by omega) (by omega)
      rw [show ((0 : Nat) : Int) = 0 from rfl, (mCW_eq M td.1 td.2.1 td.2.2).2, if_pos q.1, q.2]
    | succ n ih =>
      intro hn
      obtain ⟨q1, q2⟩ := p.2.2.1 ((n + 1 : Nat) : Int) (by omega) hn
      have td := Fc_told x5 t x0 p (j := ((n + 1 : Nat) : Int)) (by omega) hn
      rw [(mCW_eq M td.1 td.2.1 td.2.2).2, if_neg (by omega), q2, show ((n + 1 : Nat) : Int) - 1 = (n : Int) by omega]
      exact ih (by omega)
  have z := key j.toNat (by omega)
  rw [Int.toNat_of_nonneg j0] at z
  exact z
/-- the pane that is gone through next, as panes can be -/
theorem Fc_wf {h g : my_H} {W : Int → Int} (M : MwW h W) (L : LmW h) {c w k l : Int} (w0 : 0 ≤ w) (w5 : w ≤ 5) (t : h 164 w = 1) (p : Fc h g c (-1) w) (e33 : g 151 33 = mBs h w) (k0 : 0 ≤ k) (kc : k < c) (l0 : 0 ≤ l) (l1 : l < h 167 (g 177 k)) : zqWf1 (zqW (h 157 (mBs h w)) (mPs h (g 177 k) l.toNat ++ mUn h (g 177 k))) (mPk h (6 * g 177 k + l)) := by
  have td := Fc_told w5 t w0 p k0 kc
  have wf := (L _ td.1 td.2.1 td.2.2).1
  rw [Fc_bsn M w0 w5 t p k0 kc, e33, (mCW_eq M td.1 td.2.1 td.2.2).1] at wf
  have q := (mWf_ps wf (s := l.toNat) (by omega)).2
  rw [Int.toNat_of_nonneg l0] at q
  exact q
theorem Pk_at {h g : my_H} {p m : Int} (a : my_ag LmF h g) (wf : zqWf1 m (mPk h p)) (k3 : g 168 p = 3) : ∀ j : Int, 0 ≤ j → j < g 171 p → 0 ≤ g 172 (8 * p + j) ∧ g 172 (8 * p + j) < m := fun j j0 j1 => by
  have e168 : g 168 p = h 168 p := a.at pis_168 rfl
  have e171 : g 171 p = h 171 p := a.at pis_171 rfl
  have e172 : g 172 (8 * p + j) = h 172 (8 * p + j) := a.at pis_172 rfl
  have q := wf.1 (mPk_1.trans (e168.symm.trans k3))
  rw [mPk_n (by omega) (by omega)] at q
  rw [e172]
  exact q.2.2 j j0 (by show j < h 171 p; omega)
end ZTE
