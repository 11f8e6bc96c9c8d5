/-! sayings of the reference: a window that is told; how many ways there may be -/
section MQI
theorem Fp_ag {h h' : my_H} {w : Int} (g : my_ag [(56, -1), (63, -1), (64, -1), (65, -1)] h h') (p : Fp h w) : Fp h' w := by
  have e4 : ∀ j : Int, h' 164 j = h 164 j := fun j => g.at mis_164 rfl
  have e5 : h' 165 6 = h 165 6 := g.at mis_165 rfl
  have e6 : h' 166 6 = h 166 6 := g.at mis_166 rfl
  have e7 : ∀ j : Int, h' 157 j = h 157 j := fun j => g.at mis_157 rfl
  unfold Fp at p ⊢
  rw [e4, e5, e6, e7, e4]
  exact p
theorem Fp_told {h : my_H} {w : Int} (w5 : w ≤ 5) (t : h 164 w = 1) : Fp h w := ⟨fun _ => t, fun q => absurd q (by omega)⟩
theorem rc_split {h : my_H} {b : Int} : ∀ (m n : Nat), rc h b (m + n) = rc h b m + rc h (b + m) n
  | m, 0 => by rw [rc, Nat.add_zero]; omega
  | m, n + 1 => by
    rw [show m + (n + 1) = (m + n) + 1 from rfl, rc, rc, rc_split m n, show b + ((m + n : Nat) : Int) = b + m + n by omega]
    omega
/-- thirty rows at most in a state -/
theorem rc_60 {h : my_H} {s : Int} (t : ∀ i : Int, 0 ≤ i → i < ((960 : Nat) : Int) → 0 ≤ h 162 i ∧ h 162 i ≤ 1) (p : Rws h) (s0 : 0 ≤ s) (s1 : s ≤ 15) (n : Int) (n0 : 0 ≤ n) (n1 : n ≤ 60) : 0 ≤ rc h (60 * s) n.toNat ∧ rc h (60 * s) n.toNat ≤ 30 := by
  have h1 := rc_mono t (b := 60 * s) (by omega) n.toNat 60 (by omega) (by omega)
  have h2 := rc_nn t (b := 60 * s) (by omega) n.toNat (by omega)
  have a0 := p s 0 s0 s1 (by omega) (by omega)
  have a1 := p s 1 s0 s1 (by omega) (by omega)
  have a2 := p s 2 s0 s1 (by omega) (by omega)
  rw [show 60 * s + 20 * 0 = 60 * s by omega] at a0
  rw [show 60 * s + 20 * 1 = 60 * s + 20 by omega] at a1
  rw [show 60 * s + 20 * 2 = 60 * s + 40 by omega] at a2
  have e1 := rc_split (h := h) (b := 60 * s) 20 40
  have e2 := rc_split (h := h) (b := 60 * s + ((20 : Nat) : Int)) 20 20
  rw [show (20 : Nat) + 40 = 60 from rfl] at e1
  rw [show (20 : Nat) + 20 = 40 from rfl, show 60 * s + ((20 : Nat) : Int) + ((20 : Nat) : Int) = 60 * s + 40 by omega] at e2
  rw [e2] at e1
  rw [show 60 * s + ((20 : Nat) : Int) = 60 * s + 20 by omega] at e1
  omega
/-- a row that is there counts -/
theorem rc_60s {h : my_H} {s k : Int} (k0 : 0 ≤ k) : rc h (60 * s) (k + 1).toNat = rc h (60 * s) k.toNat + h 162 (60 * s + k) := rc_at k0
/-- where a column comes from -/
def FwW (h : my_H) (wd : Int) : Prop := ∀ j : Int, 0 ≤ j → j < wd → 0 ≤ h 175 j → 0 ≤ h 174 j
theorem FwW_eq {h h' : my_H} {wd : Int} (e : ∀ j : Int, h' 174 j = h 174 j) (e2 : ∀ j : Int, h' 175 j = h 175 j) (p : FwW h wd) : FwW h' wd := fun j a b => by rw [e, e2]; exact p j a b
end MQI
section MQJ
def Pfw (h : my_H) (p : Int) : Prop := FwW h (h 151 27) ∧ Pk3 h p (h 151 27)
theorem FwW_s {g g' : my_H} {wd wd' : Int} (p : FwW g wd) (h4 : ∀ j : Int, j ≠ wd → g' 174 j = g 174 j ∧ g' 175 j = g 175 j) (h5 : 0 ≤ g' 174 wd) (hw : wd' = wd + 1) : FwW g' wd' := by
  subst hw
  intro j a b c
  by_cases q : j = wd
  · subst q; exact h5
  · rw [(h4 j q).1]
    rw [(h4 j q).2] at c
    exact p j a (by omega) c
theorem FwW_w {g : my_H} {wd wd' : Int} (p : FwW g wd) (hw : wd' ≤ wd) : FwW g wd' := fun j a b c => p j a (by omega) c
end MQJ
