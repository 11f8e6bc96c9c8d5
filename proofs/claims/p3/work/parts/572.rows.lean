/-! sayings of the reference: how many rows a wall has, in each of its states -/
section MPV
def rc (h : my_H) (b : Int) : Nat → Int
  | 0 => 0
  | n + 1 => rc h b n + h 162 (b + n)
def Rws (h : my_H) : Prop := ∀ s w : Int, 0 ≤ s → s ≤ 15 → 0 ≤ w → w ≤ 2 → rc h (60 * s + 20 * w) 20 ≤ 10
theorem mis_162 : my_is 61 162 := by unfold my_is; decide +kernel
theorem rc_cg {h h' : my_H} {b : Int} : ∀ n : Nat, (∀ k : Nat, k < n → h' 162 (b + k) = h 162 (b + k)) → rc h' b n = rc h b n
  | 0, _ => rfl
  | n + 1, g => by rw [rc, rc, rc_cg n (fun k hk => g k (Nat.lt_succ_of_lt hk)), g n (Nat.lt_succ_self n)]
theorem Rws_ag {h h' : my_H} (g : my_ag [(61, -1)] h h') (p : Rws h) : Rws h' := by
  intro s w a b c d
  rw [rc_cg 20 (fun k _ => g.at mis_162 rfl)]
  exact p s w a b c d
theorem rc_nn {h : my_H} {b : Int} (t : ∀ i : Int, 0 ≤ i → i < ((960 : Nat) : Int) → 0 ≤ h 162 i ∧ h 162 i ≤ 1) (hb : 0 ≤ b) : ∀ n : Nat, b + n ≤ 960 → 0 ≤ rc h b n
  | 0, _ => Int.le_refl 0
  | n + 1, hn => by
    have h1 := rc_nn t hb n (by omega)
    have h2 := t (b + n) (by omega) (by omega)
    rw [rc]
    omega
theorem rc_mono {h : my_H} {b : Int} (t : ∀ i : Int, 0 ≤ i → i < ((960 : Nat) : Int) → 0 ≤ h 162 i ∧ h 162 i ≤ 1) (hb : 0 ≤ b) (m : Nat) : ∀ n : Nat, m ≤ n → b + n ≤ 960 → rc h b m ≤ rc h b n
  | 0, hm, _ => by
    have : m = 0 := by omega
    subst this
    exact Int.le_refl _
  | n + 1, hm, hn => by
    by_cases e : m = n + 1
    · subst e; exact Int.le_refl _
    · have h1 := rc_mono t hb m n (by omega) (by omega)
      have h2 := t (b + n) (by omega) (by omega)
      rw [rc]
      omega
theorem rc_at {h : my_H} {b s : Int} (h0 : 0 ≤ s) : rc h b (s + 1).toNat = rc h b s.toNat + h 162 (b + s) := by
  rw [show (s + 1).toNat = s.toNat + 1 by omega, rc, Int.toNat_of_nonneg h0]
/-- a row is found at k: there are nine before it at most -/
theorem rc_nine {h : my_H} {s w k : Int} (t : ∀ i : Int, 0 ≤ i → i < ((960 : Nat) : Int) → 0 ≤ h 162 i ∧ h 162 i ≤ 1) (p : Rws h) (s0 : 0 ≤ s) (s1 : s ≤ 15) (w0 : 0 ≤ w) (w2 : w ≤ 2) (k0 : 0 ≤ k) (k1 : k < 20) (hk : h 162 (60 * s + 20 * w + k) = 1) : rc h (60 * s + 20 * w) k.toNat ≤ 9 := by
  have h1 := rc_mono t (b := 60 * s + 20 * w) (by omega) (k + 1).toNat 20 (by omega) (by omega)
  rw [rc_at k0, hk] at h1
  have := p s w s0 s1 w0 w2
  omega
theorem rc_up {h h' : my_H} {b i v : Int} (e : h' = my_up h 162 i v) : ∀ n : Nat, rc h' b n = rc h b n + (if b ≤ i ∧ i < b + n then v - h 162 i else 0)
  | 0 => by
    rw [if_neg (by omega)]; rfl
  | n + 1 => by
    rw [rc, rc, rc_up e n]
    by_cases hi : i = b + n
    · subst hi
      rw [my_up_self e, if_neg (by omega), if_pos (by omega)]
      omega
    · rw [my_up_ne (x := 162) (i := b + n) e (by omega)]
      by_cases h2 : b ≤ i ∧ i < b + n
      · rw [if_pos h2, if_pos (by omega)]; omega
      · rw [if_neg h2, if_neg (by omega)]; omega
theorem Rws_off {h h' : my_H} {i v : Int} (e : h' = my_up h 162 i v) (hv : v ≤ h 162 i) (p : Rws h) : Rws h' := by
  intro s w a b c d
  have := p s w a b c d
  rw [rc_up e]
  split <;> omega
/-- a row comes where there are nine at most -/
theorem Rws_on {h h' : my_H} {i v s0 w0 : Int} (e : h' = my_up h 162 i v) (hv : v ≤ 1) (hi : 0 ≤ h 162 i) (a0 : 0 ≤ s0) (b0 : s0 ≤ 15) (c0 : 0 ≤ w0) (d0 : w0 ≤ 2) (hin : 60 * s0 + 20 * w0 ≤ i ∧ i < 60 * s0 + 20 * w0 + 20) (h9 : rc h (60 * s0 + 20 * w0) 20 ≤ 9) (p : Rws h) : Rws h' := by
  intro s w a b c d
  have := p s w a b c d
  rw [rc_up e]
  by_cases hq : 60 * s + 20 * w ≤ i ∧ i < 60 * s + 20 * w + ((20 : Nat) : Int)
  · rw [if_pos hq]
    have : 60 * s + 20 * w = 60 * s0 + 20 * w0 := by omega
    rw [this]
    omega
  · rw [if_neg hq]
    omega
end MPV
section MPW
/-- one state's rows are copied into another -/
def Cp (h h' : my_H) (f t : Int) : Prop := (∀ j : Int, 0 ≤ j → j < 60 → h' 162 (60 * t + j) = h 162 (60 * f + j)) ∧ ∀ j : Int, (j < 60 * t ∨ 60 * t + 60 ≤ j) → h' 162 j = h 162 j
theorem rc_sh {h h' : my_H} {b b' : Int} : ∀ n : Nat, (∀ k : Nat, k < n → h' 162 (b' + k) = h 162 (b + k)) → rc h' b' n = rc h b n
  | 0, _ => rfl
  | n + 1, g => by rw [rc, rc, rc_sh n (fun k hk => g k (Nat.lt_succ_of_lt hk)), g n (Nat.lt_succ_self n)]
theorem rc_Cp {h h' : my_H} {f t w : Int} (p : Cp h h' f t) (w0 : 0 ≤ w) (w2 : w ≤ 2) : rc h' (60 * t + 20 * w) 20 = rc h (60 * f + 20 * w) 20 :=
  rc_sh 20 (fun k hk => by
    have := p.1 (20 * w + k) (by omega) (by omega)
    rw [show 60 * t + 20 * w + (k : Int) = 60 * t + (20 * w + k) by omega, show 60 * f + 20 * w + (k : Int) = 60 * f + (20 * w + k) by omega]
    exact this)
theorem Rws_Cp {h h' : my_H} {f t : Int} (p : Cp h h' f t) (f0 : 0 ≤ f) (f1 : f ≤ 15) (r : Rws h) : Rws h' := by
  intro s w a b c d
  by_cases e : s = t
  · subst e
    rw [rc_Cp p c d]
    exact r f w f0 f1 c d
  · rw [rc_cg 20 (fun k hk => p.2 _ (by omega))]
    exact r s w a b c d
theorem Cp_ag {h h1 h2 : my_H} {f t : Int} (e : ∀ j : Int, h2 162 j = h1 162 j) (p : Cp h h1 f t) : Cp h h2 f t :=
  ⟨fun j a b => by rw [e]; exact p.1 j a b, fun j a => by rw [e]; exact p.2 j a⟩
end MPW
