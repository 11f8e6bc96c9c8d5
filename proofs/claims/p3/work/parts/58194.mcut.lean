/-! the reference's tokens, all cut at once -/
section MTK
theorem tk_kk (c : Int) : (97 ≤ c ∧ c ≤ 122 → tk_k c = 1) ∧ (tk_k c = 1 → 97 ≤ c ∧ c ≤ 122) ∧ (48 ≤ c ∧ c ≤ 57 → tk_k c = 2) ∧ (tk_k c = 2 → 48 ≤ c ∧ c ≤ 57) ∧ (c = 59 → tk_k c = 3) ∧ (tk_k c = 3 → c = 59) ∧ 1 ≤ tk_k c ∧ tk_k c ≤ 4 := by
  unfold tk_k
  by_cases h1 : 97 ≤ c ∧ c ≤ 122
  · rw [if_pos h1]; omega
  · rw [if_neg h1]
    by_cases h2 : 48 ≤ c ∧ c ≤ 57
    · rw [if_pos h2]; omega
    · rw [if_neg h2]
      by_cases h3 : c = 59
      · rw [if_pos h3]; omega
      · rw [if_neg h3]; omega
theorem tk_mk {t : Int → Int} {n s f κ c : Int} (s0 : s < n) (n1 : t s ≠ 10) (n2 : t s ≠ 32) (h1 : s < f) (h2 : f ≤ n) (hc : tk_k (t s) = c) (al : ∀ i : Int, s ≤ i → i < f → tk_k (t i) = c) (mx : c ≤ 2 → f < n → tk_k (t f) ≠ c) (m1 : 3 ≤ c → f = s + 1) (hk : (κ = c ∧ (c = 1 → f - s ≤ 8) ∧ (c = 2 → f - s ≤ 3)) ∨ (κ = 4 ∧ ((c = 1 ∧ 8 < f - s) ∨ (c = 2 ∧ 3 < f - s)))) : tk_at t n s s f κ := by
  subst hc
  exact ⟨Int.le_refl s, by omega, fun i a b => absurd b (by omega), Or.inr ⟨s0, n1, n2, h1, h2, al, mx, m1, hk⟩⟩
def McT (τ : (Int → Int) × Int) (g : my_H) (i : Int) : Prop := Vd τ (g 154 i) ∧ 0 ≤ g 154 i ∧ g 153 i = tK τ (g 154 i) ∧ (g 153 i = 2 → g 155 i = tV τ (g 154 i) ∧ 0 ≤ g 155 i) ∧ (g 153 i = 1 → g 155 i = tk_wv τ.1 (g 154 i) (tF τ (g 154 i) - g 154 i).toNat) ∧ (g 153 i = 3 → g 155 i = 59)
def Mcu (τ : (Int → Int) × Int) (g : my_H) (n k : Int) : Prop := (∀ i : Int, 0 ≤ i → i < n → McT τ g i ∧ g 153 i ≠ 0) ∧ (∀ i : Int, 0 ≤ i → i + 1 < n → g 154 (i + 1) = tN τ (g 154 i)) ∧ (0 < n → g 154 0 = tS τ 0) ∧ ∃ e : Int, (n = 0 → e = 0) ∧ (0 < n → e = tF τ (g 154 (n - 1))) ∧ 0 ≤ e ∧ e ≤ k ∧ k ≤ τ.2 ∧ ∀ j : Int, e ≤ j → j < k → τ.1 j = 10 ∨ τ.1 j = 32
theorem Mcu_0 {τ : (Int → Int) × Int} {g : my_H} {n k : Int} (hn : n = 0) (hk : k = 0) (h0 : 0 ≤ τ.2) : Mcu τ g n k := by
  subst hn; subst hk
  exact ⟨fun i a b => by omega, fun i a b => by omega, fun z => by omega, 0, fun _ => rfl, fun z => by omega, Int.le_refl 0, Int.le_refl 0, h0, fun j a b => by omega⟩
theorem Mcu_b {τ : (Int → Int) × Int} {g : my_H} {n k k' : Int} (p : Mcu τ g n k) (hk : k' = k + 1) (h2 : k < τ.2) (b : τ.1 k = 10 ∨ τ.1 k = 32) : Mcu τ g n k' := by
  subst hk
  obtain ⟨p1, p2, p3, e, q1, q2, q3, q4, q5, q6⟩ := p
  refine ⟨p1, p2, p3, e, q1, q2, q3, by omega, by omega, fun j a c => ?_⟩
  by_cases z : j = k
  · rw [z]; exact b
  · exact q6 j a (by omega)
theorem Mcu_cg {τ : (Int → Int) × Int} {g g' : my_H} {n k : Int} (p : Mcu τ g n k) (o3 : ∀ i : Int, i < n → g' 153 i = g 153 i) (o4 : ∀ i : Int, i < n → g' 154 i = g 154 i) (o5 : ∀ i : Int, i < n → g' 155 i = g 155 i) : Mcu τ g' n k := by
  obtain ⟨p1, p2, p3, e, q1, q2, q3⟩ := p
  refine ⟨fun i a b => ?_, fun i a b => ?_, fun z => ?_, e, q1, fun z => ?_, q3⟩
  · have := p1 i a b
    unfold McT at this ⊢
    rw [o3 i b, o4 i b, o5 i b]
    exact this
  · rw [o4 _ b, o4 i (by omega)]
    exact p2 i a b
  · rw [o4 0 z]; exact p3 z
  · rw [o4 _ (by omega)]; exact q2 z
theorem Mcu_add {τ : (Int → Int) × Int} {g g' : my_H} {n n' s f κ v : Int} (p : Mcu τ g n s) (n0 : 0 ≤ n) (hn : n' = n + 1) (T : tk_at τ.1 τ.2 s s f κ) (k0 : κ ≠ 0) (e3 : g' 153 n = κ) (e4 : g' 154 n = s) (e5 : g' 155 n = v) (o3 : ∀ i : Int, i < n → g' 153 i = g 153 i) (o4 : ∀ i : Int, i < n → g' 154 i = g 154 i) (o5 : ∀ i : Int, i < n → g' 155 i = g 155 i) (v2 : κ = 2 → v = tk_dv τ.1 s (f - s).toNat ∧ 0 ≤ v) (v1 : κ = 1 → v = tk_wv τ.1 s (f - s).toNat) (v3 : κ = 3 → v = 59) : Mcu τ g' n' f := by
  subst hn
  obtain ⟨p1, p2, p3, e, q1, q2, q3, q4, q5, q6⟩ := Mcu_cg p o3 o4 o5
  have Te : tk_at τ.1 τ.2 e s f κ := ⟨q4, T.2.1, q6, T.2.2.2⟩
  obtain ⟨t1, t2, t3⟩ := tq_of Te
  obtain ⟨-, u2, u3⟩ := tq_of T
  have fn : s < f ∧ f ≤ τ.2 := by
    rcases T.2.2.2 with ⟨-, -, z⟩ | ⟨-, -, -, z1, z2, -⟩
    · exact absurd z k0
    · exact ⟨z1, z2⟩
  refine ⟨fun i a b => ?_, fun i a b => ?_, fun _ => ?_, f, fun z => by omega, fun _ => ?_, by omega, Int.le_refl f, fn.2, fun j a b => by omega⟩
  · by_cases z : i = n
    · subst z
      unfold McT
      rw [e3, e4, e5]
      refine ⟨⟨⟨f, κ, T⟩, by omega, u3.symm, fun z => ?_, fun z => ?_, v3⟩, k0⟩
      · unfold tV; rw [u2]; exact v2 z
      · rw [u2]; exact v1 z
    · exact p1 i a (by omega)
  · by_cases z : i + 1 = n
    · rw [z, e4]
      have w := q2 (by omega)
      rw [show n - 1 = i by omega] at w
      unfold tN
      rw [← w]
      exact t1.symm
    · exact p2 i a (by omega)
  · by_cases z : n = 0
    · subst z
      rw [e4]
      have := q1 rfl
      subst this
      exact t1.symm
    · exact p3 (by omega)
  · rw [show n + 1 - 1 = n by omega, e4]
    exact u2.symm
def Mt (τ : (Int → Int) × Int) (g : my_H) (n : Int) : Prop := 0 ≤ n ∧ g 153 n = 0 ∧ g 154 0 = tS τ 0 ∧ ∀ i : Int, 0 ≤ i → i ≤ n → McT τ g i ∧ (i < n → g 153 i ≠ 0 ∧ g 154 (i + 1) = tN τ (g 154 i))
theorem Mcu_end {τ : (Int → Int) × Int} {g g' : my_H} {n k : Int} (p : Mcu τ g n k) (n0 : 0 ≤ n) (hk : k = τ.2) (e3 : g' 153 n = 0) (e4 : g' 154 n = k) (o3 : ∀ i : Int, i < n → g' 153 i = g 153 i) (o4 : ∀ i : Int, i < n → g' 154 i = g 154 i) (o5 : ∀ i : Int, i < n → g' 155 i = g 155 i) : Mt τ g' n := by
  subst hk
  obtain ⟨p1, p2, p3, e, q1, q2, q3, q4, q5, q6⟩ := Mcu_cg p o3 o4 o5
  have T : tk_at τ.1 τ.2 e τ.2 τ.2 0 := ⟨q4, Int.le_refl _, q6, Or.inl ⟨rfl, rfl, rfl⟩⟩
  obtain ⟨t1, t2, t3⟩ := tq_of T
  obtain ⟨-, u2, u3⟩ := tq_of (tk_sh T)
  refine ⟨n0, e3, ?_, fun i a b => ?_⟩
  · by_cases z : n = 0
    · subst z
      rw [e4, ← t1, q1 rfl]
    · exact p3 (by omega)
  · by_cases z : i = n
    · subst z
      refine ⟨?_, fun w => by omega⟩
      unfold McT
      rw [e3, e4]
      exact ⟨⟨τ.2, 0, tk_sh T⟩, by omega, u3.symm, fun w => by omega, fun w => by omega, fun w => by omega⟩
    · obtain ⟨r1, r2⟩ := p1 i a (by omega)
      refine ⟨r1, fun w => ⟨r2, ?_⟩⟩
      by_cases y : i + 1 = n
      · rw [y, e4, ← t1, q2 (by omega), show n - 1 = i by omega]
        rfl
      · exact p2 i a (by omega)
theorem Mt_cg {τ : (Int → Int) × Int} {g g' : my_H} {n : Int} (p : Mt τ g n) (o3 : ∀ i : Int, g' 153 i = g 153 i) (o4 : ∀ i : Int, g' 154 i = g 154 i) (o5 : ∀ i : Int, g' 155 i = g 155 i) : Mt τ g' n := by
  obtain ⟨p1, p2, p3, p4⟩ := p
  refine ⟨p1, by rw [o3]; exact p2, by rw [o4]; exact p3, fun i a b => ?_⟩
  have := p4 i a b
  unfold McT at this ⊢
  rw [o3, o4, o5, o4]
  exact this
/-- the two streams go alike -/
theorem Mt_bis {hc g : my_H} {n : Int} (p : Mt (tp_of hc) g n) : Bis (cs hc) (sm g) n := by
  obtain ⟨p1, p2, p3, p4⟩ := p
  intro i a b
  obtain ⟨⟨r1, r2, r3, r4, r5, r6⟩, r7⟩ := p4 i a b
  have dK : sK (sm g) i = g 153 i := by
    show (if g 153 i = 3 ∧ g 155 i ≠ 59 then 4 else g 153 i) = _
    exact if_neg (fun z => z.2 (r6 z.1))
  have dW : sW (sm g) i = if g 153 i = 1 then g 155 i else 0 := rfl
  have dP : sP (sm g) i = g 154 i := rfl
  rw [dK, dP]
  refine ⟨r3, fun z => ⟨(r4 z).1, (r4 z).2⟩, ?_, ?_, rfl, r2, fun z => ?_⟩
  · rw [dW]
    show _ = tW (tp_of hc) (g 154 i)
    unfold tW
    rw [← r3]
    by_cases z : g 153 i = 1
    · rw [if_pos z, if_pos z, r5 z]
    · rw [if_neg z, if_neg z]
  · rw [dW]
    intro z w
    exact z (if_neg (by omega))
  · have lt : i < n := by
      rcases Int.lt_or_eq_of_le b with w | w
      · exact w
      · rw [w] at z; exact absurd p2 z
    refine ⟨?_, ?_, (r7 lt).2⟩
    · show 0 ≤ i + 1
      omega
    · show i + 1 ≤ n
      omega
/-- letters' and digits' values as they are gathered -/
theorem tw_0 {t : Int → Int} {s a v : Int} (ea : a = s) (ev : v = 0) : v = tk_wv t s (min (a - s) 8).toNat := by
  subst ea; subst ev
  rw [show (min (a - a) 8).toNat = 0 by omega]
  rfl
theorem tw_s {t : Int → Int} {s a a' v v' : Int} (p : v = tk_wv t s (min (a - s) 8).toNat) (h0 : 0 ≤ a - s) (h8 : a - s < 8) (ea : a' = a + 1) (ev : v' = 37 * v + (t a - 96)) : v' = tk_wv t s (min (a' - s) 8).toNat := by
  subst ea
  rw [show (min (a + 1 - s) 8).toNat = (min (a - s) 8).toNat + 1 by omega, tk_wv, ← p, show s + (((min (a - s) 8).toNat : Nat) : Int) = a by omega]
  exact ev
theorem tw_8 {t : Int → Int} {s a a' v v' : Int} (p : v = tk_wv t s (min (a - s) 8).toNat) (h8 : 8 ≤ a - s) (ea : a' = a + 1) (ev : v' = v) : v' = tk_wv t s (min (a' - s) 8).toNat := by
  subst ea; subst ev
  rw [show (min (a + 1 - s) 8).toNat = (min (a - s) 8).toNat by omega]
  exact p
theorem tw_b {t : Int → Int} {s : Int} : ∀ m : Nat, m ≤ 8 → (∀ i : Nat, i < m → 97 ≤ t (s + i) ∧ t (s + i) ≤ 122) → 0 ≤ tk_wv t s m ∧ tk_wv t s m + 1 ≤ 37 ^ m
  | 0, _, _ => by rw [tk_wv]; decide
  | m + 1, h, b => by
    have q := tw_b (t := t) (s := s) m (by omega) (fun i hi => b i (by omega))
    have c := b m (by omega)
    rw [tk_wv, show (37 : Int) ^ (m + 1) = 37 * 37 ^ m by rw [Int.pow_succ, Int.mul_comm]]
    omega
theorem tw_m : ∀ m : Nat, m ≤ 8 → (37 : Int) ^ m ≤ 3512479453921 := by decide
theorem tw_bd {t : Int → Int} {s a v : Int} (p : v = tk_wv t s (min (a - s) 8).toNat) (h0 : 0 ≤ a - s) (b : ∀ i : Int, s ≤ i → i < a → tk_k (t i) = 1) : 0 ≤ v ∧ v ≤ 3512479453921 := by
  have q := tw_b (t := t) (s := s) (min (a - s) 8).toNat (by omega) (fun i hi => by
    have z := b (s + i) (by omega) (by omega)
    exact (tk_kk _).2.1 z)
  have r := tw_m (min (a - s) 8).toNat (by omega)
  rw [← p] at q
  omega
theorem td_0 {t : Int → Int} {s a v : Int} (ea : a = s) (ev : v = 0) : v = tk_dv t s (min (a - s) 3).toNat := by
  subst ea; subst ev
  rw [show (min (a - a) 3).toNat = 0 by omega]
  rfl
theorem td_s {t : Int → Int} {s a a' v v' : Int} (p : v = tk_dv t s (min (a - s) 3).toNat) (h0 : 0 ≤ a - s) (h8 : a - s < 3) (ea : a' = a + 1) (ev : v' = 10 * v + t a - 48) : v' = tk_dv t s (min (a' - s) 3).toNat := by
  subst ea
  rw [show (min (a + 1 - s) 3).toNat = (min (a - s) 3).toNat + 1 by omega, tk_dv, ← p, show s + (((min (a - s) 3).toNat : Nat) : Int) = a by omega]
  exact ev
theorem td_3 {t : Int → Int} {s a a' v v' : Int} (p : v = tk_dv t s (min (a - s) 3).toNat) (h8 : 3 ≤ a - s) (ea : a' = a + 1) (ev : v' = v) : v' = tk_dv t s (min (a' - s) 3).toNat := by
  subst ea; subst ev
  rw [show (min (a + 1 - s) 3).toNat = (min (a - s) 3).toNat by omega]
  exact p
end MTK
