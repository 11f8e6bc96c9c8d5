/-! tokens go on: there is always a next one; a pane takes at least one sign -/
section MTH
theorem tk_run {t : Int → Int} {n s : Int} : ∀ (m : Nat) (f : Int), (n - f).toNat = m → s < f → f ≤ n → (∀ i : Int, s ≤ i → i < f → tk_k (t i) = tk_k (t s)) → ∃ f' : Int, s < f' ∧ f' ≤ n ∧ (∀ i : Int, s ≤ i → i < f' → tk_k (t i) = tk_k (t s)) ∧ (f' < n → tk_k (t f') ≠ tk_k (t s))
  | 0, f, hm, h1, h2, h3 => ⟨f, h1, h2, h3, fun q => by omega⟩
  | m + 1, f, hm, h1, h2, h3 => by
    by_cases q : tk_k (t f) = tk_k (t s)
    · refine tk_run m (f + 1) (by omega) (by omega) (by omega) (fun i a b => ?_)
      by_cases z : i = f
      · rw [z]; exact q
      · exact h3 i a (by omega)
    · exact ⟨f, h1, h2, h3, fun _ => q⟩
theorem tk_ex {t : Int → Int} {n : Int} : ∀ (m : Nat) (e : Int), (n - e).toNat = m → e ≤ n → ∃ s f k : Int, tk_at t n e s f k
  | 0, e, hm, h1 => ⟨n, n, 0, h1, Int.le_refl n, fun i a b => by omega, Or.inl ⟨rfl, rfl, rfl⟩⟩
  | m + 1, e, hm, h1 => by
    by_cases q : t e = 10 ∨ t e = 32
    · obtain ⟨s, f, k, p1, p2, p3, p4⟩ := tk_ex (t := t) (n := n) m (e + 1) (by omega) (by omega)
      refine ⟨s, f, k, by omega, p2, fun i a b => ?_, p4⟩
      by_cases z : i = e
      · rw [z]; exact q
      · exact p3 i (by omega) b
    · have kb := tk_k_bd (t e)
      have n1 : t e ≠ 10 := fun z => q (Or.inl z)
      have n2 : t e ≠ 32 := fun z => q (Or.inr z)
      by_cases k3 : 3 ≤ tk_k (t e)
      · exact ⟨e, e + 1, tk_k (t e), Int.le_refl e, h1, fun i a b => by omega, Or.inr ⟨by omega, n1, n2, by omega, by omega, fun i a b => by rw [show i = e by omega], fun z => by omega, fun _ => rfl, Or.inl ⟨rfl, fun z => by omega, fun z => by omega⟩⟩⟩
      · obtain ⟨f, r1, r2, r3, r4⟩ := tk_run (t := t) (n := n) (s := e) _ (e + 1) rfl (by omega) (by omega) (fun i a b => by rw [show i = e by omega])
        by_cases lg : (tk_k (t e) = 1 ∧ 8 < f - e) ∨ (tk_k (t e) = 2 ∧ 3 < f - e)
        · exact ⟨e, f, 4, Int.le_refl e, h1, fun i a b => by omega, Or.inr ⟨by omega, n1, n2, r1, r2, r3, fun _ => r4, fun z => absurd z k3, Or.inr ⟨rfl, lg⟩⟩⟩
        · exact ⟨e, f, tk_k (t e), Int.le_refl e, h1, fun i a b => by omega, Or.inr ⟨by omega, n1, n2, r1, r2, r3, fun _ => r4, fun z => absurd z k3, Or.inl ⟨rfl, fun z => by omega, fun z => by omega⟩⟩⟩
def Vd (τ : (Int → Int) × Int) (x : Int) : Prop := ∃ f k : Int, tk_at τ.1 τ.2 x x f k
theorem Vd_n {τ : (Int → Int) × Int} {x : Int} (v : Vd τ x) (hk : tK τ x ≠ 0) : Vd τ (tN τ x) ∧ x < tN τ x ∧ tN τ x ≤ τ.2 := by
  obtain ⟨f, k, p⟩ := v
  obtain ⟨-, q2, q3⟩ := tq_of p
  obtain ⟨-, -, -, p4⟩ := p
  rcases p4 with ⟨-, -, a⟩ | ⟨-, -, -, a4, a5, -⟩
  · omega
  · obtain ⟨s', f', k', r⟩ := tk_ex (t := τ.1) (n := τ.2) _ f rfl a5
    obtain ⟨e1, -, -⟩ := tq_of r
    have e : tN τ x = s' := by
      unfold tN
      rw [q2]
      exact e1
    rw [e]
    exact ⟨⟨f', k', tk_sh r⟩, by have := r.1; omega, r.2.1⟩
theorem Vs {h : my_H} {x : Int} (v : Vd (tp_of h) x) (k : sK (cs h) x ≠ 0) : Vd (tp_of h) (sN (cs h) x) ∧ x < sN (cs h) x := ⟨(Vd_n v k).1, (Vd_n v k).2.1⟩
theorem Ws {h : my_H} {x : Int} (w : sW (cs h) x ≠ 0) : sK (cs h) x ≠ 0 := by
  intro z
  apply w
  show tW (tp_of h) x = 0
  unfold tW
  exact if_neg (by have q : tK (tp_of h) x = 0 := z; omega)
theorem Cu_vd {h : my_H} (c : Cu h) : Vd (tp_of h) (h 82 7) := ⟨h 82 5, h 82 6, c.1⟩
theorem fill_adv {h : my_H} {x b y : Int} (v : Vd (tp_of h) x) (p : fillR (cs h) x b 0 y) : x < y := by
  unfold fillR at p
  rcases p with p | p | ⟨k0, -, p⟩
  · omega
  · omega
  obtain ⟨v1, l1⟩ := Vs v (by omega)
  rcases p with p | p | ⟨k1, -, p⟩
  · omega
  · omega
  obtain ⟨v2, l2⟩ := Vs v1 (by omega)
  rcases p with p | ⟨k2, -, p⟩
  · omega
  obtain ⟨v3, l3⟩ := Vs v2 (by omega)
  omega
theorem cut_adv {h : my_H} {x c y : Int} (v : Vd (tp_of h) x) (p : cutR (cs h) x c 0 y) : x < y := by
  unfold cutR at p
  rcases p with p | p | ⟨k0, -, p⟩
  · omega
  · omega
  obtain ⟨v1, l1⟩ := Vs v (by omega)
  rcases p with p | ⟨w, p⟩
  · omega
  obtain ⟨v2, l2⟩ := Vs v1 (Ws (by omega))
  rcases p with p | p | ⟨k1, -, p⟩
  · omega
  · omega
  obtain ⟨v3, l3⟩ := Vs v2 (by omega)
  rcases p with p | ⟨k2, -, p⟩
  · omega
  obtain ⟨v4, l4⟩ := Vs v3 (by omega)
  omega
theorem sum_adv {h : my_H} {x c y : Int} (v : Vd (tp_of h) x) (p : sumR (cs h) x c 0 y) : x < y := by
  unfold sumR at p
  rcases p with p | p | ⟨k0, -, p⟩
  · omega
  · omega
  obtain ⟨v1, l1⟩ := Vs v (by omega)
  rcases p with p | ⟨w, p⟩
  · omega
  obtain ⟨v2, l2⟩ := Vs v1 (Ws (by omega))
  rcases p with p | ⟨-, p⟩
  · omega
  rcases p with p | p | ⟨k1, -, p⟩
  · omega
  · omega
  obtain ⟨v3, l3⟩ := Vs v2 (by omega)
  rcases p with p | ⟨k2, -, p⟩
  · omega
  obtain ⟨v4, l4⟩ := Vs v3 (by omega)
  omega
theorem join_adv {h : my_H} {cl : Int → Int} {x c y : Int} (v : Vd (tp_of h) x) (p : joinR (cs h) cl x c 0 y) : x < y := by
  unfold joinR at p
  rcases p with p | p | ⟨k0, -, p⟩
  · omega
  · omega
  obtain ⟨v1, l1⟩ := Vs v (by omega)
  rcases p with p | p | ⟨-, -, p⟩
  · omega
  · omega
  rcases p with p | ⟨w, p⟩
  · omega
  obtain ⟨v2, l2⟩ := Vs v1 (Ws (by omega))
  rcases p with p | p | ⟨k1, -, p⟩
  · omega
  · omega
  obtain ⟨v3, l3⟩ := Vs v2 (by omega)
  rcases p with p | ⟨k2, -, p⟩
  · omega
  obtain ⟨v4, l4⟩ := Vs v3 (by omega)
  omega
theorem few_adv {h : my_H} {c y u : Int} : ∀ (k : Nat) {x m : Int} {M : Int → Prop}, Vd (tp_of h) x → fewR (cs h) c k x M m 0 y u → x < y
  | 0, _, _, _, _, p => False.elim p
  | k + 1, x, m, M, v, p => by
    unfold fewR at p
    rcases p with p | p | ⟨k0, -, p⟩
    · omega
    · omega
    obtain ⟨v1, l1⟩ := Vs v (by omega)
    rcases p with ⟨-, p⟩ | ⟨-, p⟩
    · omega
    rcases p with ⟨k1, -, p, -⟩ | ⟨-, p⟩
    · obtain ⟨v2, l2⟩ := Vs v1 (by omega)
      omega
    · have := few_adv k v1 p
      omega
theorem pane_adv {h : my_H} {cl : Int → Int} {b x c s y c' s' : Int} (v : Vd (tp_of h) x) (p : paneR (cs h) cl b x c s 0 y c' s') : x < y := by
  unfold paneR at p
  rcases p with ⟨w, p, -⟩ | p | ⟨w, -, p, -⟩ | ⟨w, -, ⟨k, p⟩, -⟩ | ⟨w, -, p, -⟩ | ⟨w, -, p, -⟩ | p
  · obtain ⟨v1, l1⟩ := Vs v (Ws (by omega))
    have := fill_adv v1 p
    omega
  · omega
  · obtain ⟨v1, l1⟩ := Vs v (Ws (by omega))
    have := cut_adv v1 p
    omega
  · obtain ⟨v1, l1⟩ := Vs v (Ws (by omega))
    have := few_adv k v1 p
    omega
  · obtain ⟨v1, l1⟩ := Vs v (Ws (by omega))
    have := join_adv v1 p
    omega
  · obtain ⟨v1, l1⟩ := Vs v (Ws (by omega))
    have := sum_adv v1 p
    omega
  · omega
/-- the class's whole reading -/
def rdF (h : my_H) (w φ : Int) : Prop := ∃ c b o : Int, readR (cs h) (h 2) (cT h) (cW h) (cB h) w (tS (tp_of h) 0) φ c b o
def rdI (h g : my_H) (w : Int) : Prop := ∀ (k : Nat) (φ c : Int), loopR (cs h) (h 2) (g (h 82 2) 3) k (g 82 7) (g (h 82 2) 4) (g (h 82 2) 9) φ c → readR (cs h) (h 2) (cT h) (cW h) (cB h) w (tS (tp_of h) 0) φ c (g (h 82 2) 3) (g (h 82 2) 1)
theorem rdz_0 {h g : my_H} {w φ : Int} (p : overR (cs h) (h 2) (cT h) (cW h) (cB h) w (tS (tp_of h) 0) φ (g 82 7) (g (h 82 2) 4) (g (h 82 2) 3) (g (h 82 2) 1)) (z : φ = 0) (e : g (h 82 2) 9 = 0) : rdI h g w := by
  subst z
  intro k φ c q
  rw [e] at q
  exact ⟨0, _, _, p, Or.inr ⟨rfl, k, q⟩⟩
theorem rdz_f {h : my_H} {w φ : Int} (p : ∃ y c b o : Int, overR (cs h) (h 2) (cT h) (cW h) (cB h) w (tS (tp_of h) 0) φ y c b o) (z : φ ≠ 0) : rdF h w φ := by
  obtain ⟨y, c, b, o, p⟩ := p
  exact ⟨0, b, o, φ, y, c, p, Or.inl ⟨z, rfl⟩⟩
theorem rdz_s {h g g' : my_H} {w φ : Int} (I : rdI h g w) (k0 : sK (cs h) (g 82 7) ≠ 0) (p : paneR (cs h) (h 2) (g (h 82 2) 3) (g 82 7) (g (h 82 2) 4) (g (h 82 2) 9) φ (g' 82 7) (g' (h 82 2) 4) (g' (h 82 2) 9)) (z : φ = 0) (e3 : g' (h 82 2) 3 = g (h 82 2) 3) (e1 : g' (h 82 2) 1 = g (h 82 2) 1) : rdI h g' w := by
  subst z
  intro k φ c q
  rw [e3] at q ⊢
  rw [e1]
  refine I (k + 1) φ c ?_
  unfold loopR
  exact Or.inr ⟨k0, 0, _, _, _, p, Or.inr ⟨rfl, q⟩⟩
theorem rdz_x {h g : my_H} {w φ : Int} (I : rdI h g w) (k0 : sK (cs h) (g 82 7) ≠ 0) (p : ∃ y c s : Int, paneR (cs h) (h 2) (g (h 82 2) 3) (g 82 7) (g (h 82 2) 4) (g (h 82 2) 9) φ y c s) (z : φ ≠ 0) : rdF h w φ := by
  obtain ⟨y, c, s, p⟩ := p
  refine ⟨0, _, _, I 1 φ 0 ?_⟩
  unfold loopR
  exact Or.inr ⟨k0, φ, y, c, s, p, Or.inl ⟨z, rfl⟩⟩
theorem rdz_e {h g : my_H} {w : Int} (I : rdI h g w) (k0 : sK (cs h) (g 82 7) = 0) : readR (cs h) (h 2) (cT h) (cW h) (cB h) w (tS (tp_of h) 0) 0 (g (h 82 2) 4) (g (h 82 2) 3) (g (h 82 2) 1) := by
  refine I 1 0 _ ?_
  unfold loopR
  exact Or.inl ⟨k0, rfl, rfl⟩
/-- window w is told anew -/
def NewL (h h' : my_H) (w c b o : Int) : Prop := (h' (h' 27 w) 0 = 1 ∧ h' (h' 27 w) 4 = c ∧ h' (h' 27 w) 3 = b ∧ h' (h' 27 w) 1 = o) ∧ ∀ v : Int, 0 ≤ v → v ≤ 5 → v ≠ w → h' 27 v = h 27 v ∧ h' (h 27 v) 0 = h (h 27 v) 0 ∧ h' (h 27 v) 1 = h (h 27 v) 1 ∧ h' (h 27 v) 3 = h (h 27 v) 3 ∧ h' (h 27 v) 4 = h (h 27 v) 4
theorem NewL_swap {h g g1 g2 g3 : my_H} {w S x c b o : Int} (p : Lo h g) (L : Ln g) (hS : S = g 82 2) (w0 : 0 ≤ w) (w5 : w ≤ 5) (u3 : g1 = my_up g S 0 1) (u2 : g2 = my_up g1 27 w S) (u1 : g3 = my_up g2 82 2 x) (ec : g S 4 = c) (eb : g S 3 = b) (eo : g S 1 = o) : NewL h g3 w c b o := by
  subst hS
  have hf := ln_far L.2.2.2.1
  have n27 : g3 27 w = g 82 2 := by rw [my_up_ne u1 (by omega)]; exact my_up_self u2
  have fS : ∀ f : Int, f ≠ 0 → g3 (g 82 2) f = g (g 82 2) f := fun f q => by rw [my_up_ne u1 (by omega), my_up_ne u2 (by omega), my_up_ne u3 (by omega)]
  refine ⟨?_, fun v a b' hv => ?_⟩
  · rw [n27]
    refine ⟨by rw [my_up_ne u1 (by omega), my_up_ne u2 (by omega)]; exact my_up_self u3, ?_, ?_, ?_⟩
    · rw [fS 4 (by decide)]; exact ec
    · rw [fS 3 (by decide)]; exact eb
    · rw [fS 1 (by decide)]; exact eo
  · obtain ⟨p1, p2, p3, p4, p5⟩ := p v a b'
    have hL := L.2.2.1 v a b'
    have hl := ln_far hL
    have ap := ln_apart hL L.2.2.2.1 (L.2.1 v a b')
    rw [p1] at hl ap
    have e27 : g3 27 v = g 27 v := by rw [my_up_ne u1 (by omega), my_up_ne u2 (by omega), my_up_ne u3 (by omega)]
    have fV : ∀ f : Int, g3 (h 27 v) f = g (h 27 v) f := fun f => by rw [my_up_ne u1 (by omega), my_up_ne u2 (by omega), my_up_ne u3 (by omega)]
    rw [fV, fV, fV, fV]
    exact ⟨e27.trans p1, p2, p3, p4, p5⟩
end MTH
