/-! tokens, purely: what is cut out of a tape (both readers are held against this) -/
section MTA
def tk_k (c : Int) : Int := if 97 ≤ c ∧ c ≤ 122 then 1 else if 48 ≤ c ∧ c ≤ 57 then 2 else if c = 59 then 3 else 4
/-- digits' value, letters' value, of the first m signs from s on -/
def tk_dv (t : Int → Int) (s : Int) : Nat → Int
  | 0 => 0
  | m + 1 => 10 * tk_dv t s m + t (s + m) - 48
def tk_wv (t : Int → Int) (s : Int) : Nat → Int
  | 0 => 0
  | m + 1 => 37 * tk_wv t s m + (t (s + m) - 96)
/-- from e on the next token of a tape of n signs: from s to f, of sort k -/
def tk_at (t : Int → Int) (n e s f k : Int) : Prop :=
  e ≤ s ∧ s ≤ n ∧ (∀ i : Int, e ≤ i → i < s → t i = 10 ∨ t i = 32) ∧
  ((s = n ∧ f = n ∧ k = 0) ∨
   (s < n ∧ t s ≠ 10 ∧ t s ≠ 32 ∧ s < f ∧ f ≤ n ∧ (∀ i : Int, s ≤ i → i < f → tk_k (t i) = tk_k (t s)) ∧
    (tk_k (t s) ≤ 2 → f < n → tk_k (t f) ≠ tk_k (t s)) ∧ (3 ≤ tk_k (t s) → f = s + 1) ∧
    ((k = tk_k (t s) ∧ (tk_k (t s) = 1 → f - s ≤ 8) ∧ (tk_k (t s) = 2 → f - s ≤ 3)) ∨
     (k = 4 ∧ ((tk_k (t s) = 1 ∧ 8 < f - s) ∨ (tk_k (t s) = 2 ∧ 3 < f - s))))))
theorem tk_k_bd (c : Int) : 1 ≤ tk_k c ∧ tk_k c ≤ 4 := by
  unfold tk_k
  by_cases h1 : 97 ≤ c ∧ c ≤ 122
  · rw [if_pos h1]; omega
  · rw [if_neg h1]
    by_cases h2 : 48 ≤ c ∧ c ≤ 57
    · rw [if_pos h2]; omega
    · rw [if_neg h2]
      by_cases h3 : c = 59
      · rw [if_pos h3]; omega
      · rw [if_neg h3]; omega
/-- there is but one -/
theorem tk_det {t : Int → Int} {n e s f k s' f' k' : Int} (p : tk_at t n e s f k) (q : tk_at t n e s' f' k') : s' = s ∧ f' = f ∧ k' = k := by
  obtain ⟨p1, p2, p3, p4⟩ := p
  obtain ⟨q1, q2, q3, q4⟩ := q
  have es : s' = s := by
    rcases Int.lt_trichotomy s s' with z | z | z
    · have b := q3 s p1 z
      rcases p4 with ⟨a, -, -⟩ | ⟨-, a1, a2, -⟩ <;> omega
    · exact z.symm
    · have b := p3 s' q1 z
      rcases q4 with ⟨a, -, -⟩ | ⟨-, a1, a2, -⟩ <;> omega
  subst es
  rcases p4 with ⟨a1, a2, a3⟩ | ⟨a1, a2, a3, a4, a5, a6, a7, a8, a9⟩
  · rcases q4 with ⟨b1, b2, b3⟩ | ⟨b1, -⟩
    · exact ⟨rfl, by omega, by omega⟩
    · omega
  · rcases q4 with ⟨b1, b2, b3⟩ | ⟨b1, b2, b3, b4, b5, b6, b7, b8, b9⟩
    · omega
    · have kb := tk_k_bd (t s')
      have ef : f' = f := by
        by_cases z3 : 3 ≤ tk_k (t s')
        · have := a8 z3
          have := b8 z3
          omega
        · rcases Int.lt_trichotomy f f' with z | z | z
          · exact absurd (b6 f (by omega) z) (a7 (by omega) (by omega))
          · exact z.symm
          · exact absurd (a6 f' (by omega) z) (b7 (by omega) (by omega))
      subst ef
      exact ⟨rfl, rfl, by omega⟩
/-- blanks up to s, a sign there, and alike ones to f -/
def tk_A (t : Int → Int) (e s f k : Int) : Prop := (∀ i : Int, e ≤ i → i < s → t i = 10 ∨ t i = 32) ∧ t s ≠ 10 ∧ t s ≠ 32 ∧ tk_k (t s) = k ∧ (∀ i : Int, s ≤ i → i < f → tk_k (t i) = k)
theorem tk_A_0 {t : Int → Int} {e s k s' f' k' : Int} (b : ∀ i : Int, e ≤ i → i < s → t i = 10 ∨ t i = 32) (n1 : t s ≠ 10) (n2 : t s ≠ 32) (kz : tk_k (t s) = k) (es : s' = s) (ef : f' = s + 1) (ek : k' = k) : tk_A t e s' f' k' := by
  subst es; subst ef; subst ek
  refine ⟨b, n1, n2, kz, fun i a c => ?_⟩
  rw [show i = s' by omega]
  exact kz
theorem tk_A_s {t : Int → Int} {e s f k s' f' k' : Int} (p : tk_A t e s f k) (kz : tk_k (t f) = k) (es : s' = s) (ef : f' = f + 1) (ek : k' = k) : tk_A t e s' f' k' := by
  subst es; subst ef; subst ek
  obtain ⟨b, n1, n2, kk, a⟩ := p
  refine ⟨b, n1, n2, kk, fun i u v => ?_⟩
  by_cases q : i < f
  · exact a i u q
  · rw [show i = f by omega]
    exact kz
theorem tk_A_e {t : Int → Int} {e s f k s' f' k' : Int} (p : tk_A t e s f k) (es : s' = s) (ef : f' = f) (ek : k' = k) : tk_A t e s' f' k' := by
  subst es; subst ef; subst ek
  exact p
def tk_N (t : Int → Int) (n s f k : Int) : Prop := (k ≤ 2 → f < n → tk_k (t f) ≠ k) ∧ (3 ≤ k → f = s + 1)
theorem tk_N_e {t : Int → Int} {n s f k s' f' k' : Int} (p : tk_N t n s f k) (es : s' = s) (ef : f' = f) (ek : k' = k) : tk_N t n s' f' k' := by
  subst es; subst ef; subst ek
  exact p
def tk_D (t : Int → Int) (s a k v : Int) : Prop := k = 2 → v = tk_dv t s (min (a - s) 3).toNat
theorem tk_D_0 {t : Int → Int} {s a k v : Int} (ea : a = s) (ev : v = 0) : tk_D t s a k v := by
  subst ea; subst ev
  intro _
  rw [show (min (a - a) 3).toNat = 0 by omega]
  rfl
theorem tk_D_n {t : Int → Int} {s a k v : Int} (hk : k ≠ 2) : tk_D t s a k v := fun q => absurd q hk
theorem tk_D_3 {t : Int → Int} {s a k v s' a' k' v' : Int} (p : tk_D t s a k v) (h3 : 3 ≤ a - s) (es : s' = s) (ea : a' = a + 1) (ek : k' = k) (ev : v' = v) : tk_D t s' a' k' v' := by
  subst es; subst ea; subst ek; subst ev
  intro q
  rw [show (min (a + 1 - s') 3).toNat = (min (a - s') 3).toNat by omega]
  exact p q
theorem tk_D_s {t : Int → Int} {s a k v s' a' k' v' c b : Int} (p : tk_D t s a k v) (h0 : 0 ≤ a - s) (h3 : a - s < 3) (ec : c = t b) (eb : b = a) (es : s' = s) (ea : a' = a + 1) (ek : k' = k) (ev : v' = 10 * v + c - 48) : tk_D t s' a' k' v' := by
  subst es; subst ea; subst ek; subst eb; subst ec; subst ev
  intro q
  rw [show (min (b + 1 - s') 3).toNat = (min (b - s') 3).toNat + 1 by omega, tk_dv, ← p q, show s' + (((min (b - s') 3).toNat : Nat) : Int) = b by omega]
/-- what a reader knows of a token: where it is, its sort, a number's value -/
def tk_T (t : Int → Int) (n e s f k v : Int) : Prop := tk_at t n e s f k ∧ (k = 2 → v = tk_dv t s (f - s).toNat)
theorem tk_end {t : Int → Int} {n e st s f k v : Int} (b : ∀ i : Int, e ≤ i → i < st → t i = 10 ∨ t i = 32) (h1 : e ≤ st) (h2 : st = n) (es : s = st) (ef : f = st) (ek : k = 0) : tk_T t n e s f k v := by
  subst es; subst ef; subst ek; subst h2
  exact ⟨⟨h1, by omega, b, Or.inl ⟨rfl, rfl, rfl⟩⟩, fun q => by omega⟩
theorem tk_fin {t : Int → Int} {n n' e s f k s' f' k' v v' a : Int} (p : tk_A t e s f k) (q : tk_N t n s f k) (D : tk_D t s a k v) (en : n' = n) (h1 : e ≤ s) (h2 : s < f) (h3 : f ≤ n) (ea : a = f) (es : s' = s) (ef : f' = f) (ev : v' = v)
    (hk : (k' = k ∧ (k = 1 → f - s ≤ 8) ∧ (k = 2 → f - s ≤ 3)) ∨ (k' = 4 ∧ ((k = 1 ∧ 8 < f - s) ∨ (k = 2 ∧ 3 < f - s)))) : tk_T t n' e s' f' k' v' := by
  subst en; subst ea; subst es; subst ef; subst ev
  obtain ⟨b, n1, n2, kk, al⟩ := p
  subst kk
  refine ⟨⟨h1, by omega, b, Or.inr ⟨by omega, n1, n2, h2, h3, al, q.1, q.2, hk⟩⟩, fun z => ?_⟩
  have k2 : tk_k (t s') = 2 ∧ f' - s' ≤ 3 := by omega
  rw [D k2.1, show (min (f' - s') 3).toNat = (f' - s').toNat by omega]
/-- the place of reading is on the tape -/
def Al (h : my_H) : Prop := h 82 5 ≤ h 82 4
theorem Al_ag {h h' : my_H} (g : my_ag [(5, 4), (5, 5)] h h') (p : Al h) : Al h' := by
  unfold Al at p ⊢
  rw [g.at (j := 5) pis_82 rfl, g.at (j := 4) pis_82 rfl]
  exact p
end MTA
