/-! the reference's window, read -/
section MTM
def KeepF (h g : my_H) (w : Int) : Prop := Put1 h g 164 w 1 ∧ Put1 h g 165 w (h 165 6) ∧ Put1 h g 166 w (h 166 6) ∧ Put1 h g 167 w (h 167 6) ∧ Cpy h g 168 (6 * w) 6 36 ∧ Cpy h g 169 (6 * w) 6 36 ∧ Cpy h g 170 (6 * w) 6 36 ∧ Cpy h g 171 (6 * w) 6 36 ∧ Cpy h g 172 (48 * w) 48 288
def rmF (h g : my_H) (w φ : Int) : Prop := ∀ W B : Int → Int, MwW h W → BwB h B → ∃ c b o : Int, readR (sm g) (h 157) (h 164) W B w 0 φ c b o
def rmI (h g : my_H) (w : Int) : Prop := ∀ W B : Int → Int, MwW h W → BwB h B → ∀ (k : Nat) (φ c : Int), loopR (sm g) (h 157) (h 157 (g 151 33)) k (g 151 7) (g 151 27) (g 167 6) φ c → readR (sm g) (h 157) (h 164) W B w 0 φ c (h 157 (g 151 33)) (ovo g 6)
theorem rm_0 {h x g : my_H} {w φ : Int} (O : ∀ W B : Int → Int, MwW x W → BwB x B → overR (sm x) (x 157) (x 164) W B w (x 151 7) φ (g 151 7) (g 151 27) (g 157 (g 151 33)) (ovo g 6)) (K : Ko h x) (e1 : ∀ j : Int, x 157 j = h 157 j) (e2 : ∀ j : Int, g 157 j = h 157 j) (e3 : ∀ j : Int, x 164 j = h 164 j) (t : ∀ k : Int, 0 ≤ k → k ≤ 6 → 0 ≤ h 167 k ∧ h 167 k ≤ 6) (z : φ = 0) (a0 : x 151 7 = 0) (es : sm g = sm x) (p6 : g 167 6 = 0) : rmI h g w := by
  subst z
  intro W B hW hB k φ c q
  have o := O W B (MwW_ko K e1 t hW) (BwB_ko K e1 hB)
  rw [a0, e2, show x 157 = h 157 from funext e1, show x 164 = h 164 from funext e3, ← es] at o
  rw [p6] at q
  exact ⟨0, _, _, o, Or.inr ⟨rfl, k, q⟩⟩
theorem rm_f {h x g : my_H} {w φ : Int} (O : ∀ W B : Int → Int, MwW x W → BwB x B → ∃ y c b o : Int, overR (sm x) (x 157) (x 164) W B w (x 151 7) φ y c b o) (K : Ko h x) (e1 : ∀ j : Int, x 157 j = h 157 j) (e3 : ∀ j : Int, x 164 j = h 164 j) (t : ∀ k : Int, 0 ≤ k → k ≤ 6 → 0 ≤ h 167 k ∧ h 167 k ≤ 6) (z : φ ≠ 0) (a0 : x 151 7 = 0) (es : sm g = sm x) : rmF h g w φ := by
  intro W B hW hB
  obtain ⟨y, c, b, o, p⟩ := O W B (MwW_ko K e1 t hW) (BwB_ko K e1 hB)
  rw [a0, show x 157 = h 157 from funext e1, show x 164 = h 164 from funext e3, ← es] at p
  exact ⟨0, b, o, φ, y, c, p, Or.inl ⟨z, rfl⟩⟩
theorem rm_s {h x g : my_H} {w φ : Int} (I : rmI h x w) (k0 : sK (sm x) (x 151 7) ≠ 0) (p : paneR (sm x) (x 157) (x 157 (x 151 33)) (x 151 7) (x 151 27) (x 167 6) φ (g 151 7) (g 151 27) (g 167 6)) (e1 : ∀ j : Int, x 157 j = h 157 j) (z : φ = 0) (es : sm g = sm x) (e33 : g 151 33 = x 151 33) (eo : ovo g 6 = ovo x 6) : rmI h g w := by
  subst z
  intro W B hW hB k φ c q
  rw [e1, show x 157 = h 157 from funext e1] at p
  rw [e33, es] at q
  rw [e33, eo, es]
  refine I W B hW hB (k + 1) φ c ?_
  unfold loopR
  exact Or.inr ⟨k0, 0, _, _, _, p, Or.inr ⟨rfl, q⟩⟩
theorem rm_x {h x g : my_H} {w φ : Int} (I : rmI h x w) (k0 : sK (sm x) (x 151 7) ≠ 0) (p : ∃ y c s : Int, paneR (sm x) (x 157) (x 157 (x 151 33)) (x 151 7) (x 151 27) (x 167 6) φ y c s) (e1 : ∀ j : Int, x 157 j = h 157 j) (z : φ ≠ 0) (es : sm g = sm x) : rmF h g w φ := by
  obtain ⟨y, c, s, p⟩ := p
  rw [e1, show x 157 = h 157 from funext e1] at p
  intro W B hW hB
  rw [es]
  refine ⟨0, _, _, I W B hW hB 1 φ 0 ?_⟩
  unfold loopR
  exact Or.inr ⟨k0, φ, y, c, s, p, Or.inl ⟨z, rfl⟩⟩
theorem rm_e {h x : my_H} {w : Int} (I : rmI h x w) (k0 : sK (sm x) (x 151 7) = 0) : ∀ W B : Int → Int, MwW h W → BwB h B → readR (sm x) (h 157) (h 164) W B w 0 0 (x 151 27) (h 157 (x 151 33)) (ovo x 6) := by
  intro W B hW hB
  refine I W B hW hB 1 0 _ ?_
  unfold loopR
  exact Or.inl ⟨k0, rfl, rfl⟩
theorem sK_0 {x : my_H} {i v : Int} (e : v = x 153 i) : (v = 0 → sK (sm x) i = 0) ∧ (v ≠ 0 → sK (sm x) i ≠ 0) := by
  have q := sK_ld e
  by_cases z : v = 3
  · by_cases w : sV (sm x) i = 59
    · have := q.2.1 z w
      omega
    · have := q.2.2 z w
      omega
  · have := q.1 z
    omega
/-- window w is told anew -/
theorem MwW_keep {h g : my_H} {w : Int} {W : Int → Int} (M : Mq h w) (hW : MwW h W) (w0 : 0 ≤ w) (w5 : w ≤ 5) (hu : ∀ k : Int, 0 ≤ k → k ≤ 5 → h 164 k = 1 → h 165 k = 0 → h 166 k ≠ w) (e1 : ∀ j : Int, g 157 j = h 157 j) (F : KeepF h g w) : MwW g (fun k => if k = w then h 151 27 else W k) := by
  obtain ⟨p4, p5, p6, p7, c8, c9, c0, c1, c2⟩ := F
  obtain ⟨⟨W0, ⟨M1, -⟩, D, -, F0⟩, t⟩ := M
  rw [mst_uniq M1 hW (by omega) D] at F0
  obtain ⟨d1, d2, d3, d4, d5⟩ := D
  rw [mst_uniq M1 hW (by omega) ⟨d1, d2, d3, d4, d5⟩] at d5
  have nw : ∀ a : Int, Cpy h g a (6 * w) 6 36 → ∀ k : Int, 0 ≤ k → k < 6 → g a (6 * w + k) = h a (36 + k) := fun a c k k0 k6 => by rw [c, if_pos (by omega), show 6 * w + k - 6 * w + 36 = 36 + k by omega]
  have nf : ∀ a : Int, Cpy h g a (6 * w) 6 36 → ∀ j : Int, j < 6 * w ∨ 6 * w + 6 ≤ j → g a j = h a j := fun a c j q => by rw [c, if_neg (by omega)]
  have q4 : ∀ j : Int, j ≠ w → g 164 j = h 164 j := fun j q => by rw [p4, if_neg q]
  have q5 : ∀ j : Int, j ≠ w → g 165 j = h 165 j := fun j q => by rw [p5, if_neg q]
  have q6 : ∀ j : Int, j ≠ w → g 166 j = h 166 j := fun j q => by rw [p6, if_neg q]
  have q7 : ∀ j : Int, j ≠ w → g 167 j = h 167 j := fun j q => by rw [p7, if_neg q]
  have r5 : g 165 w = h 165 6 := by rw [p5, if_pos rfl]
  have r6 : g 166 w = h 166 6 := by rw [p6, if_pos rfl]
  have r7 : g 167 w = h 167 6 := by rw [p7, if_pos rfl]
  have t6 := t 6 (by omega) (by omega)
  have hst : ∀ k : Int, 0 ≤ k → k ≤ 5 → k ≠ w → h 164 k = 1 → mst g (fun k => if k = w then h 151 27 else W k) k = mst h W k := by
    intro k a b c e
    obtain ⟨⟨o1, o2, o3, o4, -⟩, -⟩ := hW k a b e
    unfold mst
    rw [q5 k c, q6 k c]
    by_cases z : h 165 k = 1
    · rw [if_pos z, if_pos z, e1]
    · rw [if_neg z, if_neg z]
      show (if h 166 k = w then h 151 27 else W (h 166 k)) = _
      rw [if_neg (hu k a b e (by omega))]
  have hsw : mst g (fun k => if k = w then h 151 27 else W k) w = mst h W 6 := by
    unfold mst
    rw [r5, r6]
    by_cases z : h 165 6 = 1
    · rw [if_pos z, if_pos z, e1]
    · rw [if_neg z, if_neg z]
      show (if h 166 6 = w then h 151 27 else W (h 166 6)) = _
      rw [if_neg (by have := (d4 (by omega)).1; omega)]
  have hwf : ∀ (c : Int) (n : Nat), n ≤ 6 → mwf g w c n = mwf h 6 c n := by
    intro c n
    induction n with
    | zero => intro _; rfl
    | succ n ih =>
      intro hn
      rw [mwf, mwf, ih (by omega)]
      unfold ms
      rw [nw 168 c8 n (by omega) (by omega), nw 170 c0 n (by omega) (by omega), nw 171 c1 n (by omega) (by omega), e1, show 6 * (6 : Int) + n = 36 + n by omega]
  have pn : ∀ k : Int, 0 ≤ k → k ≤ 5 → k ≠ w → ∀ j : Int, 6 * k ≤ j → j < 6 * k + (h 167 k).toNat → j < 6 * w ∨ 6 * w + 6 ≤ j := by
    intro k a b c j u v
    have := t k a (by omega)
    omega
  intro k a b c
  by_cases hk : k = w
  · subst hk
    rw [hsw, r7, hwf _ _ (by omega), F0]
    refine ⟨⟨by rw [r5]; exact d1, by rw [r6]; exact d2, by rw [r5, r6, e1]; exact d3, ?_, ?_⟩, (if_pos rfl).symm⟩
    · rw [r5, r6]
      intro z
      obtain ⟨z1, z2⟩ := d4 z
      exact ⟨z1, by rw [q4 _ (by omega)]; exact z2⟩
    · rw [hsw, r7]
      intro j hj
      have dj := d5 j hj
      rw [show 6 * (6 : Int) + j = 36 + j by omega] at dj
      rw [nw 168 c8 j (by omega) (by omega), nw 170 c0 j (by omega) (by omega), e1, hwf _ _ (by omega)]
      exact dj
  · rw [q4 k hk] at c
    obtain ⟨r1, r2⟩ := hW k a b c
    obtain ⟨o1, o2, o3, o4, o5⟩ := r1
    have far : ∀ j : Int, 6 * k ≤ j → j < 6 * k + (h 167 k).toNat → g 168 j = h 168 j ∧ g 170 j = h 170 j ∧ g 171 j = h 171 j := fun j u v => ⟨nf 168 c8 j (pn k a b hk j u v), nf 170 c0 j (pn k a b hk j u v), nf 171 c1 j (pn k a b hk j u v)⟩
    rw [hst k a b hk c, q7 k hk, mwf_far _ far e1, r2]
    refine ⟨⟨by rw [q5 k hk]; exact o1, by rw [q6 k hk]; exact o2, by rw [q5 k hk, q6 k hk, e1]; exact o3, ?_, ?_⟩, (if_neg hk).symm⟩
    · rw [q5 k hk, q6 k hk]
      intro z
      obtain ⟨z1, z2⟩ := o4 z
      exact ⟨z1, by rw [q4 _ (hu k a b c z)]; exact z2⟩
    · rw [hst k a b hk c, q7 k hk]
      exact mok_far far e1 o5
end MTM
