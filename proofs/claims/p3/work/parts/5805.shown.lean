/-! sayings of the reference: what is shown stays small -/
section MQF
/-- 19 times the power of two -/
def vb (m : Int) : Int := 19 * 2 ^ (10 - m).toNat
theorem vb_s {m : Int} (h : m ≤ 9) : vb m = 2 * vb (m + 1) := by
  unfold vb
  rw [show (10 - m).toNat = (10 - (m + 1)).toNat + 1 by omega, Int.pow_succ]
  omega
theorem vb_all : ∀ m : Fin 11, 19 ≤ vb ((m.val : Nat) : Int) ∧ vb ((m.val : Nat) : Int) ≤ 19456 := by decide +kernel
theorem vb_bd {m : Int} (h0 : 0 ≤ m) (h1 : m ≤ 10) : 19 ≤ vb m ∧ vb m ≤ 19456 := by
  have q := vb_all ⟨m.toNat, by omega⟩
  simp only [Int.toNat_of_nonneg h0] at q
  exact q
theorem vb_mono_all : ∀ m n : Fin 11, n.val ≤ m.val → vb ((m.val : Nat) : Int) ≤ vb ((n.val : Nat) : Int) ∧ (((m.val : Nat) : Int) - ((n.val : Nat) : Int) + 1) * vb ((m.val : Nat) : Int) ≤ vb ((n.val : Nat) : Int) := by decide +kernel
theorem vb_mono {m n : Int} (n0 : 0 ≤ n) (h : n ≤ m) (h1 : m ≤ 10) : vb m ≤ vb n ∧ (m - n + 1) * vb m ≤ vb n := by
  have q := vb_mono_all ⟨m.toNat, by omega⟩ ⟨n.toNat, by omega⟩ (by show n.toNat ≤ m.toNat; omega)
  simp only [Int.toNat_of_nonneg n0, Int.toNat_of_nonneg (show 0 ≤ m by omega)] at q
  exact q
/-- so many times -/
def sb (V d : Int) : Int := (d + 1) * V
theorem sb_s (V d : Int) : sb V (d + 1) = sb V d + V := by
  unfold sb
  rw [show d + 1 + 1 = (d + 1) + 1 from rfl, Int.add_mul (d + 1) 1 V, Int.one_mul]
theorem sb_0 (V : Int) : sb V 0 = V := by unfold sb; omega
theorem sb_le {V d : Int} (v0 : 0 ≤ V) (v1 : V ≤ 19456) (d0 : 0 ≤ d) (d1 : d ≤ 10) : V ≤ sb V d ∧ sb V d ≤ 214016 := by
  unfold sb
  have e : (d + 1) * V = d * V + V := by rw [Int.add_mul, Int.one_mul]
  have h1 : 0 ≤ d * V := Int.mul_nonneg d0 v0
  have h2 : d * V ≤ 10 * V := Int.mul_le_mul_of_nonneg_right d1 v0
  omega
/-- the rows from lo on, below hi: what lies in their first columns is at most V -/
def Shn (h : my_H) (lo hi wd V : Int) : Prop := ∀ i c : Int, lo ≤ i → i < hi → 0 ≤ c → c < wd → h 182 (8 * i + c) ≤ V
theorem Shn_eq {h h' : my_H} {lo hi wd V : Int} (e : ∀ j : Int, h' 182 j = h 182 j) (p : Shn h lo hi wd V) : Shn h' lo hi wd V := fun i c a b d f => by rw [e]; exact p i c a b d f
theorem Shn_V {h : my_H} {lo hi wd V lo' hi' wd' V' : Int} (p : Shn h lo hi wd V) (h1 : lo ≤ lo') (h2 : hi' ≤ hi) (h3 : wd' ≤ wd) (h4 : V ≤ V') : Shn h lo' hi' wd' V' := fun i c a b d f => Int.le_trans (p i c (by omega) (by omega) d (by omega)) h4
/-- a row's new cells: old ones of that row, or at most 19 -/
def RwN (h h' : my_H) (i wd wl : Int) : Prop := ∀ c : Int, 0 ≤ c → c < wl → (∃ c' : Int, 0 ≤ c' ∧ c' < wd ∧ h' 182 (8 * i + c) = h 182 (8 * i + c')) ∨ h' 182 (8 * i + c) ≤ 19
/-- the other rows are the same -/
def RwO (h h' : my_H) (i : Int) : Prop := ∀ j : Int, (j < 8 * i ∨ 8 * i + 8 ≤ j) → h' 182 j = h 182 j
/-- width of a row that is left -/
def wl (h : my_H) (p wd : Int) : Int := if h 168 p = 5 then wd else ms h p wd
theorem wl_8 {h : my_H} {p wd : Int} (hd : wd ≤ 8) (h4 : h 168 p = 4 → wd + h 157 (h 170 p) ≤ 9) (h1 : h 171 p ≤ 8) : wl h p wd ≤ 8 := by
  unfold wl ms
  repeat' split
  all_goals omega
/-- a row is left and moved down -/
theorem Shn_left {h h1 h2 : my_H} {m i left wd wn V : Int} (lo : Shn h 0 left wn V) (hi : Shn h i m wd V) (V19 : 19 ≤ V) (l0 : 0 ≤ left) (li : left ≤ i) (im : i < m) (w8 : wn ≤ 8) (d8 : wd ≤ 8) (n : RwN h h1 i wd wn) (o : RwO h h1 i) (c : ∀ k : Int, 0 ≤ k → k < 8 → h2 182 (8 * left + k) = h1 182 (8 * i + k)) (o2 : RwO h1 h2 left) : Shn h2 0 (left + 1) wn V ∧ Shn h2 (i + 1) m wd V := by
  refine ⟨fun r k a b k0 kw => ?_, fun r k a b k0 kw => ?_⟩
  · by_cases e : r = left
    · subst e
      rw [c k k0 (by omega)]
      rcases n k k0 kw with ⟨c', c0, c1, c2⟩ | q
      · rw [c2]
        exact hi i c' (by omega) im c0 c1
      · omega
    · rw [o2 _ (by omega), o _ (by omega)]
      exact lo r k a (by omega) k0 kw
  · rw [o2 _ (by omega), o _ (by omega)]
    exact hi r k (by omega) b k0 kw
theorem Shn_gone {h h1 : my_H} {m i left wd wn V : Int} (lo : Shn h 0 left wn V) (hi : Shn h i m wd V) (li : left ≤ i) (w8 : wn ≤ 8) (d8 : wd ≤ 8) (o : RwO h h1 i) : Shn h1 0 left wn V ∧ Shn h1 (i + 1) m wd V := by
  refine ⟨fun r k a b k0 kw => ?_, fun r k a b k0 kw => ?_⟩
  · rw [o _ (by omega)]
    exact lo r k a b k0 kw
  · rw [o _ (by omega)]
    exact hi r k (by omega) b k0 kw
end MQF
section MQG
theorem Shn_row {h : my_H} {m wd V : Int} (p : Shn h 0 m wd V) (q : ∀ c : Int, 0 ≤ c → c < wd → h 182 (8 * m + c) ≤ V) : Shn h 0 (m + 1) wd V := fun i c a b c0 cw => by
  by_cases e : i = m
  · subst e; exact q c c0 cw
  · exact p i c a (by omega) c0 cw
theorem Shn_up {h h' : my_H} {m wd V i v : Int} (p : Shn h 0 m wd V) (e : h' = my_up h 182 i v) (hi : 8 * m ≤ i) (w8 : wd ≤ 8) : Shn h' 0 m wd V := fun r c a b c0 cw => by
  rw [my_up_ne e (by omega)]
  exact p r c a b c0 cw
/-- sums: by so many rows, n kinds among i -/
def Sbv (g : my_H) (V n d : Int) : Prop := ∀ j : Int, 0 ≤ j → j < n → g 186 j ≤ V ∧ g 187 j ≤ sb V d
theorem Sbv_eq {g g' : my_H} {V n d : Int} (e : ∀ j : Int, g' 186 j = g 186 j) (e2 : ∀ j : Int, g' 187 j = g 187 j) (p : Sbv g V n d) : Sbv g' V n d := fun j a b => by rw [e, e2]; exact p j a b
theorem Sbv_0 {g : my_H} {V d : Int} : Sbv g V 0 d := fun j a b => by omega
theorem Sbv_m {g g' : my_H} {V n i k s i' : Int} (V0 : 0 ≤ V) (p : Sbv g V n (i - n)) (e : g' = my_up g 187 k s) (hs : s ≤ sb V (i - n) + V) (hi : i' = i + 1) : Sbv g' V n (i' - n) := by
  subst hi
  have es := sb_s V (i - n)
  rw [show i - n + 1 = i + 1 - n by omega] at es
  intro j a b
  obtain ⟨p1, p2⟩ := p j a b
  refine ⟨by rw [my_up_ne e (by omega)]; exact p1, ?_⟩
  by_cases q : j = k
  · subst q
    rw [my_up_self e]
    omega
  · rw [my_up_ne e (by omega)]
    omega
theorem Sbv_n {g g1 g2 g3 : my_H} {V n i k b s n' i' : Int} (V0 : 0 ≤ V) (V1 : V ≤ 19456) (ni : n ≤ i) (n0 : 0 ≤ n) (i10 : i ≤ 10) (p : Sbv g V n (i - n)) (e1 : g1 = my_up g 186 n b) (hb : b ≤ V) (e2 : g2 = my_up g1 187 n 0) (e3 : g3 = my_up g2 187 k s) (hk : k = n) (hs : s ≤ V) (hn : n' = n + 1) (hi : i' = i + 1) : Sbv g3 V n' (i' - n') := by
  subst hk; subst hn; subst hi
  have z := (sb_le V0 V1 (d := i - k) (by omega) (by omega)).1
  rw [show i + 1 - (k + 1) = i - k by omega]
  intro j a c
  by_cases q : j = k
  · subst q
    rw [my_up_self e3, my_up_ne e3 (by omega), my_up_ne e2 (by omega), my_up_self e1]
    exact ⟨hb, by omega⟩
  · rw [my_up_ne e3 (by omega), my_up_ne e2 (by omega), my_up_ne e1 (by omega), my_up_ne e3 (by omega), my_up_ne e2 (by omega), my_up_ne e1 (by omega)]
    exact p j a (by omega)
theorem Shn_2 {g g1 g2 : my_H} {V i a b i' : Int} (p : Shn g 0 i 2 V) (e1 : g1 = my_up g 182 (8 * i) a) (e2 : g2 = my_up g1 182 (8 * i + 1) b) (ha : a ≤ V) (hb : b ≤ V) (hi : i' = i + 1) : Shn g2 0 i' 2 V := by
  subst hi
  intro r c r0 r1 c0 c2
  by_cases q : r = i
  · subst q
    by_cases z : c = 0
    · subst z
      rw [my_up_ne e2 (by omega), show 8 * r + 0 = 8 * r by omega, my_up_self e1]
      exact ha
    · have : c = 1 := by omega
      subst this
      rw [my_up_self e2]
      exact hb
  · rw [my_up_ne e2 (by omega), my_up_ne e1 (by omega)]
    exact p r c r0 (by omega) c0 c2
theorem sb_vb {m n : Int} (n0 : 0 ≤ n) (h : n ≤ m) (h1 : m ≤ 10) : sb (vb m) (m - n) ≤ vb n ∧ vb m ≤ vb n := by
  have q := vb_mono n0 h h1
  exact ⟨q.2, q.1⟩
/-- a row of a pane that leaves all as it is -/
theorem RwN_rf {h : my_H} {i wd wn : Int} (hw : wn ≤ wd) : RwN h h i wd wn := fun c c0 cw => Or.inl ⟨c, c0, by omega, rfl⟩
theorem wl_k {h : my_H} {p wd : Int} (h3 : h 168 p ≠ 3) (h4 : h 168 p ≠ 4) : wl h p wd = wd := by
  unfold wl ms
  repeat' split
  all_goals first | rfl | contradiction | omega
theorem wl_3 {h : my_H} {p wd : Int} (h3 : h 168 p = 3) : wl h p wd = h 171 p := by
  unfold wl ms
  rw [if_neg (by omega), if_neg (by omega), if_neg (by omega), if_pos h3]
theorem wl_4 {h : my_H} {p wd : Int} (h4 : h 168 p = 4) : wl h p wd = wd + h 157 (h 170 p) - 1 := by
  unfold wl ms
  rw [if_neg (by omega), if_neg (by omega), if_pos h4]
end MQG
theorem my_up_at {h g : my_H} {x i j v : Int} (e : g = my_up h x i v) (hj : j = i) : g x j = v := by subst hj; exact my_up_self e
section MQH
theorem Fc_told {h g : my_H} {c x1 j : Int} (hx5 : x1 ≤ 5) (hx : h 164 x1 = 1) (x0 : 0 ≤ x1) (p : Fc h g c (-1) x1) (a : 0 ≤ j) (b : j < c) : 0 ≤ g 177 j ∧ g 177 j ≤ 5 ∧ h 164 (g 177 j) = 1 := by
  by_cases q : j + 1 < c
  · have z := p.2.2.2.2.1 j a q
    exact ⟨(p.2.2.2.2.2 j a b).1, z.1, z.2⟩
  · have e : j = c - 1 := by omega
    subst e
    rw [p.2.2.2.1 (by omega)]
    exact ⟨x0, hx5, hx⟩
theorem wl_5 {h : my_H} {p wd : Int} (h5 : h 168 p = 5) : wl h p wd = wd := by
  unfold wl
  rw [if_pos h5]
/-- the pane that the chain is at -/
theorem Pane_at {h g : my_H} {W : Int → Int} {c x1 j s wd q : Int} (M : Mw3W h W) (hx5 : x1 ≤ 5) (hx : h 164 x1 = 1) (x0 : 0 ≤ x1) (p : Fc h g c (-1) x1) (a : 0 ≤ j) (b : j < c) (s0 : 0 ≤ s) (s1 : s < h 167 (g 177 j)) (f157 : ∀ j : Int, g 157 j = h 157 j) (f168 : ∀ j : Int, g 168 j = h 168 j) (f169 : ∀ j : Int, g 169 j = h 169 j) (f170 : ∀ j : Int, g 170 j = h 170 j) (f171 : ∀ j : Int, g 171 j = h 171 j) (f172 : ∀ j : Int, g 172 j = h 172 j) (hw : wd = mwf h (g 177 j) (mst h W (g 177 j)) s.toNat) (hq : q = 6 * (g 177 j) + s) :
    Pk3 g q wd ∧ (g 168 q = 4 → 0 ≤ g 170 q ∧ g 170 q ≤ 2 ∧ 1 ≤ g 157 (g 170 q) ∧ wd + g 157 (g 170 q) ≤ 9) ∧ ms g q wd = mwf h (g 177 j) (mst h W (g 177 j)) (s + 1).toNat ∧ wl g q wd = wl h q wd ∧ (h 168 q = 4 → wd + h 157 (h 170 q) ≤ 9) ∧ (g 168 q ≠ 5 → ms g q wd = wl h q wd) ∧ (g 168 q = 5 → ms g q wd = 2) := by
  obtain ⟨t0, t1, t2⟩ := Fc_told hx5 hx x0 p a b
  have mk := mok_at (n := h 167 (g 177 j)) (M.1 (g 177 j) t0 t1 t2).1.2.2.2.2 s0 s1
  have m3 := M.2 (g 177 j) t0 t1 t2 s.toNat (by omega)
  have mf := mwf_at (h := h) (w := g 177 j) (c := mst h W (g 177 j)) s0
  rw [Int.toNat_of_nonneg s0, ← hw, ← hq] at m3
  rw [← hw, ← hq] at mk mf
  have em : ms g q wd = ms h q wd := by unfold ms; rw [f168, f170, f157, f171]
  have ew : wl g q wd = wl h q wd := by unfold wl; rw [f168, em]
  refine ⟨?_, ?_, by rw [em]; exact mf.symm, ew, fun z => (mk.1 z).2.2.2, ?_, ?_⟩
  · refine ⟨by rw [f168, f169]; exact m3.1, by rw [f168, f170]; exact m3.2.1, ?_⟩
    rw [f168, f171]
    intro z i i0 i7 il
    rw [f172]
    exact m3.2.2 z i i0 i7 il
  · rw [f168, f170, f157]
    exact mk.1
  · intro z
    rw [← ew]
    unfold wl
    rw [if_neg z]
  · intro z
    unfold ms
    rw [if_pos z]
end MQH
theorem Sbv_d {g : my_H} {V n d d' : Int} (p : Sbv g V n d) (e : d' = d) : Sbv g V n d' := e ▸ p
