/-! which law a column breaks, if any -/
section ZQH
def qElse (S : Int → Int) (w k c v : Int) : Prop := ∃ i : Int, 0 ≤ i ∧ i ≤ 19 ∧ i ≠ k ∧ S (80 * w + 4 * i) ≠ -1 ∧ S (80 * w + 4 * i + c) = v
def qOut (S : Int → Int) (w c f t : Int) : Nat → Int
  | 0 => 0
  | n + 1 => qOut S w c f t n + (if S (80 * w + 4 * (n : Int)) ≠ -1 ∧ (S (80 * w + 4 * (n : Int) + c) < f ∨ t < S (80 * w + 4 * (n : Int) + c)) then 1 else 0)
theorem qOut_s {S : Int → Int} {w c f t y k : Int} (k0 : 0 ≤ k) (e : y = qOut S w c f t k.toNat) : (S (80 * w + 4 * k) ≠ -1 ∧ (S (80 * w + 4 * k + c) < f ∨ t < S (80 * w + 4 * k + c)) → y + 1 = qOut S w c f t (k + 1).toNat) ∧ (¬ (S (80 * w + 4 * k) ≠ -1 ∧ (S (80 * w + 4 * k + c) < f ∨ t < S (80 * w + 4 * k + c))) → y = qOut S w c f t (k + 1).toNat) := by
  rw [show (k + 1).toNat = k.toNat + 1 by omega, qOut, Int.toNat_of_nonneg k0, ← e]
  exact ⟨fun h => by rw [if_pos h], fun h => by rw [if_neg h, Int.add_zero]⟩
def qSp (S : Int → Int) (w c f t : Int) : Prop := ∃ k : Int, 0 ≤ k ∧ k ≤ 19 ∧ S (80 * w + 4 * k) ≠ -1 ∧ (S (80 * w + 4 * k + c) < f ∨ t < S (80 * w + 4 * k + c))
def qNm (S : Int → Int) (w c o : Int) : Prop := ∃ k : Int, 0 ≤ k ∧ k ≤ 19 ∧ S (80 * w + 4 * k) ≠ -1 ∧ ¬ zqHas S o (S (80 * w + 4 * k + c))
def qOn (S : Int → Int) (w c : Int) : Prop := ∃ i k : Int, 0 ≤ i ∧ i < k ∧ k ≤ 19 ∧ S (80 * w + 4 * i) ≠ -1 ∧ S (80 * w + 4 * k) ≠ -1 ∧ S (80 * w + 4 * i + c) = S (80 * w + 4 * k + c)
theorem qOut_nn {S : Int → Int} {w c f t : Int} : ∀ n : Nat, 0 ≤ qOut S w c f t n
  | 0 => Int.le_refl 0
  | n + 1 => by
    have := qOut_nn (S := S) (w := w) (c := c) (f := f) (t := t) n
    rw [qOut]
    split <;> omega
theorem qOut_sp {S : Int → Int} {w c f t : Int} : ∀ n : Nat, 0 < qOut S w c f t n ↔ ∃ k : Int, 0 ≤ k ∧ k < n ∧ S (80 * w + 4 * k) ≠ -1 ∧ (S (80 * w + 4 * k + c) < f ∨ t < S (80 * w + 4 * k + c))
  | 0 => ⟨fun h => absurd h (by rw [qOut]; omega), fun ⟨k, a, b, _⟩ => by omega⟩
  | n + 1 => by
    have ih := qOut_sp (S := S) (w := w) (c := c) (f := f) (t := t) n
    have nn := qOut_nn (S := S) (w := w) (c := c) (f := f) (t := t) n
    rw [qOut]
    by_cases q : S (80 * w + 4 * (n : Int)) ≠ -1 ∧ (S (80 * w + 4 * (n : Int) + c) < f ∨ t < S (80 * w + 4 * (n : Int) + c))
    · rw [if_pos q]
      exact ⟨fun _ => ⟨n, by omega, by omega, q⟩, fun _ => by omega⟩
    · rw [if_neg q, Int.add_zero, ih]
      constructor
      · rintro ⟨k, a, b, d⟩; exact ⟨k, a, by omega, d⟩
      · rintro ⟨k, a, b, d⟩
        by_cases z : k = n
        · subst z; exact absurd d q
        · exact ⟨k, a, by omega, d⟩
/-- the law of a column that is broken first: 1 span, 2 names, 3 once, 0 none -/
noncomputable def zqKd (A : zqA) (S : Int → Int) (w c : Int) : Int :=
  zqIf (qSp S w c (A.2.1 (4 * w + c)) (A.2.2.1 (4 * w + c))) 1 (zqIf (A.2.2.2.1 (4 * w + c) ≠ -1 ∧ qNm S w c (A.2.2.2.1 (4 * w + c))) 2 (zqIf (A.2.2.2.2 (4 * w + c) = 1 ∧ qOn S w c) 3 0))
theorem zqKd_0 {A : zqA} {S : Int → Int} {w c : Int} : zqKd A S w c = 0 ↔ ∀ k : Int, 0 ≤ k → k ≤ 19 → S (80 * w + 4 * k) ≠ -1 → zqOk A S w k c (S (80 * w + 4 * k + c)) := by
  unfold zqKd
  constructor
  · intro h
    by_cases h1 : qSp S w c (A.2.1 (4 * w + c)) (A.2.2.1 (4 * w + c))
    · rw [zqIf_t h1] at h; omega
    · rw [zqIf_f h1] at h
      by_cases h2 : A.2.2.2.1 (4 * w + c) ≠ -1 ∧ qNm S w c (A.2.2.2.1 (4 * w + c))
      · rw [zqIf_t h2] at h; omega
      · rw [zqIf_f h2] at h
        by_cases h3 : A.2.2.2.2 (4 * w + c) = 1 ∧ qOn S w c
        · rw [zqIf_t h3] at h; omega
        · intro k k0 k9 hk
          have g1 : ¬ (S (80 * w + 4 * k + c) < A.2.1 (4 * w + c) ∨ A.2.2.1 (4 * w + c) < S (80 * w + 4 * k + c)) := fun z => h1 ⟨k, k0, k9, hk, z⟩
          refine ⟨by omega, by omega, fun z => ?_, fun z i i0 i9 ne hi e => h3 ⟨z, ?_⟩⟩
          · by_cases y : zqHas S (A.2.2.2.1 (4 * w + c)) (S (80 * w + 4 * k + c))
            · exact y
            · exact absurd ⟨z, k, k0, k9, hk, y⟩ h2
          · rcases Int.lt_trichotomy i k with y | y | y
            · exact ⟨i, k, i0, y, k9, hi, hk, e⟩
            · exact absurd y ne
            · exact ⟨k, i, k0, y, i9, hk, hi, e.symm⟩
  · intro h
    have h1 : ¬ qSp S w c (A.2.1 (4 * w + c)) (A.2.2.1 (4 * w + c)) := fun ⟨k, k0, k9, hk, z⟩ => by
      have := h k k0 k9 hk
      obtain ⟨a, b, -⟩ := this
      omega
    have h2 : ¬ (A.2.2.2.1 (4 * w + c) ≠ -1 ∧ qNm S w c (A.2.2.2.1 (4 * w + c))) := fun ⟨z, k, k0, k9, hk, y⟩ => y ((h k k0 k9 hk).2.2.1 z)
    have h3 : ¬ (A.2.2.2.2 (4 * w + c) = 1 ∧ qOn S w c) := fun ⟨z, i, k, i0, ik, k9, hi, hk, e⟩ => (h k (by omega) k9 hk).2.2.2 z i i0 (by omega) (by omega) hi e
    rw [zqIf_f h1, zqIf_f h2, zqIf_f h3]
theorem zqKd_bd {A : zqA} {S : Int → Int} {w c : Int} : 0 ≤ zqKd A S w c ∧ zqKd A S w c ≤ 3 := by
  unfold zqKd
  by_cases h1 : qSp S w c (A.2.1 (4 * w + c)) (A.2.2.1 (4 * w + c))
  · rw [zqIf_t h1]; omega
  · rw [zqIf_f h1]
    by_cases h2 : A.2.2.2.1 (4 * w + c) ≠ -1 ∧ qNm S w c (A.2.2.2.1 (4 * w + c))
    · rw [zqIf_t h2]; omega
    · rw [zqIf_f h2]
      by_cases h3 : A.2.2.2.2 (4 * w + c) = 1 ∧ qOn S w c
      · rw [zqIf_t h3]; omega
      · rw [zqIf_f h3]; omega
/-- no column breaks a law: lawful -/
theorem zqLf_kd {A : zqA} {S : Int → Int} (D : zqLD A) (A4 : ∀ u : Int, 0 ≤ u → u ≤ 2 → A.1 u ≤ 4) (T : zqSt A S) : zqLf A S ↔ ∀ w c : Int, 0 ≤ w → w ≤ 2 → 0 ≤ c → c ≤ 3 → zqKd A S w c = 0 := by
  constructor
  · intro h w c w0 w2 c0 c3
    refine zqKd_0.mpr (fun k k0 k9 hk => ?_)
    by_cases z : c < A.1 w
    · exact h w k c w0 w2 k0 k9 c0 z hk
    · obtain ⟨d1, d2, d3, d4⟩ := D w c w0 w2 c0 c3 (by omega)
      rcases T w k w0 w2 k0 k9 with ⟨t1, -⟩ | ⟨t1, t2, t3⟩
      · exact absurd t1 hk
      · obtain ⟨u1, u2, u3⟩ := t3 c (by omega) c3
        exact ⟨by omega, by omega, fun y => absurd d3 y, fun y => by omega⟩
  · intro h w k c w0 w2 k0 k9 c0 c4 hk
    have := A4 w w0 w2
    exact zqKd_0.mp (h w c w0 w2 c0 (by omega)) k k0 k9 hk
end ZQH
/-! bits of an int (rows of kit/laws/BITS.to-paste) -/
section ZQIb
def bt (x : Int32) (i : Nat) : Bool := x.toBitVec.getLsbD i
theorem b_ext {x y : Int32} (h : ∀ i, i < 32 → bt x i = bt y i) : x = y := Int32.toBitVec_inj.mp (BitVec.eq_of_getLsbD_eq (fun i hi => h i hi))
theorem b_or (x y : Int32) (i : Nat) : bt (x ||| y) i = (bt x i || bt y i) := by unfold bt; rw [Int32.toBitVec_or, BitVec.getLsbD_or]
theorem b_and (x y : Int32) (i : Nat) : bt (x &&& y) i = (bt x i && bt y i) := by unfold bt; rw [Int32.toBitVec_and, BitVec.getLsbD_and]
theorem b_xor (x y : Int32) (i : Nat) : bt (x ^^^ y) i = (bt x i ^^ bt y i) := by unfold bt; rw [Int32.toBitVec_xor, BitVec.getLsbD_xor]
theorem b_big {x : Int32} {i : Nat} (h : 32 ≤ i) : bt x i = false := BitVec.getLsbD_of_ge _ _ h
theorem b_0 (i : Nat) : bt 0 i = false := BitVec.getLsbD_zero
end ZQIb
/-! sayings and steps for the walks -/
section ZQI
theorem st_0 {P : Int → Prop} : ∀ k : Int, 0 ≤ k → k < 0 → P k := fun k a b => absurd b (by omega)
theorem st_1 {P : Int → Prop} {n : Int} (p : ∀ k : Int, 0 ≤ k → k < n → P k) (q : P n) : ∀ k : Int, 0 ≤ k → k < n + 1 → P k := fun k a b => by
  by_cases z : k = n
  · rw [z]; exact q
  · exact p k a (by omega)
/-- a bit of an int: of -1 the last one -/
def zqbt (m v : Int) : Prop := bt (Int32.ofInt m) (v % 32).toNat = true
theorem zqbt_all : ∀ v : Fin 32, ∀ u : Fin 32, bt ((1 : Int32) <<< (Int32.ofInt (((v.val : Nat) : Int) - 1) &&& 31)) ((((u.val : Nat) : Int) - 1) % 32).toNat = true ↔ u = v := by decide +kernel
theorem zqbt_bsl {v u : Int} (v0 : -1 ≤ v) (v1 : v ≤ 30) (u0 : -1 ≤ u) (u1 : u ≤ 30) : zqbt (bsl 1 v) u ↔ u = v := by
  have q := zqbt_all ⟨(v + 1).toNat, by omega⟩ ⟨(u + 1).toNat, by omega⟩
  simp only [Int.toNat_of_nonneg (show 0 ≤ v + 1 by omega), Int.toNat_of_nonneg (show 0 ≤ u + 1 by omega), Fin.mk.injEq, Int.add_sub_cancel] at q
  unfold zqbt bsl
  rw [Int32.ofInt_toInt]
  exact q.trans (by omega)
theorem zqbt_bor {m k u : Int} : zqbt (bor m k) u ↔ zqbt m u ∨ zqbt k u := by
  unfold zqbt bor
  rw [Int32.ofInt_toInt, b_or, Bool.or_eq_true]
theorem zqbt_bnd {m k u : Int} : zqbt (bnd m k) u ↔ zqbt m u ∧ zqbt k u := by
  unfold zqbt bnd
  rw [Int32.ofInt_toInt, b_and, Bool.and_eq_true]
theorem zqbt_0 {u : Int} : ¬ zqbt 0 u := by
  unfold zqbt
  rw [show Int32.ofInt 0 = 0 from rfl, b_0]
  decide
theorem zqbt_and {m v : Int} (v0 : -1 ≤ v) (v1 : v ≤ 30) : bnd m (bsl 1 v) = 0 ↔ ¬ zqbt m v := by
  constructor
  · intro h z
    have : zqbt (bnd m (bsl 1 v)) v := zqbt_bnd.mpr ⟨z, (zqbt_bsl v0 v1 v0 v1).mpr rfl⟩
    rw [h] at this
    exact zqbt_0 this
  · intro h
    have e : Int32.ofInt m &&& Int32.ofInt (bsl 1 v) = 0 := by
      apply b_ext
      intro i hi
      rw [b_and, b_0]
      by_cases z : bt (Int32.ofInt (bsl 1 v)) i = true
      · have z2 : ∃ u : Int, -1 ≤ u ∧ u ≤ 30 ∧ (u % 32).toNat = i := by
          by_cases y : i = 31
          · exact ⟨-1, by omega, by omega, by omega⟩
          · exact ⟨i, by omega, by omega, by omega⟩
        obtain ⟨u, u0, u1, eu⟩ := z2
        rw [← eu] at z ⊢
        have := (zqbt_bsl v0 v1 u0 u1).mp z
        subst this
        have hn : bt (Int32.ofInt m) (u % 32).toNat = false := by
          cases y : bt (Int32.ofInt m) (u % 32).toNat with
          | false => rfl
          | true => exact absurd y h
        rw [hn]; rfl
      · have : bt (Int32.ofInt (bsl 1 v)) i = false := by
          cases y : bt (Int32.ofInt (bsl 1 v)) i with
          | false => rfl
          | true => exact absurd y z
        rw [this, Bool.and_false]
    show (Int32.ofInt m &&& Int32.ofInt (bsl 1 v)).toInt = 0
    rw [e]; rfl
/-- values met so far, as bits -/
def qMet (S : Int → Int) (w c n m : Int) : Prop := ∀ v : Int, -1 ≤ v → v ≤ 19 → (zqbt m v ↔ ∃ k : Int, 0 ≤ k ∧ k < n ∧ S (80 * w + 4 * k) ≠ -1 ∧ S (80 * w + 4 * k + c) = v)
def qUn (S : Int → Int) (w c n : Int) : Prop := ∀ i k : Int, 0 ≤ i → i < k → k < n → S (80 * w + 4 * i) ≠ -1 → S (80 * w + 4 * k) ≠ -1 → S (80 * w + 4 * i + c) ≠ S (80 * w + 4 * k + c)
theorem qMet_0 {S : Int → Int} {w c : Int} : qMet S w c 0 0 := fun v _ _ => ⟨fun z => absurd z zqbt_0, fun ⟨k, a, b, _⟩ => by omega⟩
theorem qUn_0 {S : Int → Int} {w c : Int} : qUn S w c 0 := fun i k a b d => by omega
theorem qMet_n {S : Int → Int} {w c n m : Int} (p : qMet S w c n m) (z : S (80 * w + 4 * n) = -1) : qMet S w c (n + 1) m := fun v a b => by
  rw [p v a b]
  constructor
  · rintro ⟨k, k0, k1, hk, e⟩; exact ⟨k, k0, by omega, hk, e⟩
  · rintro ⟨k, k0, k1, hk, e⟩
    by_cases y : k = n
    · rw [y] at hk; exact absurd z hk
    · exact ⟨k, k0, by omega, hk, e⟩
theorem qUn_n {S : Int → Int} {w c n : Int} (p : qUn S w c n) (z : S (80 * w + 4 * n) = -1) : qUn S w c (n + 1) := fun i k i0 ik kn hi hk => by
  by_cases y : k = n
  · rw [y] at hk; exact absurd z hk
  · exact p i k i0 ik (by omega) hi hk
theorem qMet_y {S : Int → Int} {w c n m v : Int} (n0 : 0 ≤ n) (p : qMet S w c n m) (z : S (80 * w + 4 * n) ≠ -1) (e : S (80 * w + 4 * n + c) = v) (v0 : -1 ≤ v) (v1 : v ≤ 19) : qMet S w c (n + 1) (bor m (bsl 1 v)) := fun u a b => by
  rw [zqbt_bor, zqbt_bsl v0 (by omega) a (by omega), p u a b]
  constructor
  · rintro (⟨k, k0, k1, hk, e⟩ | y)
    · exact ⟨k, k0, by omega, hk, e⟩
    · exact ⟨n, n0, by omega, z, e.trans y.symm⟩
  · rintro ⟨k, k0, k1, hk, e2⟩
    by_cases y : k = n
    · rw [y, e] at e2; exact Or.inr e2.symm
    · exact Or.inl ⟨k, k0, by omega, hk, e2⟩
theorem qUn_y {S : Int → Int} {w c n m v b : Int} (q : qUn S w c n) (p : qMet S w c n m) (e : S (80 * w + 4 * n + c) = v) (v0 : -1 ≤ v) (v1 : v ≤ 19) (eb : b = bnd m (bsl 1 v)) (hb : b = 0) : qUn S w c (n + 1) := fun i k i0 ik kn hi hk => by
  by_cases y : k = n
  · intro z
    subst y
    rw [eb] at hb
    exact (zqbt_and v0 (by omega)).mp hb ((p v v0 v1).mpr ⟨i, i0, ik, hi, z.trans e⟩)
  · exact q i k i0 ik (by omega) hi hk
theorem qOn_y {S : Int → Int} {w c n m v b : Int} (n9 : n ≤ 19) (p : qMet S w c n m) (z : S (80 * w + 4 * n) ≠ -1) (e : S (80 * w + 4 * n + c) = v) (v0 : -1 ≤ v) (v1 : v ≤ 19) (eb : b = bnd m (bsl 1 v)) (hb : b ≠ 0) : qOn S w c := by
  rw [eb] at hb
  have h : zqbt m v := by
    by_cases y : zqbt m v
    · exact y
    · exact absurd ((zqbt_and v0 (by omega)).mpr y) hb
  obtain ⟨k, k0, k1, hk, e2⟩ := (p v v0 v1).mp h
  exact ⟨k, n, k0, k1, n9, hk, z, e2.trans e.symm⟩
theorem qOn_n {S : Int → Int} {w c n : Int} (q : qUn S w c n) (h : 20 ≤ n) : ¬ qOn S w c := fun ⟨i, k, i0, ik, k9, hi, hk, e⟩ => q i k i0 ik (by omega) hi hk e
theorem has_ix {S : Int → Int} (i : Int) {j : Int} (e : j = i) (h : S i ≠ -1) : S j ≠ -1 := by rw [e]; exact h
theorem hasn {S : Int → Int} {o v : Int} (i : Int) (e : (0 ≤ v ∧ v ≤ 19) → (80 * o + 4 * v = i ∧ S i = -1)) : ¬ zqHas S o v := fun ⟨a, b, c⟩ => by
  obtain ⟨e1, e2⟩ := e ⟨a, b⟩
  rw [e1] at c
  exact c e2
/-- the class's laws -/
def zqCA (h : my_H) : zqA := (h 2, h 3, h 4, h 5, h 6)
theorem okI {h : my_H} {S : Int → Int} {w k c v f t n o : Int} (e1 : h 3 (4 * w + c) = f) (e2 : h 4 (4 * w + c) = t) (e3 : h 5 (4 * w + c) = n) (e4 : h 6 (4 * w + c) = o) (a : f ≤ v) (b : v ≤ t) (x : n = -1 ∨ zqHas S n v) (y : o ≠ 1 ∨ ¬ qElse S w k c v) : zqOk (zqCA h) S w k c v := by
  refine ⟨?_, ?_, fun z => ?_, fun z i i0 i9 ne hi e => ?_⟩
  · show h 3 (4 * w + c) ≤ v; omega
  · show v ≤ h 4 (4 * w + c); omega
  · show zqHas S (h 5 (4 * w + c)) v
    rw [e3]
    rcases x with x | x
    · exact absurd (e3.trans x) z
    · exact x
  · rcases y with y | y
    · exact absurd (e4.symm.trans z) y
    · exact y ⟨i, i0, i9, ne, hi, e⟩
theorem okN1 {h : my_H} {S : Int → Int} {w k c v f : Int} (e1 : h 3 (4 * w + c) = f) (a : v < f) : ¬ zqOk (zqCA h) S w k c v := fun ⟨z, _⟩ => by
  have : h 3 (4 * w + c) ≤ v := z
  omega
theorem okN2 {h : my_H} {S : Int → Int} {w k c v t : Int} (e1 : h 4 (4 * w + c) = t) (a : t < v) : ¬ zqOk (zqCA h) S w k c v := fun ⟨_, z, _⟩ => by
  have : v ≤ h 4 (4 * w + c) := z
  omega
theorem okN3 {h : my_H} {S : Int → Int} {w k c v n : Int} (e1 : h 5 (4 * w + c) = n) (a : n ≠ -1) (b : ¬ zqHas S n v) : ¬ zqOk (zqCA h) S w k c v := fun ⟨_, _, z, _⟩ => by
  have : zqHas S (h 5 (4 * w + c)) v := z (by show h 5 (4 * w + c) ≠ -1; omega)
  rw [e1] at this
  exact b this
theorem okN4 {h : my_H} {S : Int → Int} {w k c v o : Int} (e1 : h 6 (4 * w + c) = o) (a : o = 1) (b : qElse S w k c v) : ¬ zqOk (zqCA h) S w k c v := fun ⟨_, _, _, z⟩ => by
  obtain ⟨i, i0, i9, ne, hi, e⟩ := b
  exact z (by show h 6 (4 * w + c) = 1; omega) i i0 i9 ne hi e
def qLaw (A : zqA) (S : Int → Int) : Prop := ∀ p : Int, 0 ≤ p → p < 12 → zqKd A S (p / 4) (p % 4) = 0
theorem kd_1 {A : zqA} {S : Int → Int} {p w c y : Int} (hp : p = 4 * w + c) (e : y = qOut S w c (A.2.1 p) (A.2.2.1 p) 20) (h : 0 < y) : zqKd A S w c = 1 := by
  subst hp
  unfold zqKd
  rw [zqIf_t]
  rw [e] at h
  obtain ⟨k, a, b, d⟩ := (qOut_sp 20).mp h
  exact ⟨k, a, by omega, d⟩
theorem kd_sp {A : zqA} {S : Int → Int} {p w c y : Int} (hp : p = 4 * w + c) (e : y = qOut S w c (A.2.1 p) (A.2.2.1 p) 20) (h : y ≤ 0) : ¬ qSp S w c (A.2.1 (4 * w + c)) (A.2.2.1 (4 * w + c)) := by
  subst hp
  rintro ⟨k, a, b, d⟩
  have := (qOut_sp (S := S) (w := w) (c := c) (f := A.2.1 (4 * w + c)) (t := A.2.2.1 (4 * w + c)) 20).mpr ⟨k, a, by omega, d⟩
  omega
theorem kd_2 {A : zqA} {S : Int → Int} {p w c y : Int} (hp : p = 4 * w + c) (e : y = qOut S w c (A.2.1 p) (A.2.2.1 p) 20) (h : y ≤ 0) (n : A.2.2.2.1 p ≠ -1) (q : qNm S w c (A.2.2.2.1 p)) : zqKd A S w c = 2 := by
  have := kd_sp hp e h
  subst hp
  unfold zqKd
  rw [zqIf_f this, zqIf_t ⟨n, q⟩]
theorem kd_3 {A : zqA} {S : Int → Int} {p w c y : Int} (hp : p = 4 * w + c) (e : y = qOut S w c (A.2.1 p) (A.2.2.1 p) 20) (h : y ≤ 0) (n : A.2.2.2.1 p = -1 ∨ ¬ qNm S w c (A.2.2.2.1 p)) (o : A.2.2.2.2 p = 1) (q : qOn S w c) : zqKd A S w c = 3 := by
  have := kd_sp hp e h
  subst hp
  unfold zqKd
  rw [zqIf_f this, zqIf_f (fun z => by rcases n with n | n; exact z.1 n; exact n z.2), zqIf_t ⟨o, q⟩]
theorem kd_0 {A : zqA} {S : Int → Int} {p w c y : Int} (hp : p = 4 * w + c) (e : y = qOut S w c (A.2.1 p) (A.2.2.1 p) 20) (h : y ≤ 0) (n : A.2.2.2.1 p = -1 ∨ ¬ qNm S w c (A.2.2.2.1 p)) (o : A.2.2.2.2 p ≠ 1 ∨ ¬ qOn S w c) : zqKd A S w c = 0 := by
  have := kd_sp hp e h
  subst hp
  unfold zqKd
  rw [zqIf_f this, zqIf_f (fun z => by rcases n with n | n; exact z.1 n; exact n z.2), zqIf_f (fun z => by rcases o with o | o; exact o z.1; exact o z.2)]
theorem qLaw_lf {A : zqA} {S : Int → Int} (D : zqLD A) (A4 : ∀ u : Int, 0 ≤ u → u ≤ 2 → A.1 u ≤ 4) (T : zqSt A S) : qLaw A S ↔ zqLf A S := by
  rw [zqLf_kd D A4 T]
  constructor
  · intro h w c w0 w2 c0 c3
    have := h (4 * w + c) (by omega) (by omega)
    rwa [show (4 * w + c) / 4 = w by omega, show (4 * w + c) % 4 = c by omega] at this
  · intro h p p0 p1
    exact h (p / 4) (p % 4) (by omega) (by omega) (by omega) (by omega)
end ZQI
