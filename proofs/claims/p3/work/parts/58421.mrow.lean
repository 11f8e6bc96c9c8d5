/-! the reference's shown rows: steps for the walks -/
section ZQX
/-- rows of the base, so far -/
def BgI (h g : my_H) (s b m key many : Int) : Prop := 0 ≤ many ∧ zqL (zqN g m) many.toNat = zqLd (zqMS h s) b m key.toNat
theorem BgI_0 {h g : my_H} {s b m : Int} : BgI h g s b m 0 0 := ⟨Int.le_refl 0, rfl⟩
theorem BgI_n {h g : my_H} {s b m key many : Int} (k0 : 0 ≤ key) (p : BgI h g s b m key many) (q : ¬ zqMS h s (80 * b + 4 * key) ≠ -1) : BgI h g s b m (key + 1) many := by
  obtain ⟨p1, p2⟩ := p
  have q' : zqMS h s (80 * b + 4 * (key.toNat : Int)) = -1 := by
    rw [Int.toNat_of_nonneg k0]
    exact Classical.byContradiction q
  refine ⟨p1, ?_⟩
  rw [show (key + 1).toNat = key.toNat + 1 by omega, zqLd_n q']
  exact p2
theorem BgI_c {h g g2 : my_H} {s b m key many : Int} (m8 : m ≤ 8) (p : BgI h g s b m key many) (e1 : ∀ j : Int, j < many → g2 181 j = g 181 j) (e2 : ∀ j : Int, j < 8 * many → g2 182 j = g 182 j) : BgI h g2 s b m key many := by
  obtain ⟨p1, p2⟩ := p
  refine ⟨p1, ?_⟩
  rw [← p2]
  exact zqL_cg (fun i hi => zqN_cg m8 (e1 _ (by omega)) (fun j a b => e2 _ (by omega)))
theorem BgI_y {h g : my_H} {s b m key many : Int} (m4 : m ≤ 4) (k0 : 0 ≤ key) (p : BgI h g s b m key many) (r : h 162 (60 * s + 20 * b + key) = 1) (q : zqMS h s (80 * b + 4 * key) ≠ -1) (bt : g 181 many = key) (rc : ∀ c : Int, 0 ≤ c → c < m → g 182 (8 * many + c) = h 163 (4 * (60 * s + 20 * b + key) + c)) : BgI h g s b m (key + 1) (many + 1) := by
  obtain ⟨p1, p2⟩ := p
  have q' : zqMS h s (80 * b + 4 * (key.toNat : Int)) ≠ -1 := by
    rw [Int.toNat_of_nonneg k0]
    exact q
  refine ⟨by omega, ?_⟩
  rw [show (key + 1).toNat = key.toNat + 1 by omega, show (many + 1).toNat = many.toNat + 1 by omega, zqL, zqLd_y q', p2, Int.toNat_of_nonneg k0]
  refine congrArg (· :: _) (Prod.ext ?_ (funext fun j => ?_))
  · show g 181 (many.toNat : Int) = key
    rw [Int.toNat_of_nonneg p1]; exact bt
  · show (if 0 ≤ j ∧ j < m then g 182 (8 * (many.toNat : Int) + j) else 0) = zqB (zqMS h s) b m key j
    unfold zqB
    by_cases z : 0 ≤ j ∧ j < m
    · rw [if_pos z, if_pos z, Int.toNat_of_nonneg p1, rc j z.1 z.2, MS_at z.1 (by omega) r]
    · rw [if_neg z, if_neg z]
theorem row_s {g g2 g3 : my_H} {F : Int → Int} {l b i v i3 v3 : Int} (p : ∀ c : Int, 0 ≤ c → c < l → g 182 (b + c) = F c) (e2 : g2 = my_up g 182 i v) (hi : i = b + l) (hv : v = F l) (e3 : g3 = my_up g2 183 i3 v3) : ∀ c : Int, 0 ≤ c → c < l + 1 → g3 182 (b + c) = F c := fun c a d => by
  rw [my_up_ne e3 (by omega)]
  by_cases z : c = l
  · subst z; subst hi
    rw [my_up_self e2, hv]
  · rw [my_up_ne e2 (by omega)]
    exact p c a (by omega)
/-- a window's pane, as the reference keeps it -/
def mPk (h : my_H) (p : Int) : zqP := if h 168 p = 5 then (5, h 170 p, h 169 p, 0, fun j => h 172 (8 * p + j)) else (h 168 p, h 169 p, h 170 p, (if h 168 p = 4 then h 157 (h 170 p) else h 171 p), fun j => h 172 (8 * p + j))
theorem mPk_5 {h : my_H} {p : Int} (k : h 168 p = 5) : mPk h p = (5, h 170 p, h 169 p, 0, fun j => h 172 (8 * p + j)) := if_pos k
theorem mPk_4 {h : my_H} {p : Int} (k : h 168 p = 4) : mPk h p = (4, h 169 p, h 170 p, h 157 (h 170 p), fun j => h 172 (8 * p + j)) := by
  unfold mPk
  rw [if_neg (by omega), if_pos k, k]
theorem mPk_n {h : my_H} {p : Int} (k5 : h 168 p ≠ 5) (k4 : h 168 p ≠ 4) : mPk h p = (h 168 p, h 169 p, h 170 p, h 171 p, fun j => h 172 (8 * p + j)) := by
  unfold mPk
  rw [if_neg k5, if_neg k4]
theorem mPk_M {h : my_H} {p m : Int} : zqM m (mPk h p) = ms h p m := by
  unfold ms
  by_cases k5 : h 168 p = 5
  · rw [mPk_5 k5, if_pos k5]
    unfold zqM
    rw [if_neg (show ¬ (5 : Int) = 3 by decide), if_neg (show ¬ (5 : Int) = 4 by decide), if_pos rfl]
  · rw [if_neg k5]
    by_cases k4 : h 168 p = 4
    · rw [mPk_4 k4, if_pos k4]
      unfold zqM
      rw [if_neg (show ¬ (4 : Int) = 3 by decide), if_pos rfl]
    · rw [mPk_n k5 k4, if_neg k4]
      unfold zqM
      by_cases k3 : h 168 p = 3
      · rw [if_pos k3, if_pos k3]
      · rw [if_neg k3, if_neg k4, if_neg k5, if_neg k3]
theorem zqN_at {h : my_H} {m i j : Int} (i0 : 0 ≤ i) (j0 : 0 ≤ j) (jm : j < m) : (zqN h m i.toNat).2 j = h 182 (8 * i + j) := by
  show (if 0 ≤ j ∧ j < m then h 182 (8 * (i.toNat : Int) + j) else 0) = _
  rw [if_pos ⟨j0, jm⟩, Int.toNat_of_nonneg i0]
theorem zqN_out {h : my_H} {m j : Int} {i : Nat} (hj : j < 0 ∨ m ≤ j) : (zqN h m i).2 j = 0 := if_neg (by omega)
theorem zqN_tg {h : my_H} {m i : Int} (i0 : 0 ≤ i) : (zqN h m i.toNat).1 = h 181 i := by
  show h 181 (i.toNat : Int) = _
  rw [Int.toNat_of_nonneg i0]
/-- what isLeft says of a row -/
def LfY (h g : my_H) (s p i : Int) : Prop := zqO2 (zqMS h s) (h 151 27) (mPk h p) (zqN h (h 151 27) i.toNat) = some (zqN g (wl h p (h 151 27)) i.toNat)
def LfN (h : my_H) (s p i : Int) : Prop := zqO2 (zqMS h s) (h 151 27) (mPk h p) (zqN h (h 151 27) i.toNat) = none
/-- a cut: its word decides -/
theorem Lf_cut {h : my_H} {s p i v k a n : Int} (i0 : 0 ≤ i) (kb : k ≤ 2) (hk : h 168 p = k) (ha : h 169 p = a) (a0 : 0 ≤ a) (am : a < h 151 27) (hn : h 170 p = n) (hv : h 182 (8 * i + a) = v) : (zqPass k v n → LfY h h s p i) ∧ (¬ zqPass k v n → LfN h s p i) := by
  have k5 : h 168 p ≠ 5 := by omega
  have k4 : h 168 p ≠ 4 := by omega
  have k3 : h 168 p ≠ 3 := by omega
  have e : zqO2 (zqMS h s) (h 151 27) (mPk h p) (zqN h (h 151 27) i.toNat) = (if zqPass k v n then some (zqN h (h 151 27) i.toNat).2 else none).map (fun r => ((zqN h (h 151 27) i.toNat).1, r)) := by
    rw [mPk_n k5 k4]
    unfold zqO2 zqO
    show Option.map _ (if h 168 p = 3 then _ else if h 168 p = 4 then _ else if zqPass (h 168 p) ((zqN h (h 151 27) i.toNat).2 (h 169 p)) (h 170 p) then some (zqN h (h 151 27) i.toNat).2 else none) = _
    rw [if_neg k3, if_neg k4, hk, ha, hn, zqN_at i0 a0 am, hv]
  have ew : wl h p (h 151 27) = h 151 27 := by
    unfold wl ms
    rw [if_neg k5, if_neg k5, if_neg k4, if_neg k3]
  refine ⟨fun z => ?_, fun z => ?_⟩
  · unfold LfY
    rw [e, if_pos z, ew]
    rfl
  · unfold LfN
    rw [e, if_neg z]
    rfl
theorem Lf_sum {h : my_H} {s p i : Int} (k5 : h 168 p = 5) : LfY h h s p i := by
  unfold LfY
  rw [mPk_5 k5]
  unfold zqO2 zqO
  show Option.map _ (if (5 : Int) = 3 then _ else if (5 : Int) = 4 then _ else if zqPass 5 _ _ then some (zqN h (h 151 27) i.toNat).2 else none) = _
  rw [if_neg (by decide), if_neg (by decide), if_pos ⟨fun z => by omega, fun z => by omega, fun z => by omega⟩]
  unfold wl
  rw [if_pos k5]
  rfl
theorem Lf_few {h g : my_H} {s p i : Int} (i0 : 0 ≤ i) (k3 : h 168 p = 3) (pk : ∀ j : Int, 0 ≤ j → j < h 171 p → 0 ≤ h 172 (8 * p + j) ∧ h 172 (8 * p + j) < h 151 27) (tg : g 181 i = h 181 i) (ne : ∀ c : Int, 0 ≤ c → c < h 171 p → g 182 (8 * i + c) = h 182 (8 * i + h 172 (8 * p + c))) : LfY h g s p i := by
  have k5 : h 168 p ≠ 5 := by omega
  have k4 : h 168 p ≠ 4 := by omega
  unfold LfY
  rw [mPk_n k5 k4]
  unfold zqO2 zqO
  show Option.map _ (if h 168 p = 3 then some (zqFew (h 171 p) (fun j => h 172 (8 * p + j)) (zqN h (h 151 27) i.toNat).2) else _) = _
  rw [if_pos k3]
  have ew : wl h p (h 151 27) = h 171 p := by
    unfold wl ms
    rw [if_neg k5, if_neg k5, if_neg k4, if_pos k3]
  rw [ew]
  refine congrArg some (Prod.ext ?_ (funext fun j => ?_))
  · show (zqN h (h 151 27) i.toNat).1 = (zqN g (h 171 p) i.toNat).1
    rw [zqN_tg i0, zqN_tg i0, tg]
  · show zqFew (h 171 p) (fun j => h 172 (8 * p + j)) (zqN h (h 151 27) i.toNat).2 j = (zqN g (h 171 p) i.toNat).2 j
    unfold zqFew
    by_cases z : 0 ≤ j ∧ j < h 171 p
    · rw [if_pos z, zqN_at i0 z.1 z.2, ne j z.1 z.2]
      have := pk j z.1 z.2
      exact zqN_at i0 this.1 this.2
    · rw [if_neg z, zqN_out (by omega)]
theorem Lf_join {h g : my_H} {s p i v a w n : Int} (T : MTy h) (s0 : 0 ≤ s) (s15 : s ≤ 15) (i0 : 0 ≤ i) (k4 : h 168 p = 4) (ha : h 169 p = a) (a0 : 0 ≤ a) (am : a < h 151 27) (hw : h 170 p = w) (w0 : 0 ≤ w) (w2 : w ≤ 2) (hn : h 157 w = n) (n1 : 1 ≤ n) (hv : h 182 (8 * i + a) = v) :
    ((v < 0 ∨ 19 < v ∨ h 162 (60 * s + 20 * w + v) ≠ 1) → LfN h s p i) ∧ (0 ≤ v → v ≤ 19 → h 162 (60 * s + 20 * w + v) = 1 → g 181 i = h 181 i → (∀ k : Int, 0 ≤ k → k < h 151 27 → g 182 (8 * i + k) = h 182 (8 * i + k)) → (∀ k : Int, h 151 27 ≤ k → k < h 151 27 + n - 1 → g 182 (8 * i + k) = h 163 (4 * (60 * s + 20 * w + v) + (k - h 151 27 + 1))) → LfY h g s p i) := by
  have k5 : h 168 p ≠ 5 := by omega
  have e : zqO2 (zqMS h s) (h 151 27) (mPk h p) (zqN h (h 151 27) i.toNat) = (if zqHas (zqMS h s) w v then some (zqJn (zqMS h s) (h 151 27) w n (zqN h (h 151 27) i.toNat).2 v) else none).map (fun r => ((zqN h (h 151 27) i.toNat).1, r)) := by
    rw [mPk_4 k4]
    unfold zqO2 zqO
    show Option.map _ (if (4 : Int) = 3 then _ else if (4 : Int) = 4 then (if zqHas (zqMS h s) (h 170 p) ((zqN h (h 151 27) i.toNat).2 (h 169 p)) then some (zqJn (zqMS h s) (h 151 27) (h 170 p) (h 157 (h 170 p)) (zqN h (h 151 27) i.toNat).2 ((zqN h (h 151 27) i.toNat).2 (h 169 p))) else none) else _) = _
    rw [if_neg (by decide), if_pos rfl, ha, hw, hn, zqN_at i0 a0 am, hv]
  have n4 := (T.2.2.2 w w0 (by omega)).2
  rw [hn] at n4
  refine ⟨fun z => ?_, fun v0 v9 r tg lo hi => ?_⟩
  · unfold LfN
    rw [e, if_neg (fun y => ?_)]
    · rfl
    · have y2 := (MS_has T s0 s15 w0 w2 y.1 y.2.1).mp y.2.2
      have := y.1
      have := y.2.1
      omega
  · unfold LfY
    have ew : wl h p (h 151 27) = h 151 27 + n - 1 := by
      unfold wl ms
      rw [if_neg k5, if_neg k5, if_pos k4, hw, hn]
    rw [e, if_pos ⟨v0, v9, (MS_has T s0 s15 w0 w2 v0 v9).mpr r⟩, ew]
    refine congrArg some (Prod.ext ?_ (funext fun j => ?_))
    · show (zqN h (h 151 27) i.toNat).1 = (zqN g _ i.toNat).1
      rw [zqN_tg i0, zqN_tg i0, tg]
    · show zqJn (zqMS h s) (h 151 27) w n (zqN h (h 151 27) i.toNat).2 v j = (zqN g (h 151 27 + n - 1) i.toNat).2 j
      unfold zqJn
      by_cases z : h 151 27 ≤ j ∧ j < h 151 27 + n - 1
      · rw [if_pos z, zqN_at i0 (by omega) z.2, hi j z.1 z.2, show 80 * w + 4 * v + (j - h 151 27 + 1) = 80 * w + 4 * v + (j - h 151 27 + 1) from rfl, MS_at (by omega) (by omega) r]
      · rw [if_neg z]
        by_cases y : 0 ≤ j ∧ j < h 151 27
        · rw [zqN_at i0 y.1 y.2, zqN_at i0 y.1 (by omega), lo j y.1 y.2]
        · rw [zqN_out (by omega), zqN_out (by omega)]
/-- sorted by swaps: the first p stand before all behind them -/
def SwI (h g : my_H) (m n p q : Int) : Prop := (zqL (zqN g m) n.toNat).Perm (zqL (zqN h m) n.toNat) ∧ (∀ i j : Nat, i < j → (j : Int) < n → (i : Int) < p → zqle (zqN g m i).2 (zqN g m j).2) ∧ ∀ j : Nat, p < j → (j : Int) < q → zqle (zqN g m p.toNat).2 (zqN g m j).2
theorem SwI_0 {h : my_H} {m n : Int} : SwI h h m n 0 1 := ⟨List.Perm.refl _, fun i j _ _ x => by omega, fun j a b => by omega⟩
theorem SwI_p {h g : my_H} {m n p q : Int} (p0 : 0 ≤ p) (hq : n ≤ q) (x : SwI h g m n p q) : SwI h g m n (p + 1) (p + 2) := by
  obtain ⟨x1, x2, x3⟩ := x
  refine ⟨x1, fun i j a b d => ?_, fun j a b => by omega⟩
  by_cases z : i = p.toNat
  · subst z; exact x3 j (by omega) (by omega)
  · exact x2 i j a b (by omega)
theorem SwI_n {h g : my_H} {m n p q : Int} (q0 : 0 ≤ q) (x : SwI h g m n p q) (le : zqle (zqN g m p.toNat).2 (zqN g m q.toNat).2) : SwI h g m n p (q + 1) := by
  obtain ⟨x1, x2, x3⟩ := x
  refine ⟨x1, x2, fun j a b => ?_⟩
  by_cases z : j = q.toNat
  · subst z; exact le
  · exact x3 j a (by omega)
theorem SwI_y {h g g2 : my_H} {m n p q : Int} (m8 : m ≤ 8) (p0 : 0 ≤ p) (pq : p < q) (qn : q < n) (x : SwI h g m n p q) (le : zqle (zqN g m q.toNat).2 (zqN g m p.toNat).2) (s1 : g2 181 p = g 181 q) (s2 : g2 181 q = g 181 p) (s3 : ∀ j : Int, j ≠ p → j ≠ q → g2 181 j = g 181 j) (r1 : ∀ c : Int, 0 ≤ c → c < 8 → g2 182 (8 * p + c) = g 182 (8 * q + c)) (r2 : ∀ c : Int, 0 ≤ c → c < 8 → g2 182 (8 * q + c) = g 182 (8 * p + c)) (r3 : ∀ j : Int, (j < 8 * p ∨ 8 * p + 8 ≤ j) → (j < 8 * q ∨ 8 * q + 8 ≤ j) → g2 182 j = g 182 j) : SwI h g2 m n p (q + 1) := by
  obtain ⟨x1, x2, x3⟩ := x
  have ep : zqN g2 m p.toNat = zqN g m q.toNat := zqN_cg m8 (by rw [Int.toNat_of_nonneg p0, Int.toNat_of_nonneg (by omega)]; exact s1) (fun j a b => by rw [Int.toNat_of_nonneg p0, Int.toNat_of_nonneg (by omega)]; exact r1 j a b)
  have eq : zqN g2 m q.toNat = zqN g m p.toNat := zqN_cg m8 (by rw [Int.toNat_of_nonneg p0, Int.toNat_of_nonneg (by omega)]; exact s2) (fun j a b => by rw [Int.toNat_of_nonneg p0, Int.toNat_of_nonneg (by omega)]; exact r2 j a b)
  have eo : ∀ i : Nat, i ≠ p.toNat → i ≠ q.toNat → zqN g2 m i = zqN g m i := fun i a b => zqN_cg m8 (s3 _ (by omega) (by omega)) (fun j c d => r3 _ (by omega) (by omega))
  refine ⟨(zqL_swap (f := zqN g m) (g := zqN g2 m) (p := p.toNat) (q := q.toNat) (by omega) (by omega) (by omega) ep eq (fun i _ a b => eo i a b)).trans x1, fun i j a b d => ?_, fun j a b => ?_⟩
  · rw [eo i (by omega) (by omega)]
    by_cases z1 : j = p.toNat
    · subst z1; rw [ep]; exact x2 i q.toNat (by omega) (by omega) d
    · by_cases z2 : j = q.toNat
      · subst z2; rw [eq]; exact x2 i p.toNat (by omega) (by omega) d
      · rw [eo j z1 z2]; exact x2 i j a b d
  · rw [ep]
    by_cases z2 : j = q.toNat
    · subst z2; rw [eq]; exact le
    · rw [eo j (by omega) z2]
      exact zqle_tr le (x3 j a (by omega))
theorem SwI_e {h g : my_H} {m n p q : Int} (x : SwI h g m n p q) (hp : n ≤ p) : (zqL (zqN g m) n.toNat).Perm (zqL (zqN h m) n.toNat) ∧ zqS zqle (fun i => (zqN g m i).2) n.toNat :=
  ⟨x.1, fun i j a b => x.2.1 i j a (by omega) (by omega)⟩
/-- isBefore: which comes first -/
theorem Bf_lt {h : my_H} {m p q c : Int} (p0 : 0 ≤ p) (q0 : 0 ≤ q) (e : ∀ j : Int, 0 ≤ j → j < c → h 182 (8 * p + j) = h 182 (8 * q + j)) (c0 : 0 ≤ c) (cm : c < m) (lt : h 182 (8 * p + c) < h 182 (8 * q + c)) : zqle (zqN h m p.toNat).2 (zqN h m q.toNat).2 := by
  refine Or.inr ⟨c, c0, fun j a b => ?_, ?_⟩
  · rw [zqN_at p0 a (by omega), zqN_at q0 a (by omega)]; exact e j a b
  · rw [zqN_at p0 c0 cm, zqN_at q0 c0 cm]; exact lt
theorem Bf_eq {h : my_H} {m p q : Int} (p0 : 0 ≤ p) (q0 : 0 ≤ q) (e : ∀ j : Int, 0 ≤ j → j < m → h 182 (8 * p + j) = h 182 (8 * q + j)) : (zqN h m p.toNat).2 = (zqN h m q.toNat).2 := funext fun j => by
  by_cases z : 0 ≤ j ∧ j < m
  · rw [zqN_at p0 z.1 z.2, zqN_at q0 z.1 z.2]; exact e j z.1 z.2
  · rw [zqN_out (by omega), zqN_out (by omega)]
end ZQX
section ZQXs
/-- a sum the reference keeps -/
def zqU (g : my_H) (i : Nat) : Int × Int := (g 186 (i : Int), g 187 (i : Int))
def SmI (h g : my_H) (m a b i n : Int) : Prop := 0 ≤ n ∧ n ≤ i ∧ zqL (zqU g) n.toNat = zqG a b (zqL (fun k => (zqN h m k).2) i.toNat) ∧ ∀ j k : Nat, j < k → (k : Int) < n → (zqU g j).1 ≠ (zqU g k).1
theorem SmI_0 {h g : my_H} {m a b : Int} : SmI h g m a b 0 0 := ⟨Int.le_refl 0, Int.le_refl 0, rfl, fun j k _ x => by omega⟩
theorem zqU_cg {g g2 : my_H} (e1 : ∀ j : Int, g2 186 j = g 186 j) (e2 : ∀ j : Int, g2 187 j = g 187 j) (i : Nat) : zqU g2 i = zqU g i := by
  unfold zqU
  rw [e1, e2]
theorem SmI_eq {h g g2 : my_H} {m a b i n : Int} (e1 : ∀ j : Int, g2 186 j = g 186 j) (e2 : ∀ j : Int, g2 187 j = g 187 j) (p : SmI h g m a b i n) : SmI h g2 m a b i n := by
  obtain ⟨p1, p2, p3, p4⟩ := p
  refine ⟨p1, p2, ?_, fun j k x y => by rw [zqU_cg e1 e2, zqU_cg e1 e2]; exact p4 j k x y⟩
  rw [zqL_cg (fun i _ => zqU_cg e1 e2 i)]
  exact p3
theorem SmI_f {h g g2 : my_H} {m a b i n val part k k1 y : Int} (i0 : 0 ≤ i) (a0 : 0 ≤ a) (am : a < m) (b0 : 0 ≤ b) (bm : b < m) (p : SmI h g m a b i n) (ev : val = h 182 (8 * i + b)) (ep : part = h 182 (8 * i + a)) (k0 : 0 ≤ k) (kn : k < n) (et : g 186 k = val) (e : g2 = my_up g 187 k1 y) (hk : k1 = k) (hy : y = g 187 k + part) : SmI h g2 m a b (i + 1) n := by
  obtain ⟨p1, p2, p3, p4⟩ := p
  subst hk
  have E1 : (zqN h m i.toNat).2 b = val := by rw [zqN_at i0 b0 bm, ev]
  have E2 : (zqN h m i.toNat).2 a = part := by rw [zqN_at i0 a0 am, ep]
  have q0 : ∀ i : Nat, (zqU g2 i).1 = (zqU g i).1 := fun i => my_up_ne e (by omega)
  have fp : (zqU g k1.toNat).1 = val := by
    show g 186 (k1.toNat : Int) = val
    rw [Int.toNat_of_nonneg k0]; exact et
  have gp : zqU g2 k1.toNat = (val, (zqU g k1.toNat).2 + part) := by
    refine Prod.ext ((q0 _).trans fp) ?_
    show g2 187 (k1.toNat : Int) = g 187 (k1.toNat : Int) + part
    rw [Int.toNat_of_nonneg k0, my_up_self e, hy]
  have oth : ∀ i : Nat, i < n.toNat → i ≠ k1.toNat → (zqU g i).1 ≠ val ∧ zqU g2 i = zqU g i := fun i hi ne => by
    refine ⟨?_, ?_⟩
    · rw [← fp]
      rcases Nat.lt_or_ge i k1.toNat with z | z
      · exact p4 i _ z (by omega)
      · exact fun y => p4 k1.toNat i (by omega) (by omega) y.symm
    · unfold zqU
      rw [my_up_ne e (by omega), my_up_ne e (by omega)]
  refine ⟨p1, by omega, ?_, fun i k x y => by rw [q0, q0]; exact p4 i k x y⟩
  rw [zqL_up (x := part) fp gp oth, show (i + 1).toNat = i.toNat + 1 by omega, zqL, zqG, ← p3, E1, E2]
  unfold zqI
  rw [if_pos ⟨_, zqL_mem.mpr ⟨k1.toNat, by omega, rfl⟩, fp⟩]
theorem SmI_a {h g g1 g2 g3 : my_H} {m a b i n val part k1 k2 k3 z y : Int} (i0 : 0 ≤ i) (a0 : 0 ≤ a) (am : a < m) (b0 : 0 ≤ b) (bm : b < m) (p : SmI h g m a b i n) (ev : val = h 182 (8 * i + b)) (ep : part = h 182 (8 * i + a)) (nf : ∀ j : Nat, (j : Int) < n → g 186 (j : Int) ≠ val) (e1 : g1 = my_up g 186 k1 val) (h1 : k1 = n) (e2 : g2 = my_up g1 187 k2 z) (h2 : k2 = n) (e3 : g3 = my_up g2 187 k3 y) (h3 : k3 = n) (hy : y = part) : SmI h g3 m a b (i + 1) (n + 1) := by
  obtain ⟨p1, p2, p3, p4⟩ := p
  subst h1; subst h2; subst h3; subst hy
  have E1 : (zqN h m i.toNat).2 b = val := by rw [zqN_at i0 b0 bm, ev]
  have E2 : (zqN h m i.toNat).2 a = y := by rw [zqN_at i0 a0 am, ep]
  have old : ∀ i : Nat, i < k3.toNat → zqU g3 i = zqU g i := fun i hi => by
    unfold zqU
    rw [my_up_ne e3 (by omega), my_up_ne e2 (by omega), my_up_ne e1 (by omega), my_up_ne e3 (by omega), my_up_ne e2 (by omega), my_up_ne e1 (by omega)]
  have new : zqU g3 k3.toNat = (val, y) := by
    unfold zqU
    rw [Int.toNat_of_nonneg p1, my_up_self e3, my_up_ne e3 (by omega), my_up_ne e2 (by omega), my_up_self e1]
  refine ⟨by omega, by omega, ?_, fun i k x w => ?_⟩
  · rw [show (i + 1).toNat = i.toNat + 1 by omega, show (k3 + 1).toNat = k3.toNat + 1 by omega, zqL, zqL, zqG, ← p3, E1, E2, zqL_cg old, new]
    unfold zqI
    rw [if_neg (fun ⟨q, x, w⟩ => by
      obtain ⟨i, hi, z⟩ := zqL_mem.mp x
      exact nf i (by omega) (by rw [← w, ← z]; rfl))]
  · by_cases q : k = k3.toNat
    · subst q
      rw [new, old i (by omega)]
      exact nf i (by omega)
    · rw [old i (by omega), old k (by omega)]
      exact p4 i k x (by omega)
theorem SmI_e {h g : my_H} {m a b i n : Int} (p : SmI h g m a b i n) (cp : ∀ k : Nat, (k : Int) < n → g 182 (8 * (k : Int)) = g 186 (k : Int) ∧ g 182 (8 * (k : Int) + 1) = g 187 (k : Int)) : (zqL (zqN g 2) n.toNat).map Prod.snd = (zqG a b ((zqL (zqN h m) i.toNat).map Prod.snd)).map zq2 := by
  obtain ⟨p1, p2, p3, p4⟩ := p
  have q : (zqL (zqN h m) i.toNat).map Prod.snd = zqL (fun k => (zqN h m k).2) i.toNat := zqL_map
  rw [q, ← p3, zqL_map, zqL_map]
  refine zqL_cg (fun k hk => funext fun j => ?_)
  obtain ⟨c0, c1⟩ := cp k (by omega)
  show (if 0 ≤ j ∧ j < 2 then g 182 (8 * (k : Int) + j) else 0) = (if j = 0 then g 186 (k : Int) else if j = 1 then g 187 (k : Int) else 0)
  by_cases z0 : j = 0
  · subst z0
    rw [if_pos (by omega), if_pos rfl, Int.add_zero, c0]
  · by_cases z1 : j = 1
    · subst z1
      rw [if_pos (by omega), if_neg (by omega), if_pos rfl, c1]
    · rw [if_neg (by omega), if_neg z0, if_neg z1]
/-- places change between two rows -/
def SwR (h g : my_H) (p q l : Int) : Prop := (∀ c : Int, 0 ≤ c → c < l → g 182 (8 * p + c) = h 182 (8 * q + c) ∧ g 182 (8 * q + c) = h 182 (8 * p + c)) ∧ (∀ c : Int, l ≤ c → c < 8 → g 182 (8 * p + c) = h 182 (8 * p + c) ∧ g 182 (8 * q + c) = h 182 (8 * q + c)) ∧ ∀ j : Int, (j < 8 * p ∨ 8 * p + 8 ≤ j) → (j < 8 * q ∨ 8 * q + 8 ≤ j) → g 182 j = h 182 j
theorem SwR_0 {h g : my_H} {p q : Int} (e : ∀ j : Int, g 182 j = h 182 j) : SwR h g p q 0 := ⟨fun c a b => by omega, fun c _ _ => ⟨e _, e _⟩, fun j _ _ => e j⟩
theorem SwR_s {h g g1 g2 g3 g4 : my_H} {p q l i1 v1 i2 v2 i3 v3 i4 v4 : Int} (pq : p < q) (l0 : 0 ≤ l) (l8 : l < 8) (x : SwR h g p q l) (e1 : g1 = my_up g 182 i1 v1) (h1 : i1 = 8 * p + l) (w1 : v1 = g 182 (8 * q + l)) (e2 : g2 = my_up g1 183 i2 v2) (e3 : g3 = my_up g2 182 i3 v3) (h3 : i3 = 8 * q + l) (w3 : v3 = g 182 (8 * p + l)) (e4 : g4 = my_up g3 183 i4 v4) : SwR h g4 p q (l + 1) := by
  obtain ⟨x1, x2, x3⟩ := x
  subst h1; subst h3
  have go : ∀ j : Int, g4 182 j = if j = 8 * q + l then v3 else if j = 8 * p + l then v1 else g 182 j := fun j => by
    rw [my_up_ne e4 (by omega)]
    by_cases z : j = 8 * q + l
    · rw [if_pos z, z, my_up_self e3]
    · rw [if_neg z, my_up_ne e3 (by omega), my_up_ne e2 (by omega)]
      by_cases y : j = 8 * p + l
      · rw [if_pos y, y, my_up_self e1]
      · rw [if_neg y, my_up_ne e1 (by omega)]
  have y2 := x2 l (Int.le_refl _) l8
  refine ⟨fun c a b => ?_, fun c a b => ?_, fun j a b => ?_⟩
  · by_cases z : c = l
    · subst z
      rw [go, go, if_neg (by omega), if_pos rfl, if_pos rfl, w1, w3]
      exact ⟨y2.2, y2.1⟩
    · rw [go, go, if_neg (by omega), if_neg (by omega), if_neg (by omega), if_neg (by omega)]
      exact x1 c a (by omega)
  · rw [go, go, if_neg (by omega), if_neg (by omega), if_neg (by omega), if_neg (by omega)]
    exact x2 c (by omega) b
  · rw [go, if_neg (by omega), if_neg (by omega)]
    exact x3 j a b
end ZQXs
