/-! the reference's wanted rows, seen as if they were shown ones -/
section ZSF
/-- a heap in whose shown rows the wanted ones lie (of m columns) -/
def wv (m : Int) (g : my_H) : my_H := fun x j => if x = 182 then (if j % 8 < m then g 189 j else 0) else if x = 181 then 0 else g x j
theorem wv_at {m : Int} {g : my_H} {j : Int} : wv m g 182 j = if j % 8 < m then g 189 j else 0 := if_pos rfl
theorem wv_tg {m : Int} {g : my_H} {j : Int} : wv m g 181 j = 0 := rfl
theorem wv_c {m p c : Int} {g : my_H} (c0 : 0 ≤ c) (cm : c < m) (c8 : c < 8) : wv m g 182 (8 * p + c) = g 189 (8 * p + c) := by
  rw [wv_at, if_pos (by omega)]
theorem Wf_eq {h : my_H} {m p q : Int} (m8 : m ≤ 8) (p0 : 0 ≤ p) (q0 : 0 ≤ q) (e : ∀ j : Int, 0 ≤ j → j < m → h 189 (8 * p + j) = h 189 (8 * q + j)) : (zqN (wv m h) m p.toNat).2 = (zqN (wv m h) m q.toNat).2 :=
  Bf_eq p0 q0 (fun j a b => by rw [wv_c a b (by omega), wv_c a b (by omega)]; exact e j a b)
theorem Wf_lt {h : my_H} {m p q c : Int} (m8 : m ≤ 8) (p0 : 0 ≤ p) (q0 : 0 ≤ q) (e : ∀ j : Int, 0 ≤ j → j < c → h 189 (8 * p + j) = h 189 (8 * q + j)) (c0 : 0 ≤ c) (cm : c < m) (lt : h 189 (8 * p + c) < h 189 (8 * q + c)) : zqle (zqN (wv m h) m p.toNat).2 (zqN (wv m h) m q.toNat).2 :=
  Bf_lt p0 q0 (fun j a b => by rw [wv_c a (by omega) (by omega), wv_c a (by omega) (by omega)]; exact e j a b) c0 cm (by rw [wv_c c0 cm (by omega), wv_c c0 cm (by omega)]; exact lt)
/-- two wanted rows exchanged, the first l columns -/
def SwW (h g : my_H) (p q l : Int) : Prop := (∀ c : Int, 0 ≤ c → c < l → g 189 (8 * p + c) = h 189 (8 * q + c) ∧ g 189 (8 * q + c) = h 189 (8 * p + c)) ∧ ∀ j : Int, (j < 8 * p ∨ 8 * p + l ≤ j) → (j < 8 * q ∨ 8 * q + l ≤ j) → g 189 j = h 189 j
theorem SwW_0 {h : my_H} {p q : Int} : SwW h h p q 0 := ⟨fun c a b => by omega, fun _ _ _ => rfl⟩
theorem SwW_s {h g g1 g2 : my_H} {p q l i1 v1 i2 v2 : Int} (pq : p < q) (l0 : 0 ≤ l) (l8 : l < 8) (x : SwW h g p q l) (e1 : g1 = my_up g 189 i1 v1) (h1 : i1 = 8 * p + l) (w1 : v1 = g 189 (8 * q + l)) (e2 : g2 = my_up g1 189 i2 v2) (h2 : i2 = 8 * q + l) (w2 : v2 = g 189 (8 * p + l)) : SwW h g2 p q (l + 1) := by
  obtain ⟨x1, x2⟩ := x
  have ap : g 189 (8 * p + l) = h 189 (8 * p + l) := x2 _ (by omega) (by omega)
  have aq : g 189 (8 * q + l) = h 189 (8 * q + l) := x2 _ (by omega) (by omega)
  refine ⟨fun c a b => ?_, fun j a b => ?_⟩
  · by_cases z : c = l
    · subst z
      refine ⟨?_, ?_⟩
      · rw [my_up_ne e2 (by omega), my_up_at e1 (by omega), w1, aq]
      · rw [my_up_at e2 (by omega), w2, ap]
    · have y := x1 c a (by omega)
      refine ⟨?_, ?_⟩
      · rw [my_up_ne e2 (by omega), my_up_ne e1 (by omega)]; exact y.1
      · rw [my_up_ne e2 (by omega), my_up_ne e1 (by omega)]; exact y.2
  · rw [my_up_ne e2 (by omega), my_up_ne e1 (by omega)]
    exact x2 j (by omega) (by omega)
theorem SwW_r {h g : my_H} {p q m : Int} (m8 : m ≤ 8) (pq : p < q) (x : SwW h g p q m) : (∀ c : Int, 0 ≤ c → c < 8 → wv m g 182 (8 * p + c) = wv m h 182 (8 * q + c)) ∧ (∀ c : Int, 0 ≤ c → c < 8 → wv m g 182 (8 * q + c) = wv m h 182 (8 * p + c)) ∧ ∀ j : Int, (j < 8 * p ∨ 8 * p + 8 ≤ j) → (j < 8 * q ∨ 8 * q + 8 ≤ j) → wv m g 182 j = wv m h 182 j := by
  obtain ⟨x1, x2⟩ := x
  refine ⟨fun c a b => ?_, fun c a b => ?_, fun j a b => ?_⟩
  · rw [wv_at, wv_at]
    by_cases z : c < m
    · rw [if_pos (by omega), if_pos (by omega)]; exact (x1 c a z).1
    · rw [if_neg (by omega), if_neg (by omega)]
  · rw [wv_at, wv_at]
    by_cases z : c < m
    · rw [if_pos (by omega), if_pos (by omega)]; exact (x1 c a z).2
    · rw [if_neg (by omega), if_neg (by omega)]
  · rw [wv_at, wv_at]
    by_cases z : j % 8 < m
    · rw [if_pos z, if_pos z]; exact x2 j (by omega) (by omega)
    · rw [if_neg z, if_neg z]
/-- sorting the n wanted rows, that are those of L -/
def SwQ (L : List zqR) (g : my_H) (m n p q : Int) : Prop := ∃ h0 : my_H, ((zqL (zqN (wv m h0) m) n.toNat).map Prod.snd).Perm L ∧ SwI (wv m h0) (wv m g) m n p q
theorem SwQ_0 {L : List zqR} {g : my_H} {m n : Int} (e : ((zqL (zqN (wv m g) m) n.toNat).map Prod.snd).Perm L) : SwQ L g m n 0 1 := ⟨g, e, SwI_0⟩
theorem SwQ_p {L : List zqR} {g : my_H} {m n p q : Int} (p0 : 0 ≤ p) (hq : n ≤ q) (x : SwQ L g m n p q) : SwQ L g m n (p + 1) (p + 2) := by
  obtain ⟨h0, e, s⟩ := x
  exact ⟨h0, e, SwI_p p0 hq s⟩
theorem SwQ_n {L : List zqR} {g : my_H} {m n p q : Int} (q0 : 0 ≤ q) (x : SwQ L g m n p q) (le : zqle (zqN (wv m g) m p.toNat).2 (zqN (wv m g) m q.toNat).2) : SwQ L g m n p (q + 1) := by
  obtain ⟨h0, e, s⟩ := x
  exact ⟨h0, e, SwI_n q0 s le⟩
theorem SwQ_y {L : List zqR} {g g2 : my_H} {m n p q : Int} (m8 : m ≤ 8) (p0 : 0 ≤ p) (pq : p < q) (qn : q < n) (x : SwQ L g m n p q) (le : zqle (zqN (wv m g) m q.toNat).2 (zqN (wv m g) m p.toNat).2) (w : SwW g g2 p q m) : SwQ L g2 m n p (q + 1) := by
  obtain ⟨h0, e, s⟩ := x
  obtain ⟨r1, r2, r3⟩ := SwW_r m8 pq w
  exact ⟨h0, e, SwI_y m8 p0 pq qn s le rfl rfl (fun _ _ _ => rfl) r1 r2 r3⟩
theorem SwQ_e {L : List zqR} {g : my_H} {m n p q : Int} (x : SwQ L g m n p q) (hp : n ≤ p) : ((zqL (zqN (wv m g) m) n.toNat).map Prod.snd).Perm L ∧ zqS zqle (fun i => (zqN (wv m g) m i).2) n.toNat := by
  obtain ⟨h0, e, s⟩ := x
  have y := SwI_e s hp
  exact ⟨(y.1.map _).trans e, y.2⟩
end ZSF
