/-! the reference's wanted rows are built -/
section ZSG
/-- what cell c of wanted row k is to hold -/
def WdC (h : my_H) (e i j v k c : Int) : Int := if e = 1 ∧ i ≤ k then h 182 (8 * (k + 1) + c) else if e = 0 ∧ k = i ∧ c = j then v else h 182 (8 * k + c)
def WdI (h g : my_H) (e i j v W n : Int) : Prop := ∀ k c : Int, 0 ≤ k → k < n → 0 ≤ c → c < W → g 189 (8 * k + c) = WdC h e i j v k c
/-- a row, its first l columns -/
def WdP (g : my_H) (f : Int → Int) (n l : Int) : Prop := ∀ c : Int, 0 ≤ c → c < l → g 189 (8 * n + c) = f c
theorem WdI_0 {h g : my_H} {e i j v W : Int} : WdI h g e i j v W 0 := fun k c a b => by omega
theorem WdP_0 {g : my_H} {f : Int → Int} {n : Int} : WdP g f n 0 := fun c a b => by omega
theorem WdI_u {h g g' : my_H} {e i j v W n l x y : Int} (W8 : W ≤ 8) (l0 : 0 ≤ l) (p : WdI h g e i j v W n) (u : g' = my_up g 189 x y) (hx : x = 8 * n + l) : WdI h g' e i j v W n := fun k c k0 k1 c0 c1 => by
  rw [my_up_ne u (by omega)]
  exact p k c k0 k1 c0 c1
theorem WdP_u {g g' : my_H} {f : Int → Int} {n l x y : Int} (p : WdP g f n l) (u : g' = my_up g 189 x y) (hx : x = 8 * n + l) (hy : y = f l) : WdP g' f n (l + 1) := fun c a b => by
  by_cases z : c = l
  · rw [z, my_up_at u (by omega), hy]
  · rw [my_up_ne u (by omega)]
    exact p c a (by omega)
theorem WdI_s {h g g' : my_H} {e i j v W n : Int} (p : WdI h g e i j v W n) (q : WdP g (WdC h e i j v n) n W) (o : ∀ x : Int, g' 189 x = g 189 x) : WdI h g' e i j v W (n + 1) := fun k c k0 k1 c0 c1 => by
  rw [o]
  by_cases z : k = n
  · rw [z]; exact q c c0 c1
  · exact p k c k0 (by omega) c0 c1
theorem WdC_1 {h : my_H} {e i j v k r c : Int} (e1 : e = 1) (hr : (i < r ∧ k = r - 1) ∨ (r < i ∧ k = r)) : WdC h e i j v k c = h 182 (8 * r + c) := by
  unfold WdC
  rcases hr with ⟨a, b⟩ | ⟨a, b⟩
  · rw [if_pos ⟨e1, by omega⟩, show k + 1 = r by omega]
  · rw [if_neg (fun z => by have := z.2; omega), if_neg (fun z => by have := z.1; omega), b]
theorem WdC_v {h : my_H} {e i j v k c : Int} (e0 : e = 0) (ki : k = i) (cj : c = j) : WdC h e i j v k c = v := by
  unfold WdC
  rw [if_neg (fun z => by have := z.1; omega), if_pos ⟨e0, ki, cj⟩]
theorem WdC_o {h : my_H} {e i j v k c : Int} (e1 : e ≠ 1) (z : e ≠ 0 ∨ k ≠ i ∨ c ≠ j) : WdC h e i j v k c = h 182 (8 * k + c) := by
  unfold WdC
  rw [if_neg (fun q => e1 q.1), if_neg (fun q => z.elim (fun z => z q.1) (fun z => z.elim (fun z => z q.2.1) (fun z => z q.2.2)))]
theorem WdI_z {h g : my_H} {e i j v W n : Int} (hn : n = 0) : WdI h g e i j v W n := fun k c a b => by omega
theorem WdI_c {h g : my_H} {e i j v W n n' : Int} (p : WdI h g e i j v W n) (hn : n' = n) : WdI h g e i j v W n' := by rw [hn]; exact p
theorem WdI_v {h g g' : my_H} {e i j v W n n' l x y : Int} (u : g' = my_up g 189 x y) (p : WdI h g e i j v W n) (W8 : W ≤ 8) (l0 : 0 ≤ l) (hx : x = 8 * n + l) (hn : n' = n) : WdI h g' e i j v W n' := by
  rw [hn]; exact WdI_u W8 l0 p u hx
theorem WdI_t {h g g' : my_H} {e i j v W n n' l a b y : Int} (u : g' = my_up g a b y) (ha : a ≠ 189) (p : WdI h g e i j v W n) (q : WdP g (WdC h e i j v n) n l) (hl : l = W) (hn : n' = n + 1) : WdI h g' e i j v W n' := by
  rw [hn]; subst hl; exact WdI_s p q (fun x => my_up_ne u (by omega))
theorem WdP_v {h g g' : my_H} {e i j v n n' l x y : Int} (u : g' = my_up g 189 x y) (p : WdP g (WdC h e i j v n) n l) (hx : x = 8 * n + l) (hy : y = WdC h e i j v n l) (hn : n' = n) : WdP g' (WdC h e i j v n') n' (l + 1) := by
  rw [hn]; exact WdP_u p u hx hy
theorem WdC_p {h : my_H} {e i j v k r c y : Int} (ey : y = h 182 (8 * r + c)) (hk : (e = 1 ∧ ((i < r ∧ k = r - 1) ∨ (r < i ∧ k = r))) ∨ (e ≠ 1 ∧ k = r ∧ (e ≠ 0 ∨ k ≠ i ∨ c ≠ j))) : y = WdC h e i j v k c := by
  rcases hk with ⟨e1, z⟩ | ⟨e1, kr, z⟩
  · rw [WdC_1 e1 z]; exact ey
  · rw [WdC_o e1 z, kr]; exact ey
/-- the rows shown with the edit made -/
def EdLm (h : my_H) (e i j v : Int) (D : Int → Int) : List zqR := EdL (fun k => (zqN h (h 151 27) k).2) (h 151 37).toNat (h 151 27) e i j v D
theorem WdI_row {h g : my_H} {e i j v W n : Int} (W8 : W ≤ 8) (p : WdI h g e i j v W n) (k : Nat) (hk : (k : Int) < n) : (zqN (wv W g) W k).2 = fun c => if 0 ≤ c ∧ c < W then WdC h e i j v k c else 0 := funext fun c => by
  show (if 0 ≤ c ∧ c < W then wv W g 182 (8 * (k : Int) + c) else 0) = _
  by_cases z : 0 ≤ c ∧ c < W
  · rw [if_pos z, if_pos z, wv_c z.1 z.2 (by omega)]
    exact p k c (by omega) hk z.1 z.2
  · rw [if_neg z, if_neg z]
/-- all rows are there -/
theorem WdI_e {h g : my_H} {e i j v n : Int} {D : Int → Int} (W8 : h 151 27 ≤ 8) (n0 : 0 ≤ h 151 37) (p : WdI h g e i j v (h 151 27) n) (e2 : e ≠ 2) (hn : n = if e = 1 then h 151 37 - 1 else h 151 37) (h0 : e = 0 → 0 ≤ j ∧ j < h 151 27) (hm : e ≠ 0 → e ≠ 1 → i < 0) : ((zqL (zqN (wv (h 151 27) g) (h 151 27)) n.toNat).map Prod.snd) = EdLm h e i j v D := by
  unfold EdLm EdL
  rw [if_neg e2, zqL_map]
  by_cases e1 : e = 1
  · rw [if_pos e1, hn, if_pos e1, show (h 151 37 - 1).toNat = (h 151 37).toNat - 1 by omega]
    refine zqL_cg (fun k hk => ?_)
    rw [WdI_row W8 p k (by rw [hn, if_pos e1]; omega)]
    refine funext fun c => ?_
    show _ = if 0 ≤ c ∧ c < h 151 27 then h 182 (8 * (((if i ≤ (k : Int) then k + 1 else k : Nat)) : Int) + c) else 0
    by_cases z : 0 ≤ c ∧ c < h 151 27
    · rw [if_pos z, if_pos z]
      by_cases q : i ≤ (k : Int)
      · rw [if_pos q, WdC, if_pos ⟨e1, q⟩]; rfl
      · rw [if_neg q, WdC, if_neg (fun y => q y.2), if_neg (fun y => by have := y.1; omega)]
    · rw [if_neg z, if_neg z]
  · rw [if_neg e1, hn, if_neg e1]
    refine zqL_cg (fun k hk => ?_)
    rw [WdI_row W8 p k (by rw [hn, if_neg e1]; omega)]
    show _ = if (k : Int) = i then (fun c => if c = j then v else (zqN h (h 151 27) k).2 c) else (zqN h (h 151 27) k).2
    by_cases ki : (k : Int) = i
    · have e0 : e = 0 := Decidable.byContradiction (fun z => by have := hm z e1; omega)
      have hj := h0 e0
      rw [if_pos ki]
      refine funext fun c => ?_
      show _ = if c = j then v else if 0 ≤ c ∧ c < h 151 27 then h 182 (8 * (k : Int) + c) else 0
      by_cases z : 0 ≤ c ∧ c < h 151 27
      · rw [if_pos z, if_pos z]
        by_cases cj : c = j
        · rw [if_pos cj, WdC_v e0 ki cj]
        · rw [if_neg cj, WdC_o e1 (Or.inr (Or.inr cj))]
      · rw [if_neg z, if_neg z, if_neg (fun y => z (by rw [y]; exact hj))]
    · rw [if_neg ki]
      refine funext fun c => ?_
      show _ = if 0 ≤ c ∧ c < h 151 27 then h 182 (8 * (k : Int) + c) else 0
      by_cases z : 0 ≤ c ∧ c < h 151 27
      · rw [if_pos z, if_pos z, WdC_o e1 (Or.inr (Or.inl ki))]
      · rw [if_neg z, if_neg z]
theorem WdI_a {h g : my_H} {e i j v n : Int} {D : Int → Int} (W8 : h 151 27 ≤ 8) (n0 : 0 ≤ h 151 37) (p : WdI h g e i j v (h 151 27) (h 151 37)) (q : WdP g D (h 151 37) (h 151 27)) (e2 : e = 2) (hn : n = h 151 37 + 1) : ((zqL (zqN (wv (h 151 27) g) (h 151 27)) n.toNat).map Prod.snd) = EdLm h e i j v D := by
  unfold EdLm EdL
  rw [if_pos e2, zqL_map, hn, show (h 151 37 + 1).toNat = (h 151 37).toNat + 1 by omega, zqL]
  refine congr (congrArg _ (funext fun c => ?_)) (zqL_cg (fun k hk => ?_))
  · show (if 0 ≤ c ∧ c < h 151 27 then wv (h 151 27) g 182 (8 * ((h 151 37).toNat : Int) + c) else 0) = _
    by_cases z : 0 ≤ c ∧ c < h 151 27
    · rw [if_pos z, if_pos z, wv_c z.1 z.2 (by omega), Int.toNat_of_nonneg n0]
      exact q c z.1 z.2
    · rw [if_neg z, if_neg z]
  · rw [WdI_row W8 p k (by omega)]
    refine funext fun c => ?_
    show _ = if 0 ≤ c ∧ c < h 151 27 then h 182 (8 * (k : Int) + c) else 0
    by_cases z : 0 ≤ c ∧ c < h 151 27
    · rw [if_pos z, if_pos z, WdC_o (by omega) (Or.inl (by omega))]
    · rw [if_neg z, if_neg z]
theorem SwQ_p2 {L : List zqR} {g : my_H} {m n n' p p' q q' : Int} (x : SwQ L g m n p q) (p0 : 0 ≤ p) (hq : n ≤ q) (hn : n' = n) (hp : p' = p + 1) (hq' : q' = p + 2) : SwQ L g m n' p' q' := by
  rw [hn, hp, hq']; exact SwQ_p p0 hq x
theorem SwQ_y2 {L : List zqR} {g g2 : my_H} {m n n' p q q' : Int} (x : SwQ L g m n p q) (le : zqle (zqN (wv m g) m q.toNat).2 (zqN (wv m g) m p.toNat).2) (w : SwW g g2 p q m) (m8 : m ≤ 8) (p0 : 0 ≤ p) (pq : p < q) (qn : q < n) (hn : n' = n) (hq : q' = q + 1) : SwQ L g2 m n' p q' := by
  rw [hn, hq]; exact SwQ_y m8 p0 pq qn x le w
theorem SwQ_a {h g g' : my_H} {e i j v n l a b y q : Int} {D : Int → Int} (u : g' = my_up g a b y) (ha : a ≠ 189) (p : WdI h g e i j v (h 151 27) (h 151 37)) (w : WdP g D (h 151 37) l) (W8 : h 151 27 ≤ 8) (n0 : 0 ≤ h 151 37) (hl : l = h 151 27) (e2 : e = 2) (hn : n = h 151 37 + 1) (hq : q = 1) : SwQ (EdLm h e i j v D) g' (h 151 27) n 0 q := by
  subst hq
  have o : ∀ x : Int, g' 189 x = g 189 x := fun x => my_up_ne u (by omega)
  refine SwQ_0 (List.Perm.of_eq (WdI_a W8 n0 (fun k c k0 k1 c0 c1 => by rw [o]; exact p k c k0 k1 c0 c1) (fun c c0 c1 => by rw [o]; exact w c c0 (by omega)) e2 hn))
end ZSG
