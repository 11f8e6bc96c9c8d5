/-! the reference's windows, but the draft, are as they were -/
section MTL
def Ko (h g : my_H) : Prop := (∀ k : Int, k ≤ 5 → g 164 k = h 164 k ∧ g 165 k = h 165 k ∧ g 166 k = h 166 k ∧ g 167 k = h 167 k) ∧ (∀ i : Int, i < 36 → g 168 i = h 168 i ∧ g 169 i = h 169 i ∧ g 170 i = h 170 i ∧ g 171 i = h 171 i) ∧ ∀ i : Int, i < 288 → g 172 i = h 172 i
theorem Ko_rf {h : my_H} : Ko h h := ⟨fun _ _ => ⟨rfl, rfl, rfl, rfl⟩, fun _ _ => ⟨rfl, rfl, rfl, rfl⟩, fun _ _ => rfl⟩
theorem Ko_tr {h g g' : my_H} (p : Ko h g) (q : Ko g g') : Ko h g' := by
  obtain ⟨p1, p2, p3⟩ := p
  obtain ⟨q1, q2, q3⟩ := q
  refine ⟨fun k a => ?_, fun i a => ?_, fun i a => (q3 i a).trans (p3 i a)⟩
  · obtain ⟨a1, a2, a3, a4⟩ := p1 k a
    obtain ⟨b1, b2, b3, b4⟩ := q1 k a
    exact ⟨b1.trans a1, b2.trans a2, b3.trans a3, b4.trans a4⟩
  · obtain ⟨a1, a2, a3, a4⟩ := p2 i a
    obtain ⟨b1, b2, b3, b4⟩ := q2 i a
    exact ⟨b1.trans a1, b2.trans a2, b3.trans a3, b4.trans a4⟩
theorem Ko_ag {h g g' : my_H} (a : my_ag [(63, -1), (64, -1), (65, -1), (66, -1), (67, -1), (68, -1), (69, -1), (70, -1), (71, -1)] g g') (p : Ko h g) : Ko h g' :=
  Ko_tr p ⟨fun k _ => ⟨a.at mis_164 rfl, a.at mis_165 rfl, a.at mis_166 rfl, a.at mis_167 rfl⟩, fun i _ => ⟨a.at mis_168 rfl, a.at mis_169 rfl, a.at mis_170 rfl, a.at mis_171 rfl⟩, fun i _ => a.at mis_172 rfl⟩
theorem Ko_u {h g g' : my_H} {w a i v : Int} (hw : w ≤ 5) (ha : a = 168 ∨ a = 169 ∨ a = 170 ∨ a = 171) (hi : 36 ≤ i) (e : g' = my_up g a i v) (p : Ko h g) : Ko h g' := by
  have ne : ∀ x j : Int, ¬ (x = a ∧ j = i) → g' x j = g x j := fun x j q => my_up_ne e q
  exact Ko_tr p ⟨fun k _ => ⟨ne _ _ (by omega), ne _ _ (by omega), ne _ _ (by omega), ne _ _ (by omega)⟩, fun j _ => ⟨ne _ _ (by omega), ne _ _ (by omega), ne _ _ (by omega), ne _ _ (by omega)⟩, fun j _ => ne _ _ (by omega)⟩
theorem Ko_v {h g g' : my_H} {w a i v : Int} (hw : w ≤ 5) (ha : a = 172) (hi : 288 ≤ i) (e : g' = my_up g a i v) (p : Ko h g) : Ko h g' := by
  have ne : ∀ x j : Int, ¬ (x = a ∧ j = i) → g' x j = g x j := fun x j q => my_up_ne e q
  exact Ko_tr p ⟨fun k _ => ⟨ne _ _ (by omega), ne _ _ (by omega), ne _ _ (by omega), ne _ _ (by omega)⟩, fun j _ => ⟨ne _ _ (by omega), ne _ _ (by omega), ne _ _ (by omega), ne _ _ (by omega)⟩, fun j _ => ne _ _ (by omega)⟩
theorem Ko_7 {h g g' : my_H} {w a i v : Int} (hw : w ≤ 5) (ha : a = 165 ∨ a = 166 ∨ a = 167) (hi : 6 ≤ i) (e : g' = my_up g a i v) (p : Ko h g) : Ko h g' := by
  have ne : ∀ x j : Int, ¬ (x = a ∧ j = i) → g' x j = g x j := fun x j q => my_up_ne e q
  exact Ko_tr p ⟨fun k _ => ⟨ne _ _ (by omega), ne _ _ (by omega), ne _ _ (by omega), ne _ _ (by omega)⟩, fun j _ => ⟨ne _ _ (by omega), ne _ _ (by omega), ne _ _ (by omega), ne _ _ (by omega)⟩, fun j _ => ne _ _ (by omega)⟩
/-- columns of the base of each window -/
def BwB (h : my_H) (B : Int → Int) : Prop := ∀ k : Int, 0 ≤ k → k ≤ 5 → h 164 k = 1 → B k = if h 165 k = 1 then h 157 (h 166 k) else B (h 166 k)
/-- what a window rests on, as the class says it -/
def ovo (h : my_H) (k : Int) : Int := if h 165 k = 1 then -1 else h 166 k
theorem mwf_ko {h g : my_H} (K : Ko h g) (e : ∀ j : Int, g 157 j = h 157 j) {k c : Int} (a : 0 ≤ k) (b : k ≤ 5) : ∀ n : Nat, n ≤ 6 → mwf g k c n = mwf h k c n
  | 0, _ => rfl
  | n + 1, hn => by
    rw [mwf, mwf, mwf_ko K e a b n (by omega)]
    obtain ⟨k1, -, k3, k4⟩ := K.2.1 (6 * k + n) (by omega)
    unfold ms
    rw [k1, k3, k4, e]
theorem mst_ko {h g : my_H} (K : Ko h g) (e : ∀ j : Int, g 157 j = h 157 j) {W : Int → Int} {k : Int} (b : k ≤ 5) : mst g W k = mst h W k := by
  obtain ⟨-, k2, k3, -⟩ := K.1 k b
  unfold mst
  rw [k2, k3, e]
theorem MwW_ko {h g : my_H} (K : Ko h g) (e : ∀ j : Int, g 157 j = h 157 j) (t : ∀ k : Int, 0 ≤ k → k ≤ 6 → 0 ≤ h 167 k ∧ h 167 k ≤ 6) {W : Int → Int} (p : MwW h W) : MwW g W := by
  intro k a b c
  obtain ⟨k1, k2, k3, k4⟩ := K.1 k b
  rw [k1] at c
  obtain ⟨⟨o1, o2, o3, o4, o5⟩, o6⟩ := p k a b c
  have tk := t k a (by omega)
  refine ⟨⟨by rw [k2]; exact o1, by rw [k3]; exact o2, by rw [k2, k3, e]; exact o3, ?_, ?_⟩, ?_⟩
  · rw [k2, k3]
    intro z
    obtain ⟨z1, z2⟩ := o4 z
    exact ⟨z1, by rw [(K.1 _ (by omega)).1]; exact z2⟩
  · rw [mst_ko K e b, k4]
    intro n hn
    have q := o5 n hn
    obtain ⟨l1, -, l3, -⟩ := K.2.1 (6 * k + n) (by omega)
    rw [l1, l3, e, mwf_ko K e a b n (by omega)]
    exact q
  · rw [mst_ko K e b, k4, mwf_ko K e a b _ (by omega)]
    exact o6
theorem BwB_ko {h g : my_H} (K : Ko h g) (e : ∀ j : Int, g 157 j = h 157 j) {B : Int → Int} (p : BwB h B) : BwB g B := by
  intro k a b c
  obtain ⟨k1, k2, k3, k4⟩ := K.1 k b
  rw [k1] at c
  rw [k2, k3, e]
  exact p k a b c
/-- the chain's base -/
theorem Fc_B {h g : my_H} {c x1 : Int} {B : Int → Int} (Bp : BwB h B) (p : Fc h g c (-1) x1) : ∀ (n : Nat) (j : Int), j.toNat = n → 0 ≤ j → j + 1 < c → B (g 177 j) = h 157 (g 151 33)
  | 0, j, hn, a, b => by
    have j0 : j = 0 := by omega
    subst j0
    obtain ⟨q1, q2⟩ := p.2.2.2.2.1 0 a b
    have q3 := p.2.2.2.2.2 0 a (by omega)
    obtain ⟨-, -, -, r4⟩ := p.2.1 (by omega)
    obtain ⟨s1, s2⟩ := r4 rfl
    rw [Bp _ q3.1 q1 q2, if_pos s1, s2]
  | n + 1, j, hn, a, b => by
    obtain ⟨q1, q2⟩ := p.2.2.2.2.1 j a b
    have q3 := p.2.2.2.2.2 j a (by omega)
    obtain ⟨r1, r2⟩ := p.2.2.1 j (by omega) (by omega)
    rw [Bp _ q3.1 q1 q2, if_neg (by omega), r2]
    exact Fc_B Bp p n (j - 1) (by omega) (by omega) (by omega)
/-- of the draft: its base's columns -/
theorem Fc_B6 {h g : my_H} {c : Int} {B : Int → Int} (Bp : BwB h B) (p : Fc h g c (-1) 6) (hc : 1 ≤ c) : h 157 (g 151 33) = if h 165 6 = 1 then h 157 (h 166 6) else B (h 166 6) := by
  have l := p.2.2.2.1 (by omega)
  by_cases c1 : c = 1
  · subst c1
    rw [show (1 : Int) - 1 = 0 by omega] at l
    obtain ⟨-, -, -, r4⟩ := p.2.1 (by omega)
    obtain ⟨s1, s2⟩ := r4 rfl
    rw [l] at s1 s2
    rw [if_pos s1, s2]
  · obtain ⟨r1, r2⟩ := p.2.2.1 (c - 1) (by omega) (by omega)
    rw [l] at r1 r2
    rw [if_neg (by omega), r2]
    exact (Fc_B Bp p _ (c - 1 - 1) rfl (by omega) (by omega)).symm
end MTL
