/-! what is read of tokens: relations over a stream (sorts, values, words, places, next ones) -/
section MTD
abbrev tst := (Int → Int) × (Int → Int) × (Int → Int) × (Int → Int) × (Int → Int)
def sK (σ : tst) (x : Int) : Int := σ.1 x
def sV (σ : tst) (x : Int) : Int := σ.2.1 x
def sW (σ : tst) (x : Int) : Int := σ.2.2.1 x
def sP (σ : tst) (x : Int) : Int := σ.2.2.2.1 x
def sN (σ : tst) (x : Int) : Int := σ.2.2.2.2 x
noncomputable def cs (h : my_H) : tst := (tK (tp_of h), tV (tp_of h), tW (tp_of h), (fun x => x), tN (tp_of h))
def sm (h : my_H) : tst := ((fun i => if h 153 i = 3 ∧ h 155 i ≠ 59 then 4 else h 153 i), h 155, (fun i => if h 153 i = 1 then h 155 i else 0), h 154, (fun i => i + 1))
abbrev rNum (σ : tst) (x lim φ : Int) (C : Prop) : Prop := (sK σ x ≠ 2 ∧ φ = 1 + 16 * sP σ x) ∨ (sK σ x = 2 ∧ lim ≤ sV σ x ∧ φ = 4 + 16 * sP σ x) ∨ (sK σ x = 2 ∧ sV σ x < lim ∧ C)
abbrev rEnd (σ : tst) (x φ y : Int) : Prop := (sK σ x ≠ 3 ∧ φ = 1 + 16 * sP σ x) ∨ (sK σ x = 3 ∧ φ = 0 ∧ y = sN σ x)
abbrev rWd (σ : tst) (x w φ : Int) (C : Prop) : Prop := (sW σ x ≠ w ∧ φ = 1 + 16 * sP σ x) ∨ (sW σ x = w ∧ C)
def fillR (σ : tst) (x b φ y : Int) : Prop := rNum σ x b φ (rNum σ (sN σ x) 20 φ (rEnd σ (sN σ (sN σ x)) φ y))
def cutR (σ : tst) (x c φ y : Int) : Prop := rNum σ x c φ ((sW σ (sN σ x) ≠ 615403 ∧ sW σ (sN σ x) ≠ 352 ∧ sW σ (sN σ x) ≠ 679695 ∧ φ = 1 + 16 * sP σ (sN σ x)) ∨ ((sW σ (sN σ x) = 615403 ∨ sW σ (sN σ x) = 352 ∨ sW σ (sN σ x) = 679695) ∧ rNum σ (sN σ (sN σ x)) 200 φ (rEnd σ (sN σ (sN σ (sN σ x))) φ y)))
def sumR (σ : tst) (x c φ y : Int) : Prop := rNum σ x c φ (rWd σ (sN σ x) 99 φ ((sK σ (sN σ (sN σ x)) = 2 ∧ sV σ (sN σ (sN σ x)) = sV σ x ∧ φ = 3 + 16 * sP σ (sN σ (sN σ x))) ∨ ((sK σ (sN σ (sN σ x)) ≠ 2 ∨ sV σ (sN σ (sN σ x)) ≠ sV σ x) ∧ rNum σ (sN σ (sN σ x)) c φ (rEnd σ (sN σ (sN σ (sN σ x))) φ y))))
def joinR (σ : tst) (cl : Int → Int) (x c φ y : Int) : Prop := rNum σ x 3 φ ((cl (sV σ x) ≤ 0 ∧ φ = 2 + 16 * sP σ x) ∨ (1 ≤ cl (sV σ x) ∧ 9 < c + cl (sV σ x) ∧ φ = 5 + 16 * sP σ x) ∨ (1 ≤ cl (sV σ x) ∧ c + cl (sV σ x) ≤ 9 ∧ rWd σ (sN σ x) 99 φ (rNum σ (sN σ (sN σ x)) c φ (rEnd σ (sN σ (sN σ (sN σ x))) φ y))))
def fewR (σ : tst) (c : Int) : Nat → Int → (Int → Prop) → Int → Int → Int → Int → Prop
  | 0, _, _, _, _, _, _ => False
  | k + 1, x, M, m, φ, y, m' => rNum σ x c φ ((M (sV σ x) ∧ φ = 3 + 16 * sP σ x) ∨ (¬ M (sV σ x) ∧ ((sK σ (sN σ x) = 3 ∧ φ = 0 ∧ y = sN σ (sN σ x) ∧ m' = m + 1) ∨ (sK σ (sN σ x) ≠ 3 ∧ fewR σ c k (sN σ x) (fun v => M v ∨ v = sV σ x) (m + 1) φ y m'))))
def paneR (σ : tst) (cl : Int → Int) (b x c s φ y c' s' : Int) : Prop :=
  (sW σ x = 316695 ∧ fillR σ (sN σ x) b φ y ∧ c' = c ∧ s' = s) ∨
  ((sW σ x = 4904 ∨ sW σ x = 8422 ∨ sW σ x = 527412 ∨ sW σ x = 26801) ∧ 6 ≤ s ∧ φ = 5 + 16 * sP σ x) ∨
  (sW σ x = 4904 ∧ s < 6 ∧ cutR σ (sN σ x) c φ y ∧ c' = c ∧ s' = s + 1) ∨
  (sW σ x = 8422 ∧ s < 6 ∧ (∃ k : Nat, fewR σ c k (sN σ x) (fun _ => False) 0 φ y c') ∧ s' = s + 1) ∨
  (sW σ x = 527412 ∧ s < 6 ∧ joinR σ cl (sN σ x) c φ y ∧ (φ = 0 → c' = c + cl (sV σ (sN σ x)) - 1) ∧ s' = s + 1) ∨
  (sW σ x = 26801 ∧ s < 6 ∧ sumR σ (sN σ x) c φ y ∧ c' = 2 ∧ s' = s + 1) ∨
  (sW σ x ≠ 316695 ∧ sW σ x ≠ 4904 ∧ sW σ x ≠ 8422 ∧ sW σ x ≠ 527412 ∧ sW σ x ≠ 26801 ∧ φ = 1 + 16 * sP σ x)
def loopR (σ : tst) (cl : Int → Int) (b : Int) : Nat → Int → Int → Int → Int → Int → Prop
  | 0, _, _, _, _, _ => False
  | k + 1, x, c, s, φ, c' => (sK σ x = 0 ∧ φ = 0 ∧ c' = c) ∨ (sK σ x ≠ 0 ∧ ∃ φ1 y c1 s1 : Int, paneR σ cl b x c s φ1 y c1 s1 ∧ ((φ1 ≠ 0 ∧ φ = φ1) ∨ (φ1 = 0 ∧ loopR σ cl b k y c1 s1 φ c')))
/-- over wall N, over window N: the columns that there are then, and those of the base -/
def overR (σ : tst) (cl tl wd bc : Int → Int) (w x φ y c b o : Int) : Prop := rWd σ x 790116 φ (
  (sW σ (sN σ x) = 1166844 ∧ rNum σ (sN σ (sN σ x)) 3 φ ((cl (sV σ (sN σ (sN σ x))) ≤ 0 ∧ φ = 2 + 16 * sP σ (sN σ (sN σ x))) ∨ (1 ≤ cl (sV σ (sN σ (sN σ x))) ∧ (φ = 0 → c = cl (sV σ (sN σ (sN σ x))) ∧ b = cl (sV σ (sN σ (sN σ x))) ∧ o = -1) ∧ rEnd σ (sN σ (sN σ (sN σ x))) φ y))) ∨
  (sW σ (sN σ x) = 1612493656 ∧ rNum σ (sN σ (sN σ x)) w φ ((tl (sV σ (sN σ (sN σ x))) ≠ 1 ∧ φ = 2 + 16 * sP σ (sN σ (sN σ x))) ∨ (tl (sV σ (sN σ (sN σ x))) = 1 ∧ (φ = 0 → c = wd (sV σ (sN σ (sN σ x))) ∧ b = bc (sV σ (sN σ (sN σ x))) ∧ o = sV σ (sN σ (sN σ x))) ∧ rEnd σ (sN σ (sN σ (sN σ x))) φ y))) ∨
  (sW σ (sN σ x) ≠ 1166844 ∧ sW σ (sN σ x) ≠ 1612493656 ∧ φ = 1 + 16 * sP σ (sN σ x)))
def readR (σ : tst) (cl tl wd bc : Int → Int) (w x φ c b o : Int) : Prop := ∃ φ1 y c1 : Int, overR σ cl tl wd bc w x φ1 y c1 b o ∧ ((φ1 ≠ 0 ∧ φ = φ1) ∨ (φ1 = 0 ∧ ∃ k : Nat, loopR σ cl b k y c1 0 φ c))
/-- two streams go alike: σ' by tokens' numbers 0 to n, σ by their places -/
def Bis (σ σ' : tst) (n : Int) : Prop := ∀ i : Int, 0 ≤ i → i ≤ n → sK σ' i = sK σ (sP σ' i) ∧ (sK σ' i = 2 → sV σ' i = sV σ (sP σ' i) ∧ 0 ≤ sV σ' i) ∧ sW σ' i = sW σ (sP σ' i) ∧ (sW σ' i ≠ 0 → sK σ' i ≠ 0) ∧ sP σ (sP σ' i) = sP σ' i ∧ 0 ≤ sP σ' i ∧ (sK σ' i ≠ 0 → 0 ≤ sN σ' i ∧ sN σ' i ≤ n ∧ sP σ' (sN σ' i) = sN σ (sP σ' i))
/-- what two readers find is the same, and where they stand -/
abbrev Sm (σ' : tst) (n φ φ' y y' : Int) : Prop := φ = φ' ∧ 0 ≤ φ ∧ (φ = 0 → y = sP σ' y' ∧ 0 ≤ y' ∧ y' ≤ n)
theorem end2 {σ σ' : tst} {n i φ φ' y y' : Int} (B : Bis σ σ' n) (a : 0 ≤ i) (b : i ≤ n) (p : rEnd σ (sP σ' i) φ y) (q : rEnd σ' i φ' y') : Sm σ' n φ φ' y y' := by
  obtain ⟨b1, b2, b3, b4, b5, b6, b7⟩ := B i a b
  by_cases k : sK σ' i = 3
  · obtain ⟨e1, e2, e3⟩ := b7 (by omega)
    have z : y' = sN σ' i := by omega
    refine ⟨by omega, by omega, fun _ => ?_⟩
    rw [z, e3]
    omega
  · exact ⟨by omega, by omega, fun z => by omega⟩
theorem num2 {σ σ' : tst} {n i l φ φ' y y' : Int} {C C' : Prop} (B : Bis σ σ' n) (a : 0 ≤ i) (b : i ≤ n) (p : rNum σ (sP σ' i) l φ C) (q : rNum σ' i l φ' C')
    (k : sK σ' i = 2 → sV σ' i < l → sV σ (sP σ' i) = sV σ' i → 0 ≤ sV σ' i → 0 ≤ sN σ' i → sN σ' i ≤ n → sP σ' (sN σ' i) = sN σ (sP σ' i) → C → C' → Sm σ' n φ φ' y y') : Sm σ' n φ φ' y y' := by
  obtain ⟨b1, b2, b3, b4, b5, b6, b7⟩ := B i a b
  by_cases k2 : sK σ' i = 2
  · obtain ⟨e1, e2, e3⟩ := b7 (by omega)
    obtain ⟨v1, v2⟩ := b2 k2
    by_cases kl : sV σ' i < l
    · have c1 : C := by
        rcases p with p | p | p
        · omega
        · omega
        · exact p.2.2
      have c2 : C' := by
        rcases q with q | q | q
        · omega
        · omega
        · exact q.2.2
      exact k k2 kl v1.symm v2 e1 e2 e3 c1 c2
    · exact ⟨by omega, by omega, fun z => by omega⟩
  · exact ⟨by omega, by omega, fun z => by omega⟩
theorem wd2 {σ σ' : tst} {n i w φ φ' y y' : Int} {C C' : Prop} (hw : w ≠ 0) (B : Bis σ σ' n) (a : 0 ≤ i) (b : i ≤ n) (p : rWd σ (sP σ' i) w φ C) (q : rWd σ' i w φ' C')
    (k : 0 ≤ sN σ' i → sN σ' i ≤ n → sP σ' (sN σ' i) = sN σ (sP σ' i) → C → C' → Sm σ' n φ φ' y y') : Sm σ' n φ φ' y y' := by
  obtain ⟨b1, b2, b3, b4, b5, b6, b7⟩ := B i a b
  by_cases k2 : sW σ' i = w
  · obtain ⟨e1, e2, e3⟩ := b7 (b4 (by omega))
    have c1 : C := by
      rcases p with p | p
      · omega
      · exact p.2
    have c2 : C' := by
      rcases q with q | q
      · omega
      · exact q.2
    exact k e1 e2 e3 c1 c2
  · exact ⟨by omega, by omega, fun z => by omega⟩
end MTD
section MTE
theorem fill2 {σ σ' : tst} {n i b φ φ' y y' : Int} (B : Bis σ σ' n) (a0 : 0 ≤ i) (a1 : i ≤ n) (p : fillR σ (sP σ' i) b φ y) (q : fillR σ' i b φ' y') : Sm σ' n φ φ' y y' := by
  unfold fillR at p q
  refine num2 B a0 a1 p q (fun _ _ _ _ b0 b1 e p q => ?_)
  rw [← e] at p
  refine num2 B b0 b1 p q (fun _ _ _ _ c0 c1 e p q => ?_)
  rw [← e] at p
  exact end2 B c0 c1 p q
theorem cut2 {σ σ' : tst} {n i c φ φ' y y' : Int} (B : Bis σ σ' n) (a0 : 0 ≤ i) (a1 : i ≤ n) (p : cutR σ (sP σ' i) c φ y) (q : cutR σ' i c φ' y') : Sm σ' n φ φ' y y' := by
  unfold cutR at p q
  refine num2 B a0 a1 p q (fun _ _ _ _ b0 b1 e p q => ?_)
  rw [← e] at p
  obtain ⟨f1, f2, f3, f4, f5, f6, f7⟩ := B _ b0 b1
  rcases p with p | ⟨p1, p⟩
  · rcases q with q | ⟨q1, q⟩
    · exact ⟨by omega, by omega, fun z => by omega⟩
    · omega
  · rcases q with q | ⟨q1, q⟩
    · omega
    · obtain ⟨g1, g2, g3⟩ := f7 (f4 (by omega))
      rw [← g3] at p
      refine num2 B g1 g2 p q (fun _ _ _ _ c0 c1 e p q => ?_)
      rw [← e] at p
      exact end2 B c0 c1 p q
theorem sum2 {σ σ' : tst} {n i c φ φ' y y' : Int} (B : Bis σ σ' n) (a0 : 0 ≤ i) (a1 : i ≤ n) (p : sumR σ (sP σ' i) c φ y) (q : sumR σ' i c φ' y') : Sm σ' n φ φ' y y' := by
  unfold sumR at p q
  refine num2 B a0 a1 p q (fun _ _ v0 _ b0 b1 e p q => ?_)
  rw [← e] at p
  refine wd2 (by decide) B b0 b1 p q (fun c0 c1 e2 p q => ?_)
  rw [← e2] at p
  obtain ⟨f1, f2, f3, f4, f5, f6, f7⟩ := B _ c0 c1
  rcases p with p | ⟨p1, p⟩
  · rcases q with q | ⟨q1, q⟩
    · exact ⟨by omega, by omega, fun z => by omega⟩
    · omega
  · rcases q with q | ⟨q1, q⟩
    · omega
    · refine num2 B c0 c1 p q (fun _ _ _ _ d0 d1 e p q => ?_)
      rw [← e] at p
      exact end2 B d0 d1 p q
theorem join2 {σ σ' : tst} {cl cl' : Int → Int} {n i c φ φ' y y' : Int} (hc : ∀ v : Int, 0 ≤ v → v ≤ 2 → cl v = cl' v) (B : Bis σ σ' n) (a0 : 0 ≤ i) (a1 : i ≤ n) (p : joinR σ cl (sP σ' i) c φ y) (q : joinR σ' cl' i c φ' y') : Sm σ' n φ φ' y y' ∧ (φ = 0 → cl (sV σ (sP σ' i)) = cl' (sV σ' i)) := by
  have key : sK σ' i = 2 → sV σ' i < 3 → cl (sV σ (sP σ' i)) = cl' (sV σ' i) := by
    intro k1 k2
    obtain ⟨v1, v2⟩ := (B i a0 a1).2.1 k1
    rw [← v1]
    exact hc _ v2 (by omega)
  unfold joinR at p q
  refine ⟨num2 B a0 a1 p q (fun k1 k2 v0 _ b0 b1 e p q => ?_), fun z => ?_⟩
  · rw [← e] at p
    have ky := key k1 k2
    obtain ⟨f1, f2, f3, f4, f5, f6, f7⟩ := B i a0 a1
    rcases p with p | p | ⟨p1, p2, p⟩
    · rcases q with q | q | q
      · exact ⟨by omega, by omega, fun z => by omega⟩
      · omega
      · omega
    · rcases q with q | q | q
      · omega
      · exact ⟨by omega, by omega, fun z => by omega⟩
      · omega
    · rcases q with q | q | ⟨q1, q2, q⟩
      · omega
      · omega
      · refine wd2 (by decide) B b0 b1 p q (fun c0 c1 e p q => ?_)
        rw [← e] at p
        refine num2 B c0 c1 p q (fun _ _ _ _ d0 d1 e p q => ?_)
        rw [← e] at p
        exact end2 B d0 d1 p q
  · obtain ⟨f1, f2, f3, f4, f5, f6, f7⟩ := B i a0 a1
    rcases p with p | p | p
    · omega
    · omega
    · exact key (by omega) (by have := f2 (by omega); omega)
theorem few2 {σ σ' : tst} {n c : Int} (B : Bis σ σ' n) : ∀ (k k' : Nat) {i m φ φ' y y' u u' : Int} {M M' : Int → Prop}, (∀ v : Int, M v ↔ M' v) → 0 ≤ i → i ≤ n → fewR σ c k (sP σ' i) M m φ y u → fewR σ' c k' i M' m φ' y' u' → Sm σ' n φ φ' y y' ∧ (φ = 0 → u = u')
  | 0, _, _, _, _, _, _, _, _, _, _, _, _, _, _, p, _ => False.elim p
  | _ + 1, 0, _, _, _, _, _, _, _, _, _, _, _, _, _, _, q => False.elim q
  | k + 1, k' + 1, i, m, φ, φ', y, y', u, u', M, M', hM, a0, a1, p, q => by
    unfold fewR at p q
    obtain ⟨f1, f2, f3, f4, f5, f6, f7⟩ := B i a0 a1
    by_cases k1 : sK σ' i = 2 ∧ sV σ' i < c
    · obtain ⟨v1, v2⟩ := f2 k1.1
      obtain ⟨b0, b1, e⟩ := f7 (by omega)
      rcases p with p | p | ⟨-, -, p⟩
      · omega
      · omega
      · rcases q with q | q | ⟨-, -, q⟩
        · omega
        · omega
        · rw [← e, ← v1] at p
          have hv := hM (sV σ' i)
          rcases p with ⟨p1, p2⟩ | ⟨p1, p⟩
          · rcases q with ⟨q1, q2⟩ | ⟨q1, q⟩
            · exact ⟨⟨by omega, by omega, fun z => by omega⟩, fun z => by omega⟩
            · exact absurd (hv.mp p1) q1
          · rcases q with ⟨q1, q2⟩ | ⟨q1, q⟩
            · exact absurd (hv.mpr q1) p1
            · obtain ⟨g1, g2, g3, g4, g5, g6, g7⟩ := B _ b0 b1
              rcases p with ⟨p1, p2, p3, p4⟩ | ⟨p1, p⟩
              · rcases q with ⟨q1, q2, q3, q4⟩ | ⟨q1, q⟩
                · obtain ⟨h0, h1, h2⟩ := g7 (by omega)
                  refine ⟨⟨by omega, by omega, fun _ => ?_⟩, fun _ => by omega⟩
                  rw [q3, h2]
                  omega
                · omega
              · rcases q with ⟨q1, q2, q3, q4⟩ | ⟨q1, q⟩
                · omega
                · exact few2 B k k' (fun v => by rw [hM v]) b0 b1 p q
    · rcases p with p | p | p
      · rcases q with q | q | q
        · exact ⟨⟨by omega, by omega, fun z => by omega⟩, fun z => by omega⟩
        · omega
        · omega
      · rcases q with q | q | q
        · omega
        · exact ⟨⟨by omega, by omega, fun z => by omega⟩, fun z => by omega⟩
        · omega
      · have := f2 (by omega); omega
end MTE
section MTF
theorem pane2 {σ σ' : tst} {cl cl' : Int → Int} {n i b c s φ φ' y y' c1 c1' s1 s1' : Int} (hc : ∀ v : Int, 0 ≤ v → v ≤ 2 → cl v = cl' v) (B : Bis σ σ' n) (a0 : 0 ≤ i) (a1 : i ≤ n) (p : paneR σ cl b (sP σ' i) c s φ y c1 s1) (q : paneR σ' cl' b i c s φ' y' c1' s1') : Sm σ' n φ φ' y y' ∧ (φ = 0 → c1 = c1' ∧ s1 = s1') := by
  obtain ⟨f1, f2, f3, f4, f5, f6, f7⟩ := B i a0 a1
  have bad : φ = φ' → 1 ≤ φ → Sm σ' n φ φ' y y' ∧ (φ = 0 → c1 = c1' ∧ s1 = s1') := fun u v => ⟨⟨u, by omega, fun z => by omega⟩, fun z => by omega⟩
  unfold paneR at p q
  by_cases w0 : sW σ' i = 0
  · rcases p with p | p | p | p | p | p | p
    · omega
    · omega
    · omega
    · omega
    · omega
    · omega
    · rcases q with q | q | q | q | q | q | q
      · omega
      · omega
      · omega
      · omega
      · omega
      · omega
      · exact bad (by omega) (by omega)
  · obtain ⟨b0, b1, e⟩ := f7 (f4 w0)
    rw [← e] at p
    rcases p with ⟨p1, p2, p3, p4⟩ | p | ⟨p1, p2, p3, p4, p5⟩ | ⟨p1, p2, ⟨k, p3⟩, p4⟩ | ⟨p1, p2, p3, p4, p5⟩ | ⟨p1, p2, p3, p4, p5⟩ | p
    · rcases q with ⟨q1, q2, q3, q4⟩ | q | q | q | q | q | q
      · exact ⟨fill2 B b0 b1 p2 q2, fun _ => ⟨by omega, by omega⟩⟩
      · omega
      · omega
      · omega
      · omega
      · omega
      · omega
    · rcases q with q | q | q | q | q | q | q
      · omega
      · exact bad (by omega) (by omega)
      · omega
      · omega
      · omega
      · omega
      · omega
    · rcases q with q | q | ⟨q1, q2, q3, q4, q5⟩ | q | q | q | q
      · omega
      · omega
      · exact ⟨cut2 B b0 b1 p3 q3, fun _ => ⟨by omega, by omega⟩⟩
      · omega
      · omega
      · omega
      · omega
    · rcases q with q | q | q | ⟨q1, q2, ⟨k', q3⟩, q4⟩ | q | q | q
      · omega
      · omega
      · omega
      · obtain ⟨r1, r2⟩ := few2 B k k' (fun v => Iff.rfl) b0 b1 p3 q3
        exact ⟨r1, fun z => ⟨r2 z, by omega⟩⟩
      · omega
      · omega
      · omega
    · rcases q with q | q | q | q | ⟨q1, q2, q3, q4, q5⟩ | q | q
      · omega
      · omega
      · omega
      · omega
      · obtain ⟨r1, r2⟩ := join2 hc B b0 b1 p3 q3
        refine ⟨r1, fun z => ⟨?_, by omega⟩⟩
        have := r2 z
        have := p4 z
        have := q4 (by omega)
        omega
      · omega
      · omega
    · rcases q with q | q | q | q | q | ⟨q1, q2, q3, q4, q5⟩ | q
      · omega
      · omega
      · omega
      · omega
      · omega
      · exact ⟨sum2 B b0 b1 p3 q3, fun _ => ⟨by omega, by omega⟩⟩
      · omega
    · rcases q with q | q | q | q | q | q | q
      · omega
      · omega
      · omega
      · omega
      · omega
      · omega
      · exact bad (by omega) (by omega)
theorem loop2 {σ σ' : tst} {cl cl' : Int → Int} {n b : Int} (hc : ∀ v : Int, 0 ≤ v → v ≤ 2 → cl v = cl' v) (B : Bis σ σ' n) : ∀ (k k' : Nat) {i c s φ φ' u u' : Int}, 0 ≤ i → i ≤ n → loopR σ cl b k (sP σ' i) c s φ u → loopR σ' cl' b k' i c s φ' u' → φ = φ' ∧ 0 ≤ φ ∧ (φ = 0 → u = u')
  | 0, _, _, _, _, _, _, _, _, _, _, p, _ => False.elim p
  | _ + 1, 0, _, _, _, _, _, _, _, _, _, _, q => False.elim q
  | k + 1, k' + 1, i, c, s, φ, φ', u, u', a0, a1, p, q => by
    unfold loopR at p q
    obtain ⟨f1, f2, f3, f4, f5, f6, f7⟩ := B i a0 a1
    rcases p with p | ⟨p1, φ1, y, c1, s1, p2, p3⟩
    · rcases q with q | ⟨q1, q⟩
      · exact ⟨by omega, by omega, fun _ => by omega⟩
      · omega
    · rcases q with q | ⟨q1, φ1', y', c1', s1', q2, q3⟩
      · omega
      · obtain ⟨⟨r1, r2, r3⟩, r4⟩ := pane2 hc B a0 a1 p2 q2
        rcases p3 with p3 | ⟨p3, p4⟩
        · rcases q3 with q3 | q3
          · exact ⟨by omega, by omega, fun _ => by omega⟩
          · omega
        · rcases q3 with q3 | ⟨q3, q4⟩
          · omega
          · obtain ⟨z1, z2, z3⟩ := r3 p3
            obtain ⟨z4, z5⟩ := r4 p3
            subst z1; subst z4; subst z5
            exact loop2 hc B k k' z2 z3 p4 q4
theorem over2 {σ σ' : tst} {cl cl' tl tl' wd wd' bc bc' : Int → Int} {n i w φ φ' y y' c c' b b' o o' : Int} (hw : w ≤ 5) (hc : ∀ v : Int, 0 ≤ v → v ≤ 2 → cl v = cl' v) (ht : ∀ v : Int, 0 ≤ v → v ≤ 5 → tl v = tl' v ∧ (tl v = 1 → wd v = wd' v ∧ bc v = bc' v)) (B : Bis σ σ' n) (a0 : 0 ≤ i) (a1 : i ≤ n) (p : overR σ cl tl wd bc w (sP σ' i) φ y c b o) (q : overR σ' cl' tl' wd' bc' w i φ' y' c' b' o') : Sm σ' n φ φ' y y' ∧ (φ = 0 → c = c' ∧ b = b' ∧ o = o') := by
  have key : Sm σ' n φ φ' y y' := by
    unfold overR at p q
    refine wd2 (by decide) B a0 a1 p q (fun b0 b1 e p q => ?_)
    rw [← e] at p
    obtain ⟨f1, f2, f3, f4, f5, f6, f7⟩ := B _ b0 b1
    rcases p with ⟨p1, p⟩ | ⟨p1, p⟩ | p
    · rcases q with ⟨q1, q⟩ | q | q
      · obtain ⟨c0, c1, e⟩ := f7 (f4 (by omega))
        rw [← e] at p
        refine num2 B c0 c1 p q (fun k1 k2 v0 v1 d0 d1 e p q => ?_)
        rw [← e, v0, hc _ v1 (by omega)] at p
        obtain ⟨g1, g2, g3, g4, g5, g6, g7⟩ := B _ c0 c1
        rcases p with p | ⟨p1, p2, p3⟩
        · rcases q with q | q
          · exact ⟨by omega, by omega, fun z => by omega⟩
          · omega
        · rcases q with q | ⟨q1, q2, q3⟩
          · omega
          · exact end2 B d0 d1 p3 q3
      · omega
      · omega
    · rcases q with q | ⟨q1, q⟩ | q
      · omega
      · obtain ⟨c0, c1, e⟩ := f7 (f4 (by omega))
        rw [← e] at p
        refine num2 B c0 c1 p q (fun k1 k2 v0 v1 d0 d1 e p q => ?_)
        rw [← e, v0, (ht _ v1 (by omega)).1] at p
        obtain ⟨g1, g2, g3, g4, g5, g6, g7⟩ := B _ c0 c1
        rcases p with p | ⟨p1, p2, p3⟩
        · rcases q with q | q
          · exact ⟨by omega, by omega, fun z => by omega⟩
          · omega
        · rcases q with q | ⟨q1, q2, q3⟩
          · omega
          · exact end2 B d0 d1 p3 q3
      · omega
    · rcases q with q | q | q
      · omega
      · omega
      · exact ⟨by omega, by omega, fun z => by omega⟩
  refine ⟨key, fun z => ?_⟩
  have z' : φ' = 0 := by omega
  unfold overR at p q
  obtain ⟨f1, f2, f3, f4, f5, f6, f7⟩ := B i a0 a1
  rcases p with p | ⟨p0, p⟩
  · omega
  · rcases q with q | ⟨q0, q⟩
    · omega
    · obtain ⟨b0, b1, e⟩ := f7 (f4 (by omega))
      rw [← e] at p
      obtain ⟨f1, f2, f3, f4, f5, f6, f7⟩ := B _ b0 b1
      rcases p with ⟨p1, p⟩ | ⟨p1, p⟩ | p
      · rcases q with ⟨q1, q⟩ | q | q
        · obtain ⟨c0, c1, e⟩ := f7 (f4 (by omega))
          rw [← e] at p
          obtain ⟨g1, g2, g3, g4, g5, g6, g7⟩ := B _ c0 c1
          rcases p with p | p | ⟨u1, u2, p⟩
          · omega
          · omega
          · rcases q with q | q | ⟨w1, w2, q⟩
            · omega
            · omega
            · obtain ⟨v0, v1⟩ := g2 w1
              rw [← v0] at p
              have hv := hc _ v1 (by omega)
              rcases p with p | ⟨-, p, -⟩
              · omega
              · rcases q with q | ⟨-, q, -⟩
                · omega
                · have := p z
                  have := q z'
                  omega
        · omega
        · omega
      · rcases q with q | ⟨q1, q⟩ | q
        · omega
        · obtain ⟨c0, c1, e⟩ := f7 (f4 (by omega))
          rw [← e] at p
          obtain ⟨g1, g2, g3, g4, g5, g6, g7⟩ := B _ c0 c1
          rcases p with p | p | ⟨u1, u2, p⟩
          · omega
          · omega
          · rcases q with q | q | ⟨w1, w2, q⟩
            · omega
            · omega
            · obtain ⟨v0, v1⟩ := g2 w1
              rw [← v0] at p
              have hv := ht _ v1 (by omega)
              rcases p with p | ⟨p1, p, -⟩
              · omega
              · rcases q with q | ⟨-, q, -⟩
                · omega
                · have := p z
                  have := q z'
                  have := hv.2 p1
                  omega
        · omega
      · omega
theorem read2 {σ σ' : tst} {cl cl' tl tl' wd wd' bc bc' : Int → Int} {n i w φ φ' c c' b b' o o' : Int} (hw : w ≤ 5) (hc : ∀ v : Int, 0 ≤ v → v ≤ 2 → cl v = cl' v) (ht : ∀ v : Int, 0 ≤ v → v ≤ 5 → tl v = tl' v ∧ (tl v = 1 → wd v = wd' v ∧ bc v = bc' v)) (B : Bis σ σ' n) (a0 : 0 ≤ i) (a1 : i ≤ n) (p : readR σ cl tl wd bc w (sP σ' i) φ c b o) (q : readR σ' cl' tl' wd' bc' w i φ' c' b' o') : φ = φ' ∧ 0 ≤ φ ∧ (φ = 0 → c = c' ∧ b = b' ∧ o = o') := by
  obtain ⟨φ1, y, c1, p1, p2⟩ := p
  obtain ⟨φ2, y2, c2, q1, q2⟩ := q
  obtain ⟨⟨r1, r2, r3⟩, r4⟩ := over2 hw hc ht B a0 a1 p1 q1
  rcases p2 with p2 | ⟨p2, k, p3⟩
  · rcases q2 with q2 | q2
    · exact ⟨by omega, by omega, fun _ => by omega⟩
    · omega
  · rcases q2 with q2 | ⟨q2, k', q3⟩
    · omega
    · obtain ⟨z1, z2, z3⟩ := r3 p2
      obtain ⟨z4, z5, z6⟩ := r4 p2
      subst z1; subst z4; subst z5
      obtain ⟨s1, s2, s3⟩ := loop2 hc B k k' z2 z3 p3 q3
      exact ⟨s1, s2, fun z => ⟨s3 z, rfl, z6⟩⟩
end MTF
