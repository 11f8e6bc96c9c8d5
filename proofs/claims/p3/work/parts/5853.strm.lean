/-! what is read of tokens: the panes themselves, and the fills -/
section ZVF
def zsN (σ : tst) (x : Int) : Nat → Int
  | 0 => x
  | n + 1 => sN σ (zsN σ x n)
theorem zsN_f {σ : tst} {x : Int} : ∀ n : Nat, zsN σ (sN σ x) n = zsN σ x (n + 1)
  | 0 => rfl
  | n + 1 => by rw [zsN, zsN_f n]; rfl
/-- the pane that is read, behind its word w, from token x on; c1: the columns that there are then -/
def pnP (σ : tst) (cl : Int → Int) (w x c1 : Int) : zqP :=
  if w = 4904 then ((if sW σ (sN σ x) = 615403 then 0 else if sW σ (sN σ x) = 352 then 1 else 2), sV σ x, sV σ (sN σ (sN σ x)), 0, fun _ => 0)
  else if w = 8422 then (3, 0, 0, c1, fun j => if 0 ≤ j ∧ j < c1 then sV σ (zsN σ x j.toNat) else 0)
  else if w = 527412 then (4, sV σ (sN σ (sN σ x)), sV σ x, cl (sV σ x), fun _ => 0)
  else (5, sV σ x, sV σ (sN σ (sN σ x)), 0, fun _ => 0)
/-- a pane more, or a fill -/
def pnQ (σ : tst) (cl : Int → Int) (x c1 : Int) (P : List zqP) (F : Int → Int) (P' : List zqP) (F' : Int → Int) : Prop :=
  (sW σ x = 316695 ∧ P' = P ∧ F' = zyU F (sV σ (sN σ x)) (sV σ (sN σ (sN σ x)))) ∨ (sW σ x ≠ 316695 ∧ F' = F ∧ P' = pnP σ cl (sW σ x) (sN σ x) c1 :: P)
/-- k panes and fills are read -/
def stQ (σ : tst) (cl : Int → Int) (b y0 c0 : Int) : Nat → Int → Int → Int → List zqP → (Int → Int) → Prop
  | 0, x, c, s, P, F => x = y0 ∧ c = c0 ∧ s = 0 ∧ P = [] ∧ F = fun _ => -1
  | k + 1, x, c, s, P, F => ∃ (x' c' s' : Int) (P' : List zqP) (F' : Int → Int), stQ σ cl b y0 c0 k x' c' s' P' F' ∧ sK σ x' ≠ 0 ∧ paneR σ cl b x' c' s' 0 x c s ∧ pnQ σ cl x' c P' F' P F
/-- numbers of a few -/
theorem fewK {σ : tst} {c : Int} : ∀ (k : Nat) {x m y u : Int} {M : Int → Prop}, fewR σ c k x M m 0 y u → m < u ∧ ∀ j : Nat, (j : Int) < u - m → sK σ (zsN σ x j) = 2 ∧ sV σ (zsN σ x j) < c
  | 0, _, _, _, _, _, p => False.elim p
  | k + 1, x, m, y, u, M, p => by
    unfold fewR at p
    rcases p with p | p | ⟨b2, b3, p⟩
    · omega
    · omega
    · rcases p with ⟨-, p⟩ | ⟨-, p⟩
      · omega
      · rcases p with ⟨q1, q2, q3, q4⟩ | ⟨q1, q⟩
        · refine ⟨by omega, fun j hj => ?_⟩
          have e : j = 0 := by omega
          subst e
          exact ⟨b2, b3⟩
        · obtain ⟨r1, r2⟩ := fewK k q
          refine ⟨by omega, fun j hj => ?_⟩
          cases j with
          | zero => exact ⟨b2, b3⟩
          | succ j =>
            rw [← zsN_f]
            exact r2 j (by omega)
/-- the same pane is read of two streams that go alike -/
theorem pnP2 {σ σ' : tst} {cl cl' : Int → Int} {n i b c s y' c1 s1' : Int} (hc : ∀ v : Int, 0 ≤ v → v ≤ 2 → cl v = cl' v) (B : Bis σ σ' n) (a0 : 0 ≤ i) (a1 : i ≤ n) (q : paneR σ' cl' b i c s 0 y' c1 s1') (nf : sW σ' i ≠ 316695) : pnP σ cl (sW σ (sP σ' i)) (sN σ (sP σ' i)) c1 = pnP σ' cl' (sW σ' i) (sN σ' i) c1 := by
  obtain ⟨f1, f2, f3, f4, f5, f6, f7⟩ := B i a0 a1
  rw [← f3]
  unfold paneR at q
  have w0 : sW σ' i ≠ 0 := by
    rcases q with q | q | q | q | q | q | q <;> omega
  obtain ⟨b0, b1, e⟩ := f7 (f4 w0)
  rw [← e]
  generalize sN σ' i = t at b0 b1 q ⊢
  obtain ⟨g1, g2, g3, g4, g5, g6, g7⟩ := B t b0 b1
  unfold pnP
  rcases q with q | q | ⟨w, -, q, -⟩ | ⟨w, -, ⟨k, q⟩, -⟩ | ⟨w, -, q, -⟩ | ⟨w, -, q, -⟩ | q
  · exact absurd q.1 nf
  · omega
  · unfold cutR at q
    rw [if_pos w, if_pos w]
    rcases q with q | q | ⟨q1, -, q⟩
    · omega
    · omega
    · obtain ⟨v1, v2⟩ := g2 q1
      obtain ⟨d0, d1, e1⟩ := g7 (by omega)
      rw [← e1, v1]
      obtain ⟨h1, h2, h3, h4, h5, h6, h7⟩ := B _ d0 d1
      rcases q with q | ⟨qw, q⟩
      · omega
      · obtain ⟨i0, i1, e2⟩ := h7 (h4 (by omega))
        rw [← e2, h3]
        obtain ⟨j1, j2, -⟩ := B _ i0 i1
        rcases q with q | q | ⟨q2, -, -⟩
        · omega
        · omega
        · rw [(j2 q2).1]
  · rw [if_neg (by omega), if_pos w, if_neg (by omega), if_pos w]
    obtain ⟨r1, r2⟩ := fewK k q
    have ch : ∀ j : Nat, (j : Int) < c1 → (0 ≤ zsN σ' t j ∧ zsN σ' t j ≤ n ∧ sP σ' (zsN σ' t j) = zsN σ (sP σ' t) j) ∧ sV σ' (zsN σ' t j) = sV σ (zsN σ (sP σ' t) j) := by
      intro j
      induction j with
      | zero =>
        intro hj
        exact ⟨⟨b0, b1, rfl⟩, (g2 (r2 0 (by omega)).1).1⟩
      | succ j ih =>
        intro hj
        obtain ⟨⟨x1, x2, x3⟩, -⟩ := ih (by omega)
        obtain ⟨-, -, -, -, -, -, z7⟩ := B _ x1 x2
        obtain ⟨y1, y2, y3⟩ := z7 (by rw [(r2 j (by omega)).1]; decide)
        have st : 0 ≤ zsN σ' t (j + 1) ∧ zsN σ' t (j + 1) ≤ n ∧ sP σ' (zsN σ' t (j + 1)) = zsN σ (sP σ' t) (j + 1) := ⟨y1, y2, by
          show sP σ' (sN σ' (zsN σ' t j)) = sN σ (zsN σ (sP σ' t) j)
          rw [y3, x3]⟩
        obtain ⟨-, u2, -⟩ := B _ st.1 st.2.1
        refine ⟨st, ?_⟩
        rw [← st.2.2]
        exact (u2 (r2 (j + 1) (by omega)).1).1
    refine Prod.ext rfl (Prod.ext rfl (Prod.ext rfl (Prod.ext rfl (funext fun j => ?_))))
    show (if 0 ≤ j ∧ j < c1 then sV σ (zsN σ (sP σ' t) j.toNat) else 0) = if 0 ≤ j ∧ j < c1 then sV σ' (zsN σ' t j.toNat) else 0
    by_cases d : 0 ≤ j ∧ j < c1
    · rw [if_pos d, if_pos d]
      exact (ch j.toNat (by omega)).2.symm
    · rw [if_neg d, if_neg d]
  · unfold joinR at q
    rw [if_neg (by omega), if_neg (by omega), if_pos w, if_neg (by omega), if_neg (by omega), if_pos w]
    rcases q with q | q | ⟨q1, q3, q⟩
    · omega
    · omega
    · obtain ⟨v1, v2⟩ := g2 q1
      obtain ⟨d0, d1, e1⟩ := g7 (by omega)
      obtain ⟨h1, h2, h3, h4, h5, h6, h7⟩ := B _ d0 d1
      rw [← e1, ← v1, hc _ v2 (by omega)]
      rcases q with q | q | ⟨-, -, q⟩
      · omega
      · omega
      · rcases q with q | ⟨qw, q⟩
        · omega
        · obtain ⟨i0, i1, e2⟩ := h7 (h4 (by omega))
          rw [← e2]
          obtain ⟨j1, j2, -⟩ := B _ i0 i1
          rcases q with q | q | ⟨q2, -, -⟩
          · omega
          · omega
          · rw [(j2 q2).1]
  · unfold sumR at q
    rw [if_neg (by omega), if_neg (by omega), if_neg (by omega), if_neg (by omega), if_neg (by omega), if_neg (by omega)]
    rcases q with q | q | ⟨q1, q3, q⟩
    · omega
    · omega
    · obtain ⟨v1, v2⟩ := g2 q1
      obtain ⟨d0, d1, e1⟩ := g7 (by omega)
      obtain ⟨h1, h2, h3, h4, h5, h6, h7⟩ := B _ d0 d1
      rw [← e1, ← v1]
      rcases q with q | ⟨qw, q⟩
      · omega
      · obtain ⟨i0, i1, e2⟩ := h7 (h4 (by omega))
        rw [← e2]
        obtain ⟨j1, j2, -⟩ := B _ i0 i1
        rcases q with q | ⟨-, q⟩
        · omega
        · rcases q with q | q | ⟨q2, -, -⟩
          · omega
          · omega
          · rw [(j2 q2).1]
  · omega
/-- the same fill -/
theorem flP2 {σ σ' : tst} {cl' : Int → Int} {n i b c s y' c1 s1' : Int} (B : Bis σ σ' n) (a0 : 0 ≤ i) (a1 : i ≤ n) (q : paneR σ' cl' b i c s 0 y' c1 s1') (nf : sW σ' i = 316695) : sV σ (sN σ (sP σ' i)) = sV σ' (sN σ' i) ∧ sV σ (sN σ (sN σ (sP σ' i))) = sV σ' (sN σ' (sN σ' i)) := by
  obtain ⟨f1, f2, f3, f4, f5, f6, f7⟩ := B i a0 a1
  obtain ⟨b0, b1, e⟩ := f7 (f4 (by omega))
  rw [← e]
  obtain ⟨g1, g2, g3, g4, g5, g6, g7⟩ := B _ b0 b1
  unfold paneR at q
  rcases q with ⟨w, q, -⟩ | q | q | q | q | q | q
  · unfold fillR at q
    rcases q with q | q | ⟨q1, -, q⟩
    · omega
    · omega
    · obtain ⟨v1, v2⟩ := g2 q1
      obtain ⟨d0, d1, e1⟩ := g7 (by omega)
      obtain ⟨h1, h2, -⟩ := B _ d0 d1
      rw [← e1]
      rcases q with q | q | ⟨q2, -, -⟩
      · omega
      · omega
      · exact ⟨v1.symm, (h2 q2).1.symm⟩
  · omega
  · omega
  · omega
  · omega
  · omega
  · omega
/-- two streams that go alike: the same is read -/
theorem stQ2 {σ σ' : tst} {cl cl' : Int → Int} {n i0 b c0 : Int} (hc : ∀ v : Int, 0 ≤ v → v ≤ 2 → cl v = cl' v) (B : Bis σ σ' n) (a0 : 0 ≤ i0) (a1 : i0 ≤ n) : ∀ (k : Nat) {x c s x' c' s' : Int} {P P' : List zqP} {F F' : Int → Int}, stQ σ cl b (sP σ' i0) c0 k x c s P F → stQ σ' cl' b i0 c0 k x' c' s' P' F' → (x = sP σ' x' ∧ 0 ≤ x' ∧ x' ≤ n) ∧ c = c' ∧ s = s' ∧ P = P' ∧ F = F'
  | 0, x, c, s, x', c', s', P, P', F, F', p, q => by
    obtain ⟨p1, p2, p3, p4, p5⟩ := p
    obtain ⟨q1, q2, q3, q4, q5⟩ := q
    subst q1
    exact ⟨⟨p1, a0, a1⟩, by omega, by omega, by rw [p4, q4], by rw [p5, q5]⟩
  | k + 1, x, c, s, x', c', s', P, P', F, F', p, q => by
    obtain ⟨x1, c1, s1, P1, F1, p1, p2, p3, p4⟩ := p
    obtain ⟨x2, c2, s2, P2, F2, q1, q2, q3, q4⟩ := q
    obtain ⟨⟨r1, r2, r3⟩, r4, r5, r6, r7⟩ := stQ2 hc B a0 a1 k p1 q1
    subst r1; subst r4; subst r5; subst r6; subst r7
    obtain ⟨⟨-, -, m3⟩, m4⟩ := pane2 hc B r2 r3 p3 q3
    obtain ⟨t1, t2, t3⟩ := m3 rfl
    obtain ⟨u1, u2⟩ := m4 rfl
    subst u1
    refine ⟨⟨t1, t2, t3⟩, rfl, u2, ?_⟩
    have ew : sW σ (sP σ' x2) = sW σ' x2 := (B x2 r2 r3).2.2.1.symm
    by_cases w : sW σ' x2 = 316695
    · obtain ⟨v1, v2⟩ := flP2 B r2 r3 q3 w
      rcases p4 with ⟨-, y1, y2⟩ | z
      · rcases q4 with ⟨-, z1, z2⟩ | z
        · exact ⟨by rw [y1, z1], by rw [y2, z2, v1, v2]⟩
        · exact absurd w z.1
      · exact absurd (ew.trans w) z.1
    · have e := pnP2 hc B r2 r3 q3 w
      rcases p4 with z | ⟨-, y1, y2⟩
      · exact absurd (ew.symm.trans z.1) w
      · rcases q4 with z | ⟨-, z1, z2⟩
        · exact absurd z.1 w
        · exact ⟨by rw [y2, z2, e], by rw [y1, z1]⟩
theorem stQ_le {σ : tst} {cl : Int → Int} {b y0 c0 : Int} : ∀ (d k : Nat) {x c s : Int} {P : List zqP} {F : Int → Int}, stQ σ cl b y0 c0 (k + (d + 1)) x c s P F → ∃ (x' c' s' : Int) (P' : List zqP) (F' : Int → Int), stQ σ cl b y0 c0 k x' c' s' P' F' ∧ sK σ x' ≠ 0
  | 0, k, _, _, _, _, _, p => by
    obtain ⟨x', c', s', P', F', q1, q2, -⟩ := p
    exact ⟨x', c', s', P', F', q1, q2⟩
  | d + 1, k, _, _, _, _, _, p => by
    obtain ⟨x', c', s', P', F', q1, q2, -⟩ := p
    exact stQ_le d k q1
/-- both readers have come to the end -/
theorem stQ_end {σ σ' : tst} {cl cl' : Int → Int} {n i0 b c0 : Int} (hc : ∀ v : Int, 0 ≤ v → v ≤ 2 → cl v = cl' v) (B : Bis σ σ' n) (a0 : 0 ≤ i0) (a1 : i0 ≤ n) {k k' : Nat} {x c s x' c' s' : Int} {P P' : List zqP} {F F' : Int → Int} (p : stQ σ cl b (sP σ' i0) c0 k x c s P F) (q : stQ σ' cl' b i0 c0 k' x' c' s' P' F') (e : sK σ x = 0) (e' : sK σ' x' = 0) : c = c' ∧ s = s' ∧ P = P' ∧ F = F' := by
  have kk : k = k' := by
    rcases Nat.lt_trichotomy k k' with h | h | h
    · exfalso
      obtain ⟨d, hd⟩ : ∃ d : Nat, k' = k + (d + 1) := ⟨k' - k - 1, by omega⟩
      rw [hd] at q
      obtain ⟨x1, c1, s1, P1, F1, r1, r2⟩ := stQ_le d k q
      obtain ⟨⟨t1, t2, t3⟩, -⟩ := stQ2 hc B a0 a1 k p r1
      have z := (B x1 t2 t3).1
      rw [← t1, e] at z
      exact r2 z
    · exact h
    · exfalso
      obtain ⟨d, hd⟩ : ∃ d : Nat, k = k' + (d + 1) := ⟨k - k' - 1, by omega⟩
      rw [hd] at p
      obtain ⟨x1, c1, s1, P1, F1, r1, r2⟩ := stQ_le d k' p
      obtain ⟨⟨t1, t2, t3⟩, -⟩ := stQ2 hc B a0 a1 k' r1 q
      have z := (B x' t2 t3).1
      rw [← t1, e'] at z
      exact r2 z.symm
  subst kk
  exact (stQ2 hc B a0 a1 k p q).2
/-- numbers of a pane aren't below 0 -/
def PnN (p : zqP) : Prop := (p.1 ≠ 3 → 0 ≤ p.2.1 ∧ 0 ≤ p.2.2.1) ∧ (p.1 = 3 → ∀ j : Int, 0 ≤ j → j < p.2.2.2.1 → 0 ≤ p.2.2.2.2 j)
theorem pane_wf {σ : tst} {cl : Int → Int} {b x c s y c1 s1 : Int} (q : paneR σ cl b x c s 0 y c1 s1) (nf : sW σ x ≠ 316695) (N : PnN (pnP σ cl (sW σ x) (sN σ x) c1)) (c8 : c1 ≤ 8) (cl4 : ∀ v : Int, 0 ≤ v → v ≤ 2 → cl v ≤ 4) : zqWf1 c (pnP σ cl (sW σ x) (sN σ x) c1) := by
  unfold paneR at q
  generalize sN σ x = t at q N ⊢
  rcases q with q | q | ⟨w, -, q, -⟩ | ⟨w, -, ⟨k, q⟩, -⟩ | ⟨w, -, q, ec, -⟩ | ⟨w, -, q, -⟩ | q
  · exact absurd q.1 nf
  · omega
  · unfold cutR at q
    unfold pnP at N ⊢
    rw [if_pos w] at N ⊢
    have kk : ∀ z : Int, z = (if sW σ (sN σ t) = 615403 then (0 : Int) else if sW σ (sN σ t) = 352 then 1 else 2) → 0 ≤ z ∧ z ≤ 2 := fun z hz => by
      by_cases y1 : sW σ (sN σ t) = 615403
      · rw [if_pos y1] at hz; omega
      · rw [if_neg y1] at hz
        by_cases y2 : sW σ (sN σ t) = 352
        · rw [if_pos y2] at hz; omega
        · rw [if_neg y2] at hz; omega
    generalize (if sW σ (sN σ t) = 615403 then (0 : Int) else if sW σ (sN σ t) = 352 then 1 else 2) = z at N kk ⊢
    have kz := kk z rfl
    obtain ⟨n1, -⟩ := N
    have n2 : 0 ≤ sV σ t ∧ 0 ≤ sV σ (sN σ (sN σ t)) := n1 (show z ≠ 3 by omega)
    have lt : sV σ t < c := by
      rcases q with q | q | q <;> omega
    exact ⟨fun e => by have e' : z = 3 := e; omega, fun e => by have e' : z = 4 := e; omega, fun e => by have e' : z = 5 := e; omega, fun _ => ⟨n2.1, lt⟩, kz.1, show z ≤ 5 by omega⟩
  · obtain ⟨r1, r2⟩ := fewK k q
    unfold pnP at N ⊢
    rw [if_neg (by omega), if_pos w] at N ⊢
    obtain ⟨-, n1⟩ := N
    have n2 := n1 rfl
    refine ⟨fun _ => ⟨show 0 ≤ c1 by omega, c8, fun j a b' => ⟨n2 j a b', ?_⟩⟩, fun e => absurd e (by show ¬ (3 : Int) = 4; decide), fun e => absurd e (by show ¬ (3 : Int) = 5; decide), fun e => absurd e (by show ¬ (3 : Int) ≤ 2; decide), by show (0 : Int) ≤ 3; decide, by show (3 : Int) ≤ 5; decide⟩
    have b'' : j < c1 := b'
    show (if 0 ≤ j ∧ j < c1 then sV σ (zsN σ t j.toNat) else 0) < c
    rw [if_pos ⟨a, b''⟩]
    exact (r2 j.toNat (by omega)).2
  · unfold joinR at q
    unfold pnP at N ⊢
    rw [if_neg (by omega), if_neg (by omega), if_pos w] at N ⊢
    obtain ⟨n1, -⟩ := N
    have n2 : 0 ≤ sV σ (sN σ (sN σ t)) ∧ 0 ≤ sV σ t := n1 (show (4 : Int) ≠ 3 by decide)
    have b3 : sV σ t < 3 ∧ 1 ≤ cl (sV σ t) ∧ c + cl (sV σ t) ≤ 9 ∧ sV σ (sN σ (sN σ t)) < c := by
      rcases q with q | q | ⟨q1, q2, q⟩
      · omega
      · omega
      · rcases q with q | q | ⟨q3, q4, q⟩
        · omega
        · omega
        · rcases q with q | ⟨-, q⟩
          · omega
          · rcases q with q | q | q <;> omega
    have k4 := cl4 _ n2.2 (by omega)
    exact ⟨fun e => absurd e (by show ¬ (4 : Int) = 3; decide), fun _ => ⟨n2.1, b3.2.2.2, n2.2, show sV σ t ≤ 2 by omega, b3.2.1, k4, b3.2.2.1⟩, fun e => absurd e (by show ¬ (4 : Int) = 5; decide), fun e => absurd e (by show ¬ (4 : Int) ≤ 2; decide), by show (0 : Int) ≤ 4; decide, by show (4 : Int) ≤ 5; decide⟩
  · unfold sumR at q
    unfold pnP at N ⊢
    rw [if_neg (by omega), if_neg (by omega), if_neg (by omega)] at N ⊢
    obtain ⟨n1, -⟩ := N
    have n2 : 0 ≤ sV σ t ∧ 0 ≤ sV σ (sN σ (sN σ t)) := n1 (show (5 : Int) ≠ 3 by decide)
    have b3 : sV σ t < c ∧ sV σ (sN σ (sN σ t)) < c := by
      rcases q with q | q | ⟨q1, q2, q⟩
      · omega
      · omega
      · rcases q with q | ⟨-, q⟩
        · omega
        · rcases q with q | ⟨-, q⟩
          · omega
          · rcases q with q | q | q <;> omega
    exact ⟨fun e => absurd e (by show ¬ (5 : Int) = 3; decide), fun e => absurd e (by show ¬ (5 : Int) = 4; decide), fun _ => ⟨n2.1, b3.1, n2.2, b3.2⟩, fun e => absurd e (by show ¬ (5 : Int) ≤ 2; decide), by show (0 : Int) ≤ 5; decide, by show (5 : Int) ≤ 5; decide⟩
  · omega
end ZVF
