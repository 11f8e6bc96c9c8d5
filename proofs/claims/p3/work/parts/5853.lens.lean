/-! panes that are the same but for what nobody asks; what a pane more makes of a lens -/
section ZVB
/-- the same pane, as far as it is asked -/
def PEq (p q : zqP) : Prop := p.1 = q.1 ∧ (p.1 = 3 → p.2.2.2.1 = q.2.2.2.1 ∧ ∀ j : Int, 0 ≤ j → j < p.2.2.2.1 → p.2.2.2.2 j = q.2.2.2.2 j) ∧ (p.1 ≠ 3 → p.2.1 = q.2.1 ∧ p.2.2.1 = q.2.2.1) ∧ (p.1 = 4 → p.2.2.2.1 = q.2.2.2.1)
def PEqL : List zqP → List zqP → Prop
  | [], [] => True
  | p :: s, q :: t => PEq p q ∧ PEqL s t
  | [], _ :: _ => False
  | _ :: _, [] => False
theorem PEq.rf {p : zqP} : PEq p p := ⟨rfl, fun _ => ⟨rfl, fun _ _ _ => rfl⟩, fun _ => ⟨rfl, rfl⟩, fun _ => rfl⟩
theorem PEq.sy {p q : zqP} (e : PEq p q) : PEq q p := by
  obtain ⟨e1, e2, e3, e4⟩ := e
  refine ⟨e1.symm, fun z => ?_, fun z => ?_, fun z => (e4 (by omega)).symm⟩
  · obtain ⟨a, b⟩ := e2 (by omega)
    exact ⟨a.symm, fun j x y => (b j x (by omega)).symm⟩
  · obtain ⟨a, b⟩ := e3 (by omega)
    exact ⟨a.symm, b.symm⟩
theorem PEq.tr {p q r : zqP} (e : PEq p q) (f : PEq q r) : PEq p r := by
  obtain ⟨e1, e2, e3, e4⟩ := e
  obtain ⟨f1, f2, f3, f4⟩ := f
  refine ⟨e1.trans f1, fun z => ?_, fun z => ?_, fun z => (e4 z).trans (f4 (by omega))⟩
  · obtain ⟨a, b⟩ := e2 z
    obtain ⟨c, d⟩ := f2 (by omega)
    exact ⟨a.trans c, fun j x y => (b j x y).trans (d j x (by omega))⟩
  · obtain ⟨a, b⟩ := e3 z
    obtain ⟨c, d⟩ := f3 (by omega)
    exact ⟨a.trans c, b.trans d⟩
theorem PEqL.rf : ∀ {L : List zqP}, PEqL L L
  | [] => trivial
  | _ :: _ => ⟨PEq.rf, PEqL.rf⟩
theorem PEqL.sy : ∀ {L M : List zqP}, PEqL L M → PEqL M L
  | [], [], _ => trivial
  | _ :: _, _ :: _, e => ⟨e.1.sy, PEqL.sy e.2⟩
  | [], _ :: _, e => False.elim e
  | _ :: _, [], e => False.elim e
theorem PEqL.tr : ∀ {L M N : List zqP}, PEqL L M → PEqL M N → PEqL L N
  | [], [], [], _, _ => trivial
  | _ :: _, _ :: _, _ :: _, e, f => ⟨e.1.tr f.1, PEqL.tr e.2 f.2⟩
  | [], _ :: _, _, e, _ => False.elim e
  | _ :: _, [], _, e, _ => False.elim e
  | _, [], _ :: _, _, f => False.elim f
  | _, _ :: _, [], _, f => False.elim f
theorem PEqL.app : ∀ {L M A B : List zqP}, PEqL L M → PEqL A B → PEqL (L ++ A) (M ++ B)
  | [], [], _, _, _, f => f
  | _ :: _, _ :: _, _, _, e, f => ⟨e.1, PEqL.app e.2 f⟩
  | [], _ :: _, _, _, e, _ => False.elim e
  | _ :: _, [], _, _, e, _ => False.elim e
theorem zqM_e {m : Int} {p q : zqP} (e : PEq p q) : zqM m p = zqM m q := by
  obtain ⟨e1, e2, e3, e4⟩ := e
  unfold zqM
  by_cases k3 : p.1 = 3
  · rw [if_pos k3, if_pos (by omega), (e2 k3).1]
  · rw [if_neg k3, if_neg (show ¬ q.1 = 3 by omega)]
    by_cases k4 : p.1 = 4
    · rw [if_pos k4, if_pos (show q.1 = 4 by omega), e4 k4]
    · rw [if_neg k4, if_neg (show ¬ q.1 = 4 by omega), e1]
theorem zqW_e {m : Int} : ∀ {P Q : List zqP}, PEqL P Q → zqW m P = zqW m Q
  | [], [], _ => rfl
  | p :: s, q :: t, e => by
    show zqM (zqW m s) p = zqM (zqW m t) q
    rw [zqW_e e.2, zqM_e e.1]
  | [], _ :: _, e => False.elim e
  | _ :: _, [], e => False.elim e
theorem zqO_e {S : Int → Int} {m : Int} {p q : zqP} (e : PEq p q) : zqO S m p = zqO S m q := by
  funext r
  obtain ⟨e1, e2, e3, e4⟩ := e
  unfold zqO
  by_cases k3 : p.1 = 3
  · obtain ⟨a, b⟩ := e2 k3
    rw [if_pos k3, if_pos (by omega)]
    refine congrArg some (funext fun j => ?_)
    unfold zqFew
    by_cases c : 0 ≤ j ∧ j < p.2.2.2.1
    · rw [if_pos c, if_pos (by omega), b j c.1 c.2]
    · rw [if_neg c, if_neg (by omega)]
  · obtain ⟨a, b⟩ := e3 k3
    rw [if_neg k3, if_neg (show ¬ q.1 = 3 by omega)]
    by_cases k4 : p.1 = 4
    · rw [if_pos k4, if_pos (show q.1 = 4 by omega), a, b, e4 k4]
    · rw [if_neg k4, if_neg (show ¬ q.1 = 4 by omega), a, b, e1]
theorem zqT_e {S : Int → Int} {m : Int} {p q : zqP} {L : List zqR} (e : PEq p q) : zqT S m p L = zqT S m q L := by
  unfold zqT
  by_cases k5 : p.1 = 5
  · obtain ⟨a, b⟩ := e.2.2.1 (by omega)
    rw [if_pos k5, if_pos (by rw [← e.1]; exact k5), a, b]
  · rw [if_neg k5, if_neg (by rw [← e.1]; exact k5), zqO_e e]
theorem zqRun_e {S : Int → Int} {m : Int} {L : List zqR} : ∀ {P Q : List zqP}, PEqL P Q → zqRun S m L P = zqRun S m L Q
  | [], [], _ => rfl
  | p :: s, q :: t, e => by
    show zqT S (zqW m s) p (zqRun S m L s) = zqT S (zqW m t) q (zqRun S m L t)
    rw [zqW_e e.2, zqRun_e e.2, zqT_e e.1]
  | [], _ :: _, e => False.elim e
  | _ :: _, [], e => False.elim e
theorem zqOg_e {b m : Int} : ∀ {P Q : List zqP}, PEqL P Q → zqOg b m P = zqOg b m Q
  | [], [], _ => rfl
  | p :: s, q :: t, e => by
    have ih := zqOg_e (b := b) (m := m) e.2
    have iw := zqW_e (m := m) e.2
    obtain ⟨e1, e2, e3, e4⟩ := e.1
    funext j
    rw [zqOg, zqOg, ih, iw]
    dsimp only
    by_cases k3 : p.1 = 3
    · obtain ⟨a, c⟩ := e2 k3
      rw [if_pos k3, if_pos (show q.1 = 3 by omega)]
      by_cases d : 0 ≤ j ∧ j < p.2.2.2.1
      · rw [if_pos d, if_pos (show 0 ≤ j ∧ j < q.2.2.2.1 by omega), c j d.1 d.2]
      · rw [if_neg d, if_neg (show ¬ (0 ≤ j ∧ j < q.2.2.2.1) by omega)]
    · obtain ⟨a, c⟩ := e3 k3
      rw [if_neg k3, if_neg (show ¬ q.1 = 3 by omega)]
      by_cases k4 : p.1 = 4
      · rw [if_pos k4, if_pos (show q.1 = 4 by omega), c, e4 k4]
      · rw [if_neg k4, if_neg (show ¬ q.1 = 4 by omega), e1]
  | [], _ :: _, e => False.elim e
  | _ :: _, [], e => False.elim e
theorem zqUs_e {b m v : Int} : ∀ {P Q : List zqP}, PEqL P Q → (zqUs b m P v ↔ zqUs b m Q v)
  | [], [], _ => Iff.rfl
  | p :: s, q :: t, e => by
    have ih := zqUs_e (b := b) (m := m) (v := v) e.2
    have io := zqOg_e (b := b) (m := m) e.2
    obtain ⟨e1, e2, e3, e4⟩ := e.1
    rw [zqUs, zqUs, ih, io]
    by_cases k3 : p.1 = 3
    · have n5 : ¬ p.1 = 5 := by omega
      have k3' : q.1 = 3 := by omega
      have n5' : ¬ q.1 = 5 := by omega
      constructor
      · rintro (z | z | z)
        · exact Or.inl z
        · exact absurd k3 z.1
        · exact absurd z.1 n5
      · rintro (z | z | z)
        · exact Or.inl z
        · exact absurd k3' z.1
        · exact absurd z.1 n5'
    · obtain ⟨a, c⟩ := e3 k3
      rw [a, c, e1]
  | [], _ :: _, e => False.elim e
  | _ :: _, [], e => False.elim e
theorem zqUw_e {b u : Int} : ∀ {P Q : List zqP}, PEqL P Q → (zqUw b P u ↔ zqUw b Q u)
  | [], [], _ => Iff.rfl
  | p :: s, q :: t, e => by
    have ih := zqUw_e (b := b) (u := u) e.2
    obtain ⟨e1, e2, e3, e4⟩ := e.1
    unfold zqUw at ih ⊢
    constructor
    · rintro (z | ⟨r, hr, k, d⟩)
      · exact Or.inl z
      · rcases List.mem_cons.mp hr with y | y
        · rw [y] at k d
          exact Or.inr ⟨q, List.mem_cons_self .., by omega, by rw [← (e3 (by omega)).2]; exact d⟩
        · rcases ih.mp (Or.inr ⟨r, y, k, d⟩) with z | ⟨r', a1, a2⟩
          · exact Or.inl z
          · exact Or.inr ⟨r', List.mem_cons_of_mem _ a1, a2⟩
    · rintro (z | ⟨r, hr, k, d⟩)
      · exact Or.inl z
      · rcases List.mem_cons.mp hr with y | y
        · rw [y] at k d
          exact Or.inr ⟨p, List.mem_cons_self .., by omega, by rw [(e3 (by omega)).2]; exact d⟩
        · rcases ih.mpr (Or.inr ⟨r, y, k, d⟩) with z | ⟨r', a1, a2⟩
          · exact Or.inl z
          · exact Or.inr ⟨r', List.mem_cons_of_mem _ a1, a2⟩
  | [], _ :: _, e => False.elim e
  | _ :: _, [], e => False.elim e
theorem zqNS_e : ∀ {P Q : List zqP}, PEqL P Q → (zqNS P ↔ zqNS Q)
  | [], [], _ => Iff.rfl
  | p :: s, q :: t, e => by
    have ih := zqNS_e e.2
    have e1 := e.1.1
    unfold zqNS at ih ⊢
    constructor
    · intro z r hr
      rcases List.mem_cons.mp hr with y | y
      · rw [y, ← e1]; exact z p (List.mem_cons_self ..)
      · exact ih.mp (fun r' h' => z r' (List.mem_cons_of_mem _ h')) r y
    · intro z r hr
      rcases List.mem_cons.mp hr with y | y
      · rw [y, e1]; exact z q (List.mem_cons_self ..)
      · exact ih.mpr (fun r' h' => z r' (List.mem_cons_of_mem _ h')) r y
  | [], _ :: _, e => False.elim e
  | _ :: _, [], e => False.elim e
theorem zqWf1_e {m : Int} {p q : zqP} (e : PEq p q) (w : zqWf1 m p) : zqWf1 m q := by
  obtain ⟨e1, e2, e3, e4⟩ := e
  obtain ⟨w3, w4, w5, w2, wa, wb⟩ := w
  refine ⟨fun z => ?_, fun z => ?_, fun z => ?_, fun z => ?_, by omega, by omega⟩
  · obtain ⟨a, b⟩ := e2 (by omega)
    obtain ⟨c1, c2, c3⟩ := w3 (by omega)
    exact ⟨by omega, by omega, fun j x y => by rw [← b j x (by omega)]; exact c3 j x (by omega)⟩
  · obtain ⟨a, b⟩ := e3 (by omega)
    have c := w4 (by omega)
    have d := e4 (by omega)
    omega
  · obtain ⟨a, b⟩ := e3 (by omega)
    have c := w5 (by omega)
    omega
  · obtain ⟨a, b⟩ := e3 (by omega)
    have c := w2 (by omega)
    omega
theorem zqWf_e {m : Int} : ∀ {P Q : List zqP}, PEqL P Q → zqWf m P → zqWf m Q
  | [], [], _, _ => trivial
  | p :: s, q :: t, e, w => ⟨zqWf_e e.2 w.1, by rw [← zqW_e e.2]; exact zqWf1_e e.1 w.2⟩
  | [], _ :: _, e, _ => False.elim e
  | _ :: _, [], e, _ => False.elim e
end ZVB
section ZVC
/-- what a lens keeps is right for panes P -/
def LnR (h : my_H) (L : Int) (P : List zqP) : Prop :=
  h L 4 = zqW (h L 3) P ∧
  (∀ c : Int, 0 ≤ c → c < h L 4 → h (L + 6) c = zqOg (h L 2) (h L 3) P c) ∧
  (∀ p : Int, 0 ≤ p → p ≤ 11 → (zqbt (h L 8) p ↔ zqUs (h L 2) (h L 3) P p)) ∧
  (∀ u : Int, 0 ≤ u → u ≤ 2 → (zqlb (h L 6) u ↔ zqUw (h L 2) P u)) ∧
  (h L 7 = 0 ↔ zqNS P) ∧ zqWf (h L 3) P
theorem LnR_e {h : my_H} {L : Int} {P Q : List zqP} (e : PEqL P Q) (r : LnR h L P) : LnR h L Q := by
  obtain ⟨r1, r2, r3, r4, r5, r6⟩ := r
  refine ⟨by rw [← zqW_e e]; exact r1, fun c a b => by rw [← zqOg_e e]; exact r2 c a b, fun p a b => (r3 p a b).trans (zqUs_e e), fun u a b => (r4 u a b).trans (zqUw_e e), r5.trans (zqNS_e e), zqWf_e e r6⟩
theorem LnR_cg {h h' : my_H} {L L' : Int} {P : List zqP} (e : ∀ f : Int, 2 ≤ f → f ≤ 8 → h' L' f = h L f) (e6 : ∀ c : Int, 0 ≤ c → c < h L 4 → h' (L' + 6) c = h (L + 6) c) (r : LnR h L P) : LnR h' L' P := by
  obtain ⟨r1, r2, r3, r4, r5, r6⟩ := r
  have e2 := e 2 (by omega) (by omega)
  have e3 := e 3 (by omega) (by omega)
  have e4 := e 4 (by omega) (by omega)
  unfold LnR
  rw [e2, e3, e4, e 6 (by omega) (by omega), e 7 (by omega) (by omega), e 8 (by omega) (by omega)]
  exact ⟨r1, fun c a b => by rw [e6 c a b]; exact r2 c a b, r3, r4, r5, r6⟩
/-- a pane more: what is told of it -/
def AdE (h h' : my_H) (L k a b c : Int) : Prop :=
  (h' L 9 = h L 9 + 1 ∧ h' (L + 1) (h L 9) = k ∧ h' (L + 2) (h L 9) = a ∧ h' (L + 3) (h L 9) = b ∧ h' (L + 4) (h L 9) = c) ∧
  (∀ j : Int, j ≠ h L 9 → h' (L + 1) j = h (L + 1) j ∧ h' (L + 2) j = h (L + 2) j ∧ h' (L + 3) j = h (L + 3) j ∧ h' (L + 4) j = h (L + 4) j) ∧
  (∀ j : Int, (j < 8 * h L 9 ∨ 8 * h L 9 + 8 ≤ j) → h' (L + 5) j = h (L + 5) j) ∧ (∀ j : Int, h' (L + 7) j = h (L + 7) j) ∧
  h' L 1 = h L 1 ∧ h' L 2 = h L 2 ∧ h' L 3 = h L 3 ∧ h' L 4 = ln_st k c (h L 4)
/-- a pane more: what follows of it -/
def AdD (h h' : my_H) (L k a b c : Int) : Prop :=
  (∀ p : Int, 0 ≤ p → p ≤ 11 → (zqbt (h' L 8) p ↔ zqbt (h L 8) p ∨ (k ≠ 3 ∧ h (L + 6) a % 16 = p) ∨ (k = 5 ∧ h (L + 6) b % 16 = p))) ∧
  (∀ u : Int, 0 ≤ u → u ≤ 2 → (zqlb (h' L 6) u ↔ zqlb (h L 6) u ∨ (k = 4 ∧ b = u))) ∧
  (h' L 7 = if k = 5 then 1 else h L 7) ∧
  ∀ j : Int, 0 ≤ j → j < h' L 4 → h' (L + 6) j = (if k = 3 then h (L + 6) (h' (L + 5) (8 * h L 9 + j)) else if k = 4 then (if h L 4 ≤ j then 16 + 4 * b + (j - h L 4 + 1) else h (L + 6) j) else if k = 5 then -1 else h (L + 6) j)
theorem LnR_add {h h' : my_H} {L k a b c : Int} {P : List zqP} {p : zqP} (r : LnR h L P) (E : AdE h h' L k a b c) (D : AdD h h' L k a b c) (wf : zqWf1 (h L 4) p) (p1 : p.1 = k) (p2 : k ≠ 3 → p.2.1 = a ∧ p.2.2.1 = b) (p3 : k = 3 ∨ k = 4 → p.2.2.2.1 = c) (pf : k = 3 → ∀ j : Int, 0 ≤ j → j < c → p.2.2.2.2 j = h' (L + 5) (8 * h L 9 + j)) : LnR h' L (p :: P) := by
  obtain ⟨r1, r2, r3, r4, r5, r6⟩ := r
  obtain ⟨-, -, -, -, -, x2, x3, x4⟩ := E
  obtain ⟨d8, d6, d7, dO⟩ := D
  obtain ⟨w3, w4, w5, w2, wa, wb⟩ := wf
  have eW : zqW (h L 3) (p :: P) = h' L 4 := by
    show zqM (zqW (h L 3) P) p = h' L 4
    rw [x4, ← r1]
    unfold zqM ln_st
    by_cases k3 : k = 3
    · rw [if_pos (by omega), if_pos k3, p3 (Or.inl k3)]
    · rw [if_neg (by omega), if_neg k3]
      by_cases k4 : k = 4
      · rw [if_pos (by omega), if_pos k4, p3 (Or.inr k4)]
      · rw [if_neg (by omega), if_neg k4, p1]
  unfold LnR
  rw [x2, x3]
  refine ⟨eW.symm, fun j j0 j1 => ?_, fun v v0 v1 => ?_, fun u u0 u1 => ?_, ?_, ⟨r6, by rw [← r1]; exact ⟨w3, w4, w5, w2, wa, wb⟩⟩⟩
  · rw [dO j j0 j1]
    show _ = (if p.1 = 3 then (if 0 ≤ j ∧ j < p.2.2.2.1 then zqOg (h L 2) (h L 3) P (p.2.2.2.2 j) else -1)
      else if p.1 = 4 then (if zqW (h L 3) P ≤ j ∧ j < zqW (h L 3) P + p.2.2.2.1 - 1 then 16 + 4 * p.2.2.1 + (j - zqW (h L 3) P + 1) else zqOg (h L 2) (h L 3) P j)
      else if p.1 = 5 then -1 else zqOg (h L 2) (h L 3) P j)
    rw [x4] at j1
    unfold ln_st at j1
    by_cases k3 : k = 3
    · rw [if_pos k3] at j1
      have z := p3 (Or.inl k3)
      have y := pf k3 j j0 j1
      have x := (w3 (by omega)).2.2 j j0 (by omega)
      rw [if_pos k3, if_pos (by omega), if_pos (by omega), y]
      rw [y] at x
      exact r2 _ x.1 x.2
    · rw [if_neg k3] at j1
      obtain ⟨q1, q2⟩ := p2 k3
      rw [if_neg k3, if_neg (show ¬ p.1 = 3 by omega)]
      by_cases k4 : k = 4
      · rw [if_pos k4] at j1
        have z := p3 (Or.inr k4)
        rw [if_pos k4, if_pos (show p.1 = 4 by omega), ← r1]
        by_cases o : h L 4 ≤ j
        · rw [if_pos o, if_pos (by omega), q2]
        · rw [if_neg o, if_neg (by omega)]
          exact r2 j j0 (by omega)
      · rw [if_neg k4] at j1
        rw [if_neg k4, if_neg (show ¬ p.1 = 4 by omega)]
        by_cases k5 : k = 5
        · rw [if_pos k5, if_pos (show p.1 = 5 by omega)]
        · rw [if_neg k5] at j1
          rw [if_neg k5, if_neg (show ¬ p.1 = 5 by omega)]
          exact r2 j j0 j1
  · rw [d8 v v0 v1, r3 v v0 v1]
    show _ ↔ zqUs (h L 2) (h L 3) P v ∨ (p.1 ≠ 3 ∧ zqOg (h L 2) (h L 3) P p.2.1 % 16 = v) ∨ (p.1 = 5 ∧ zqOg (h L 2) (h L 3) P p.2.2.1 % 16 = v)
    by_cases k3 : k = 3
    · have n5 : ¬ k = 5 := by omega
      constructor
      · rintro (z | z | z)
        · exact Or.inl z
        · exact absurd k3 z.1
        · exact absurd z.1 n5
      · rintro (z | z | z)
        · exact Or.inl z
        · exact absurd (p1.trans k3) z.1
        · exact absurd (p1.symm.trans z.1) n5
    · obtain ⟨q1, q2⟩ := p2 k3
      have ra : 0 ≤ a ∧ a < h L 4 := by
        by_cases k4 : k = 4
        · have z := w4 (by omega); omega
        · by_cases k5 : k = 5
          · have z := w5 (by omega); omega
          · have z := w2 (by omega); omega
      rw [p1, q1, q2, r2 a ra.1 ra.2]
      by_cases k5 : k = 5
      · have rb := w5 (by omega)
        rw [r2 b (by omega) (by omega)]
      · constructor
        · rintro (z | z | z)
          · exact Or.inl z
          · exact Or.inr (Or.inl z)
          · exact absurd z.1 k5
        · rintro (z | z | z)
          · exact Or.inl z
          · exact Or.inr (Or.inl z)
          · exact absurd z.1 k5
  · rw [d6 u u0 u1, r4 u u0 u1]
    unfold zqUw
    constructor
    · rintro ((z | ⟨q, hq, y⟩) | z)
      · exact Or.inl z
      · exact Or.inr ⟨q, List.mem_cons_of_mem _ hq, y⟩
      · exact Or.inr ⟨p, List.mem_cons_self .., by omega, by rw [(p2 (by omega)).2]; exact z.2⟩
    · rintro (z | ⟨q, hq, y⟩)
      · exact Or.inl (Or.inl z)
      · rcases List.mem_cons.mp hq with x | x
        · rw [x] at y
          have k4 : k = 4 := by omega
          have q2 := (p2 (by omega)).2
          exact Or.inr ⟨k4, by rw [← q2]; exact y.2⟩
        · exact Or.inl (Or.inr ⟨q, x, y⟩)
  · rw [d7]
    unfold zqNS
    unfold zqNS at r5
    by_cases k5 : k = 5
    · rw [if_pos k5]
      exact ⟨fun z => absurd z (by decide), fun z => absurd (p1.trans k5) (z p (List.mem_cons_self ..))⟩
    · rw [if_neg k5, r5]
      constructor
      · intro z q hq
        rcases List.mem_cons.mp hq with x | x
        · rw [x, p1]; exact k5
        · exact z q x
      · exact fun z q hq => z q (List.mem_cons_of_mem _ hq)
/-- the same, told of an earlier heap -/
theorem AdE_pre {h g h' : my_H} {L k a b c : Int} (e : ∀ f : Int, 1 ≤ f → f ≤ 9 → g L f = h L f) (e1 : ∀ j : Int, g (L + 1) j = h (L + 1) j) (e2 : ∀ j : Int, g (L + 2) j = h (L + 2) j) (e3 : ∀ j : Int, g (L + 3) j = h (L + 3) j) (e4 : ∀ j : Int, g (L + 4) j = h (L + 4) j) (e5 : ∀ j : Int, (j < 8 * h L 9 ∨ 8 * h L 9 + 8 ≤ j) → g (L + 5) j = h (L + 5) j) (e6 : ∀ j : Int, g (L + 6) j = h (L + 6) j) (e7 : ∀ j : Int, g (L + 7) j = h (L + 7) j) (E : AdE g h' L k a b c) (D : AdD g h' L k a b c) : AdE h h' L k a b c ∧ AdD h h' L k a b c := by
  have f9 := e 9 (by omega) (by omega)
  obtain ⟨x0, x1, x5, x7, y1, y2, y3, y4⟩ := E
  obtain ⟨d8, d6, d7, dO⟩ := D
  rw [f9] at x0 x1 x5 dO
  rw [e 4 (by omega) (by omega)] at y4 dO
  rw [e 8 (by omega) (by omega)] at d8
  rw [e 6 (by omega) (by omega)] at d6
  rw [e 7 (by omega) (by omega)] at d7
  rw [show g (L + 6) = h (L + 6) from funext e6] at d8 dO
  refine ⟨⟨x0, fun j hj => ?_, fun j hj => (x5 j hj).trans (e5 j hj), fun j => (x7 j).trans (e7 j), y1.trans (e 1 (by omega) (by omega)), y2.trans (e 2 (by omega) (by omega)), y3.trans (e 3 (by omega) (by omega)), y4⟩, d8, d6, d7, dO⟩
  obtain ⟨z1, z2, z3, z4⟩ := x1 j hj
  exact ⟨z1.trans (e1 j), z2.trans (e2 j), z3.trans (e3 j), z4.trans (e4 j)⟩
/-- panes that were told before stay -/
theorem zqPs_old {h h' : my_H} {L : Int} {n : Nat} (b8 : ∀ s : Nat, s < n → h (L + 1) s = 3 → h (L + 4) s ≤ 8) (eo : ∀ j : Int, 0 ≤ j → j < n → h' (L + 1) j = h (L + 1) j ∧ h' (L + 2) j = h (L + 2) j ∧ h' (L + 3) j = h (L + 3) j ∧ h' (L + 4) j = h (L + 4) j) (e5 : ∀ j : Int, 0 ≤ j → j < 8 * (n : Int) → h' (L + 5) j = h (L + 5) j) : ∀ i : Nat, i ≤ n → PEqL (zqPs h' L i) (zqPs h L i)
  | 0, _ => trivial
  | i + 1, hi => by
    obtain ⟨e1, e2, e3, e4⟩ := eo i (by omega) (by omega)
    refine ⟨⟨e1, fun z => ⟨e4, fun j a b => ?_⟩, fun _ => ⟨e2, e3⟩, fun _ => e4⟩, zqPs_old b8 eo e5 i (by omega)⟩
    have z' : h' (L + 1) i = 3 := z
    have b' : j < h' (L + 4) i := b
    have c := b8 i (by omega) (e1.symm.trans z')
    exact e5 _ (by omega) (by omega)
/-- a lens's own panes and one more -/
theorem zqPs_add {h h' : my_H} {L k a b c m : Int} {n : Nat} {P U : List zqP} {p : zqP} (hn : h L 9 = n) (E : AdE h h' L k a b c) (e : PEqL (zqPs h L n) P) (wf : zqWf m (P ++ U)) (p1 : p.1 = k) (p2 : k ≠ 3 → p.2.1 = a ∧ p.2.2.1 = b) (p3 : k = 3 ∨ k = 4 → p.2.2.2.1 = c) (pf : k = 3 → ∀ j : Int, 0 ≤ j → j < c → p.2.2.2.2 j = h' (L + 5) (8 * h L 9 + j)) : PEqL (zqPs h' L (n + 1)) (p :: P) := by
  obtain ⟨⟨x9, xk, xa, xb, xc⟩, xo, x5, -, -⟩ := E
  rw [hn] at xk xa xb xc xo x5 pf
  have wf' : zqWf m (zqPs h L n ++ U) := zqWf_e (PEqL.app e.sy PEqL.rf) wf
  have old : PEqL (zqPs h' L n) (zqPs h L n) := zqPs_old (fun s hs z => ((zqWf_ps wf' hs).2.1 z).2.1) (fun j a b => xo j (by omega)) (fun j a b => x5 j (Or.inl b)) n (Nat.le_refl n)
  refine ⟨⟨xk.trans p1.symm, fun z => ?_, fun z => ?_, fun z => ?_⟩, old.tr e⟩
  · have z' : h' (L + 1) n = 3 := z
    have k3 : k = 3 := by omega
    refine ⟨xc.trans (p3 (Or.inl k3)).symm, fun j u v => ?_⟩
    have v' : j < h' (L + 4) n := v
    exact (pf k3 j u (by omega)).symm
  · have z' : h' (L + 1) n ≠ 3 := z
    obtain ⟨q1, q2⟩ := p2 (by omega)
    exact ⟨xa.trans q1.symm, xb.trans q2.symm⟩
  · have z' : h' (L + 1) n = 4 := z
    exact xc.trans (p3 (Or.inr (by omega))).symm
end ZVC
