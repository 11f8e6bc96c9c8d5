/-! the class's reader: its state in the stream's words -/
section MTG
theorem cs_eq {h h' : my_H} (e1 : ∀ j : Int, h' 92 j = h 92 j) (e2 : h' 82 4 = h 82 4) : cs h' = cs h := by
  unfold cs
  rw [tp_eq e1 e2]
theorem sm_eq {h h' : my_H} (e1 : ∀ j : Int, h' 153 j = h 153 j) (e2 : ∀ j : Int, h' 154 j = h 154 j) (e3 : ∀ j : Int, h' 155 j = h 155 j) : sm h' = sm h := by
  unfold sm
  rw [show h' 153 = h 153 from funext e1, show h' 154 = h 154 from funext e2, show h' 155 = h 155 from funext e3]
theorem Cu_s {h : my_H} (c : Cu h) : h 82 6 = sK (cs h) (h 82 7) ∧ sP (cs h) (h 82 7) = h 82 7 :=
  ⟨(Cu_k c).1, rfl⟩
theorem Cu_v {h : my_H} (c : Cu h) : h 82 6 = 2 → h 82 8 = sV (cs h) (h 82 7) := (Cu_k c).2.2
theorem T_ns {h h' : my_H} (e : h' 82 7 = tS (tp_of h) (h 82 5)) : Cu h → h' 82 7 = sN (cs h) (h 82 7) := fun c => T_n c e
theorem W_1s {h : my_H} {k : Int} (c : Cu h) (k6 : h 82 6 = 1) (hk : 1 ≤ k ∧ k ≤ 12) (hl : h 82 5 - h 82 7 = my_sl k) (H : ∀ i : Int, 0 ≤ i → i < my_sl k → h 92 (h 82 7 + i) = my_sc k i) : sW (cs h) (h 82 7) = wc k := W_1 c k6 hk hl H
theorem W_0s {h : my_H} {k : Int} (c : Cu h) (hk : 1 ≤ k ∧ k ≤ 12) (z : sW (cs h) (h 82 7) = wc k) : h 82 6 = 1 ∧ h 82 5 - h 82 7 = my_sl k ∧ ∀ i : Int, 0 ≤ i → i < my_sl k → h 92 (h 82 7 + i) = my_sc k i := W_0 c hk z
/-- the spare lens behind a pane: as it was, but c columns and s steps -/
def Std (h h' : my_H) (c s : Int) : Prop := h' 82 2 = h 82 2 ∧ h' (h 82 2) 3 = h (h 82 2) 3 ∧ h' (h 82 2) 4 = c ∧ h' (h 82 2) 9 = s ∧ h' (h 82 2) 1 = h (h 82 2) 1
theorem Std_add {h g g' : my_H} {S k b c : Int} (a : AddS g g' S k b c) (hS : S = h 82 2) (e2 : g' 82 2 = h 82 2) (e3 : g S 3 = h S 3) (e4 : g S 4 = h S 4) (e9 : g S 9 = h S 9) (e1 : g S 1 = h S 1) : Std h g' (ln_st k c (h (h 82 2) 4)) (h (h 82 2) 9 + 1) := by
  subst hS
  obtain ⟨a1, -, -, -, -, a6, a7, a8⟩ := a
  exact ⟨e2, by omega, by rw [a8, e4], by omega, by omega⟩
def fewE (σ : tst) (c x φ y u : Int) : Prop := ∃ k : Nat, fewR σ c k x (fun _ => False) 0 φ y u
/-- columns picked so far -/
def PkS (h : my_H) (n : Int) : Int → Prop := fun v => ∃ i : Int, 0 ≤ i ∧ i < n ∧ h (h 82 2 + 5) (h (h 82 2) 9 * 8 + i) = v
def fwI (h h' : my_H) (n : Int) : Prop := ∀ (k : Nat) (φ y u : Int), fewR (cs h) (h (h 82 2) 4) k (h' 82 7) (PkS h' n) n φ y u → fewE (cs h) (h (h 82 2) 4) (h 82 7) φ y u
theorem fewR_cg {σ : tst} {c : Int} : ∀ (k : Nat) {x m φ y u : Int} {M M' : Int → Prop}, (∀ v : Int, M v ↔ M' v) → fewR σ c k x M m φ y u → fewR σ c k x M' m φ y u
  | 0, _, _, _, _, _, _, _, _, p => False.elim p
  | k + 1, x, m, φ, y, u, M, M', e, p => by
    unfold fewR at p ⊢
    rcases p with p | p | ⟨p1, p2, p⟩
    · exact Or.inl p
    · exact Or.inr (Or.inl p)
    · refine Or.inr (Or.inr ⟨p1, p2, ?_⟩)
      rcases p with ⟨q1, q2⟩ | ⟨q1, q2⟩
      · exact Or.inl ⟨(e _).mp q1, q2⟩
      · refine Or.inr ⟨fun z => q1 ((e _).mpr z), ?_⟩
        rcases q2 with q2 | ⟨q2, q3⟩
        · exact Or.inl q2
        · exact Or.inr ⟨q2, fewR_cg k (fun v => by rw [e v]) q3⟩
theorem fwI_0 {h h' : my_H} (e : h' 82 7 = h 82 7) : fwI h h' 0 := by
  intro k φ y u p
  rw [e] at p
  exact ⟨k, fewR_cg k (fun v => ⟨fun ⟨i, a, b, _⟩ => by omega, fun z => False.elim z⟩) p⟩
/-- one more is picked -/
theorem fwI_s {h g g1 : my_H} {n x v : Int} (p : fwI h g n) (ex : g 82 7 = x) (k2 : sK (cs h) x = 2) (vl : sV (cs h) x < h (h 82 2) 4) (ev : sV (cs h) x = v) (np : ¬ PkS g n v) (k3 : sK (cs h) (sN (cs h) x) ≠ 3) (e1 : g1 82 7 = sN (cs h) x) (hp : ∀ u : Int, PkS g1 (n + 1) u ↔ (PkS g n u ∨ u = v)) : fwI h g1 (n + 1) := by
  subst ev; subst ex
  intro k φ y u q
  rw [e1] at q
  refine p (k + 1) φ y u ?_
  unfold fewR
  exact Or.inr (Or.inr ⟨k2, vl, Or.inr ⟨np, Or.inr ⟨k3, fewR_cg k hp q⟩⟩⟩)
theorem fwI_1 {h g : my_H} {n x φ y u : Int} (p : fwI h g n) (ex : g 82 7 = x) (q : rNum (cs h) x (h (h 82 2) 4) φ False) : fewE (cs h) (h (h 82 2) 4) (h 82 7) φ y u := by
  subst ex
  refine p 1 φ y u ?_
  unfold fewR
  rcases q with q | q | q
  · exact Or.inl q
  · exact Or.inr (Or.inl q)
  · exact False.elim q.2.2
theorem fwI_3 {h g : my_H} {n x φ y u v : Int} (p : fwI h g n) (ex : g 82 7 = x) (k2 : sK (cs h) x = 2) (vl : sV (cs h) x < h (h 82 2) 4) (ev : sV (cs h) x = v) (np : PkS g n v) (q : φ = 3 + 16 * x) : fewE (cs h) (h (h 82 2) 4) (h 82 7) φ y u := by
  subst ev; subst ex
  refine p 1 φ y u ?_
  unfold fewR
  exact Or.inr (Or.inr ⟨k2, vl, Or.inl ⟨np, q⟩⟩)
theorem fwI_e {h g : my_H} {n x φ y u v : Int} (p : fwI h g n) (ex : g 82 7 = x) (k2 : sK (cs h) x = 2) (vl : sV (cs h) x < h (h 82 2) 4) (ev : sV (cs h) x = v) (np : ¬ PkS g n v) (k3 : sK (cs h) (sN (cs h) x) = 3) (q : φ = 0) (ey : y = sN (cs h) (sN (cs h) x)) (eu : u = n + 1) : fewE (cs h) (h (h 82 2) 4) (h 82 7) φ y u := by
  subst ev; subst ex
  refine p 1 φ y u ?_
  unfold fewR
  exact Or.inr (Or.inr ⟨k2, vl, Or.inr ⟨np, Or.inl ⟨k3, q, ey, eu⟩⟩⟩)
theorem PkS_up {g g1 : my_H} {n c S ix : Int} (L : Ln g) (hS : S = g 82 2) (hix : ix = g S 9 * 8 + n) (h0 : 0 ≤ n) (e : g1 = my_up g (S + 5) ix c) : ∀ u : Int, PkS g1 (n + 1) u ↔ (PkS g n u ∨ u = c) := by
  subst hS; subst hix
  have hf := ln_far L.2.2.2.1
  have e1 : g1 82 2 = g 82 2 := my_up_ne e (by omega)
  have e2 : g1 (g 82 2) 9 = g (g 82 2) 9 := my_up_ne e (by omega)
  have e3 : g1 (g 82 2 + 5) (g (g 82 2) 9 * 8 + n) = c := my_up_self e
  have e4 : ∀ i : Int, i ≠ n → g1 (g 82 2 + 5) (g (g 82 2) 9 * 8 + i) = g (g 82 2 + 5) (g (g 82 2) 9 * 8 + i) := fun i q => my_up_ne e (by omega)
  intro u
  unfold PkS
  rw [e1, e2]
  constructor
  · rintro ⟨i, a, b, d⟩
    by_cases q : i = n
    · subst q
      rw [e3] at d
      exact Or.inr d.symm
    · rw [e4 i q] at d
      exact Or.inl ⟨i, a, by omega, d⟩
  · rintro (⟨i, a, b, d⟩ | d)
    · exact ⟨i, a, by omega, by rw [e4 i (by omega)]; exact d⟩
    · exact ⟨n, h0, by omega, by rw [e3]; exact d.symm⟩
theorem PkS_ag {g g1 : my_H} {n : Int} (a : my_ag [(5, 2), (4, 9), (36, -1)] g g1) (L : Ln g) (u : Int) : PkS g1 n u ↔ PkS g n u := by
  have e1 : g1 82 2 = g 82 2 := a.at pis_82 rfl
  have e2 : g1 (g 82 2) 9 = g (g 82 2) 9 := a.at L.2.2.2.1 rfl
  have e3 : ∀ j : Int, g1 (g 82 2 + 5) j = g (g 82 2 + 5) j := fun j => a.at (pix_5 L.2.2.2.1) rfl
  unfold PkS
  rw [e1, e2]
  simp only [e3]
def cT (h : my_H) : Int → Int := fun v => h (h 27 v) 0
def cW (h : my_H) : Int → Int := fun v => h (h 27 v) 4
def cB (h : my_H) : Int → Int := fun v => h (h 27 v) 3
theorem my_fr.fl {T : List (Nat × Int)} {h h' : my_H} {k j : Int} (p : my_fr T h h') (hT : T.any (fun q => q.2 == -1 || q.2 == j) = false) : h' k j = h k j := by
  refine p k j ?_
  unfold my_md
  rw [List.any_eq_false] at hT ⊢
  intro q hq
  have := hT q hq
  simp only [Bool.and_eq_true, not_and]
  exact fun _ => this
/-- the lenses are as they were -/
def Lo (h h' : my_H) : Prop := ∀ v : Int, 0 ≤ v → v ≤ 5 → h' 27 v = h 27 v ∧ h' (h 27 v) 0 = h (h 27 v) 0 ∧ h' (h 27 v) 1 = h (h 27 v) 1 ∧ h' (h 27 v) 3 = h (h 27 v) 3 ∧ h' (h 27 v) 4 = h (h 27 v) 4
theorem Lo_rf {h : my_H} : Lo h h := fun _ _ _ => ⟨rfl, rfl, rfl, rfl, rfl⟩
theorem Lo_tr {h g g' : my_H} (p : Lo h g) (q : Lo g g') : Lo h g' := by
  intro v a b
  obtain ⟨p1, p2, p3, p4, p5⟩ := p v a b
  obtain ⟨q1, q2, q3, q4, q5⟩ := q v a b
  rw [p1] at q1 q2 q3 q4 q5
  exact ⟨q1, q2.trans p2, q3.trans p3, q4.trans p4, q5.trans p5⟩
theorem Lo_ag {h g g' : my_H} (a : my_ag [(22, -1), (4, 0), (4, 1), (4, 3), (4, 4)] g g') (L : Ln g) (p : Lo h g) : Lo h g' := by
  refine Lo_tr p (fun v v0 v5 => ?_)
  have q := L.2.2.1 v v0 v5
  exact ⟨a.at pis_27 rfl, a.at q rfl, a.at q rfl, a.at q rfl, a.at q rfl⟩
theorem Lo_fx {h g g' : my_H} {S : Int} (a : my_fx S 8 g g') (hS : S = g 82 2) (L : Ln g) (p : Lo h g) : Lo h g' := by
  subst hS
  refine Lo_tr p (fun v v0 v5 => ?_)
  have hf := ln_far L.2.2.2.1
  have ap := ln_apart (L.2.2.1 v v0 v5) L.2.2.2.1 (L.2.1 v v0 v5)
  exact ⟨a.at (by omega), a.at (by omega), a.at (by omega), a.at (by omega), a.at (by omega)⟩
end MTG
