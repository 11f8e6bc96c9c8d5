/-! the class's reader: what it lays -/
section ZVG
def CutV (σ : tst) (x k a b : Int) : Prop := ((k = 0 ∧ sW σ (sN σ x) = 615403) ∨ (k = 1 ∧ sW σ (sN σ x) = 352) ∨ (k = 2 ∧ sW σ (sN σ x) = 679695)) ∧ a = sV σ x ∧ b = sV σ (sN σ (sN σ x))
def JoinV (σ : tst) (cl : Int → Int) (x a b c : Int) : Prop := b = sV σ x ∧ a = sV σ (sN σ (sN σ x)) ∧ c = cl (sV σ x)
def SumV (σ : tst) (x a b : Int) : Prop := a = sV σ x ∧ b = sV σ (sN σ (sN σ x))
def FewV (σ : tst) (x c : Int) (f : Int → Int) : Prop := ∀ j : Int, 0 ≤ j → j < c → f j = sV σ (zsN σ x j.toNat) ∧ 0 ≤ sV σ (zsN σ x j.toNat)
/-- the spare lens has a pane more -/
def PnI (h h' : my_H) (k a b c : Int) : Prop := AdE h h' (h 82 2) k a b c ∧ AdD h h' (h 82 2) k a b c
theorem PnI_mk {h g h' : my_H} {s k a b c : Int} (z : my_ag LzF h g) (e : s = h 82 2) (hS : my_is 4 (h 82 2)) (E : AdE g h' s k a b c) (D : AdD g h' s k a b c) : PnI h h' k a b c := by
  subst e
  exact AdE_z z hS E D
theorem PnI_z {h g h' : my_H} {k a b c : Int} (z : my_ag LzF h g) (e : g 82 2 = h 82 2) (hS : my_is 4 (h 82 2)) (p : PnI g h' k a b c) : PnI h h' k a b c := by
  unfold PnI at p
  rw [e] at p
  exact AdE_z z hS p.1 p.2
/-- the pane as it is laid -/
def PnM (p : zqP) (k a b c : Int) (f : Int → Int) : Prop := p.1 = k ∧ (k ≠ 3 → p.2.1 = a ∧ p.2.2.1 = b) ∧ (k = 3 ∨ k = 4 → p.2.2.2.1 = c) ∧ (k = 3 → ∀ j : Int, 0 ≤ j → j < c → p.2.2.2.2 j = f j)
theorem PnM_cut {σ : tst} {cl : Int → Int} {w x c1 k a b : Int} {f : Int → Int} (e : w = 4904) (v : CutV σ x k a b) : PnM (pnP σ cl w x c1) k a b 0 f := by
  obtain ⟨v1, v2, v3⟩ := v
  unfold pnP
  rw [if_pos e]
  have ek : (if sW σ (sN σ x) = 615403 then (0 : Int) else if sW σ (sN σ x) = 352 then 1 else 2) = k := by
    rcases v1 with q | q | q
    · rw [if_pos q.2]; exact q.1.symm
    · rw [if_neg (by omega), if_pos q.2]; exact q.1.symm
    · rw [if_neg (by omega), if_neg (by omega)]; exact q.1.symm
  exact ⟨ek, fun _ => ⟨v2.symm, v3.symm⟩, fun z => by omega, fun z => by omega⟩
theorem PnM_few {σ : tst} {cl : Int → Int} {w x c : Int} {f : Int → Int} (e : w = 8422) (v : FewV σ x c f) : PnM (pnP σ cl w x c) 3 0 0 c f := by
  unfold pnP
  rw [if_neg (by omega), if_pos e]
  refine ⟨rfl, fun z => absurd rfl z, fun _ => rfl, fun _ j a b => ?_⟩
  show (if 0 ≤ j ∧ j < c then sV σ (zsN σ x j.toNat) else 0) = f j
  rw [if_pos ⟨a, b⟩]
  exact (v j a b).1.symm
theorem PnM_join {σ : tst} {cl : Int → Int} {w x c1 a b c : Int} {f : Int → Int} (e : w = 527412) (v : JoinV σ cl x a b c) : PnM (pnP σ cl w x c1) 4 a b c f := by
  obtain ⟨v1, v2, v3⟩ := v
  unfold pnP
  rw [if_neg (by omega), if_neg (by omega), if_pos e]
  exact ⟨rfl, fun _ => ⟨v2.symm, v1.symm⟩, fun _ => v3.symm, fun z => absurd z (by decide)⟩
theorem PnM_sum {σ : tst} {cl : Int → Int} {w x c1 a b : Int} {f : Int → Int} (e : w = 26801) (v : SumV σ x a b) : PnM (pnP σ cl w x c1) 5 a b 0 f := by
  obtain ⟨v1, v2⟩ := v
  unfold pnP
  rw [if_neg (by omega), if_neg (by omega), if_neg (by omega)]
  exact ⟨rfl, fun _ => ⟨v1.symm, v2.symm⟩, fun z => by omega, fun z => absurd z (by decide)⟩
theorem PnN_cut {σ : tst} {cl : Int → Int} {w x c1 k a b : Int} (e : w = 4904) (v : CutV σ x k a b) (a0 : 0 ≤ a) (b0 : 0 ≤ b) : PnN (pnP σ cl w x c1) := by
  obtain ⟨v1, v2, v3⟩ := v
  unfold pnP PnN
  rw [if_pos e]
  refine ⟨fun _ => ⟨show 0 ≤ sV σ x by omega, show 0 ≤ sV σ (sN σ (sN σ x)) by omega⟩, fun z => ?_⟩
  have z' : (if sW σ (sN σ x) = 615403 then (0 : Int) else if sW σ (sN σ x) = 352 then 1 else 2) = 3 := z
  rcases v1 with q | q | q
  · rw [if_pos q.2] at z'; omega
  · rw [if_neg (by omega), if_pos q.2] at z'; omega
  · rw [if_neg (by omega), if_neg (by omega)] at z'; omega
theorem PnN_few {σ : tst} {cl : Int → Int} {w x c : Int} {f : Int → Int} (e : w = 8422) (v : FewV σ x c f) : PnN (pnP σ cl w x c) := by
  unfold pnP PnN
  rw [if_neg (by omega), if_pos e]
  refine ⟨fun z => absurd rfl z, fun _ j a b => ?_⟩
  have b' : j < c := b
  show 0 ≤ (if 0 ≤ j ∧ j < c then sV σ (zsN σ x j.toNat) else 0)
  rw [if_pos ⟨a, b'⟩]
  exact (v j a b').2
theorem PnN_join {σ : tst} {cl : Int → Int} {w x c1 a b c : Int} (e : w = 527412) (v : JoinV σ cl x a b c) (a0 : 0 ≤ a) (b0 : 0 ≤ b) : PnN (pnP σ cl w x c1) := by
  obtain ⟨v1, v2, v3⟩ := v
  unfold pnP PnN
  rw [if_neg (by omega), if_neg (by omega), if_pos e]
  exact ⟨fun _ => ⟨show 0 ≤ sV σ (sN σ (sN σ x)) by omega, show 0 ≤ sV σ x by omega⟩, fun z => absurd z (by show ¬ (4 : Int) = 3; decide)⟩
theorem PnN_sum {σ : tst} {cl : Int → Int} {w x c1 a b : Int} (e : w = 26801) (v : SumV σ x a b) (a0 : 0 ≤ a) (b0 : 0 ≤ b) : PnN (pnP σ cl w x c1) := by
  obtain ⟨v1, v2⟩ := v
  unfold pnP PnN
  rw [if_neg (by omega), if_neg (by omega), if_neg (by omega)]
  exact ⟨fun _ => ⟨show 0 ≤ sV σ x by omega, show 0 ≤ sV σ (sN σ (sN σ x)) by omega⟩, fun z => absurd z (by show ¬ (5 : Int) = 3; decide)⟩
/-- the spare lens has another fill -/
def FlQ (h h' : my_H) (o v : Int) : Prop := (∀ f : Int, h' (h 82 2) f = h (h 82 2) f) ∧ (∀ k j : Int, 1 ≤ k → k ≤ 6 → h' (h 82 2 + k) j = h (h 82 2 + k) j) ∧ ∀ j : Int, h' (h 82 2 + 7) j = if j = o then v else h (h 82 2 + 7) j
theorem LzF_k {h g : my_H} {S k : Int} (z : my_ag LzF h g) (hS : my_is 4 S) (k1 : 1 ≤ k) (k7 : k ≤ 7) (j : Int) : g (S + k) j = h (S + k) j := by
  have kk : k = 1 ∨ k = 2 ∨ k = 3 ∨ k = 4 ∨ k = 5 ∨ k = 6 ∨ k = 7 := by omega
  rcases kk with q | q | q | q | q | q | q <;> subst q
  · exact z.at (pix_1 hS) rfl
  · exact z.at (pix_2z hS) rfl
  · exact z.at (pix_3 hS) rfl
  · exact z.at (pix_4 hS) rfl
  · exact z.at (pix_5q hS) rfl
  · exact z.at (pix_6q hS) rfl
  · exact z.at (pix_7z hS) rfl
theorem FlQ_mk {h g h' : my_H} {s o v : Int} (z : my_ag LzF h g) (e : s = h 82 2) (hS : my_is 4 (h 82 2)) (u : h' = my_up g (s + 7) o v) : FlQ h h' o v := by
  subst e
  refine ⟨fun f => ?_, fun k j k1 k6 => ?_, fun j => ?_⟩
  · rw [my_up_ne u (by omega)]; exact z.at hS rfl
  · rw [my_up_ne u (by omega)]; exact LzF_k z hS k1 (by omega) j
  · by_cases q : j = o
    · rw [if_pos q, q, my_up_self u]
    · rw [if_neg q, my_up_ne u (by omega)]; exact LzF_k z hS (by omega) (by omega) j
theorem FlQ_z {h g h' : my_H} {o v : Int} (z : my_ag LzF h g) (e : g 82 2 = h 82 2) (hS : my_is 4 (h 82 2)) (p : FlQ g h' o v) : FlQ h h' o v := by
  unfold FlQ at p
  rw [e] at p
  obtain ⟨p1, p2, p3⟩ := p
  refine ⟨fun f => (p1 f).trans (z.at hS rfl), fun k j k1 k6 => (p2 k j k1 k6).trans (LzF_k z hS k1 (by omega) j), fun j => ?_⟩
  rw [p3 j, LzF_k z hS (by omega) (by omega) j]
/-- a pane is read -/
def PnQ (h h' : my_H) : Prop := (sW (cs h) (h 82 7) = 316695 ∧ 0 ≤ sV (cs h) (sN (cs h) (sN (cs h) (h 82 7))) ∧ FlQ h h' (sV (cs h) (sN (cs h) (h 82 7))) (sV (cs h) (sN (cs h) (sN (cs h) (h 82 7))))) ∨ (sW (cs h) (h 82 7) ≠ 316695 ∧ ∃ k a b c : Int, PnI h h' k a b c ∧ PnM (pnP (cs h) (h 2) (sW (cs h) (h 82 7)) (sN (cs h) (h 82 7)) (h' (h 82 2) 4)) k a b c (fun j => h' (h 82 2 + 5) (8 * h (h 82 2) 9 + j)) ∧ PnN (pnP (cs h) (h 2) (sW (cs h) (h 82 7)) (sN (cs h) (h 82 7)) (h' (h 82 2) 4)))
section
variable {h g h' : my_H}
theorem PnQ_fill (w : sW (cs h) (h 82 7) = 316695) (z : my_ag LzF h g) (e : g 82 2 = h 82 2) (hS : my_is 4 (h 82 2)) (v0 : 0 ≤ sV (cs h) (sN (cs h) (sN (cs h) (h 82 7)))) (p : FlQ g h' (sV (cs h) (sN (cs h) (h 82 7))) (sV (cs h) (sN (cs h) (sN (cs h) (h 82 7))))) : PnQ h h' := Or.inl ⟨w, v0, FlQ_z z e hS p⟩
theorem PnQ_cut (w : sW (cs h) (h 82 7) = 4904) (z : my_ag LzF h g) (e : g 82 2 = h 82 2) (hS : my_is 4 (h 82 2)) (p : ∃ k a b : Int, (CutV (cs h) (sN (cs h) (h 82 7)) k a b ∧ 0 ≤ a ∧ 0 ≤ b) ∧ PnI g h' k a b 0) : PnQ h h' := by
  obtain ⟨k, a, b, ⟨v, a0, b0⟩, i⟩ := p
  exact Or.inr ⟨by omega, k, a, b, 0, PnI_z z e hS i, PnM_cut w v, PnN_cut w v a0 b0⟩
theorem PnQ_few (w : sW (cs h) (h 82 7) = 8422) (z : my_ag LzF h g) (e : g 82 2 = h 82 2) (hS : my_is 4 (h 82 2)) (p : ∃ c : Int, FewV (cs h) (sN (cs h) (h 82 7)) c (fun j => h' (h 82 2 + 5) (8 * h (h 82 2) 9 + j)) ∧ PnI g h' 3 0 0 c) : PnQ h h' := by
  obtain ⟨c, v, i⟩ := p
  have i' := PnI_z z e hS i
  have ec : h' (h 82 2) 4 = c := i'.1.2.2.2.2.2.2.2
  refine Or.inr ⟨by omega, 3, 0, 0, c, i', ?_, ?_⟩
  · rw [ec]; exact PnM_few w v
  · rw [ec]; exact PnN_few w v
theorem PnQ_join (w : sW (cs h) (h 82 7) = 527412) (z : my_ag LzF h g) (e : g 82 2 = h 82 2) (hS : my_is 4 (h 82 2)) (p : ∃ a b c : Int, (JoinV (cs h) (h 2) (sN (cs h) (h 82 7)) a b c ∧ 0 ≤ a ∧ 0 ≤ b) ∧ PnI g h' 4 a b c) : PnQ h h' := by
  obtain ⟨a, b, c, ⟨v, a0, b0⟩, i⟩ := p
  exact Or.inr ⟨by omega, 4, a, b, c, PnI_z z e hS i, PnM_join w v, PnN_join w v a0 b0⟩
theorem PnQ_sum (w : sW (cs h) (h 82 7) = 26801) (z : my_ag LzF h g) (e : g 82 2 = h 82 2) (hS : my_is 4 (h 82 2)) (p : ∃ a b : Int, (SumV (cs h) (sN (cs h) (h 82 7)) a b ∧ 0 ≤ a ∧ 0 ≤ b) ∧ PnI g h' 5 a b 0) : PnQ h h' := by
  obtain ⟨a, b, ⟨v, a0, b0⟩, i⟩ := p
  exact Or.inr ⟨by omega, 5, a, b, 0, PnI_z z e hS i, PnM_sum w v, PnN_sum w v a0 b0⟩
end
/-- all other lenses are as they were -/
def LoZ (h h' : my_H) : Prop := ∀ v : Int, 0 ≤ v → v ≤ 5 → h' 27 v = h 27 v ∧ (∀ f : Int, h' (h 27 v) f = h (h 27 v) f) ∧ ∀ k j : Int, 1 ≤ k → k ≤ 7 → h' (h 27 v + k) j = h (h 27 v + k) j
theorem LoZ_rf {h : my_H} : LoZ h h := fun _ _ _ => ⟨rfl, fun _ => rfl, fun _ _ _ _ => rfl⟩
theorem LoZ_tr {h g g' : my_H} (p : LoZ h g) (q : LoZ g g') : LoZ h g' := by
  intro v a b
  obtain ⟨p1, p2, p3⟩ := p v a b
  obtain ⟨q1, q2, q3⟩ := q v a b
  rw [p1] at q1 q2 q3
  exact ⟨q1, fun f => (q2 f).trans (p2 f), fun k j x y => (q3 k j x y).trans (p3 k j x y)⟩
theorem LoZ_ag {h g g' : my_H} (a : my_ag ((22, -1) :: LzF) g g') (L : Ln g) (p : LoZ h g) : LoZ h g' := by
  refine LoZ_tr p (fun v v0 v5 => ?_)
  have q := L.2.2.1 v v0 v5
  have z : my_ag LzF g g' := a.mo rfl
  exact ⟨a.at pis_27 rfl, fun f => z.at q rfl, fun k j k1 k7 => LzF_k z q k1 k7 j⟩
theorem LoZ_fx {h g g' : my_H} {S : Int} (a : my_fx S 8 g g') (hS : S = g 82 2) (L : Ln g) (p : LoZ h g) : LoZ h g' := by
  subst hS
  refine LoZ_tr p (fun v v0 v5 => ?_)
  have hf := ln_far L.2.2.2.1
  have ap := ln_two (L.2.2.1 v v0 v5) L.2.2.2.1 (L.2.1 v v0 v5)
  exact ⟨a.at (by omega), fun f => a.at (by omega), fun k j k1 k7 => a.at (by omega)⟩
theorem LoZ_up {h g g' : my_H} {S k o z : Int} (u : g' = my_up g (S + k) o z) (hS : S = g 82 2) (k0 : 0 ≤ k) (k8 : k ≤ 8) (L : Ln g) (p : LoZ h g) : LoZ h g' := by
  subst hS
  refine LoZ_tr p (fun v v0 v5 => ?_)
  have hf := ln_far L.2.2.2.1
  have ap := ln_two (L.2.2.1 v v0 v5) L.2.2.2.1 (L.2.1 v v0 v5)
  exact ⟨my_up_ne u (by omega), fun f => my_up_ne u (by omega), fun k j k1 k7 => my_up_ne u (by omega)⟩
end ZVG
section ZVH
/-- all that lenses hold but what they pick -/
abbrev LyF : List (Nat × Int) := [(4, -1), (32, -1), (33, -1), (34, -1), (35, -1), (37, -1), (38, -1)]
theorem AgY_ag {h h1 h2 : my_H} (g : my_ag LyF h1 h2) (p : my_ag LyF h h1) : my_ag LyF h h2 := p.tr g
/-- columns of a few so far -/
def FwI (h g : my_H) (n : Int) : Prop := (∀ j : Int, (j < 8 * h (h 82 2) 9 ∨ 8 * h (h 82 2) 9 + 8 ≤ j) → g (h 82 2 + 5) j = h (h 82 2 + 5) j) ∧ (∀ j : Int, 0 ≤ j → j < n → g (h 82 2 + 5) (8 * h (h 82 2) 9 + j) = sV (cs h) (zsN (cs h) (h 82 7) j.toNat) ∧ 0 ≤ sV (cs h) (zsN (cs h) (h 82 7) j.toNat)) ∧ g 82 7 = zsN (cs h) (h 82 7) n.toNat
theorem FwI_0 {h g : my_H} {n : Int} (e : g 82 7 = h 82 7) (e5 : ∀ j : Int, g (h 82 2 + 5) j = h (h 82 2 + 5) j) (hn : n = 0) : FwI h g n := by
  subst hn
  exact ⟨fun j _ => e5 j, fun j a b => by omega, e⟩
theorem FwI_s {h g g1 g2 : my_H} {n s o v m : Int} (p : FwI h g n) (u : g1 = my_up g (s + 5) o v) (es : s = h 82 2) (ho : o = 8 * h (h 82 2) 9 + n) (hv : v = sV (cs h) (g 82 7)) (f5 : ∀ j : Int, g2 (h 82 2 + 5) j = g1 (h 82 2 + 5) j) (t : g2 82 7 = sN (cs h) (g 82 7)) (n0 : 0 ≤ n) (n7 : n ≤ 7) (v0 : 0 ≤ v) (hm : m = n + 1) : FwI h g2 m := by
  obtain ⟨p1, p2, p3⟩ := p
  subst es
  refine ⟨fun j hj => ?_, fun j a b => ?_, ?_⟩
  · rw [f5, my_up_ne u (by omega)]; exact p1 j hj
  · rw [f5]
    by_cases e : j = n
    · rw [p3] at hv
      rw [e, ← ho, my_up_self u]
      exact ⟨hv, by omega⟩
    · rw [my_up_ne u (by omega)]; exact p2 j a (by omega)
  · rw [t, p3, hm, show (n + 1).toNat = n.toNat + 1 by omega]
    rfl
theorem PnI_few {h g g' : my_H} {s c : Int} (z : my_ag LyF h g) (e : s = h 82 2) (hS : my_is 4 (h 82 2)) (po : ∀ j : Int, (j < 8 * h (h 82 2) 9 ∨ 8 * h (h 82 2) 9 + 8 ≤ j) → g (h 82 2 + 5) j = h (h 82 2 + 5) j) (E : AdE g g' s 3 0 0 c) (D : AdD g g' s 3 0 0 c) : PnI h g' 3 0 0 c := by
  subst e
  exact AdE_pre (fun f _ _ => z.at hS rfl) (fun j => z.at (pix_1 hS) rfl) (fun j => z.at (pix_2z hS) rfl) (fun j => z.at (pix_3 hS) rfl) (fun j => z.at (pix_4 hS) rfl) po (fun j => z.at (pix_6q hS) rfl) (fun j => z.at (pix_7z hS) rfl) E D
theorem StW_z {g g' : my_H} {L b m n : Int} (z : my_ag LzF g g') (hL : my_is 4 L) (p : StW g L b m n) : StW g' L b m n := by
  obtain ⟨⟨f2, f3, f4, f7, f8, f6⟩, p2⟩ := p
  refine ⟨⟨(z.at hL rfl).trans f2, (z.at hL rfl).trans f3, (z.at hL rfl).trans f4, (z.at hL rfl).trans f7, (z.at hL rfl).trans f8, (z.at hL rfl).trans f6⟩, fun j a b => ⟨(z.at (pix_6q hL) rfl).trans (p2 j a b).1, (z.at (pix_7z hL) rfl).trans (p2 j a b).2⟩⟩
theorem SwE_z {h g g' : my_H} {L M : Int} (z : my_ag LzF g g') (hL : my_is 4 L) (p : SwE h g L M) : SwE h g' L M :=
  ⟨fun f a b => (z.at hL rfl).trans (p.1 f a b), fun j a b => (z.at (pix_6q hL) rfl).trans (p.2.1 j a b), fun j a b => (z.at (pix_7z hL) rfl).trans (p.2.2 j a b)⟩
theorem SwE_h {h0 h g : my_H} {L M : Int} (z : my_ag LzF h0 h) (hM : my_is 4 M) (p : SwE h g L M) : SwE h0 g L M :=
  ⟨fun f a b => (p.1 f a b).trans (z.at hM rfl), fun j a b => (p.2.1 j a b).trans (z.at (pix_6q hM) rfl), fun j a b => (p.2.2 j a b).trans (z.at (pix_7z hM) rfl)⟩
/-- over what the spare lens stands -/
def OvS (h g : my_H) : Prop :=
  (g (h 82 2) 1 = -1 ∧ StW g (h 82 2) (sV (cs h) (sN (cs h) (sN (cs h) (h 82 7)))) (h 2 (sV (cs h) (sN (cs h) (sN (cs h) (h 82 7))))) 4 ∧ (0 ≤ sV (cs h) (sN (cs h) (sN (cs h) (h 82 7))) ∧ sV (cs h) (sN (cs h) (sN (cs h) (h 82 7))) ≤ 2) ∧ 1 ≤ h 2 (sV (cs h) (sN (cs h) (sN (cs h) (h 82 7)))) ∧ h 2 (sV (cs h) (sN (cs h) (sN (cs h) (h 82 7)))) ≤ 4) ∨
  (g (h 82 2) 1 ≠ -1 ∧ (0 ≤ g (h 82 2) 1 ∧ g (h 82 2) 1 ≤ 5) ∧ h (h 27 (g (h 82 2) 1)) 0 = 1 ∧ SwE h g (h 82 2) (h 27 (g (h 82 2) 1)))
theorem OvS_w {h g : my_H} {s b m : Int} (st : StW g s b m 4) (e : s = h 82 2) (eb : b = sV (cs h) (sN (cs h) (sN (cs h) (h 82 7)))) (em : m = h 2 (sV (cs h) (sN (cs h) (sN (cs h) (h 82 7))))) (e1 : g (h 82 2) 1 = -1) (b0 : 0 ≤ b ∧ b ≤ 2) (m1 : 1 ≤ m ∧ m ≤ 4) : OvS h g := by
  subst e
  rw [eb] at st b0
  rw [em] at st m1
  exact Or.inl ⟨e1, st, b0, m1⟩
theorem OvS_v {h g0 g : my_H} {s v M : Int} (sw : SwE g0 g s M) (z : my_ag LzF h g0) (L : Ln h) (e : s = h 82 2) (v0 : 0 ≤ v) (v5 : v ≤ 5) (em : M = h 27 v) (e1 : g (h 82 2) 1 = v) (t : h (h 27 v) 0 = 1) : OvS h g := by
  subst e
  refine Or.inr ⟨by omega, ⟨by omega, by omega⟩, by rw [e1]; exact t, ?_⟩
  rw [e1, ← em]
  exact SwE_h z (by rw [em]; exact L.2.2.1 v v0 v5) sw
end ZVH
section ZVI
/-- the spare lens, so far read -/
def RdS (h g : my_H) (w : Int) : Prop := ∃ (y0 c0 : Int) (U : List zqP) (F0 : Int → Int) (k : Nat) (P : List zqP) (F : Int → Int),
  overR (cs h) (h 2) (cT h) (cW h) (cB h) w (tS (tp_of h) 0) 0 y0 c0 (g (h 82 2) 3) (g (h 82 2) 1) ∧
  ((g (h 82 2) 1 = -1 ∧ g (h 82 2) 2 = sV (cs h) (sN (cs h) (sN (cs h) (tS (tp_of h) 0))) ∧ (U = [] ∧ F0 = fun _ => 0)) ∨ (g (h 82 2) 1 ≠ -1 ∧ (U = zqCW h (g (h 82 2) 1) ∧ F0 = h (h 27 (g (h 82 2) 1) + 7)) ∧ (0 ≤ g (h 82 2) 1 ∧ g (h 82 2) 1 ≤ 5 ∧ h (h 27 (g (h 82 2) 1)) 0 = 1) ∧ g (h 82 2) 2 = h (h 27 (g (h 82 2) 1)) 2)) ∧
  stQ (cs h) (h 2) (g (h 82 2) 3) y0 c0 k (g 82 7) (g (h 82 2) 4) (g (h 82 2) 9) P F ∧ LnR g (h 82 2) (P ++ U) ∧ PEqL (zqPs g (h 82 2) (g (h 82 2) 9).toNat) P ∧ 0 ≤ g (h 82 2) 9 ∧
  (∀ c : Int, 0 ≤ c → c ≤ 3 → g (h 82 2 + 7) c = if 0 ≤ F c then F c else F0 c) ∧ (∀ c : Int, g (h 82 2) 3 ≤ c → c ≤ 3 → g (h 82 2 + 7) c = 0) ∧
  (h 2 (g (h 82 2) 2) = g (h 82 2) 3 ∧ 1 ≤ g (h 82 2) 3 ∧ g (h 82 2) 3 ≤ 4 ∧ 0 ≤ g (h 82 2) 2 ∧ g (h 82 2) 2 ≤ 2)
theorem LwD1_R {h : my_H} {w : Int} (L : Lw h) (w0 : 0 ≤ w) (w5 : w ≤ 5) (t : h (h 27 w) 0 = 1) (D : LwD1 h w) : LnR h (h 27 w) (zqCW h w) := ⟨D.1, D.2.1, D.2.2.1, D.2.2.2.1, D.2.2.2.2.1, (L w w0 w5 t).1⟩
theorem RdS_0 {h g0 g : my_H} {w φ : Int} (LA : LwA h) (ov : overR (cs h) (h 2) (cT h) (cW h) (cB h) w (tS (tp_of h) 0) φ (g 82 7) (g (h 82 2) 4) (g (h 82 2) 3) (g (h 82 2) 1)) (zf : φ = 0) (e9 : g (h 82 2) 9 = 0) (O : OvS g0 g) (ec : cs g0 = cs h) (e82 : g0 82 2 = h 82 2) (e7 : g0 82 7 = tS (tp_of h) 0) (e2 : g0 2 = h 2) (z : my_ag ((22, -1) :: LzF) h g0) (L : Ln h) : RdS h g w := by
  subst zf
  unfold OvS at O
  rw [ec, e82, e7, e2] at O
  have zl : my_ag LzF h g0 := z.mo rfl
  rcases O with ⟨o1, st, b0, m1⟩ | ⟨o1, ⟨v0, v5⟩, t, sw⟩
  · have R := StW_R st b0.1 b0.2 m1.2
    obtain ⟨⟨f2, f3, f4, f7, f8, f6⟩, p2⟩ := st
    refine ⟨g 82 7, g (h 82 2) 4, [], fun _ => 0, 0, [], fun _ => -1, ov, Or.inl ⟨o1, f2, rfl, rfl⟩, ⟨rfl, rfl, e9, rfl, rfl⟩, R, by rw [e9]; trivial, by omega, fun c a b => ?_, fun c a b => (p2 c (by omega) (by omega)).2, by rw [f2, f3], by omega, by omega, by omega, by omega⟩
    rw [(p2 c a (by omega)).2]
    rfl
  · have e27 : ∀ v : Int, g0 27 v = h 27 v := fun v => z.at pis_27 rfl
    rw [e27] at t sw
    have hM := L.2.2.1 _ v0 v5
    have t' : h (h 27 (g (h 82 2) 1)) 0 = 1 := (zl.at hM rfl).symm.trans t
    have sw' := SwE_h zl hM sw
    obtain ⟨s1, s2, s3⟩ := sw'
    have D := LA.2 _ v0 v5 t'
    have W := LA.1 _ v0 v5 t'
    have R := LnR_cg (h' := g) (L' := h 82 2) s1 (fun c a b => s2 c a (by
      have q := D.1
      have q2 := zqWf_W W.2.2.2.1 (by have := W.2.2.2.2; omega) W.1
      omega)) (LwD1_R LA.1 v0 v5 t' D)
    have f2 := s1 2 (by omega) (by omega)
    have f3 := s1 3 (by omega) (by omega)
    refine ⟨g 82 7, g (h 82 2) 4, zqCW h (g (h 82 2) 1), h (h 27 (g (h 82 2) 1) + 7), 0, [], fun _ => -1, ov, Or.inr ⟨o1, ⟨rfl, rfl⟩, ⟨v0, v5, t'⟩, f2⟩, ⟨rfl, rfl, e9, rfl, rfl⟩, R, by rw [e9]; trivial, by omega, fun c a b => ?_, fun c a b => ?_, ?_, ?_, ?_, ?_, ?_⟩
    · rw [s3 c a (by omega)]
      rfl
    · have q := D.2.2.2.2.2.2.1
      rw [s3 c (by omega) (by omega)]
      exact D.2.2.2.2.2.2.2 c (by omega) b
    · rw [f2, f3]; exact D.2.2.2.2.2.1
    · rw [f3]; exact D.2.2.2.2.2.2.1
    · rw [f3]; exact W.2.2.2.2
    · rw [f2]; exact W.2.1
    · rw [f2]; exact W.2.2.1
theorem RdS_s {h g g' : my_H} {w φ : Int} (R : RdS h g w) (k0 : sK (cs h) (g 82 7) ≠ 0) (p : paneR (cs h) (h 2) (g (h 82 2) 3) (g 82 7) (g (h 82 2) 4) (g (h 82 2) 9) φ (g' 82 7) (g' (h 82 2) 4) (g' (h 82 2) 9)) (zf : φ = 0) (Q : PnQ g g') (ec : cs g = cs h) (e82 : g 82 2 = h 82 2) (e2 : g 2 = h 2) (c8 : g' (h 82 2) 4 ≤ 8) (cl4 : ∀ v : Int, 0 ≤ v → v ≤ 2 → h 2 v ≤ 4) : RdS h g' w := by
  subst zf
  obtain ⟨y0, c0, U, F0, k, P, F, r1, r2, r3, r4, r5, r6, r7, r8, r9, ra, rb, rc, rd⟩ := R
  unfold PnQ PnI FlQ at Q
  rw [ec, e82, e2] at Q
  rcases Q with ⟨q0, vv, q1, q2, q3⟩ | ⟨q0, kk, a, b, c, ⟨E, D⟩, ⟨M1, M2, M3, M4⟩, NN⟩
  · refine ⟨y0, c0, U, F0, k + 1, P, zyU F (sV (cs h) (sN (cs h) (g 82 7))) (sV (cs h) (sN (cs h) (sN (cs h) (g 82 7)))), ?_, ?_, ⟨g 82 7, g (h 82 2) 4, g (h 82 2) 9, P, F, ?_, k0, ?_, Or.inl ⟨q0, rfl, rfl⟩⟩, ?_, ?_, ?_, fun x x0 x3 => ?_, fun x x0 x3 => ?_, ?_, ?_, ?_, ?_, ?_⟩
    · rw [q1 3, q1 1]; exact r1
    · rw [q1 1, q1 2]; exact r2
    · rw [q1 3]; exact r3
    · rw [q1 3]; exact p
    · exact LnR_cg (fun f _ _ => q1 f) (fun c _ _ => q2 6 c (by omega) (by omega)) r4
    · rw [q1 9]
      have wf' : zqWf (g (h 82 2) 3) (zqPs g (h 82 2) (g (h 82 2) 9).toNat ++ U) := zqWf_e (PEqL.app r5.sy PEqL.rf) r4.2.2.2.2.2
      exact (zqPs_old (fun s hs z => ((zqWf_ps wf' hs).2.1 z).2.1) (fun j _ _ => ⟨q2 1 j (by omega) (by omega), q2 2 j (by omega) (by omega), q2 3 j (by omega) (by omega), q2 4 j (by omega) (by omega)⟩) (fun j _ _ => q2 5 j (by omega) (by omega)) _ (Nat.le_refl _)).tr r5
    · rw [q1 9]; exact r6
    · rw [q3 x]
      unfold zyU
      by_cases e : x = sV (cs h) (sN (cs h) (g 82 7))
      · rw [if_pos e, if_pos e, if_pos vv]
      · rw [if_neg e, if_neg e]; exact r7 x x0 x3
    · rw [q1 3] at x0
      rw [q3 x, if_neg (by
        intro e
        unfold paneR at p
        rcases p with ⟨-, p, -⟩ | p | p | p | p | p | p
        · unfold fillR at p
          rcases p with p | p | p <;> omega
        · omega
        · omega
        · omega
        · omega
        · omega
        · omega)]
      exact r8 x x0 x3
    · rw [q1 2, q1 3]; exact r9
    · rw [q1 3]; exact ra
    · rw [q1 3]; exact rb
    · rw [q1 2]; exact rc
    · rw [q1 2]; exact rd
  · have E' := E
    obtain ⟨⟨x9, -⟩, -, -, x7, y1, y2, y3, y4⟩ := E'
    have w1 := pane_wf p q0 NN c8 cl4
    refine ⟨y0, c0, U, F0, k + 1, pnP (cs h) (h 2) (sW (cs h) (g 82 7)) (sN (cs h) (g 82 7)) (g' (h 82 2) 4) :: P, F, ?_, ?_, ⟨g 82 7, g (h 82 2) 4, g (h 82 2) 9, P, F, ?_, k0, ?_, Or.inr ⟨q0, rfl, rfl⟩⟩, ?_, ?_, ?_, fun x x0 x3 => ?_, fun x x0 x3 => ?_, ?_, ?_, ?_, ?_, ?_⟩
    · rw [y3, y1]; exact r1
    · rw [y1, y2]; exact r2
    · rw [y3]; exact r3
    · rw [y3]; exact p
    · exact LnR_add r4 E D w1 M1 M2 M3 M4
    · rw [x9, show (g (h 82 2) 9 + 1).toNat = (g (h 82 2) 9).toNat + 1 by omega]
      exact zqPs_add (by omega) E r5 r4.2.2.2.2.2 M1 M2 M3 M4
    · rw [x9]; omega
    · rw [x7]; exact r7 x x0 x3
    · rw [x7]; rw [y3] at x0; exact r8 x x0 x3
    · rw [y2, y3]; exact r9
    · rw [y3]; exact ra
    · rw [y3]; exact rb
    · rw [y2]; exact rc
    · rw [y2]; exact rd
end ZVI
section ZVJ
theorem AgX_ag {h h1 h2 : my_H} (g : my_ag ((22, -1) :: LzF) h1 h2) (p : my_ag ((22, -1) :: LzF) h h1) : my_ag ((22, -1) :: LzF) h h2 := p.tr g
/-- all lenses but w's are as they were -/
def LoN (h h' : my_H) (w : Int) : Prop := ∀ v : Int, 0 ≤ v → v ≤ 5 → v ≠ w → h' 27 v = h 27 v ∧ (∀ f : Int, h' (h 27 v) f = h (h 27 v) f) ∧ ∀ k j : Int, 1 ≤ k → k ≤ 7 → h' (h 27 v + k) j = h (h 27 v + k) j
/-- what was told of window w -/
def NwP (h h' : my_H) (w : Int) : Prop := ∃ (y0 c0 : Int) (k : Nat) (x : Int) (P : List zqP) (F : Int → Int),
  overR (cs h) (h 2) (cT h) (cW h) (cB h) w (tS (tp_of h) 0) 0 y0 c0 (h' (h' 27 w) 3) (h' (h' 27 w) 1) ∧ stQ (cs h) (h 2) (h' (h' 27 w) 3) y0 c0 k x (h' (h' 27 w) 4) (h' (h' 27 w) 9) P F ∧ sK (cs h) x = 0 ∧
  PEqL (zqPs h' (h' 27 w) (h' (h' 27 w) 9).toNat) P ∧ 0 ≤ h' (h' 27 w) 9 ∧ h' (h' 27 w) 0 = 1 ∧
  ((h' (h' 27 w) 1 = -1 ∧ h' (h' 27 w) 2 = sV (cs h) (sN (cs h) (sN (cs h) (tS (tp_of h) 0))) ∧ ∀ c : Int, 0 ≤ c → c ≤ 3 → h' (h' 27 w + 7) c = if 0 ≤ F c then F c else 0) ∨
   (h' (h' 27 w) 1 ≠ -1 ∧ (0 ≤ h' (h' 27 w) 1 ∧ h' (h' 27 w) 1 ≤ 5 ∧ h (h 27 (h' (h' 27 w) 1)) 0 = 1) ∧ h' (h' 27 w) 2 = h (h 27 (h' (h' 27 w) 1)) 2 ∧ ∀ c : Int, 0 ≤ c → c ≤ 3 → h' (h' 27 w + 7) c = if 0 ≤ F c then F c else h (h 27 (h' (h' 27 w) 1) + 7) c))
/-- a window that isn't over w holds what it held -/
theorem zqCf_N {h h' : my_H} {w : Int} (N : LoN h h' w) (L : Ln h) (U : Un h w) : ∀ (f : Nat) (v : Int), 0 ≤ v → v ≤ 5 → v ≠ w → h (h 27 v) 0 = 1 → zqCf h' f v = zqCf h f v
  | 0, _, _, _, _, _ => rfl
  | f + 1, v, v0, v5, ne, t => by
    obtain ⟨e27, eF, eA⟩ := N v v0 v5 ne
    obtain ⟨q1, q2, q3, -, -⟩ := L.2.2.2.2 v v0 v5 t
    rw [zqCf, zqCf, e27, eF 1, eF 9, zqPs_cg (fun j => ⟨eA 1 j (by omega) (by omega), eA 2 j (by omega) (by omega), eA 3 j (by omega) (by omega), eA 4 j (by omega) (by omega), eA 5 j (by omega) (by omega)⟩)]
    by_cases u : h (h 27 v) 1 = -1
    · rw [if_pos u, if_pos u]
    · rw [if_neg u, if_neg u, zqCf_N N L U f _ (by omega) (by omega) (U v v0 v5 t) (q3 u).1]
theorem NwP_mk {h g g1 g2 h' : my_H} {w S x : Int} (R : RdS h g w) (k0 : sK (cs h) (g 82 7) = 0) (Z : LoZ h g) (Lg : Ln g) (Lh : Ln h) (Lh' : Ln h') (U : Un h w) (LA : LwA h) (w0 : 0 ≤ w) (w5 : w ≤ 5) (hS : S = g 82 2) (e82 : g 82 2 = h 82 2) (u3 : g1 = my_up g S 0 1) (u2 : g2 = my_up g1 27 w S) (u1 : h' = my_up g2 82 2 x) (e2 : ∀ j : Int, h' 2 j = h 2 j) : NwP h h' w ∧ LoN h h' w ∧ LwA h' := by
  rw [hS] at u3 u2
  have hf := ln_far Lg.2.2.2.1
  rw [e82] at u3 u2 hf
  have n27 : h' 27 w = h 82 2 := by rw [my_up_ne u1 (by omega)]; exact my_up_self u2
  have fS : ∀ f : Int, f ≠ 0 → h' (h 82 2) f = g (h 82 2) f := fun f q => by rw [my_up_ne u1 (by omega), my_up_ne u2 (by omega), my_up_ne u3 (by omega)]
  have f0 : h' (h 82 2) 0 = 1 := by rw [my_up_ne u1 (by omega), my_up_ne u2 (by omega)]; exact my_up_self u3
  have fA : ∀ k j : Int, 1 ≤ k → k ≤ 8 → h' (h 82 2 + k) j = g (h 82 2 + k) j := fun k j a b => by rw [my_up_ne u1 (by omega), my_up_ne u2 (by omega), my_up_ne u3 (by omega)]
  have N : LoN h h' w := fun v v0 v5 ne => by
    obtain ⟨p1, p2, p3⟩ := Z v v0 v5
    have hL := Lg.2.2.1 v v0 v5
    have hl := ln_far hL
    have ap := ln_two hL Lg.2.2.2.1 (Lg.2.1 v v0 v5)
    rw [p1] at hl ap
    rw [e82] at ap
    refine ⟨?_, fun f => ?_, fun k j a b => ?_⟩
    · rw [my_up_ne u1 (by omega), my_up_ne u2 (by omega), my_up_ne u3 (by omega)]; exact p1
    · rw [my_up_ne u1 (by omega), my_up_ne u2 (by omega), my_up_ne u3 (by omega)]; exact p2 f
    · rw [my_up_ne u1 (by omega), my_up_ne u2 (by omega), my_up_ne u3 (by omega)]; exact p3 k j a b
  obtain ⟨y0, c0, V, F0, k, P, F, r1, r2, r3, r4, r5, r6, r7, r8, r9, ra, rb, rc, rd⟩ := R
  have ps : zqPs h' (h 82 2) (h' (h 82 2) 9).toNat = zqPs g (h 82 2) (g (h 82 2) 9).toNat := by
    rw [fS 9 (by decide)]
    exact zqPs_cg (fun j => ⟨fA 1 j (by omega) (by omega), fA 2 j (by omega) (by omega), fA 3 j (by omega) (by omega), fA 4 j (by omega) (by omega), fA 5 j (by omega) (by omega)⟩) _
  refine ⟨?_, N, ?_⟩
  · unfold NwP
    rw [n27]
    refine ⟨y0, c0, k, g 82 7, P, F, by rw [fS 3 (by decide), fS 1 (by decide)]; exact r1, by rw [fS 3 (by decide), fS 4 (by decide), fS 9 (by decide)]; exact r3, k0, by rw [ps]; exact r5, by rw [fS 9 (by decide)]; exact r6, f0, ?_⟩
    rw [fS 1 (by decide), fS 2 (by decide)]
    rcases r2 with ⟨o1, o2, o3, o4⟩ | ⟨o1, ⟨o2, o3⟩, o4, o5⟩
    · refine Or.inl ⟨o1, o2, fun c a b => ?_⟩
      rw [fA 7 c (by omega) (by omega), r7 c a b, o4]
    · refine Or.inr ⟨o1, o4, o5, fun c a b => ?_⟩
      rw [fA 7 c (by omega) (by omega), r7 c a b, o3]
  · have told : ∀ v : Int, 0 ≤ v → v ≤ 5 → v ≠ w → h' (h' 27 v) 0 = 1 → h (h 27 v) 0 = 1 := fun v v0 v5 ne t => by
      obtain ⟨e27, eF, -⟩ := N v v0 v5 ne
      rw [e27, eF 0] at t
      exact t
    have R' : LnR h' (h 82 2) (P ++ V) := LnR_cg (fun f a b => fS f (by omega)) (fun c _ _ => fA 6 c (by omega) (by omega)) r4
    have tw : h' (h' 27 w) 0 = 1 := by rw [n27]; exact f0
    have cw : PEqL (P ++ V) (zqCW h' w) := by
      rw [zqCW_eq Lh' w0 w5 tw, n27, ps]
      refine PEqL.app r5.sy ?_
      unfold zqUn
      rw [n27, fS 1 (by decide)]
      rcases r2 with ⟨o1, -, o3, -⟩ | ⟨o1, ⟨o2, -⟩, ⟨t0, t5, tt⟩, -⟩
      · rw [if_pos o1, o3]; trivial
      · rw [if_neg o1, o2]
        have lw := (Lh'.2.2.2.2 w w0 w5 tw).2.1
        rw [n27, fS 1 (by decide)] at lw
        rw [show zqCW h' (g (h 82 2) 1) = zqCW h (g (h 82 2) 1) from zqCf_N N Lh U 6 _ t0 t5 (by omega) tt]
        exact PEqL.rf
    have Rw := LnR_e cw R'
    have Dw : LwD1 h' w := by
      unfold LwD1
      rw [n27]
      refine ⟨Rw.1, Rw.2.1, Rw.2.2.1, Rw.2.2.2.1, Rw.2.2.2.2.1, ?_, ?_, fun c a b => ?_⟩
      · rw [fS 2 (by decide), fS 3 (by decide), e2]; exact r9
      · rw [fS 3 (by decide)]; exact ra
      · rw [fA 7 c (by omega) (by omega)]
        rw [fS 3 (by decide)] at a
        exact r8 c a b
    refine ⟨fun v v0 v5 t => ?_, fun v v0 v5 t => ?_⟩
    · by_cases ne : v = w
      · subst ne
        rw [n27]
        exact ⟨Rw.2.2.2.2.2, by rw [fS 2 (by decide)]; exact rc, by rw [fS 2 (by decide)]; exact rd, by rw [fS 3 (by decide)]; omega, by rw [fS 3 (by decide)]; exact rb⟩
      · have t' := told v v0 v5 ne t
        obtain ⟨e27, eF, -⟩ := N v v0 v5 ne
        rw [e27, eF 3, eF 2, show zqCW h' v = zqCW h v from zqCf_N N Lh U 6 v v0 v5 ne t']
        exact LA.1 v v0 v5 t'
    · by_cases ne : v = w
      · subst ne; exact Dw
      · have t' := told v v0 v5 ne t
        obtain ⟨e27, eF, eA⟩ := N v v0 v5 ne
        obtain ⟨d1, d2, d3, d4, d5, d6, d7, d8⟩ := LA.2 v v0 v5 t'
        unfold LwD1
        rw [e27, eF 4, eF 3, eF 2, eF 8, eF 6, eF 7, show zqCW h' v = zqCW h v from zqCf_N N Lh U 6 v v0 v5 ne t']
        refine ⟨d1, fun c a b => by rw [eA 6 c (by omega) (by omega)]; exact d2 c a b, d3, d4, d5, by rw [e2]; exact d6, d7, fun c a b => by rw [eA 7 c (by omega) (by omega)]; exact d8 c a b⟩
end ZVJ
