/-! what need not be shown: a cell that isn't live, a row that doesn't tell -/
section ZSC
/-- columns that aren't there have no origin -/
theorem zqOg_out {b m j : Int} : ∀ P : List zqP, (∀ p ∈ P, (p.1 = 4 → 1 ≤ p.2.2.2.1)) → (∀ Q : List zqP, Q <:+ P → 0 ≤ zqW m Q) → (j < 0 ∨ zqW m P ≤ j) → zqOg b m P j = -1
  | [], _, _, h => if_neg (fun z => h.elim (fun q => by omega) (fun q => by have q' : m ≤ j := q; omega))
  | p :: t, n1, ws, h => by
    have ih := zqOg_out (b := b) (j := j) t (fun q hq => n1 q (List.mem_cons_of_mem _ hq)) (fun Q hQ => ws Q (List.IsSuffix.trans hQ (List.suffix_cons ..)))
    have w0 := ws t (List.suffix_cons ..)
    have hw : zqW m (p :: t) = if p.1 = 3 then p.2.2.2.1 else if p.1 = 4 then zqW m t + p.2.2.2.1 - 1 else if p.1 = 5 then 2 else zqW m t := rfl
    rw [hw] at h
    show (if p.1 = 3 then (if 0 ≤ j ∧ j < p.2.2.2.1 then zqOg b m t (p.2.2.2.2 j) else -1)
      else if p.1 = 4 then (if zqW m t ≤ j ∧ j < zqW m t + p.2.2.2.1 - 1 then 16 + 4 * p.2.2.1 + (j - zqW m t + 1) else zqOg b m t j)
      else if p.1 = 5 then -1 else zqOg b m t j) = -1
    by_cases k3 : p.1 = 3
    · rw [if_pos k3] at h ⊢
      exact if_neg (by omega)
    · rw [if_neg k3] at h ⊢
      by_cases k4 : p.1 = 4
      · rw [if_pos k4] at h ⊢
        have n := n1 p (List.mem_cons_self ..) k4
        rw [if_neg (by omega)]
        exact ih (by omega)
      · rw [if_neg k4] at h ⊢
        by_cases k5 : p.1 = 5
        · rw [if_pos k5]
        · rw [if_neg k5] at h ⊢
          exact ih h
/-- a cell changes that isn't live: the same is seen -/
theorem zqDead {S S' : Int → Int} {b m w c k0 : Int} {P : List zqP} (w0 : 0 ≤ w) (w2 : w ≤ 2) (c1 : 1 ≤ c) (c3 : c ≤ 3) (k00 : 0 ≤ k0) (k19 : k0 ≤ 19) (m4 : m ≤ 4) (b0 : 0 ≤ b) (b2 : b ≤ 2) (e : ∀ j : Int, j ≠ 80 * w + 4 * k0 + c → S' j = S j) (n4 : ∀ p ∈ P, p.1 = 4 → p.2.2.2.1 ≤ 4 ∧ 0 ≤ p.2.2.1 ∧ p.2.2.1 ≤ 2) (us : ¬ zqUs b m P (4 * w + c)) (og : ∀ j : Int, zqOg b m P j % 16 ≠ 4 * w + c) : zqRun S m ((zqLd S b m 20).map Prod.snd) P = zqRun S' m ((zqLd S' b m 20).map Prod.snd) P :=
  zqLR_eq (fun a b q => funext fun j => q j (og j)) _ _ (zqLive w0 w2 c1 c3 k00 k19 m4 b0 b2 e P n4 us)
/-- what a key's row is seen as -/
theorem RoI_seen {g : my_H} {b m k r : Int} {S : Int → Int} {P : List zqP} (hv : VwI g 98 S b m P) (ns : zqNS P) (k0 : 0 ≤ k) (k19 : k ≤ 19) (hk : S (80 * b + 4 * k) ≠ -1) (ro : RoI g 98 k r) : (r = -1 → zqD S m P (zqB S b m k) = none) ∧ (r ≠ -1 → zqD S m P (zqB S b m k) = some (zqE g 98 (g 98 1) r.toNat).2) := by
  obtain ⟨v1, v2, v3, v4, v5⟩ := hv
  have q := (v5 ns).1
  refine ⟨fun z => ?_, fun z => ?_⟩
  · rcases ro with ⟨a, p⟩ | ⟨a, _⟩
    · cases e : zqD S m P (zqB S b m k) with
      | none => rfl
      | some x =>
        have mem : (k, x) ∈ (zqLd S b m 20).filterMap (zqD2 S m P) := List.mem_filterMap.mpr ⟨(k, zqB S b m k), zqLd_mem.mpr ⟨k, k0, by omega, hk, rfl⟩, by unfold zqD2; rw [e]; rfl⟩
        obtain ⟨i, hi, y⟩ := zqL_mem.mp (q.mem_iff.mpr mem)
        exact absurd (congrArg Prod.fst y) (p i (by omega) (by omega))
    · omega
  · rcases ro with ⟨a, p⟩ | ⟨a, a1, t, _⟩
    · exact absurd a z
    · have mem := q.mem_iff.mp (zqL_mem.mpr ⟨r.toNat, by omega, rfl⟩)
      obtain ⟨e, he, y⟩ := List.mem_filterMap.mp mem
      obtain ⟨k', k'0, k'1, hk', ee⟩ := zqLd_mem.mp he
      rw [ee] at y
      unfold zqD2 at y
      cases d : zqD S m P (zqB S b m k') with
      | none => rw [show zqD S m P (k', zqB S b m k').2 = none from d] at y; cases y
      | some x =>
        rw [show zqD S m P (k', zqB S b m k').2 = some x from d] at y
        have y' : (k', x) = zqE g 98 (zqW m P) r.toNat := Option.some.inj y
        have kk : k' = k := (congrArg Prod.fst y').trans (by show g (98 + 1) (17 * (r.toNat : Int) + 16) = k; rw [Int.toNat_of_nonneg a]; exact t)
        rw [← kk, d, v1, ← y']
theorem zqL_skip {α : Type} {f : Nat → α} {i : Nat} : ∀ {n : Nat}, i < n + 1 → (f i :: zqL (fun k => f (if (i : Int) ≤ (k : Int) then k + 1 else k)) n).Perm (zqL f (n + 1))
  | 0, h => by
    have : i = 0 := by omega
    subst this
    exact List.Perm.refl _
  | n + 1, h => by
    by_cases z : i = n + 1
    · subst z
      have q : zqL (fun k => f (if ((n + 1 : Nat) : Int) ≤ (k : Int) then k + 1 else k)) (n + 1) = zqL f (n + 1) := zqL_cg (fun k hk => by
        show f (if ((n + 1 : Nat) : Int) ≤ (k : Int) then k + 1 else k) = f k
        rw [if_neg (by omega)])
      rw [q]
      exact List.Perm.refl _
    · have ih := zqL_skip (f := f) (i := i) (n := n) (by omega)
      have q : zqL (fun k => f (if (i : Int) ≤ (k : Int) then k + 1 else k)) (n + 1) = f (n + 1) :: zqL (fun k => f (if (i : Int) ≤ (k : Int) then k + 1 else k)) n := by
        show f (if (i : Int) ≤ (n : Int) then n + 1 else n) :: _ = _
        rw [if_pos (by omega)]
      rw [q]
      exact (List.Perm.swap ..).trans (ih.cons _)
theorem zqCt_self {x : zqR} {L : List zqR} : zqCt x (x :: L) = zqCt x L + 1 := by
  rw [zqCt, zqIf_t rfl]; omega
theorem zqCt_ne {x y : zqR} {L : List zqR} (h : y ≠ x) : zqCt x (y :: L) = zqCt x L := by
  rw [zqCt, zqIf_f h]; omega
/-- a row goes, or becomes another: it is there once less -/
theorem EdL_ct {f : Nat → zqR} {n : Nat} {W e i j v : Int} {D : Int → Int} (i0 : 0 ≤ i) (hi : i < n) (he : e = 0 ∨ e = 1) (ne : e = 0 → (fun c => if c = j then v else f i.toNat c) ≠ f i.toNat) : zqCt (f i.toNat) (EdL f n W e i j v D) + 1 = zqCt (f i.toNat) (zqL f n) := by
  unfold EdL
  have ei : ((i.toNat : Nat) : Int) = i := Int.toNat_of_nonneg i0
  rcases he with e0 | e1
  · rw [if_neg (by omega), if_neg (by omega)]
    have q := zqCt_perm (x := f i.toNat) (zqL_set (f := f) (g := fun k => if (k : Int) = i then (fun c => if c = j then v else f k c) else f k) (y := fun c => if c = j then v else f i.toNat c) (p := i.toNat) (n := n) (by omega) (if_pos ei) (fun k _ hk => if_neg (by omega)))
    rw [zqCt_self, zqCt_ne (ne e0)] at q
    exact q
  · rw [if_neg (by omega), if_pos e1]
    have q := zqCt_perm (x := f i.toNat) (zqL_skip (f := f) (i := i.toNat) (n := n - 1) (by omega))
    rw [zqCt_self, show n - 1 + 1 = n by omega, ei] at q
    exact q
/-- nothing changes: what is wanted is what is seen -/
theorem EdL_same {f : Nat → zqR} {n : Nat} {W e i j v : Int} {D : Int → Int} (e0 : e = 0) (h : ∀ k : Nat, (k : Int) = i → (fun c => if c = j then v else f k c) = f k) : EdL f n W e i j v D = zqL f n := by
  unfold EdL
  rw [if_neg (by omega), if_neg (by omega)]
  refine zqL_cg (fun k _ => ?_)
  show (if (k : Int) = i then (fun c => if c = j then v else f k c) else f k) = f k
  by_cases z : (k : Int) = i
  · rw [if_pos z]; exact h k z
  · rw [if_neg z]
theorem EdL_len2 {f : Nat → zqR} {n : Nat} {W e i j v : Int} {D : Int → Int} (e2 : e = 2) : (EdL f n W e i j v D).length = n + 1 := by
  unfold EdL
  rw [if_pos e2, List.length_cons, zqL_len]
end ZSC
