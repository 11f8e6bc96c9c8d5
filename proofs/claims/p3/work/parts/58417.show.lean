/-! what a view holds behind panes -/
section ZQT
def zqNS (P : List zqP) : Prop := ∀ p ∈ P, p.1 ≠ 5
def zqD2 (S : Int → Int) (m : Int) (P : List zqP) (e : Int × zqR) : Option (Int × zqR) := (zqD S m P e.2).map (fun r => (e.1, r))
theorem zqLd_mem {S : Int → Int} {b m : Int} {e : Int × zqR} : ∀ {n : Nat}, e ∈ zqLd S b m n ↔ ∃ k : Int, 0 ≤ k ∧ k < n ∧ S (80 * b + 4 * k) ≠ -1 ∧ e = (k, zqB S b m k)
  | 0 => ⟨(fun h => by cases h), (fun ⟨k, a, b, _⟩ => by omega)⟩
  | n + 1 => by
    have ih := zqLd_mem (S := S) (b := b) (m := m) (e := e) (n := n)
    have old : (∃ k : Int, 0 ≤ k ∧ k < (n : Int) ∧ S (80 * b + 4 * k) ≠ -1 ∧ e = (k, zqB S b m k)) → ∃ k : Int, 0 ≤ k ∧ k < ((n + 1 : Nat) : Int) ∧ S (80 * b + 4 * k) ≠ -1 ∧ e = (k, zqB S b m k) := fun ⟨k, x, y, z⟩ => ⟨k, x, by omega, z⟩
    by_cases q : S (80 * b + 4 * (n : Int)) = -1
    · rw [zqLd_n q, ih]
      refine ⟨old, fun ⟨k, x, y, z, w⟩ => ⟨k, x, ?_, z, w⟩⟩
      by_cases u : k = n
      · subst u; exact absurd q z
      · omega
    · rw [zqLd_y q, List.mem_cons, ih]
      refine ⟨fun z => ?_, fun ⟨k, x, y, z, w⟩ => ?_⟩
      · rcases z with z | z
        · exact ⟨n, by omega, by omega, q, z⟩
        · exact old z
      · by_cases u : k = n
        · subst u; exact Or.inl w
        · exact Or.inr ⟨k, x, by omega, z, w⟩
/-- a view holds what panes make of a state -/
def VwI (g : my_H) (v : Int) (S : Int → Int) (b m : Int) (P : List zqP) : Prop := g v 1 = zqW m P ∧ 0 ≤ g v 0 ∧ g v 0 ≤ 10 ∧ ((zqL (zqE g v (zqW m P)) (g v 0).toNat).map Prod.snd).Perm (zqRun S m ((zqLd S b m 20).map Prod.snd) P) ∧ (zqNS P → (zqL (zqE g v (zqW m P)) (g v 0).toNat).Perm ((zqLd S b m 20).filterMap (zqD2 S m P)) ∧ ∀ k c : Int, 0 ≤ k → k ≤ 19 → 0 ≤ c → c ≤ 59 → S (80 * b + 4 * k) ≠ -1 → (zqlb (g (v + 3) k) c ↔ zqTk S b m P k c))
theorem VwI_ld {g : my_H} {v b m : Int} {S : Int → Int} (b0 : 0 ≤ b) (b2 : b ≤ 2) (h : LdP g (zqlb (-1)) S v b m) (e1 : g v 1 = m) (e0 : 0 ≤ g v 0) (e10 : g v 0 ≤ 10) : VwI g v S b m [] := by
  obtain ⟨h1, h2⟩ := h
  have all : zqLk (zqlb (-1)) S b m 20 = zqLd S b m 20 := zqLk_all 20 (fun k a c => zqlb_m1 a (by omega))
  rw [all] at h1
  have id2 : (zqLd S b m 20).filterMap (zqD2 S m []) = zqLd S b m 20 := by
    have e : zqD2 S m [] = some := funext fun e => rfl
    rw [e, List.filterMap_some]
  refine ⟨e1, e0, e10, ?_, fun _ => ⟨?_, fun k c k0 k9 c0 c9 hk => ?_⟩⟩
  · show ((zqL (zqE g v m) (g v 0).toNat).map Prod.snd).Perm ((zqLd S b m 20).map Prod.snd)
    rw [h1]
  · show (zqL (zqE g v m) (g v 0).toNat).Perm _
    rw [h1, id2]
  · rw [h2 k k0 k9 (zqlb_m1 k0 (by omega)) hk, zqlb_jsl (by omega) (by omega) c0 c9]
    exact ⟨fun z => Or.inl z, fun z => z.elim id (fun y => y.elim)⟩
/-- a pane that isn't a sum -/
theorem VwI_st {g g' : my_H} {v b m : Int} {S : Int → Int} {P : List zqP} {p : zqP} (hv : VwI g v S b m P) (h5 : p.1 ≠ 5) (e1 : g' v 1 = zqM (zqW m P) p) (e0 : 0 ≤ g' v 0) (el0 : g' v 0 ≤ g v 0) (el : zqL (zqE g' v (zqM (zqW m P) p)) (g' v 0).toNat = (zqL (zqE g v (zqW m P)) (g v 0).toNat).filterMap (zqO2 S (zqW m P) p))
    (ht : ∀ k c : Int, 0 ≤ k → k ≤ 19 → 0 ≤ c → c ≤ 59 → (zqlb (g' (v + 3) k) c ↔ zqlb (g (v + 3) k) c ∨ (p.1 = 4 ∧ ∃ i : Nat, (i : Int) < g v 0 ∧ (zqE g v (zqW m P) i).1 = k ∧ zqHas S p.2.2.1 ((zqE g v (zqW m P) i).2 p.2.1) ∧ c = 20 * p.2.2.1 + (zqE g v (zqW m P) i).2 p.2.1))) : VwI g' v S b m (p :: P) := by
  obtain ⟨v1, v2, v3, v4, v5⟩ := hv
  refine ⟨e1, e0, by omega, ?_, fun ns => ?_⟩
  · show ((zqL (zqE g' v (zqM (zqW m P) p)) (g' v 0).toNat).map Prod.snd).Perm (zqT S (zqW m P) p (zqRun S m ((zqLd S b m 20).map Prod.snd) P))
    rw [el, zqO2_snd h5]
    exact zqT_perm v4
  · obtain ⟨w1, w2⟩ := v5 (fun q hq => ns q (List.mem_cons_of_mem _ hq))
    have two : ∀ e : Int × zqR, (zqD2 S m P e).bind (zqO2 S (zqW m P) p) = zqD2 S m (p :: P) e := fun e => by
      unfold zqD2
      rw [zqD]
      cases zqD S m P e.2 with
      | none => rfl
      | some r => rfl
    refine ⟨?_, fun k c k0 k9 c0 c9 hk => ?_⟩
    · show (zqL (zqE g' v (zqM (zqW m P) p)) (g' v 0).toNat).Perm _
      rw [el]
      refine (w1.filterMap _).trans ?_
      rw [List.filterMap_filterMap]
      refine List.Perm.of_eq (congrArg (fun f => List.filterMap f (zqLd S b m 20)) (funext two))
    · rw [ht k c k0 k9 c0 c9, w2 k c k0 k9 c0 c9 hk]
      constructor
      · rintro (z | ⟨z4, i, hi, t1, t2, t3⟩)
        · rcases z with z | z
          · exact Or.inl z
          · exact Or.inr (Or.inl z)
        · have mem : zqE g v (zqW m P) i ∈ zqL (zqE g v (zqW m P)) (g v 0).toNat := zqL_mem.mpr ⟨i, by omega, rfl⟩
          obtain ⟨e, he, ee⟩ := List.mem_filterMap.mp (w1.mem_iff.mp mem)
          obtain ⟨k', a1, a2, a3, rfl⟩ := zqLd_mem.mp he
          unfold zqD2 at ee
          cases hd : zqD S m P (zqB S b m k') with
          | none => rw [hd] at ee; cases ee
          | some r =>
            rw [hd] at ee
            have ee2 : (k', r) = zqE g v (zqW m P) i := Option.some.inj ee
            rw [← ee2] at t1 t2 t3
            have t1' : k' = k := t1
            subst t1'
            exact Or.inr (Or.inr ⟨z4, r, hd, t2, t3⟩)
      · rintro (z | z | ⟨z4, r, hd, t2, t3⟩)
        · exact Or.inl (Or.inl z)
        · exact Or.inl (Or.inr z)
        · have mem : ((k, r) : Int × zqR) ∈ (zqLd S b m 20).filterMap (zqD2 S m P) := List.mem_filterMap.mpr ⟨(k, zqB S b m k), zqLd_mem.mpr ⟨k, k0, by omega, hk, rfl⟩, by
            unfold zqD2
            show (zqD S m P (zqB S b m k)).map _ = _
            rw [hd]
            rfl⟩
          obtain ⟨i, hi, e⟩ := zqL_mem.mp (w1.mem_iff.mpr mem)
          exact Or.inr ⟨z4, i, by omega, by rw [e], by rw [e]; exact t2, by rw [e]; exact t3⟩
theorem zqO2_4 {S : Int → Int} {m a b n : Int} {φ ψ : Int → Int} : zqO2 S m (4, a, b, n, φ) = zqO2 S m (4, a, b, n, ψ) := funext fun e => by
  have q : ∀ χ : Int → Int, ¬ ((4, a, b, n, χ) : zqP).1 = 3 := fun χ => by show ¬ (4 : Int) = 3; decide
  unfold zqO2 zqO
  rw [if_neg (q φ), if_neg (q ψ)]
theorem zqO2_c {S T : Int → Int} {m k a b n n' : Int} {φ ψ : Int → Int} (k3 : k ≠ 3) (k4 : k ≠ 4) : zqO2 S m (k, a, b, n, φ) = zqO2 T m (k, a, b, n', ψ) := funext fun e => by
  unfold zqO2 zqO
  rw [if_neg (show ¬ k = 3 from k3), if_neg (show ¬ k = 3 from k3), if_neg (show ¬ k = 4 from k4), if_neg (show ¬ k = 4 from k4)]
theorem zqO2_3 {S T : Int → Int} {m a a' b b' n : Int} {φ ψ : Int → Int} (h : ∀ j : Int, 0 ≤ j → j < n → φ j = ψ j) : zqO2 S m (3, a, b, n, φ) = zqO2 T m (3, a', b', n, ψ) := funext fun e => by
  unfold zqO2 zqO
  rw [if_pos rfl, if_pos rfl]
  have q : zqFew n φ e.2 = zqFew n ψ e.2 := funext fun j => by
    unfold zqFew
    by_cases z : 0 ≤ j ∧ j < n
    · rw [if_pos z, if_pos z, h j z.1 z.2]
    · rw [if_neg z, if_neg z]
  show Option.map _ (some (zqFew n φ e.2)) = Option.map _ (some (zqFew n ψ e.2))
  rw [q]
theorem VwI_cut {g g' : my_H} {v b m k a n : Int} {S : Int → Int} {P : List zqP} {p : zqP} (hv : VwI g v S b m P) (k0 : 0 ≤ k) (k2 : k ≤ 2) (hp : p.1 = k) (ha : p.2.1 = a) (hn : p.2.2.1 = n) (e1 : g' v 1 = g v 1) (e0 : 0 ≤ g' v 0) (el0 : g' v 0 ≤ g v 0) (el : zqL (zqE g' v (g v 1)) (g' v 0).toNat = (zqL (zqE g v (g v 1)) (g v 0).toNat).filterMap (zqO2 (fun _ => 0) (g v 1) (k, a, n, 0, (fun _ => 0)))) (et : ∀ j : Int, g' (v + 3) j = g (v + 3) j) : VwI g' v S b m (p :: P) := by
  have w := hv.1
  obtain ⟨p1, p2, p3, p4, p5⟩ := p
  have hp' : p1 = k := hp
  have ha' : p2 = a := ha
  have hn' : p3 = n := hn
  subst hp'; subst ha'; subst hn'
  have em : zqM (zqW m P) (p1, p2, p3, p4, p5) = zqW m P := by
    unfold zqM
    rw [if_neg (show ¬ p1 = 3 by omega), if_neg (show ¬ p1 = 4 by omega), if_neg (show ¬ p1 = 5 by omega)]
  rw [w] at e1 el
  refine VwI_st hv (show p1 ≠ 5 by omega) (by rw [em]; exact e1) e0 el0 ?_ (fun k c _ _ _ _ => ?_)
  · rw [em, el, zqO2_c (show p1 ≠ 3 by omega) (show p1 ≠ 4 by omega)]
  · rw [et]
    exact ⟨Or.inl, fun z => z.elim id (fun y => absurd y.1 (show p1 ≠ 4 by omega))⟩
theorem VwI_few {g g' : my_H} {v b m n : Int} {φ : Int → Int} {S : Int → Int} {P : List zqP} {p : zqP} (hv : VwI g v S b m P) (hp : p.1 = 3) (hn : p.2.2.2.1 = n) (hf : ∀ j : Int, 0 ≤ j → j < n → p.2.2.2.2 j = φ j) (e1 : g' v 1 = n) (e0 : g' v 0 = g v 0) (el : zqL (zqE g' v n) (g v 0).toNat = (zqL (zqE g v (g v 1)) (g v 0).toNat).filterMap (zqO2 (fun _ => 0) (g v 1) (3, 0, 0, n, φ))) (et : ∀ j : Int, g' (v + 3) j = g (v + 3) j) : VwI g' v S b m (p :: P) := by
  have w := hv.1
  have w0 := hv.2.1
  obtain ⟨p1, p2, p3, p4, p5⟩ := p
  have hp' : p1 = 3 := hp
  have hn' : p4 = n := hn
  subst hp'; subst hn'
  have em : zqM (zqW m P) (3, p2, p3, p4, p5) = p4 := by
    unfold zqM
    rw [if_pos rfl]
  rw [w] at el
  refine VwI_st hv (show (3 : Int) ≠ 5 by decide) (by rw [em]; exact e1) (by omega) (by omega) ?_ (fun k c _ _ _ _ => ?_)
  · rw [em, e0, el, zqO2_3 (a := 0) (b := 0) (a' := p2) (b' := p3) (T := S) (fun j a b => (hf j a b).symm)]
  · rw [et]
    exact ⟨Or.inl, fun z => z.elim id (fun y => absurd y.1 (show (3 : Int) ≠ 4 by decide))⟩
theorem VwI_join {g g' : my_H} {v b m w n a : Int} {S : Int → Int} {P : List zqP} {p : zqP} (hv : VwI g v S b m P) (hp : p.1 = 4) (ha : p.2.1 = a) (hw : p.2.2.1 = w) (hn : p.2.2.2.1 = n) (e1 : g' v 1 = g v 1 + n - 1) (e0 : 0 ≤ g' v 0) (el0 : g' v 0 ≤ g v 0) (el : zqL (zqE g' v (g v 1 + n - 1)) (g' v 0).toNat = (zqL (zqE g v (g v 1)) (g v 0).toNat).filterMap (zqO2 S (g v 1) (4, a, w, n, (fun _ => 0)))) (tj : TjI S g g' v (g v 1) w a (g v 0)) : VwI g' v S b m (p :: P) := by
  have q := hv.1
  obtain ⟨p1, p2, p3, p4, p5⟩ := p
  have hp' : p1 = 4 := hp
  have ha' : p2 = a := ha
  have hw' : p3 = w := hw
  have hn' : p4 = n := hn
  subst hp'; subst ha'; subst hw'; subst hn'
  have em : zqM (zqW m P) (4, p2, p3, p4, p5) = zqW m P + p4 - 1 := by
    unfold zqM
    rw [if_neg (show ¬ (4 : Int) = 3 by decide), if_pos rfl]
  rw [q] at e1 el tj
  refine VwI_st hv (show (4 : Int) ≠ 5 by decide) (by rw [em]; exact e1) e0 el0 ?_ (fun k c k0 k9 c0 c9 => ?_)
  · rw [em, el, zqO2_4]
  · rw [tj k c k0 k9 c0 c9]
    exact ⟨fun z => z.elim Or.inl (fun y => Or.inr ⟨rfl, y⟩), fun z => z.elim Or.inl (fun y => Or.inr y.2)⟩
theorem VwI_sum {g g' : my_H} {v b m a n : Int} {S : Int → Int} {P : List zqP} {p : zqP} (hv : VwI g v S b m P) (hp : p.1 = 5) (ha : p.2.1 = a) (hn : p.2.2.1 = n) (e1 : g' v 1 = 2) (e0 : 0 ≤ g' v 0) (el0 : g' v 0 ≤ g v 0) (el : (zqL (zqE g' v 2) (g' v 0).toNat).map Prod.snd = (zqG a n ((zqL (zqE g v (g v 1)) (g v 0).toNat).map Prod.snd)).map zq2) : VwI g' v S b m (p :: P) := by
  obtain ⟨v1, v2, v3, v4, v5⟩ := hv
  obtain ⟨p1, p2, p3, p4, p5⟩ := p
  have hp' : p1 = 5 := hp
  have ha' : p2 = a := ha
  have hn' : p3 = n := hn
  subst hp'; subst ha'; subst hn'
  have em : zqW m ((5, p2, p3, p4, p5) :: P) = 2 := by
    show zqM (zqW m P) (5, p2, p3, p4, p5) = 2
    unfold zqM
    rw [if_neg (show ¬ (5 : Int) = 3 by decide), if_neg (show ¬ (5 : Int) = 4 by decide), if_pos rfl]
  rw [v1] at el
  refine ⟨by rw [em]; exact e1, e0, by omega, ?_, fun ns => absurd rfl (ns _ (List.mem_cons_self ..))⟩
  have hz : zqRun S m ((zqLd S b m 20).map Prod.snd) ((5, p2, p3, p4, p5) :: P) = (zqG p2 p3 (zqRun S m ((zqLd S b m 20).map Prod.snd) P)).map zq2 := by
    show zqT S (zqW m P) (5, p2, p3, p4, p5) (zqRun S m ((zqLd S b m 20).map Prod.snd) P) = _
    unfold zqT
    rw [if_pos rfl]
  rw [em, el, hz]
  exact (zqG_perm v4).map _
/-- in order -/
def VwS (g : my_H) (v : Int) : Prop := zqS zqle (fun i => (zqE g v (g v 1) i).2) (g v 0).toNat
theorem VwI_so {g g' : my_H} {v b m : Int} {S : Int → Int} {P : List zqP} (hv : VwI g v S b m P) (e0 : g' v 0 = g v 0) (e1 : g' v 1 = g v 1) (s : SrtI g g' v (g v 1) (g v 0) (g v 0)) (et : ∀ j : Int, g' (v + 3) j = g (v + 3) j) : VwI g' v S b m P ∧ VwS g' v := by
  obtain ⟨v1, v2, v3, v4, v5⟩ := hv
  obtain ⟨s1, s2⟩ := s
  refine ⟨⟨by rw [e1]; exact v1, by omega, by omega, ?_, fun ns => ?_⟩, ?_⟩
  · rw [v1] at s1
    rw [e0]
    exact (s1.map _).trans v4
  · obtain ⟨w1, w2⟩ := v5 ns
    rw [v1] at s1
    rw [e0]
    exact ⟨s1.trans w1, fun k c a1 a2 a3 a4 a5 => by rw [et]; exact w2 k c a1 a2 a3 a4 a5⟩
  · unfold VwS
    rw [e0, e1]
    exact s2
theorem VwI_cg {g g' : my_H} {v b m : Int} {S : Int → Int} {P : List zqP} (hv : VwI g v S b m P) (m16 : zqW m P ≤ 16) (e0 : g' v 0 = g v 0) (e1 : g' v 1 = g v 1) (eg : ∀ j : Int, g' (v + 1) j = g (v + 1) j) (et : ∀ j : Int, g' (v + 3) j = g (v + 3) j) : VwI g' v S b m P := by
  obtain ⟨v1, v2, v3, v4, v5⟩ := hv
  have ee : zqL (zqE g' v (zqW m P)) (g v 0).toNat = zqL (zqE g v (zqW m P)) (g v 0).toNat := zqL_cg (fun i _ => zqE_cg m16 (fun j _ _ => eg j))
  refine ⟨by rw [e1]; exact v1, by omega, by omega, ?_, fun ns => ?_⟩
  · rw [e0, ee]; exact v4
  · obtain ⟨w1, w2⟩ := v5 ns
    rw [e0, ee]
    exact ⟨w1, fun k c a1 a2 a3 a4 a5 => by rw [et]; exact w2 k c a1 a2 a3 a4 a5⟩
/-- states as they can be -/
def zqGd (S : Int → Int) : Prop := (∀ w k : Int, 0 ≤ w → w ≤ 2 → zqHas S w k → 0 ≤ S (80 * w + 4 * k) ∧ S (80 * w + 4 * k) ≤ 19 ∧ ∀ c : Int, 1 ≤ c → c ≤ 3 → 0 ≤ S (80 * w + 4 * k + c) ∧ S (80 * w + 4 * k + c) ≤ 19) ∧ ∀ w : Int, 0 ≤ w → w ≤ 2 → zqCn S w 20 ≤ 10
/-- panes as they can be -/
def zqWf1 (m : Int) (p : zqP) : Prop := (p.1 = 3 → 0 ≤ p.2.2.2.1 ∧ p.2.2.2.1 ≤ 8 ∧ ∀ j : Int, 0 ≤ j → j < p.2.2.2.1 → 0 ≤ p.2.2.2.2 j ∧ p.2.2.2.2 j < m) ∧ (p.1 = 4 → 0 ≤ p.2.1 ∧ p.2.1 < m ∧ 0 ≤ p.2.2.1 ∧ p.2.2.1 ≤ 2 ∧ 1 ≤ p.2.2.2.1 ∧ p.2.2.2.1 ≤ 4 ∧ m + p.2.2.2.1 ≤ 9) ∧ (p.1 = 5 → 0 ≤ p.2.1 ∧ p.2.1 < m ∧ 0 ≤ p.2.2.1 ∧ p.2.2.1 < m) ∧ (p.1 ≤ 2 → 0 ≤ p.2.1 ∧ p.2.1 < m) ∧ 0 ≤ p.1 ∧ p.1 ≤ 5
def zqWf (m : Int) : List zqP → Prop
  | [] => True
  | p :: t => zqWf m t ∧ zqWf1 (zqW m t) p
theorem zqWf_app {m : Int} {B : List zqP} : ∀ {A : List zqP}, zqWf m (A ++ B) → zqWf m B
  | [], h => h
  | _ :: _, h => zqWf_app h.1
theorem zqWf_W {m : Int} (m0 : 0 ≤ m) (m8 : m ≤ 8) : ∀ {P : List zqP}, zqWf m P → 0 ≤ zqW m P ∧ zqW m P ≤ 8
  | [], _ => ⟨m0, m8⟩
  | p :: t, h => by
    have ih := zqWf_W m0 m8 h.1
    obtain ⟨h3, h4, h5, h2, ha, hb⟩ := h.2
    show 0 ≤ zqM (zqW m t) p ∧ zqM (zqW m t) p ≤ 8
    unfold zqM
    by_cases k3 : p.1 = 3
    · rw [if_pos k3]; have := h3 k3; omega
    · rw [if_neg k3]
      by_cases k4 : p.1 = 4
      · rw [if_pos k4]; have := h4 k4; omega
      · rw [if_neg k4]
        by_cases k5 : p.1 = 5
        · rw [if_pos k5]; omega
        · rw [if_neg k5]; exact ih
theorem zqTot_m {j c : Int} (c0 : 0 ≤ c) : ∀ {L : List zqR}, (∀ r ∈ L, r j ≤ c) → zqTot j L ≤ c * L.length
  | [], _ => by rw [List.length_nil]; show (0 : Int) ≤ _; omega
  | r :: t, h => by
    have ih := zqTot_m (j := j) c0 (L := t) (fun s hs => h s (List.mem_cons_of_mem _ hs))
    have h1 := h r (List.mem_cons_self ..)
    rw [List.length_cons]
    show r j + zqTot j t ≤ _
    have e : c * ((t.length + 1 : Nat) : Int) = c * (t.length : Int) + c := by
      rw [Int.natCast_add, Int.mul_add, Int.natCast_one, Int.mul_one]
    omega
theorem zqBd_ld {S : Int → Int} {b m : Int} (b0 : 0 ≤ b) (b2 : b ≤ 2) (m4 : m ≤ 4) (G : zqGd S) : zqBd ((zqLd S b m 20).map Prod.snd) := by
  have one : ∀ r ∈ (zqLd S b m 20).map Prod.snd, ∀ j : Int, 0 ≤ r j ∧ r j ≤ 19 := by
    intro r hr j
    obtain ⟨e, he, rfl⟩ := List.mem_map.mp hr
    obtain ⟨k, k0, k1, hk, rfl⟩ := zqLd_mem.mp he
    have q := G.1 b k b0 b2 ⟨k0, by omega, hk⟩
    show 0 ≤ zqB S b m k j ∧ zqB S b m k j ≤ 19
    unfold zqB
    by_cases z : 0 ≤ j ∧ j < m
    · rw [if_pos z]
      by_cases y : j = 0
      · subst y; rw [Int.add_zero]; exact ⟨q.1, q.2.1⟩
      · exact q.2.2 j (by omega) (by omega)
    · rw [if_neg z]; omega
  have len : ((zqLd S b m 20).length : Int) ≤ 10 := by
    have := zqLk_le (K := fun _ => True) (S := S) (b := b) (m := m) 20
    rw [zqLk_all 20 (fun _ _ _ => trivial)] at this
    have := G.2 b b0 b2
    omega
  refine ⟨fun r hr j => (one r hr j).1, fun j => ?_, by rw [List.length_map]; omega⟩
  have := zqTot_m (j := j) (c := 19) (by omega) (fun r hr => (one r hr j).2)
  rw [List.length_map] at this
  omega
theorem zqBd_run {S : Int → Int} {b m : Int} (b0 : 0 ≤ b) (b2 : b ≤ 2) (m4 : m ≤ 4) (G : zqGd S) : ∀ {P : List zqP}, zqWf m P → zqBd (zqRun S m ((zqLd S b m 20).map Prod.snd) P)
  | [], _ => zqBd_ld b0 b2 m4 G
  | p :: t, h => by
    have ih := zqBd_run b0 b2 m4 G h.1
    refine zqBd_T (fun k4 k c hs c1 c3 => ?_) (fun k4 => (h.2.2.1 k4).2.2.2.2.2.1) ih
    have q := h.2.2.1 k4
    exact (G.1 _ _ q.2.2.1 q.2.2.2.1 hs).2.2 c c1 c3
theorem VwI_be {g : my_H} {v b m : Int} {S : Int → Int} {P : List zqP} (b0 : 0 ≤ b) (b2 : b ≤ 2) (m4 : m ≤ 4) (G : zqGd S) (wf : zqWf m P) (hv : VwI g v S b m P) : ∀ i : Nat, (i : Int) < g v 0 → zqBe (zqE g v (g v 1) i).2 := by
  obtain ⟨v1, v2, v3, v4, v5⟩ := hv
  have B := zqBd_perm v4.symm (zqBd_run b0 b2 m4 G wf)
  intro i hi j
  have mem : (zqE g v (zqW m P) i).2 ∈ (zqL (zqE g v (zqW m P)) (g v 0).toNat).map Prod.snd := List.mem_map.mpr ⟨_, zqL_mem.mpr ⟨i, by omega, rfl⟩, rfl⟩
  have := zqBd_at B mem j
  rw [v1]
  omega
end ZQT
/-! the class's windows as lists of panes -/
section ZQU
def zqPk (h : my_H) (L : Int) (k : Nat) : zqP := (h (L + 1) k, h (L + 2) k, h (L + 3) k, h (L + 4) k, fun j => h (L + 5) (8 * (k : Int) + j))
def zqPs (h : my_H) (L : Int) : Nat → List zqP
  | 0 => []
  | n + 1 => zqPk h L n :: zqPs h L n
def zqCf (h : my_H) : Nat → Int → List zqP
  | 0, _ => []
  | f + 1, w => zqPs h (h 27 w) (h (h 27 w) 9).toNat ++ (if h (h 27 w) 1 = -1 then [] else zqCf h f (h (h 27 w) 1))
/-- all panes of a window, the last one first -/
def zqCW (h : my_H) (w : Int) : List zqP := zqCf h 6 w
/-- those of the windows under it -/
def zqUn (h : my_H) (w : Int) : List zqP := if h (h 27 w) 1 = -1 then [] else zqCW h (h (h 27 w) 1)
theorem zqCf_st {h : my_H} (L : Ln h) : ∀ (f g : Nat) (w : Int), 0 ≤ w → w ≤ 5 → h (h 27 w) 0 = 1 → w < f → w < g → zqCf h f w = zqCf h g w
  | 0, _, _, w0, _, _, a, _ => by omega
  | _, 0, _, w0, _, _, _, b => by omega
  | f + 1, g + 1, w, w0, w5, t, a, b => by
    obtain ⟨q1, q2, q3, -, -⟩ := L.2.2.2.2 w w0 w5 t
    rw [zqCf, zqCf]
    by_cases u : h (h 27 w) 1 = -1
    · rw [if_pos u, if_pos u]
    · rw [if_neg u, if_neg u, zqCf_st L f g (h (h 27 w) 1) (by omega) (by omega) (q3 u).1 (by omega) (by omega)]
theorem zqCW_eq {h : my_H} (L : Ln h) {w : Int} (w0 : 0 ≤ w) (w5 : w ≤ 5) (t : h (h 27 w) 0 = 1) : zqCW h w = zqPs h (h 27 w) (h (h 27 w) 9).toNat ++ zqUn h w := by
  obtain ⟨q1, q2, q3, -, -⟩ := L.2.2.2.2 w w0 w5 t
  unfold zqCW zqUn
  rw [zqCf]
  by_cases u : h (h 27 w) 1 = -1
  · rw [if_pos u, if_pos u]
  · rw [if_neg u, if_neg u]
    unfold zqCW
    rw [zqCf_st L 5 6 (h (h 27 w) 1) (by omega) (by omega) (q3 u).1 (by omega) (by omega)]
theorem zqWf_ps {h : my_H} {L m : Int} {U : List zqP} : ∀ {n : Nat}, zqWf m (zqPs h L n ++ U) → ∀ {s : Nat}, s < n → zqWf m (zqPs h L s ++ U) ∧ zqWf1 (zqW m (zqPs h L s ++ U)) (zqPk h L s)
  | 0, _, _, hs => by omega
  | n + 1, w, s, hs => by
    have w' : zqWf m (zqPs h L n ++ U) ∧ zqWf1 (zqW m (zqPs h L n ++ U)) (zqPk h L n) := w
    by_cases q : s = n
    · subst q; exact w'
    · exact zqWf_ps w'.1 (by omega)
/-- all told windows' panes are as they can be -/
def Lw (h : my_H) : Prop := ∀ w : Int, 0 ≤ w → w ≤ 5 → h (h 27 w) 0 = 1 → zqWf (h (h 27 w) 3) (zqCW h w) ∧ 0 ≤ h (h 27 w) 2 ∧ h (h 27 w) 2 ≤ 2 ∧ 0 ≤ h (h 27 w) 3 ∧ h (h 27 w) 3 ≤ 4
abbrev LwF : List (Nat × Int) := [(22, -1), (4, 0), (4, 1), (4, 2), (4, 3), (4, 9), (32, -1), (33, -1), (34, -1), (35, -1), (36, -1)]
theorem pix_2z {x : Int} (hx : my_is 4 x) : my_is 33 (x + 2) := my_isOff (δ := 2) hx (by decide +kernel)
theorem zqPs_cg {h h' : my_H} {L : Int} (e : ∀ j : Int, h' (L + 1) j = h (L + 1) j ∧ h' (L + 2) j = h (L + 2) j ∧ h' (L + 3) j = h (L + 3) j ∧ h' (L + 4) j = h (L + 4) j ∧ h' (L + 5) j = h (L + 5) j) : ∀ n : Nat, zqPs h' L n = zqPs h L n
  | 0 => rfl
  | n + 1 => by
    obtain ⟨e1, e2, e3, e4, -⟩ := e n
    rw [zqPs, zqPs, zqPs_cg e n]
    unfold zqPk
    rw [e1, e2, e3, e4]
    refine congrArg (· :: _) (Prod.ext rfl (Prod.ext rfl (Prod.ext rfl (Prod.ext rfl (funext fun j => ?_)))))
    exact (e _).2.2.2.2
theorem zqCf_ag {h h' : my_H} (g : my_ag LwF h h') (L : Ln h) : ∀ (f : Nat) (w : Int), 0 ≤ w → w ≤ 5 → h (h 27 w) 0 = 1 → zqCf h' f w = zqCf h f w
  | 0, _, _, _, _ => rfl
  | f + 1, w, w0, w5, t => by
    have hL := L.2.2.1 w w0 w5
    obtain ⟨q1, q2, q3, -, -⟩ := L.2.2.2.2 w w0 w5 t
    have e27 : h' 27 w = h 27 w := g.at pis_27 rfl
    have e1 : h' (h 27 w) 1 = h (h 27 w) 1 := g.at hL rfl
    have e9 : h' (h 27 w) 9 = h (h 27 w) 9 := g.at hL rfl
    rw [zqCf, zqCf, e27, e1, e9, zqPs_cg (fun j => ⟨g.at (pix_1 hL) rfl, g.at (pix_2z hL) rfl, g.at (pix_3 hL) rfl, g.at (pix_4 hL) rfl, g.at (pix_5 hL) rfl⟩)]
    by_cases u : h (h 27 w) 1 = -1
    · rw [if_pos u, if_pos u]
    · rw [if_neg u, if_neg u, zqCf_ag g L f (h (h 27 w) 1) (by omega) (by omega) (q3 u).1]
theorem zqCW_ag {h h' : my_H} (g : my_ag LwF h h') (L : Ln h) {w : Int} (w0 : 0 ≤ w) (w5 : w ≤ 5) (t : h (h 27 w) 0 = 1) : zqCW h' w = zqCW h w := zqCf_ag g L 6 w w0 w5 t
theorem Lw_ag {h h' : my_H} (g : my_ag LwF h h') (L : Ln h) (p : Lw h) : Lw h' := fun w w0 w5 t => by
  have hL := L.2.2.1 w w0 w5
  have e27 : h' 27 w = h 27 w := g.at pis_27 rfl
  have e0 : h' (h 27 w) 0 = h (h 27 w) 0 := g.at hL rfl
  have e2 : h' (h 27 w) 2 = h (h 27 w) 2 := g.at hL rfl
  have e3 : h' (h 27 w) 3 = h (h 27 w) 3 := g.at hL rfl
  rw [e27, e0] at t
  rw [e27, e2, e3, zqCW_ag g L w0 w5 t]
  exact p w w0 w5 t
end ZQU
