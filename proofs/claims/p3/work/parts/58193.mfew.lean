/-! the reference's few: a mask of columns -/
section MTJ
def BtS (m : Int) : Int → Prop := fun v => 0 ≤ v ∧ v ≤ 7 ∧ bnd (bsr m v) 1 = 1
theorem bts_all : ∀ m : Fin 256, ∀ c v : Fin 8, (bnd (bsr (bor ((m.val : Nat) : Int) (bsl 1 ((c.val : Nat) : Int))) ((v.val : Nat) : Int)) 1 = 1) ↔ (bnd (bsr ((m.val : Nat) : Int) ((v.val : Nat) : Int)) 1 = 1 ∨ v = c) := by decide +kernel
theorem BtS_add {m c : Int} (m0 : 0 ≤ m) (m1 : m ≤ 255) (c0 : 0 ≤ c) (c1 : c ≤ 7) (v : Int) : BtS (bor m (bsl 1 c)) v ↔ (BtS m v ∨ v = c) := by
  unfold BtS
  by_cases hv : 0 ≤ v ∧ v ≤ 7
  · have e1 : ((m.toNat : Nat) : Int) = m := Int.toNat_of_nonneg m0
    have e2 : ((c.toNat : Nat) : Int) = c := Int.toNat_of_nonneg c0
    have e3 : ((v.toNat : Nat) : Int) = v := Int.toNat_of_nonneg hv.1
    have q := bts_all ⟨m.toNat, by omega⟩ ⟨c.toNat, by omega⟩ ⟨v.toNat, by omega⟩
    simp only [e1, e2, e3, Fin.mk.injEq] at q
    constructor
    · rintro ⟨a, b, d⟩
      rcases q.mp d with z | z
      · exact Or.inl ⟨a, b, z⟩
      · exact Or.inr (by omega)
    · rintro (⟨a, b, d⟩ | d)
      · exact ⟨a, b, q.mpr (Or.inl d)⟩
      · exact ⟨hv.1, hv.2, q.mpr (Or.inr (by omega))⟩
  · constructor
    · rintro ⟨a, b, d⟩
      exact absurd ⟨a, b⟩ hv
    · rintro (⟨a, b, d⟩ | d)
      · exact absurd ⟨a, b⟩ hv
      · omega
theorem bts_0 : ∀ v : Fin 8, bnd (bsr 0 ((v.val : Nat) : Int)) 1 ≠ 1 := by decide +kernel
theorem BtS_0 (v : Int) : ¬ BtS 0 v := by
  rintro ⟨a, b, d⟩
  have q := bts_0 ⟨v.toNat, by omega⟩
  simp only [Int.toNat_of_nonneg a] at q
  exact q d
theorem fewM_cg {σ : tst} {c : Int} : ∀ (k : Nat) {x m φ y u : Int} {M M' : Int → Prop}, (∀ v : Int, M v ↔ M' v) → fewM σ c k x M m φ y u → fewM σ c k x M' m φ y u
  | 0, _, _, _, _, _, _, _, _, p => False.elim p
  | k + 1, x, m, φ, y, u, M, M', e, p => by
    unfold fewM at p ⊢
    rcases p with p | p | ⟨p1, p2, p⟩
    · exact Or.inl p
    · exact Or.inr (Or.inl p)
    · refine Or.inr (Or.inr ⟨p1, p2, ?_⟩)
      rcases p with ⟨q1, q2⟩ | ⟨q1, q2⟩
      · exact Or.inl ⟨(e _).mp q1, q2⟩
      · refine Or.inr ⟨fun z => q1 ((e _).mpr z), ?_⟩
        rcases q2 with q2 | ⟨q2, q3⟩
        · exact Or.inl q2
        · exact Or.inr ⟨q2, fewM_cg k (fun v => by rw [e v]) q3⟩
def fmE (σ : tst) (c x φ y u : Int) : Prop := ∃ k : Nat, fewM σ c k x (fun _ => False) 0 φ y u
def fmI (h g : my_H) (n m : Int) : Prop := ∀ (k : Nat) (φ y u : Int), fewM (sm h) (h 151 27) k (g 151 7) (BtS m) n φ y u → fmE (sm h) (h 151 27) (h 151 7) φ y u
theorem fmI_0 {h g : my_H} {n m : Int} (e : g 151 7 = h 151 7) (en : n = 0) (em : m = 0) : fmI h g n m := by
  subst en; subst em
  intro k φ y u p
  rw [e] at p
  exact ⟨k, fewM_cg k (fun v => ⟨fun z => BtS_0 v z, fun z => False.elim z⟩) p⟩
theorem fmI_s {h g g1 : my_H} {n n1 m m1 x v : Int} (p : fmI h g n m) (ex : g 151 7 = x) (k2 : sK (sm h) x = 2) (vl : sV (sm h) x < h 151 27) (ev : sV (sm h) x = v) (nb : ¬ BtS m v) (k3 : sK (sm h) (sN (sm h) x) = 2) (e1 : g1 151 7 = sN (sm h) x) (en : n1 = n + 1) (em : m1 = bor m (bsl 1 v)) (m0 : 0 ≤ m) (m2 : m ≤ 255) (v0 : 0 ≤ v) (v7 : v ≤ 7) : fmI h g1 n1 m1 := by
  subst ev; subst ex; subst en; subst em
  intro k φ y u q
  rw [e1] at q
  refine p (k + 1) φ y u ?_
  unfold fewM
  exact Or.inr (Or.inr ⟨k2, vl, Or.inr ⟨nb, Or.inr ⟨k3, fewM_cg k (fun w => BtS_add m0 m2 v0 v7 w) q⟩⟩⟩)
theorem fmI_1 {h g : my_H} {n m x φ y u : Int} (p : fmI h g n m) (ex : g 151 7 = x) (q : rNum (sm h) x (h 151 27) φ False) : fmE (sm h) (h 151 27) (h 151 7) φ y u := by
  subst ex
  refine p 1 φ y u ?_
  unfold fewM
  rcases q with q | q | q
  · exact Or.inl q
  · exact Or.inr (Or.inl q)
  · exact False.elim q.2.2
theorem fmI_3 {h g : my_H} {n m x φ y u v : Int} (p : fmI h g n m) (ex : g 151 7 = x) (k2 : sK (sm h) x = 2) (vl : sV (sm h) x < h 151 27) (ev : sV (sm h) x = v) (nb : BtS m v) (q : φ = 3 + 16 * sP (sm h) x) : fmE (sm h) (h 151 27) (h 151 7) φ y u := by
  subst ev; subst ex
  refine p 1 φ y u ?_
  unfold fewM
  exact Or.inr (Or.inr ⟨k2, vl, Or.inl ⟨nb, q⟩⟩)
theorem fmI_e {h g : my_H} {n m x φ y u v : Int} (p : fmI h g n m) (ex : g 151 7 = x) (k2 : sK (sm h) x = 2) (vl : sV (sm h) x < h 151 27) (ev : sV (sm h) x = v) (nb : ¬ BtS m v) (k3 : sK (sm h) (sN (sm h) x) ≠ 2) (q : φ = 0) (ey : y = sN (sm h) x) (eu : u = n + 1) : fmE (sm h) (h 151 27) (h 151 7) φ y u := by
  subst ev; subst ex
  refine p 1 φ y u ?_
  unfold fewM
  exact Or.inr (Or.inr ⟨k2, vl, Or.inr ⟨nb, Or.inl ⟨k3, q, ey, eu⟩⟩⟩)
theorem fmE_R {σ : tst} {c x φ1 y1 φ y u : Int} (p : fmE σ c x φ1 y1 u) (q : thn σ φ1 y1 φ y) : ∃ k : Nat, fewR σ c k x (fun _ => False) 0 φ y u := by
  obtain ⟨k, p⟩ := p
  exact fewM_R k p q
theorem ms_c {g : my_H} {p c a : Int} (e : a = ms g p c) : (g 168 p = 5 → a = 2) ∧ (g 168 p = 4 → a = c + g 157 (g 170 p) - 1) ∧ (g 168 p = 3 → a = g 171 p) ∧ (g 168 p ≤ 2 → a = c) := by
  unfold ms at e
  refine ⟨fun q => ?_, fun q => ?_, fun q => ?_, fun q => ?_⟩
  · rw [if_pos q] at e; exact e
  · rw [if_neg (by omega), if_pos q] at e; exact e
  · rw [if_neg (by omega), if_neg (by omega), if_pos q] at e; exact e
  · rw [if_neg (by omega), if_neg (by omega), if_neg (by omega)] at e; exact e
end MTJ
