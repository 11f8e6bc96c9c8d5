/-! what can't come near what is wanted -/
section ZQG
/-- how often a row is there -/
noncomputable def zqIf {α : Type} (p : Prop) (a b : α) : α := @ite α p (Classical.propDecidable p) a b
theorem zqIf_t {α : Type} {p : Prop} {a b : α} (h : p) : zqIf p a b = a := @if_pos p (Classical.propDecidable p) h α a b
theorem zqIf_f {α : Type} {p : Prop} {a b : α} (h : ¬ p) : zqIf p a b = b := @if_neg p (Classical.propDecidable p) h α a b
noncomputable def zqCt (x : zqR) : List zqR → Nat
  | [] => 0
  | r :: t => zqIf (r = x) 1 0 + zqCt x t
theorem zqCt_perm {x : zqR} {L M : List zqR} (h : L.Perm M) : zqCt x L = zqCt x M := by
  induction h with
  | nil => rfl
  | cons r _ ih => rw [zqCt, zqCt, ih]
  | swap r s t => rw [zqCt, zqCt, zqCt, zqCt]; omega
  | trans _ _ i1 i2 => exact i1.trans i2
/-- no sums: every row for itself -/
theorem zqRun_D {S : Int → Int} {m : Int} {L : List zqR} : ∀ P : List zqP, (∀ p ∈ P, p.1 ≠ 5) → zqRun S m L P = L.filterMap (zqD S m P)
  | [], _ => by
    rw [zqRun]
    induction L with
    | nil => rfl
    | cons r t ih =>
      rw [List.filterMap_cons]
      show _ = r :: _
      rw [← ih]
  | p :: t, h => by
    rw [zqRun, zqRun_D t (fun p hp => h p (List.mem_cons_of_mem _ hp))]
    unfold zqT
    rw [if_neg (h p (List.mem_cons_self ..)), List.filterMap_filterMap]
    rfl
/-- a row of the walls is read for the base's row of key k -/
def zqTk (S : Int → Int) (b m : Int) (P : List zqP) (k c : Int) : Prop := c = 20 * b + k ∨ zqTd S m P (zqB S b m k) c
theorem zqB_off {S S' : Int → Int} {b m k c : Int} (m4 : m ≤ 4) (e : ∀ j : Int, (j < 4 * c ∨ 4 * c + 4 ≤ j) → S' j = S j) (hc : c ≠ 20 * b + k) : zqB S' b m k = zqB S b m k := by
  funext j
  unfold zqB
  by_cases q : 0 ≤ j ∧ j < m
  · rw [if_pos q, if_pos q]; exact e _ (by omega)
  · rw [if_neg q, if_neg q]
variable {S S' : Int → Int} {b m c : Int} {P : List zqP}
theorem zqLd_n {S : Int → Int} {b m : Int} {k : Nat} (q : S (80 * b + 4 * (k : Int)) = -1) : zqLd S b m (k + 1) = zqLd S b m k := by rw [zqLd, if_neg (fun z => z q)]
theorem zqLd_y {S : Int → Int} {b m : Int} {k : Nat} (q : S (80 * b + 4 * (k : Int)) ≠ -1) : zqLd S b m (k + 1) = ((k : Int), zqB S b m k) :: zqLd S b m k := by rw [zqLd, if_pos q]
theorem zqFn {g : zqR → Option zqR} {k : Int} {r : zqR} {t : List (Int × zqR)} (h : g r = none) : (((k, r) :: t).map Prod.snd).filterMap g = (t.map Prod.snd).filterMap g := List.filterMap_cons_none h
theorem zqFs {g : zqR → Option zqR} {k : Int} {r y : zqR} {t : List (Int × zqR)} (h : g r = some y) : (((k, r) :: t).map Prod.snd).filterMap g = y :: (t.map Prod.snd).filterMap g := List.filterMap_cons_some h
theorem zqOff_n (e : ∀ j : Int, (j < 4 * c ∨ 4 * c + 4 ≤ j) → S' j = S j) (hc : S (4 * c) ≠ -1) {k : Int} (q : S (80 * b + 4 * k) = -1) : S' (80 * b + 4 * k) = -1 := by
  rw [e _ (by
    rcases Int.lt_trichotomy (4 * c) (80 * b + 4 * k) with z | z | z
    · omega
    · rw [z] at hc; exact absurd q hc
    · omega)]
  exact q
theorem zqKeep_all (m4 : m ≤ 4) (e : ∀ j : Int, (j < 4 * c ∨ 4 * c + 4 ≤ j) → S' j = S j) (hc : S (4 * c) ≠ -1) (n4 : ∀ p ∈ P, p.1 = 4 → p.2.2.2.1 ≤ 4) : ∀ n : Nat, (∀ k : Int, 0 ≤ k → k < n → S (80 * b + 4 * k) ≠ -1 → ¬ zqTk S b m P k c) → ((zqLd S' b m n).map Prod.snd).filterMap (zqD S' m P) = ((zqLd S b m n).map Prod.snd).filterMap (zqD S m P)
  | 0, _ => rfl
  | k + 1, h => by
    have ih := zqKeep_all m4 e hc n4 k (fun i a d => h i a (by omega))
    by_cases q : S (80 * b + 4 * (k : Int)) = -1
    · rw [zqLd_n q, zqLd_n (zqOff_n e hc q)]; exact ih
    · have nt := h k (by omega) (by omega) q
      have nc : c ≠ 20 * b + (k : Int) := fun z => nt (Or.inl z)
      have q' : S' (80 * b + 4 * (k : Int)) ≠ -1 := by rw [e _ (by omega)]; exact q
      have ed := zqD_off e hc P (zqB S b m k) n4 (fun z => nt (Or.inr z))
      rw [zqLd_y q, zqLd_y q', zqB_off m4 e nc]
      cases hd : zqD S m P (zqB S b m k) with
      | none => rw [zqFn hd, zqFn (ed.trans hd)]; exact ih
      | some y => rw [zqFs hd, zqFs (ed.trans hd), ih]
theorem zqKeep_ct {x : zqR} (m4 : m ≤ 4) (e : ∀ j : Int, (j < 4 * c ∨ 4 * c + 4 ≤ j) → S' j = S j) (hc : S (4 * c) ≠ -1) (n4 : ∀ p ∈ P, p.1 = 4 → p.2.2.2.1 ≤ 4) : ∀ n : Nat, (∀ k : Int, 0 ≤ k → k < n → S (80 * b + 4 * k) ≠ -1 → zqD S m P (zqB S b m k) = some x → ¬ zqTk S b m P k c) → zqCt x (((zqLd S b m n).map Prod.snd).filterMap (zqD S m P)) ≤ zqCt x (((zqLd S' b m n).map Prod.snd).filterMap (zqD S' m P))
  | 0, _ => Nat.le_refl _
  | k + 1, h => by
    have ih := zqKeep_ct (x := x) m4 e hc n4 k (fun i a d => h i a (by omega))
    have more : zqCt x (((zqLd S' b m k).map Prod.snd).filterMap (zqD S' m P)) ≤ zqCt x (((zqLd S' b m (k + 1)).map Prod.snd).filterMap (zqD S' m P)) := by
      by_cases q : S' (80 * b + 4 * (k : Int)) = -1
      · rw [zqLd_n q]; exact Nat.le_refl _
      · rw [zqLd_y q]
        cases hd : zqD S' m P (zqB S' b m k) with
        | none => rw [zqFn hd]; exact Nat.le_refl _
        | some r => rw [zqFs hd, zqCt]; omega
    by_cases q : S (80 * b + 4 * (k : Int)) = -1
    · rw [zqLd_n q]
      exact Nat.le_trans ih more
    · cases hd : zqD S m P (zqB S b m k) with
      | none =>
        rw [zqLd_y q, zqFn hd]
        exact Nat.le_trans ih more
      | some r =>
        by_cases z : r = x
        · have nt := h k (by omega) (by omega) q (by rw [hd, z])
          have nc : c ≠ 20 * b + (k : Int) := fun z => nt (Or.inl z)
          have q' : S' (80 * b + 4 * (k : Int)) ≠ -1 := by rw [e _ (by omega)]; exact q
          have ed := zqD_off e hc P (zqB S b m k) n4 (fun z => nt (Or.inr z))
          rw [zqLd_y q, zqLd_y q', zqB_off m4 e nc, zqFs hd, zqFs (ed.trans hd), zqCt, zqCt]
          omega
        · rw [zqLd_y q, zqFs hd, zqCt, zqIf_f z]
          omega
theorem zqKeep_len (m4 : m ≤ 4) (e : ∀ j : Int, (j < 4 * c ∨ 4 * c + 4 ≤ j) → S' j = S j) (hc : S (4 * c) ≠ -1) (n4 : ∀ p ∈ P, p.1 = 4 → p.2.2.2.1 ≤ 4) : ∀ n : Nat, (∀ k : Int, 0 ≤ k → k < n → S (80 * b + 4 * k) ≠ -1 → zqD S m P (zqB S b m k) = none → ¬ zqTk S b m P k c) → (((zqLd S' b m n).map Prod.snd).filterMap (zqD S' m P)).length ≤ (((zqLd S b m n).map Prod.snd).filterMap (zqD S m P)).length
  | 0, _ => Nat.le_refl _
  | k + 1, h => by
    have ih := zqKeep_len m4 e hc n4 k (fun i a d => h i a (by omega))
    by_cases q : S (80 * b + 4 * (k : Int)) = -1
    · rw [zqLd_n q, zqLd_n (zqOff_n e hc q)]; exact ih
    · cases hd : zqD S m P (zqB S b m k) with
      | none =>
        have nt := h k (by omega) (by omega) q hd
        have nc : c ≠ 20 * b + (k : Int) := fun z => nt (Or.inl z)
        have q' : S' (80 * b + 4 * (k : Int)) ≠ -1 := by rw [e _ (by omega)]; exact q
        have ed := zqD_off e hc P (zqB S b m k) n4 (fun z => nt (Or.inr z))
        rw [zqLd_y q, zqLd_y q', zqB_off m4 e nc, zqFn hd, zqFn (ed.trans hd)]
        exact ih
      | some r =>
        rw [zqLd_y q, zqFs hd, List.length_cons]
        by_cases q' : S' (80 * b + 4 * (k : Int)) = -1
        · rw [zqLd_n q']; omega
        · rw [zqLd_y q']
          cases hd2 : zqD S' m P (zqB S' b m k) with
          | none => rw [zqFn hd2]; omega
          | some y => rw [zqFs hd2, List.length_cons]; omega
end ZQG
