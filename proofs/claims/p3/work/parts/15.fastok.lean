/-! the faster telling is the same machine -/
section MXG
def fh_ok : mf_H → Prop
  | [] => True
  | [ch] => ch.length ≤ 16
  | ch :: t :: r => ch.length = 16 ∧ fh_ok (t :: r)
theorem fh_ok.tail {ch : List mx_C} {t : mf_H} (h : fh_ok (ch :: t)) : fh_ok t := by
  cases t with
  | nil => trivial
  | cons x r => exact h.2
theorem fh_ok.head {ch : List mx_C} {t : mf_H} (h : fh_ok (ch :: t)) : ch.length ≤ 16 := by
  cases t with
  | nil => exact h
  | cons x r => exact Nat.le_of_eq h.1
theorem fh_d {k : Nat} (h : 16 ≤ k) : k / 16 = (k - 16) / 16 + 1 ∧ k % 16 = (k - 16) % 16 := by omega
theorem fh_nth_lo {ch : List mx_C} {t : mf_H} {k : Nat} (h : k < 16) : fh_nth (ch :: t) k = ch[k]? := by
  unfold fh_nth
  rw [fz_nth_eq, show k / 16 = 0 by omega, show k % 16 = k by omega]
  simp [fz_nth_eq]
theorem fh_nth_hi {ch : List mx_C} {t : mf_H} {k : Nat} (h : 16 ≤ k) : fh_nth (ch :: t) k = fh_nth t (k - 16) := by
  unfold fh_nth
  rw [fz_nth_eq, fz_nth_eq, (fh_d h).1, (fh_d h).2]
  simp
theorem fh_nth_eq : ∀ (l : mf_H), fh_ok l → ∀ k : Nat, fh_nth l k = l.flatten[k]?
  | [], _, k => by simp [fh_nth, fz_nth_eq]
  | ch :: t, h, k => by
    rcases Nat.lt_or_ge k 16 with hk | hk
    · rw [fh_nth_lo hk, List.flatten_cons]
      rcases Nat.lt_or_ge k ch.length with hc | hc
      · rw [List.getElem?_append_left hc]
      · cases t with
        | nil => simp
        | cons x r => have := h.1; omega
    · rw [fh_nth_hi hk, fh_nth_eq t h.tail, List.flatten_cons]
      cases t with
      | nil =>
        have := h.head
        simp
        omega
      | cons x r =>
        have hl := h.1
        rw [List.getElem?_append_right (by omega), hl]
theorem fh_set_lo {ch : List mx_C} {t : mf_H} {c : mx_C} {k : Nat} (h : k < 16) : fh_set (ch :: t) c k = ch.set k c :: t := by
  unfold fh_set
  rw [fz_nth_eq, show k / 16 = 0 by omega, show k % 16 = k by omega]
  simp [fz_set_eq]
theorem fh_set_hi {ch : List mx_C} {t : mf_H} {c : mx_C} {k : Nat} (h : 16 ≤ k) : fh_set (ch :: t) c k = ch :: fh_set t c (k - 16) := by
  unfold fh_set
  rw [fz_nth_eq, fz_nth_eq, (fh_d h).1, (fh_d h).2]
  simp only [List.getElem?_cons_succ]
  cases t[(k - 16) / 16]? with
  | none => rfl
  | some x => simp [fz_set_eq]
theorem fh_set_nil {c : mx_C} {k : Nat} : fh_set [] c k = [] := by simp [fh_set, fz_nth_eq]
theorem fh_set_eq : ∀ (l : mf_H), fh_ok l → ∀ (c : mx_C) (k : Nat), (fh_set l c k).flatten = l.flatten.set k c ∧ fh_ok (fh_set l c k) ∧ (fh_set l c k = [] ↔ l = [])
  | [], _, c, k => by rw [fh_set_nil]; simp [fh_ok]
  | ch :: t, h, c, k => by
    rcases Nat.lt_or_ge k 16 with hk | hk
    · rw [fh_set_lo hk]
      refine ⟨?_, ?_, by simp⟩
      · rw [List.flatten_cons, List.flatten_cons]
        rcases Nat.lt_or_ge k ch.length with hc | hc
        · rw [List.set_append_left _ _ hc]
        · cases t with
          | nil => simp [List.set_eq_of_length_le hc]
          | cons x r => have := h.1; omega
      · cases t with
        | nil => show (ch.set k c).length ≤ 16; rw [List.length_set]; exact h
        | cons x r => exact ⟨by rw [List.length_set]; exact h.1, h.2⟩
    · obtain ⟨i1, i2, i3⟩ := fh_set_eq t h.tail c (k - 16)
      rw [fh_set_hi hk]
      refine ⟨?_, ?_, by simp⟩
      · rw [List.flatten_cons, List.flatten_cons, i1]
        cases t with
        | nil =>
          have := h.head
          simp
          rw [List.set_eq_of_length_le (by omega)]
        | cons x r =>
          have hl := h.1
          rw [List.set_append_right _ _ (by omega), hl]
      · cases t with
        | nil => rw [fh_set_nil]; exact h
        | cons x r =>
          cases hs : fh_set (x :: r) c (k - 16) with
          | nil => exact absurd (i3.mp hs) (by simp)
          | cons y s => rw [hs] at i2; exact ⟨h.1, i2⟩
theorem fh_push_eq : ∀ (l : mf_H), fh_ok l → ∀ (c : mx_C), (fh_push l c).flatten = l.flatten ++ [c] ∧ fh_ok (fh_push l c) ∧ fh_push l c ≠ []
  | [], _, c => by simp [fh_push, fh_ok]
  | [ch], h, c => by
    unfold fh_push
    cases hb : Nat.blt ch.length 16 with
    | true =>
      have := Nat.blt_eq.mp hb
      refine ⟨by simp, ?_, by simp⟩
      show (ch ++ [c]).length ≤ 16
      simp; omega
    | false =>
      have hb2 : ¬ ch.length < 16 := fun q => by rw [Nat.blt_eq.mpr q] at hb; cases hb
      have hh : ch.length ≤ 16 := h
      exact ⟨by simp, ⟨by omega, by show [c].length ≤ 16; simp⟩, by simp⟩
  | ch :: t :: r, h, c => by
    obtain ⟨i1, i2, i3⟩ := fh_push_eq (t :: r) h.2 c
    unfold fh_push
    refine ⟨by rw [List.flatten_cons, i1]; simp [List.append_assoc], ?_, by simp⟩
    cases hs : fh_push (t :: r) c with
    | nil => exact absurd hs i3
    | cons y s => rw [hs] at i2; exact ⟨h.1, i2⟩
theorem fh_len_eq : ∀ (l : mf_H), fh_len l = l.flatten.length
  | [] => rfl
  | ch :: t => by simp [fh_len, fh_len_eq t]
theorem fh_fold : ∀ (h : mx_H) (l : mf_H), fh_ok l → (h.foldl fh_push l).flatten = l.flatten ++ h ∧ fh_ok (h.foldl fh_push l)
  | [], l, hl => by simp [hl]
  | c :: h, l, hl => by
    obtain ⟨i1, i2, -⟩ := fh_push_eq l hl c
    obtain ⟨j1, j2⟩ := fh_fold h _ i2
    rw [List.foldl_cons]
    exact ⟨by rw [j1, i1, List.append_assoc]; rfl, j2⟩
theorem fh_of_eq (h : mx_H) : (fh_of h).flatten = h ∧ fh_ok (fh_of h) := by
  have := fh_fold h [] trivial
  simpa [fh_of] using this
theorem fz_n_lt (x : Int32) : fz_n x < 4294967296 := x.toBitVec.isLt
theorem fz_int (x : Int32) : x.toInt = if 2 * fz_n x < 4294967296 then (fz_n x : Int) else (fz_n x : Int) - 4294967296 := by
  show x.toBitVec.toInt = _
  rw [BitVec.toInt_eq_toNat_cond]; rfl
theorem fz_lt_eq (x y : Int32) : fz_lt x y = decide (x < y) := by
  have hx := fz_n_lt x
  have hy := fz_n_lt y
  unfold fz_lt
  rw [Bool.eq_iff_iff, Nat.blt_eq, decide_eq_true_eq, Int32.lt_iff_toInt_lt, fz_int, fz_int]
  split <;> split <;> omega
theorem fz_eq_eq (x y : Int32) : Nat.beq (fz_n x) (fz_n y) = decide (x = y) := by
  rw [Bool.eq_iff_iff, Nat.beq_eq, decide_eq_true_eq]
  constructor
  · intro h
    exact Int32.toBitVec_inj.mp (BitVec.eq_of_toNat_eq h)
  · intro h; rw [h]
theorem fz_cmp_eq (cd : Jvm.ClassFile.Cond) (x y : Int32) : fz_cmp cd x y = mx_cmp cd x y := by
  cases cd <;> simp only [fz_cmp, mx_cmp, fz_lt_eq, fz_eq_eq]
theorem fz_clamp {x : Int32} {n : Nat} (h : fz_n x < n) (hn : n < 2147483648) : ¬ x < 0 ∧ x.toNatClampNeg = fz_n x := by
  have e := fz_int x
  rw [if_pos (by omega)] at e
  refine ⟨fun q => ?_, ?_⟩
  · rw [Int32.lt_iff_toInt_lt, e] at q
    have : (0 : Int32).toInt = 0 := rfl
    omega
  · show x.toInt.toNat = _
    rw [e]; simp
theorem fz_idx_eq {n j : Nat} {x : Int32} (h : fz_idx n x = some j) : mx_idx n x = some j := by
  unfold fz_idx at h
  cases hb : (Nat.blt (fz_n x) n && Nat.blt n 2147483648) with
  | false => rw [hb] at h; cases h
  | true =>
    rw [hb] at h
    cases h
    simp only [Bool.and_eq_true, Nat.blt_eq] at hb
    obtain ⟨c1, c2⟩ := fz_clamp hb.1 hb.2
    unfold mx_idx
    rw [if_neg (by rw [c2]; intro q; rcases q with q | q; exact c1 q; omega), c2]
def fO : mf_O → mx_O
  | .inl q => .inl (q.1.flatten, q.2)
  | .inr x => .inr x
def fx_Ok (f : mf_S) (ins : Instr) (a b : Nat) : Prop := ∀ (nL pc d : Nat) (env : mx_E) (h : mf_H) (ls : mx_L) (st : List Value), fh_ok h → fO (f nL pc d env h ls st) = mx_o ins a b nL pc d env h.flatten ls st ∧ ∀ q, f nL pc d env h ls st = .inl q → fh_ok q.1
theorem mx_o_1 {ins : Instr} {a b nL pc d : Nat} {env : mx_E} {h : mx_H} {ls : mx_L} {st : List Value} {q : mx_L × List Value} (h0 : mx_s0 ins env st = none) (h1 : mx_s1 nL ins ls st = some q) : mx_o ins a b nL pc d env h ls st = .inl (h, q.1, q.2) := by simp only [mx_o, h0, h1]
theorem mx_o_2 {ins : Instr} {a b nL pc d : Nat} {env : mx_E} {h : mx_H} {ls : mx_L} {st : List Value} {q : List (mx_E × Nat × List Value)} (h0 : mx_s0 ins env st = none) (h1 : mx_s1 nL ins ls st = none) (h2 : mx_s2 ins pc env st = some q) : mx_o ins a b nL pc d env h ls st = .inr (.inl q) := by simp only [mx_o, h0, h1, h2]
theorem mx_o_3 {ins : Instr} {a b nL pc d : Nat} {env : mx_E} {h : mx_H} {ls : mx_L} {st : List Value} {q : mx_H × List Value} (h0 : mx_s0 ins env st = none) (h1 : mx_s1 nL ins ls st = none) (h2 : mx_s2 ins pc env st = none) (h3 : mx_s3 mz_P d ins a b env h st = some q) : mx_o ins a b nL pc d env h ls st = .inl (q.1, ls, q.2) := by simp only [mx_o, h0, h1, h2, h3]
theorem mx_o_4 {ins : Instr} {a b nL pc d : Nat} {env : mx_E} {h : mx_H} {ls : mx_L} {st : List Value} {q : List Value × List Value} (h0 : mx_s0 ins env st = none) (h1 : mx_s1 nL ins ls st = none) (h2 : mx_s2 ins pc env st = none) (h3 : mx_s3 mz_P d ins a b env h st = none) (h4 : mx_s4 mz_P ins a b h st = some q) : mx_o ins a b nL pc d env h ls st = .inr (.inr (.inl q)) := by simp only [mx_o, h0, h1, h2, h3, h4]
theorem fx_slow (ins : Instr) (a b : Nat) : fx_Ok (fx_o ins a b) ins a b := by
  intro nL pc d env h ls st hk
  unfold fx_o mx_o
  cases h0 : mx_s0 ins env st with
  | some fs => exact ⟨rfl, fun q hq => by cases hq⟩
  | none =>
    dsimp only
    cases h1 : mx_s1 nL ins ls st with
    | some q => exact ⟨rfl, fun q hq => by cases hq; exact hk⟩
    | none =>
      dsimp only
      cases h2 : mx_s2 ins pc env st with
      | some q => exact ⟨rfl, fun q hq => by cases hq⟩
      | none =>
        dsimp only
        cases h3 : mx_s3 mz_P d ins a b env h.flatten st with
        | some q =>
          refine ⟨?_, fun q hq => by cases hq; exact (fh_of_eq _).2⟩
          simp only [fO, (fh_of_eq _).1]
        | none =>
          dsimp only
          cases h4 : mx_s4 mz_P ins a b h.flatten st with
          | some q => exact ⟨rfl, fun q hq => by cases hq⟩
          | none => exact ⟨rfl, fun q hq => by cases hq⟩
end MXG
