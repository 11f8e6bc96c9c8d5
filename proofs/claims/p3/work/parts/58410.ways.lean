/-! ways, purely: in their order, the least of them -/
section ZQJ
/-- a way: its sort, wall, key, column, value -/
abbrev zqY : Type := Int × Int × Int × Int × Int
def zqPr (C : Int → Int) (y : zqY) : Int := if y.1 ≤ 1 then y.1 else C y.2.1
/-- the first of the least price (the list has the last way first) -/
def zqLe (C : Int → Int) : List zqY → Option zqY
  | [] => none
  | y :: t => match zqLe C t with
    | none => some y
    | some b => if zqPr C y < zqPr C b then some y else some b
theorem zqLe_none {C : Int → Int} : ∀ {L : List zqY}, zqLe C L = none ↔ L = []
  | [] => ⟨fun _ => rfl, fun _ => rfl⟩
  | y :: t => by
    constructor
    · intro h
      rw [zqLe] at h
      cases e : zqLe C t with
      | none => rw [e] at h; cases h
      | some b => rw [e] at h; simp only at h; split at h <;> cases h
    · intro h; cases h
/-- behind one of price 1 or less nothing cheaper comes -/
theorem zqLe_stop {C : Int → Int} {L : List zqY} {b : zqY} (h : zqLe C L = some b) (hb : zqPr C b ≤ 1) : ∀ M : List zqY, (∀ y ∈ M, 1 ≤ zqPr C y) → zqLe C (M ++ L) = some b
  | [], _ => h
  | y :: t, hm => by
    have ih := zqLe_stop h hb t (fun z hz => hm z (List.mem_cons_of_mem _ hz))
    have hy := hm y (List.mem_cons_self ..)
    show (match zqLe C (t ++ L) with | none => some y | some b => if zqPr C y < zqPr C b then some y else some b) = some b
    rw [ih]
    show (if zqPr C y < zqPr C b then some y else some b) = some b
    rw [if_neg (by omega)]
/-- by another value in cell x, for values up to n -/
noncomputable def zqV (Q : Int → Int → Prop) (x : Int) : Nat → List zqY
  | 0 => []
  | v + 1 => zqIf (Q x v) ((1, x / 80, x / 4 % 20, x % 4, (v : Int)) :: zqV Q x v) (zqV Q x v)
noncomputable def zqV2 (Q : Int → Int → Prop) : Nat → List zqY
  | 0 => []
  | x + 1 => zqV Q x 20 ++ zqV2 Q x
/-- by a row that goes -/
noncomputable def zqV3 (Q : Int → Prop) : Nat → List zqY
  | 0 => []
  | r + 1 => zqIf (Q r) ((2, (r : Int) / 20, (r : Int) % 20, -1, -1) :: zqV3 Q r) (zqV3 Q r)
theorem zqV_no {Q : Int → Int → Prop} {x : Int} : ∀ n : Nat, (∀ v : Int, 0 ≤ v → v < n → ¬ Q x v) → zqV Q x n = []
  | 0, _ => rfl
  | v + 1, h => by
    rw [zqV, zqIf_f (h v (by omega) (by omega))]
    exact zqV_no v (fun u a b => h u a (by omega))
theorem zqV_cg {Q R : Int → Int → Prop} {x : Int} : ∀ n : Nat, (∀ v : Int, 0 ≤ v → v < n → (Q x v ↔ R x v)) → zqV Q x n = zqV R x n
  | 0, _ => rfl
  | v + 1, h => by
    have ih := zqV_cg v (fun u a b => h u a (by omega))
    have e := h v (by omega) (by omega)
    rw [zqV, zqV, ih]
    by_cases z : Q x v
    · rw [zqIf_t z, zqIf_t (e.mp z)]
    · rw [zqIf_f z, zqIf_f (fun y => z (e.mpr y))]
theorem zqV2_cg {Q R : Int → Int → Prop} : ∀ n : Nat, (∀ x v : Int, 0 ≤ x → x < n → 0 ≤ v → v < 20 → (Q x v ↔ R x v)) → zqV2 Q n = zqV2 R n
  | 0, _ => rfl
  | x + 1, h => by
    rw [zqV2, zqV2, zqV_cg 20 (fun v a b => h x v (by omega) (by omega) a b), zqV2_cg x (fun u v a b c d => h u v a (by omega) c d)]
theorem zqV3_cg {Q R : Int → Prop} : ∀ n : Nat, (∀ r : Int, 0 ≤ r → r < n → (Q r ↔ R r)) → zqV3 Q n = zqV3 R n
  | 0, _ => rfl
  | r + 1, h => by
    have ih := zqV3_cg r (fun u a b => h u a (by omega))
    have e := h r (by omega) (by omega)
    rw [zqV3, zqV3, ih]
    by_cases z : Q r
    · rw [zqIf_t z, zqIf_t (e.mp z)]
    · rw [zqIf_f z, zqIf_f (fun y => z (e.mpr y))]
theorem zqV_k {Q : Int → Int → Prop} {x : Int} {y : zqY} : ∀ {n : Nat}, y ∈ zqV Q x n → y.1 = 1
  | 0, h => by cases h
  | v + 1, h => by
    rw [zqV] at h
    by_cases z : Q x v
    · rw [zqIf_t z] at h
      rcases List.mem_cons.mp h with r | r
      · rw [r]
      · exact zqV_k r
    · rw [zqIf_f z] at h
      exact zqV_k h
theorem zqV2_k {Q : Int → Int → Prop} {y : zqY} : ∀ {n : Nat}, y ∈ zqV2 Q n → y.1 = 1
  | 0, h => by cases h
  | x + 1, h => by
    rw [zqV2] at h
    rcases List.mem_append.mp h with r | r
    · exact zqV_k r
    · exact zqV2_k r
theorem zqV3_k {Q : Int → Prop} {y : zqY} : ∀ {n : Nat}, y ∈ zqV3 Q n → y.1 = 2 ∧ ∃ r : Int, 0 ≤ r ∧ r < n ∧ Q r ∧ y.2.1 = r / 20
  | 0, h => by cases h
  | r + 1, h => by
    rw [zqV3] at h
    by_cases z : Q r
    · rw [zqIf_t z] at h
      rcases List.mem_cons.mp h with q | q
      · rw [q]; exact ⟨rfl, r, by omega, by omega, z, rfl⟩
      · obtain ⟨a, u, b, c, d⟩ := zqV3_k q
        exact ⟨a, u, b, by omega, d⟩
    · rw [zqIf_f z] at h
      obtain ⟨a, u, b, c, d⟩ := zqV3_k h
      exact ⟨a, u, b, by omega, d⟩
/-- all ways: what is wanted of a state, by a change of a cell, by a row that goes, by the row that comes -/
noncomputable def zqAll (Q0 : Prop) (Q1 : Int → Int → Prop) (Q2 : Int → Prop) (Q3 : Prop) (b k : Int) : List zqY :=
  zqIf Q3 [(3, b, k, -1, -1)] [] ++ (zqV3 Q2 60 ++ (zqV2 Q1 240 ++ zqIf Q0 [(0, -1, -1, -1, -1)] []))
end ZQJ
