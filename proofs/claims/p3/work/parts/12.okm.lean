/-! the methods' words -/
section MZE
def cd_eq : List UInt8 → List UInt8 → Bool
  | [], [] => true
  | a :: as, b :: bs => Nat.beq a.toNat b.toNat && cd_eq as bs
  | _, _ => false
theorem cd_eq_spec : ∀ {as bs : List UInt8}, cd_eq as bs = true → as = bs
  | [], [], _ => rfl
  | a :: as, b :: bs, h => by
    simp only [cd_eq, Bool.and_eq_true] at h
    rw [UInt8.toNat_inj.mp (Nat.eq_of_beq_eq_true h.1), cd_eq_spec h.2]
  | [], _ :: _, h => by cases h
  | _ :: _, [], h => by cases h
noncomputable def mz_wc (k : Nat) (n : MethodName) (c : ByteArray) (L : Nat) (r : Option FieldType) : Bool := match mz_tb[k]? with
  | some (.code n' c' L' r') => decide (n' = n) && cd_eq c'.data.toList c.data.toList && Nat.beq L' L && decide (r' = r)
  | _ => false
theorem mz_wc_spec {k : Nat} {n : MethodName} {c : ByteArray} {L : Nat} {r : Option FieldType} (h : mz_wc k n c L r = true) : Cond.code n c L r ∈ mz_tb := by
  unfold mz_wc at h
  split at h
  next n' c' L' r' hk =>
    simp only [Bool.and_eq_true, decide_eq_true_eq] at h
    obtain ⟨⟨⟨h1, h2⟩, h3⟩, h4⟩ := h
    have e : c' = c := by
      have h5 : c'.data = c.data := Array.toList_inj.mp (cd_eq_spec h2)
      cases c'; cases c; cases h5; rfl
    have hm := List.mem_of_getElem? hk
    rw [h1, e, Nat.eq_of_beq_eq_true h3, h4] at hm
    exact hm
  next => cases h
noncomputable def mz_okC (b : Nat) : Bool := mz_wc (mz_mw b).1 (mz_mt b).1 (mz_mt b).2.1 (mz_mt b).2.2.1 (mz_mt b).2.2.2.1
noncomputable def mz_okN (b : Nat) : Bool :=
  mz_w (mz_mw b).2.1 (.initialized (mz_mt b).1.cls) && plainFor (mz_mt b).1 && !decide ((mz_mt b).1.cls = "java/lang/invoke/MethodHandle") && !decide ((mz_mt b).1.cls = "java/lang/invoke/VarHandle") && decide ((parseMethodDescriptor (mz_mt b).1.desc).map (fun d => d.parameters.length) = some (mz_mt b).2.2.2.2.1) && decide ((mz_mt b).2.2.1 ≤ 40) &&
  (match (mz_mw b).2.2.2.2 with
    | 0 => mz_w (mz_mw b).2.2.1 (.static (mz_mt b).1)
    | 1 => mz_w (mz_mw b).2.2.1 (.instanceMethod (mz_mt b).1) && mz_w (mz_mw b).2.2.2.1 (.selects (mz_mt b).1.cls (mz_mt b).1 (mz_mt b).1) && (match mz_cl[(mz_mt b).2.2.2.2.2]? with
      | some q => decide (q.1 = (mz_mt b).1.cls)
      | none => false)
    | _ => mz_w (mz_mw b).2.2.1 (.instanceMethod (mz_mt b).1) && decide ((mz_mt b).1.name = "<init>") && decide ((mz_mt b).2.2.2.1 = none) && (match mz_cl[(mz_mt b).2.2.2.2.2]? with
      | some q => decide (q.1 = (mz_mt b).1.cls)
      | none => false))
theorem mz_okC0 : ∀ m, m < 25 → mz_okC (1 + m) = true := by decide +kernel
theorem mz_okC1 : ∀ m, m < 25 → mz_okC (26 + m) = true := by decide +kernel
theorem mz_okC2 : ∀ m, m < 25 → mz_okC (51 + m) = true := by decide +kernel
theorem mz_okC3 : ∀ m, m < 25 → mz_okC (76 + m) = true := by decide +kernel
theorem mz_okC4 : ∀ m, m < 25 → mz_okC (101 + m) = true := by decide +kernel
theorem mz_okC5 : ∀ m, m < 25 → mz_okC (126 + m) = true := by decide +kernel
theorem mz_okC6 : ∀ m, m < 25 → mz_okC (151 + m) = true := by decide +kernel
theorem mz_okC7 : ∀ m, m < 25 → mz_okC (176 + m) = true := by decide +kernel
theorem mz_okC8 : ∀ m, m < 25 → mz_okC (201 + m) = true := by decide +kernel
theorem mz_okC9 : ∀ m, m < 24 → mz_okC (226 + m) = true := by decide +kernel
theorem mz_okN0 : ∀ m, m < 50 → mz_okN (1 + m) = true := by decide +kernel
theorem mz_okN1 : ∀ m, m < 50 → mz_okN (51 + m) = true := by decide +kernel
theorem mz_okN2 : ∀ m, m < 50 → mz_okN (101 + m) = true := by decide +kernel
theorem mz_okN3 : ∀ m, m < 50 → mz_okN (151 + m) = true := by decide +kernel
theorem mz_okN4 : ∀ m, m < 49 → mz_okN (201 + m) = true := by decide +kernel
theorem mz_okCAll : ∀ m, 0 < m → m < 250 → mz_okC m = true := by
  intro m h0 hm
  by_cases q0 : m < 26
  · have := mz_okC0 (m - 1) (by omega); rwa [show 1 + (m - 1) = m by omega] at this
  by_cases q1 : m < 51
  · have := mz_okC1 (m - 26) (by omega); rwa [show 26 + (m - 26) = m by omega] at this
  by_cases q2 : m < 76
  · have := mz_okC2 (m - 51) (by omega); rwa [show 51 + (m - 51) = m by omega] at this
  by_cases q3 : m < 101
  · have := mz_okC3 (m - 76) (by omega); rwa [show 76 + (m - 76) = m by omega] at this
  by_cases q4 : m < 126
  · have := mz_okC4 (m - 101) (by omega); rwa [show 101 + (m - 101) = m by omega] at this
  by_cases q5 : m < 151
  · have := mz_okC5 (m - 126) (by omega); rwa [show 126 + (m - 126) = m by omega] at this
  by_cases q6 : m < 176
  · have := mz_okC6 (m - 151) (by omega); rwa [show 151 + (m - 151) = m by omega] at this
  by_cases q7 : m < 201
  · have := mz_okC7 (m - 176) (by omega); rwa [show 176 + (m - 176) = m by omega] at this
  by_cases q8 : m < 226
  · have := mz_okC8 (m - 201) (by omega); rwa [show 201 + (m - 201) = m by omega] at this
  by_cases q9 : m < 250
  · have := mz_okC9 (m - 226) (by omega); rwa [show 226 + (m - 226) = m by omega] at this
  omega
theorem mz_okNAll : ∀ m, 0 < m → m < 250 → mz_okN m = true := by
  intro m h0 hm
  by_cases q0 : m < 51
  · have := mz_okN0 (m - 1) (by omega); rwa [show 1 + (m - 1) = m by omega] at this
  by_cases q1 : m < 101
  · have := mz_okN1 (m - 51) (by omega); rwa [show 51 + (m - 51) = m by omega] at this
  by_cases q2 : m < 151
  · have := mz_okN2 (m - 101) (by omega); rwa [show 101 + (m - 101) = m by omega] at this
  by_cases q3 : m < 201
  · have := mz_okN3 (m - 151) (by omega); rwa [show 151 + (m - 151) = m by omega] at this
  by_cases q4 : m < 250
  · have := mz_okN4 (m - 201) (by omega); rwa [show 201 + (m - 201) = m by omega] at this
  omega
end MZE
