/-! what the law's entry gives: the classes, the arrays' classes, the texts, the script -/
section MZD
theorem mz_hG : mx_Ct mz_P := mz_hCt
theorem mz_dcl {s : State} (h : ∀ (k : Nat) (q : vw_C), mz_cl[k]? = some q → ∃ (c : ClassId) (i : Nat → Nat), u_Kn s q.1 q.2.1 q.2.2 c i) : ∃ D : va_G, ∀ (k : Nat) (q : vw_C), mz_cl[k]? = some q → u_Kn s q.1 q.2.1 q.2.2 (D.1 k) (D.2 k) := by
  have h1 : ∀ k : Nat, ∃ x : ClassId × (Nat → Nat), ∀ q : vw_C, mz_cl[k]? = some q → u_Kn s q.1 q.2.1 q.2.2 x.1 x.2 := by
    intro k
    cases hk : mz_cl[k]? with
    | none => exact ⟨(0, fun _ => 0), fun q hq => by cases hq⟩
    | some q =>
      obtain ⟨c, i, hc⟩ := h k q hk
      exact ⟨(c, i), fun q' hq => by cases hq; exact hc⟩
  obtain ⟨f, hf⟩ := Classical.axiomOfChoice h1
  exact ⟨(fun k => (f k).1, fun k => (f k).2), fun k q hq => hf k q hq⟩
theorem mz_arr {args : Array Value} {s : State} {ty : FieldType} (h : (Cond.arrayClass ty).before args s = true) (hp : ∀ C, ty ≠ .object C) : ∃ cA : ClassId, ArrOfT s cA ty ∧ va_RA s cA ty := by
  obtain ⟨c, k, comp, h1, h2, h3⟩ := Cond.arrayClass_spec h
  refine ⟨c, fun n z => ⟨fun k => (fun h => nomatch h), k, h2, comp, h3⟩, ?_⟩
  cases ty <;> first | exact h1 | exact absurd rfl (hp _)
theorem mz_arrq {s : State} {C : String} (h : va_AO C s) : ∃ cA : ClassId, ArrOfT s cA (.object C) ∧ va_RA s cA (.object C) := by
  obtain ⟨comp, c, k, h1, h2, h3, h4, h5⟩ := Cond.arrayOver_spec h
  exact ⟨c, fun n z => ⟨fun k => (fun h => nomatch h), k, h3, comp, h4⟩, k, comp, h3, h4, h1, h5⟩
theorem mz_tyw : mz_w 168 (.arrayClass .int) = true ∧ mz_w 169 (.arrayClass .boolean) = true ∧ mz_w 348 (.arrayClass .long) = true ∧ mz_w 313 (.arrayClass .byte) = true := by decide +kernel
theorem mz_nwt : mz_nw.map (fun w => Cond.methodLinkNest w.1 w.2.1 w.2.2.1 w.2.2.2) = ([194, 284, 328, 460, 600, 621, 768, 872, 873, 910, 1010, 1011, 1020, 1077, 1128, 1129] : List Nat).filterMap (fun i => lw_tbl[i]?) := by decide +kernel
theorem mz_aot : mz_ao.map (fun C => Cond.arrayOver (.object C)) = ([190, 192] : List Nat).filterMap (fun i => lw_tbl[i]?) := by decide +kernel
theorem mz_qst : mz_qs.map (fun q => Cond.stringRef q.1 q.2.1 q.2.2) = ([693, 754, 777, 787, 788, 789, 790, 791, 804, 805, 806, 839] : List Nat).filterMap (fun i => lw_tbl[i]?) := by decide +kernel
theorem mz_qse : ∀ q ∈ mz_qs, Cond.exactly (.string q.1 q.2.1) "java/lang/String" ∈ flatC (Jvm.Cond.and given_1 narrow_1) := by decide +kernel
theorem mz_sub3 {α : Type} {f : α → Cond} {l : List α} {ps : List Nat} (h : l.map f = ps.filterMap (fun i => lw_tbl[i]?)) : ∀ x ∈ l, f x ∈ lw_tbl := by
  intro x hx
  have h1 : f x ∈ l.map f := List.mem_map.mpr ⟨x, hx, rfl⟩
  rw [h] at h1
  obtain ⟨i, -, hi⟩ := List.mem_filterMap.mp h1
  exact List.mem_of_getElem? hi
/-- the tables' world at a state where their words hold -/
theorem mz_world {args : Array Value} {s : State} (b : Nat) (hts : ∀ w ∈ lw_tbl, w.before args s = true) (hgv : (Jvm.Cond.and given_1 narrow_1).before args s = true) : ∃ (D : va_G) (tys : List (ClassId × FieldType)) (sg : Nat → Nat), sg 0 = b ∧ mx_Wd mz_P mz_G D tys sg s := by
  have htb : ∀ w ∈ mz_tb, w.before args s = true := fun w hw => hts w (mz_sub w hw)
  obtain ⟨D, hD⟩ := mz_dcl (s := s) (fun k q hq => u_known htb (mz_hCl k q hq).1 (htb _ (mz_hIn k q hq)))
  have hao : ∀ C ∈ mz_ao, va_AO C s := fun C hC => va_AO.of (hts _ (mz_sub3 mz_aot C hC))
  obtain ⟨c0, h0⟩ := mz_arr (htb _ (mz_w_spec mz_tyw.1)) (fun C h => by cases h)
  obtain ⟨c1, h1⟩ := mz_arr (htb _ (mz_w_spec mz_tyw.2.1)) (fun C h => by cases h)
  obtain ⟨c2, h2⟩ := mz_arr (htb _ (mz_w_spec mz_tyw.2.2.1)) (fun C h => by cases h)
  obtain ⟨c3, h3⟩ := mz_arr (htb _ (mz_w_spec mz_tyw.2.2.2)) (fun C h => by cases h)
  obtain ⟨c4, h4⟩ := mz_arrq (hao "ThroughWindow$Rows" (by decide))
  obtain ⟨c5, h5⟩ := mz_arrq (hao "ThroughWindow$Lens" (by decide))
  have hst : ∀ k : Nat, ∃ a : Nat, ∀ q, mz_qs[k]? = some q → vk_R q.1 q.2.1 q.2.2 a s := by
    intro k
    cases hk : mz_qs[k]? with
    | none => exact ⟨0, fun q hq => by cases hq⟩
    | some q =>
      have hm := List.mem_of_getElem? hk
      obtain ⟨a, c, cell, kk, e1, -⟩ := Cond.exactly_spec (flat_of_before _ hgv _ (mz_qse q hm))
      exact ⟨a, fun q' hq => by cases hq; exact vk_R.of (hts _ (mz_sub3 mz_qst q hm)) e1⟩
  obtain ⟨f, hf⟩ := Classical.axiomOfChoice hst
  refine ⟨D, [(c0, .int), (c1, .boolean), (c2, .long), (c3, .byte), (c4, .object "ThroughWindow$Rows"), (c5, .object "ThroughWindow$Lens")], fun k => match k with
    | 0 => b
    | k + 1 => f k, rfl, ⟨hD, fun k q hk => ?_⟩, rfl, fun w hw => va_Nw.of rfl (hts _ (mz_sub3 mz_nwt w hw)), hao, fun k q hk => hf k q hk⟩
  match k, hk with
  | 0, hk => cases hk; exact h0
  | 1, hk => cases hk; exact h1
  | 2, hk => cases hk; exact h2
  | 3, hk => cases hk; exact h3
  | 4, hk => cases hk; exact h4
  | 5, hk => cases hk; exact h5
  | k + 6, hk => simp at hk
end MZD
