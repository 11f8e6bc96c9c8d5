/-! the law's entry: the texts, the table of orders, the script -/
section MRE
def xt_k (i : Nat) : Nat := [57, 63, 85, 98, 100, 102, 104, 106, 140, 142, 144, 160].getD i 0
def xt_t (i : Nat) : Term := .string "ThroughWindow$Reader" (xt_k i)
def xt_v (i : Nat) : Term := .field (xt_t i) "java/lang/String" "value" "[B"
def xt_o : Term := .static "ThroughWindow$Clerks" "ORDERS" "[I"
theorem xt_q : ∀ i : Nat, i < 12 → (mz_qs[i]?).map (fun q => (q.1, q.2.1)) = some ("ThroughWindow$Reader", xt_k i) := by decide
theorem xt_n : ∀ i : Nat, i < 12 → mx_tl.getD i 0 < 2 ^ 31 := by decide
theorem xt_1 : ∀ i : Nat, i < 12 → Cond.exactly (xt_t i) "java/lang/String" ∈ flatC (Jvm.Cond.and given_1 narrow_1) := by decide +kernel
theorem xt_2 : ∀ i : Nat, i < 12 → Cond.eq (.field (xt_t i) "java/lang/String" "coder" "B") (.int 0) ∈ flatC (Jvm.Cond.and given_1 narrow_1) := by decide +kernel
theorem xt_3 : ∀ i : Nat, i < 12 → Cond.arrayOf (xt_v i) .byte ∈ flatC (Jvm.Cond.and given_1 narrow_1) := by decide +kernel
theorem xt_4 : ∀ i : Nat, i < 12 → Cond.eq (.length (xt_v i)) (.int (Int32.ofNat (mx_tl.getD i 0))) ∈ flatC (Jvm.Cond.and given_1 narrow_1) := by decide +kernel
theorem xt_5 : ∀ i : Nat, i < 12 → ∀ j : Nat, j < mx_tl.getD i 0 → Cond.eq (.elem (xt_v i) (.int (Int32.ofNat j))) (.int ((mx_tb.getD i []).getD j 0)) ∈ flatC (Jvm.Cond.and given_1 narrow_1) := by decide +kernel
theorem xt_6 : Cond.arrayOf xt_o .int ∈ flatC (Jvm.Cond.and given_1 narrow_1) ∧ Cond.eq (.length xt_o) (.int (Int32.ofNat 18)) ∈ flatC (Jvm.Cond.and given_1 narrow_1) := by decide +kernel
theorem xt_7 : ∀ j : Nat, j < 18 → Cond.eq (.elem xt_o (.int (Int32.ofNat j))) (.int (mx_od.getD j 0)) ∈ flatC (Jvm.Cond.and given_1 narrow_1) := by decide +kernel
theorem xt_8 : Cond.eq (.static "java/lang/String" "COMPACT_STRINGS" "Z") (.int 1) ∈ flatC (Jvm.Cond.and given_1 narrow_1) ∧ Cond.isRef (.static "jdk/internal/util/Preconditions" "SIOOBE_FORMATTER" "Ljava/util/function/BiFunction;") ∈ flatC (Jvm.Cond.and given_1 narrow_1) := by decide +kernel
theorem xt_9 : ∀ w ∈ [Cond.laysStatic "java/lang/String" "COMPACT_STRINGS" "Z", Cond.initialized "java/lang/String", Cond.laysStatic "jdk/internal/util/Preconditions" "SIOOBE_FORMATTER" "Ljava/util/function/BiFunction;", Cond.initialized "jdk/internal/util/Preconditions", Cond.laysStatic "ThroughWindow$Clerks" "ORDERS" "[I", Cond.initialized "ThroughWindow$Clerks"], w ∈ lw_tbl := by decide +kernel
set_option maxHeartbeats 1000000 in
/-- the tables' world at the law's entry, with the texts and the orders -/
theorem mz_world2 {args : Array Value} {s : State} (b : Nat) (hts : ∀ w ∈ lw_tbl, w.before args s = true) (hgv : (Jvm.Cond.and given_1 narrow_1).before args s = true) : ∃ (D : va_G) (tys : List (ClassId × FieldType)) (sg : Nat → Nat), sg 0 = b ∧ mx_Wd mz_P mz_G D tys sg s ∧ mx_Xt s.heap.size sg s s.heap := by
  obtain ⟨D, tys, sg, hsg, hWd⟩ := mz_world b hts hgv
  have hfl := flat_of_before _ hgv
  have hA : ∀ a : Nat, a < s.heap.size → ¬ s.heap.size ≤ a := fun a h => Nat.not_le.mpr h
  have hR : ∀ i : Nat, i < 12 → (xt_t i).eval args s none [] s = some (.ref (sg (i + 1))) := by
    intro i hi
    have h1 := xt_q i hi
    cases h2 : mz_qs[i]? with
    | none => rw [h2] at h1; cases h1
    | some q =>
      rw [h2] at h1
      obtain ⟨q1, q2, q3⟩ := q
      have h3 : (q1, q2) = ("ThroughWindow$Reader", xt_k i) := Option.some.inj h1
      have e1 : q1 = "ThroughWindow$Reader" := congrArg Prod.fst h3
      have e2 : q2 = xt_k i := congrArg Prod.snd h3
      subst e1; subst e2
      exact (hWd.2.2.2.2 i _ h2).2
  obtain ⟨o, ho, hoT⟩ := va_Tof (tm := xt_o) (ty := .int) (N := 18) (f := fun j => .int (mx_od.getD j 0)) (A := fun q => s.heap.size ≤ q) (by decide) (hfl _ xt_6.1) (va_eqt (hfl _ xt_6.2)) (fun j hj => va_eqt (hfl _ (xt_7 j hj))) hA
  have hT : ∀ i : Nat, ∃ t : Nat, i < 12 → (xt_v i).eval args s none [] s = some (.ref t) ∧ va_T .byte t (mx_tl.getD i 0) (fun j => .int ((mx_tb.getD i []).getD j 0)) (fun q => s.heap.size ≤ q) s s.heap := by
    intro i
    by_cases hi : i < 12
    · obtain ⟨t, h1, h2⟩ := va_Tof (tm := xt_v i) (ty := .byte) (N := mx_tl.getD i 0) (f := fun j => .int ((mx_tb.getD i []).getD j 0)) (A := fun q => s.heap.size ≤ q) (xt_n i hi) (hfl _ (xt_3 i hi)) (va_eqt (hfl _ (xt_4 i hi))) (fun j hj => va_eqt (hfl _ (xt_5 i hi j hj))) hA
      exact ⟨t, fun _ => ⟨h1, h2⟩⟩
    · exact ⟨0, fun h => absurd h hi⟩
  obtain ⟨g, hg⟩ := Classical.axiomOfChoice hT
  obtain ⟨sg', hs'⟩ : ∃ z : Nat → Nat, z = fun k => if k ≤ 12 then sg k else if k = 13 then o else g (k - 14) := ⟨_, rfl⟩
  have f1 : ∀ i : Nat, i ≤ 12 → sg' i = sg i := fun i hi => by rw [hs']; exact if_pos hi
  have f2 : sg' 13 = o := by rw [hs']; rfl
  have f3 : ∀ i : Nat, sg' (i + 14) = g i := by
    intro i
    rw [hs']
    show (if i + 14 ≤ 12 then sg (i + 14) else if i + 14 = 13 then o else g (i + 14 - 14)) = g i
    rw [if_neg (by omega), if_neg (by omega), Nat.add_sub_cancel]
  have hlen : mz_qs.length = 12 := rfl
  refine ⟨D, tys, sg', by rw [f1 0 (by omega)]; exact hsg, ⟨hWd.1, hWd.2.1, hWd.2.2.1, hWd.2.2.2.1, fun k q hk => ?_⟩, ⟨fun i hi => ?_, ?_, ?_, ?_, ?_⟩⟩
  · have hk2 : k < mz_qs.length := (List.getElem?_eq_some_iff.mp hk).1
    rw [f1 (k + 1) (by omega)]
    exact hWd.2.2.2.2 k q hk
  · rw [f1 (i + 1) (by omega), f3 i]
    obtain ⟨h1, h2⟩ := hg i hi
    exact ⟨va_Oof (hfl _ (xt_1 i hi)) (hR i hi) hA, vk_OFof (hR i hi) (va_eqt (hfl _ (xt_2 i hi))) hA, vk_OFof (hR i hi) h1 hA, h2⟩
  · exact va_Zof (hts _ (xt_9 _ (by simp))) (hts _ (xt_9 _ (by simp))) (va_eqt (hfl _ xt_8.1)) hA
  · exact va_Zqof (hts _ (xt_9 _ (by simp))) (hts _ (xt_9 _ (by simp))) (hfl _ xt_8.2) hA
  · rw [f2]
    exact va_Zof (hts _ (xt_9 _ (by simp))) (hts _ (xt_9 _ (by simp))) ho hA
  · rw [f2]
    exact hoT
def mz_rho (L : Nat) (xs : Nat → Int32) : Nat → Int32 := fun j => if j < 4096 then xs j else Int32.ofNat L
theorem mz_rho4 {L : Nat} {xs : Nat → Int32} : mz_rho L xs 4096 = Int32.ofNat L := if_neg (Nat.lt_irrefl _)
/-- what stands at the law's entry, for the machine -/
theorem mz_entry {p : Program} {s : State} {m : MethodId} {meth : Method} {c : Code} {b L : Nat} {xs : Nat → Int32} (hL : L ≤ 4096) (C0 : lw_At p s m meth c b L xs) :
    ∃ (D : va_G) (tys : List (ClassId × FieldType)) (sg : Nat → Nat), sg 0 = b ∧ mx_Fr mz_P mz_G mz_tb s.heap.size D tys sg (mz_rho L xs) p room_1 s m #[Value.ref b] meth c 30 0 ∧
      ∃ sl : Array Slot, entryFrame m ([Value.ref b] : List Value).toArray 7 = F0 m 0 sl [] ∧ mx_In mz_P s.heap.size D tys sg (mz_rho L xs) s s.heap [] 0 [] [] [(0, .float 0)] [] sl [] := by
  obtain ⟨hx, hb, hr, hml, hown, hts, hX, hbl, hlocks, hgv, hnm⟩ := C0
  obtain ⟨D, tys, sg, hsg, hWd, hXt⟩ := mz_world2 b hts hgv
  refine ⟨D, tys, sg, hsg, ⟨hx, hb, hr, hml, hown, fun w hw => hts w (mz_sub w hw), hnm, hlocks, Nat.le_of_ble_eq_true rfl, Nat.le_of_ble_eq_true rfl, hWd, Nat.le_refl _, ⟨⟨L, hL, mz_rho4, ?_, by rw [hsg]; exact hbl⟩, hXt⟩⟩, _, lg_entry_eq m [Value.ref b] 7, ?_⟩
  · rw [hsg]
    obtain ⟨scr, q1, q2, q3, q4, q5⟩ := hX
    exact ⟨scr, q1, q2, q3, q4, fun j hj => by rw [q5 j hj]; simp only [mz_rho]; rw [if_pos (by omega)]⟩
  · refine ⟨fun k q h => by simp at h, ⟨fun i j p q h => by simp at h, fun k q h => by simp at h⟩, va_S.rf, trivial, ⟨_, lv_entry ([.ref b]) (n := 7) (Nat.le_of_ble_eq_true rfl), ⟨⟨rfl, ?_⟩, trivial⟩⟩, trivial⟩
    show Value.ref b = Value.ref (sg 0)
    rw [hsg]
end MRE
