/-! class and reference: calls that change walls or laws are allowed alike -/
section ZTV
section
variable {A B : zqA} {S T : Int → Int} {w k c o : Int}
theorem Lf_e (E : LEq A B) (A4 : ∀ u : Int, 0 ≤ u → u ≤ 2 → A.1 u ≤ 4) (N2 : ∀ p : Int, 0 ≤ p → p ≤ 11 → -1 ≤ A.2.2.2.1 p ∧ A.2.2.2.1 p ≤ 2) (ag : zqAg S T) : zqLf A S ↔ zqLf B T := (zqLf_c ag A4 N2).symm.trans (zqLf_cg E.1 E.2 A4 rfl)
theorem zyOut_e (E : LEq A B) (A4 : ∀ u : Int, 0 ≤ u → u ≤ 2 → A.1 u ≤ 4) (N2 : ∀ p : Int, 0 ≤ p → p ≤ 11 → -1 ≤ A.2.2.2.1 p ∧ A.2.2.2.1 p ≤ 2) (ag : zqAg S T) : zyOut A S w k ↔ zyOut B T w k := by
  unfold zyOut zyR
  rw [Lf_e E A4 N2 (zqDrop_a ag)]
  refine and_congr_left (fun _ => ?_)
  constructor
  · rintro ⟨⟨w0, w2, h⟩, k0, hs⟩
    exact ⟨⟨w0, w2, by rw [← E.1 w w0 w2]; exact h⟩, k0, by rw [ag _ (by omega) (by omega)]; exact hs⟩
  · rintro ⟨⟨w0, w2, h⟩, k0, hs⟩
    exact ⟨⟨w0, w2, by rw [E.1 w w0 w2]; exact h⟩, k0, by rw [← ag _ (by omega) (by omega)]; exact hs⟩
theorem zyRow_1 {a b d e : Int} (E : LEq A B) (A4 : ∀ u : Int, 0 ≤ u → u ≤ 2 → A.1 u ≤ 4) (N2 : ∀ p : Int, 0 ≤ p → p ≤ 11 → -1 ≤ A.2.2.2.1 p ∧ A.2.2.2.1 p ≤ 2) (ag : zqAg S T) (p : zyRow A S w a b d e) : zyRow B T w a b d e := by
  obtain ⟨⟨⟨w0, w2, h⟩, k0, v⟩, r, n, lf⟩ := p
  rw [E.1 w w0 w2] at h v lf
  exact ⟨⟨⟨w0, w2, h⟩, k0, v⟩, by rw [ag _ (by omega) (by omega)]; exact r, by rw [zqCn_c ag w0 w2]; exact n, (Lf_e E A4 N2 (zqAdd_a ag)).mp lf⟩
theorem LEq.sym (E : LEq A B) : LEq B A := ⟨fun w a b => (E.1 w a b).symm, fun p a b => by
  obtain ⟨q1, q2, q3, q4⟩ := E.2 p a b
  exact ⟨q1.symm, q2.symm, q3.symm, q4.symm⟩⟩
theorem LEq.A4 (E : LEq A B) (A4 : ∀ u : Int, 0 ≤ u → u ≤ 2 → A.1 u ≤ 4) : ∀ u : Int, 0 ≤ u → u ≤ 2 → B.1 u ≤ 4 := fun u a b => by rw [← E.1 u a b]; exact A4 u a b
theorem LEq.N2 (E : LEq A B) (N2 : ∀ p : Int, 0 ≤ p → p ≤ 11 → -1 ≤ A.2.2.2.1 p ∧ A.2.2.2.1 p ≤ 2) : ∀ p : Int, 0 ≤ p → p ≤ 11 → -1 ≤ B.2.2.2.1 p ∧ B.2.2.2.1 p ≤ 2 := fun p a b => by rw [← (E.2 p a b).2.2.1]; exact N2 p a b
theorem zyRow_e {a b d e : Int} (E : LEq A B) (A4 : ∀ u : Int, 0 ≤ u → u ≤ 2 → A.1 u ≤ 4) (N2 : ∀ p : Int, 0 ≤ p → p ≤ 11 → -1 ≤ A.2.2.2.1 p ∧ A.2.2.2.1 p ≤ 2) (ag : zqAg S T) : zyRow A S w a b d e ↔ zyRow B T w a b d e := ⟨zyRow_1 E A4 N2 ag, zyRow_1 E.sym (E.A4 A4) (E.N2 N2) (zqAg.sym ag)⟩
theorem zyC_e (E : LEq A B) : zyC A w c ↔ zyC B w c := by
  unfold zyC
  refine and_congr_right (fun z => ?_)
  rw [E.1 w z.1 z.2]
theorem zySp_e {f t : Int} (E : LEq A B) : zySp A w c f t ↔ zySp B w c f t := and_congr_left (fun _ => zyC_e E)
theorem zyOn_e (E : LEq A B) : zyOn A w c ↔ zyOn B w c := and_congr_left (fun _ => zyC_e E)
theorem zyNm_1 (E : LEq A B) (p : zyNm A w c o) : zyNm B w c o := by
  obtain ⟨p1, p2, p3⟩ := p
  refine ⟨(zyC_e E).mp p1, p2, ?_⟩
  rcases p3 with z | ⟨z1, z2, z3, z4⟩
  · exact Or.inl z
  · exact Or.inr ⟨z1, z2, z3, by rw [← E.1 o z2 z3]; exact z4⟩
theorem zyNm_e (E : LEq A B) : zyNm A w c o ↔ zyNm B w c o := ⟨zyNm_1 E, zyNm_1 E.sym⟩
theorem zyU_e {f g : Int → Int} {j v p : Int} (e : f p = g p) : zyU f j v p = zyU g j v p := by
  unfold zyU
  rw [e]
theorem LEq_N (E : LEq A B) : LEq (zyN A w c o) (zyN B w c o) := ⟨E.1, fun p a b => by
  obtain ⟨q1, q2, q3, q4⟩ := E.2 p a b
  exact ⟨q1, q2, zyU_e q3, q4⟩⟩
theorem LEq_O (E : LEq A B) : LEq (zyO A w c o) (zyO B w c o) := ⟨E.1, fun p a b => by
  obtain ⟨q1, q2, q3, q4⟩ := E.2 p a b
  exact ⟨q1, q2, q3, zyU_e q4⟩⟩
theorem qOut_c {f t : Int} (ag : zqAg S T) (w0 : 0 ≤ w) (w2 : w ≤ 2) (c0 : 0 ≤ c) (c3 : c ≤ 3) : ∀ n : Nat, n ≤ 20 → qOut T w c f t n = qOut S w c f t n
  | 0, _ => rfl
  | n + 1, h => by
    rw [qOut, qOut, qOut_c ag w0 w2 c0 c3 n (by omega), ag _ (by omega) (by omega), ag _ (by omega) (by omega)]
end
end ZTV
