/-! class and reference: a put makes the same of the same walls -/
section ZTU
theorem zqPr_C {C D : Int → Int} {y : zqY} (e : 1 < y.1 → C y.2.1 = D y.2.1) : zqPr C y = zqPr D y := by
  unfold zqPr
  by_cases k : y.1 ≤ 1
  · rw [if_pos k, if_pos k]
  · rw [if_neg k, if_neg k]; exact e (by omega)
theorem EdL_D {f : Nat → zqR} {n : Nat} {W e i j v : Int} {D D' : Int → Int} (q : ∀ c : Int, 0 ≤ c → c < W → D c = D' c) : EdL f n W e i j v D = EdL f n W e i j v D' := by
  unfold EdL
  by_cases k : e = 2
  · rw [if_pos k, if_pos k]
    refine congrArg (fun z => z :: zqL f n) (funext fun c => ?_)
    by_cases z : 0 ≤ c ∧ c < W
    · rw [if_pos z, if_pos z]; exact q c z.1 z.2
    · rw [if_neg z, if_neg z]
  · rw [if_neg k, if_neg k]
theorem zqLe_C {C D : Int → Int} : ∀ {L : List zqY}, (∀ y ∈ L, 1 < y.1 → C y.2.1 = D y.2.1) → zqLe C L = zqLe D L
  | [], _ => rfl
  | y :: t, p => by
    have ih := zqLe_C (L := t) (fun z hz => p z (List.mem_cons_of_mem _ hz))
    rw [zqLe, zqLe, ih]
    cases q : zqLe D t with
    | none => rfl
    | some b =>
      have hb := zqLe_mem q
      show (if zqPr C y < zqPr C b then some y else some b) = (if zqPr D y < zqPr D b then some y else some b)
      rw [zqPr_C (p y (List.mem_cons_self ..)), zqPr_C (p b (List.mem_cons_of_mem _ hb))]
theorem Al_b {A : zqA} {S : Int → Int} {b m : Int} {P : List zqP} {W : List zqR} {f : Int → Int} {y : zqY} (b0 : 0 ≤ b) (b2 : b ≤ 2) (hy : y ∈ zqAl A S b m P W f) (k : 1 < y.1) : 0 ≤ y.2.1 ∧ y.2.1 ≤ 2 := by
  unfold zqAl at hy
  rcases List.mem_append.mp hy with hy | hy
  · by_cases q : zqQ3 A S b m P W f
    · rw [zqIf_t q] at hy
      rcases List.mem_cons.mp hy with e | e
      · rw [e]; exact ⟨b0, b2⟩
      · cases e
    · rw [zqIf_f q] at hy; cases hy
  · rcases List.mem_append.mp hy with hy | hy
    · obtain ⟨-, r, r0, r1, -, e⟩ := zqV3_k hy
      rw [e]; omega
    · rcases List.mem_append.mp hy with hy | hy
      · obtain ⟨x, v, x0, x1, v0, v1, q, e⟩ := zqV2_m hy
        rw [e] at k
        exact absurd k (show ¬ (1 : Int) < 1 by decide)
      · by_cases q : (zqRun S m ((zqLd S b m 20).map Prod.snd) P).Perm W
        · rw [zqIf_t q] at hy
          rcases List.mem_cons.mp hy with e | e
          · rw [e] at k; exact absurd k (show ¬ (1 : Int) < 0 by decide)
          · cases e
        · rw [zqIf_f q] at hy; cases hy
theorem cPR_m {h : my_H} {S S' : Int → Int} {w e i j v ans : Int} (W : WAl h w) (E : LEq (zqCA h) (zqMA h)) (A4 : ∀ u : Int, 0 ≤ u → u ≤ 2 → h 2 u ≤ 4) (b0 : 0 ≤ mBs h w) (b2 : mBs h w ≤ 2) (dr : ∀ c : Int, 0 ≤ c → c < 8 → h 93 c = h 188 c) (w8 : zqW (h (h 27 w) 3) (zqCW h w) ≤ 8) (p : cPR h S w e i j v ans S') : mPR h S w e i j v ans S' := by
  obtain ⟨a1, a2, a3, a4, a5, a6⟩ := W
  obtain ⟨V, wn, q⟩ := p
  have wn' := WntL_e (D' := h 188) a4 a3 (fun f n => by rw [EdL_D (fun c x y => dr c x (by omega))]) wn
  have al := zqAl_e (S := S) (b := h (h 27 w) 2) (W := V) E A4 (fun u => by rw [a1]; exact a5 u) a4 a6
  rw [al, a1, a2] at q
  rw [a1, a2] at wn'
  have le := zqLe_C (C := h 2) (D := h 157) (L := zqAl (zqMA h) S (mBs h w) (h 157 (mBs h w)) (mCW h w) V (cmM h w)) (fun y hy k => by
    have z := Al_b b0 b2 hy k
    exact E.1 _ z.1 z.2)
  rw [le] at q
  refine ⟨V, wn', ?_⟩
  rcases q with ⟨q1, q2, q3⟩ | ⟨y, q1, q2, q3⟩
  · exact Or.inl ⟨q1, q2, q3⟩
  · refine Or.inr ⟨y, q1, q2.trans (zqPr_C (fun k => ?_)), by rw [← zqPut_f a6]; exact q3⟩
    have z := Al_b b0 b2 (zqLe_mem q1) k
    exact E.1 _ z.1 z.2
/-- what a put makes is one thing -/
theorem mPR_u {h : my_H} {S S' S'' : Int → Int} {w e i j v ans ans' : Int} (p : mPR h S w e i j v ans S') (q : mPR h S w e i j v ans' S'') : ans = ans' ∧ zqAg S' S'' := by
  obtain ⟨V, p1, p2⟩ := p
  obtain ⟨V', q1, q2⟩ := q
  have pe := zqAl_W (A := zqMA h) (S := S) (b := mBs h w) (m := h 157 (mBs h w)) (P := mCW h w) (f := cmM h w) (WntL_u p1 q1)
  rw [pe] at p2
  rcases p2 with ⟨x1, x2, x3⟩ | ⟨y, x1, x2, x3⟩
  · rcases q2 with ⟨z1, z2, z3⟩ | ⟨y', z1, z2, z3⟩
    · exact ⟨x2.trans z2.symm, zqAg.tr (zqAg.sym x3) z3⟩
    · rw [x1] at z1; cases z1
  · rcases q2 with ⟨z1, z2, z3⟩ | ⟨y', z1, z2, z3⟩
    · rw [x1] at z1; cases z1
    · rw [x1] at z1
      cases z1
      exact ⟨x2.trans z2.symm, zqAg.tr (zqAg.sym x3) z3⟩
end ZTU
