/-! the reference: rows, laws and marks, in terms of what the walls hold -/
section ZTL
def zyC (A : zqA) (w c : Int) : Prop := (0 ≤ w ∧ w ≤ 2) ∧ 0 ≤ c ∧ c < A.1 w
/-- there is such a row of a wall -/
def zyR (A : zqA) (S : Int → Int) (w k : Int) : Prop := (0 ≤ w ∧ w ≤ 2 ∧ 0 < A.1 w) ∧ (0 ≤ k ∧ k ≤ 19) ∧ S (80 * w + 4 * k) ≠ -1
def zyOut (A : zqA) (S : Int → Int) (w k : Int) : Prop := zyR A S w k ∧ zqLf A (zqDrop S w k)
def zyF (m a b c d : Int) : Int → Int := fun i => if i = 0 then a else if i = 1 then (if m < 2 then 0 else b) else if i = 2 then (if m < 3 then 0 else c) else (if m < 4 then 0 else d)
def zyV (A : zqA) (w a b c d : Int) : Prop := (0 ≤ w ∧ w ≤ 2 ∧ 0 < A.1 w) ∧ (0 ≤ a ∧ a ≤ 19) ∧ (2 ≤ A.1 w → 0 ≤ b ∧ b ≤ 19) ∧ (3 ≤ A.1 w → 0 ≤ c ∧ c ≤ 19) ∧ (4 ≤ A.1 w → 0 ≤ d ∧ d ≤ 19)
def zyRow (A : zqA) (S : Int → Int) (w a b c d : Int) : Prop := zyV A w a b c d ∧ S (80 * w + 4 * a) = -1 ∧ zqCn S w 20 < 10 ∧ zqLf A (zqAdd S w a (zyF (A.1 w) a b c d))
def zySp (A : zqA) (w c f t : Int) : Prop := zyC A w c ∧ (0 ≤ f ∧ f ≤ 19) ∧ f ≤ t ∧ t ≤ 19
def zyU (f : Int → Int) (j v : Int) : Int → Int := fun i => if i = j then v else f i
def zyN (A : zqA) (w c o : Int) : zqA := (A.1, A.2.1, A.2.2.1, zyU A.2.2.2.1 (4 * w + c) o, A.2.2.2.2)
def zyO (A : zqA) (w c y : Int) : zqA := (A.1, A.2.1, A.2.2.1, A.2.2.2.1, zyU A.2.2.2.2 (4 * w + c) y)
def zyNm (A : zqA) (w c o : Int) : Prop := zyC A w c ∧ c ≠ 0 ∧ (o = -1 ∨ (o ≠ w ∧ 0 ≤ o ∧ o ≤ 2 ∧ 0 < A.1 o))
def zyOn (A : zqA) (w c : Int) : Prop := zyC A w c ∧ c ≠ 0
theorem zyU_up {h g : my_H} {x i j v : Int} (u : g = my_up h x i v) (hi : i = j) : g x = zyU (h x) j v := funext fun k => by
  unfold zyU
  by_cases z : k = j
  · rw [if_pos z, z, ← hi]; exact my_up_self u
  · rw [if_neg z]; exact my_up_ne u (by omega)
theorem zyU_2 {f : Int → Int} {j v : Int} : zyU (zyU f j v) j (f j) = f := funext fun k => by
  unfold zyU
  by_cases z : k = j
  · rw [if_pos z, z]
  · rw [if_neg z, if_neg z]
theorem up_back {h g g1 : my_H} {x i j v o : Int} (u : g = my_up h x i v) (u1 : g1 = my_up g x j o) (hi : i = j) (ho : o = h x j) : ∀ k : Int, g1 x k = h x k := fun k => by
  by_cases z : k = j
  · rw [z, my_up_self u1, ho]
  · rw [my_up_ne u1 (by omega), my_up_ne u (by omega)]
section
variable {h h1 g g1 : my_H} {w k : Int}
theorem zyR_m (T : MTy h) (w0 : 0 ≤ w ∧ w ≤ 2 ∧ 0 < h 157 w) (k0 : 0 ≤ k ∧ k ≤ 19) : zyR (zqMA h) (zqMS h 0) w k ↔ h 162 (60 * 0 + 20 * w + k) = 1 :=
  ⟨fun z => (MS_has T (by omega) (by omega) w0.1 w0.2.1 k0.1 k0.2).mp z.2.2, fun z => ⟨w0, k0, (MS_has T (by omega) (by omega) w0.1 w0.2.1 k0.1 k0.2).mpr z⟩⟩
theorem MS_n {s : Int} (T : MTy h) (s0 : 0 ≤ s) (s15 : s ≤ 15) (w0 : 0 ≤ w) (w2 : w ≤ 2) (k0 : 0 ≤ k) (k9 : k ≤ 19) : zqMS h s (80 * w + 4 * k) = -1 ↔ h 162 (60 * s + 20 * w + k) ≠ 1 := by
  have q := MS_has T s0 s15 w0 w2 k0 k9
  constructor
  · intro z y; exact (q.mpr y) z
  · intro z
    exact Decidable.byContradiction fun y => z (q.mp y)
/-- a trial's row is out -/
theorem Mout_t {i : Int} (c : Cp h1 g 0 5) (q : CpI h1 g 0 5 240) (e2 : ∀ j : Int, h1 162 j = h 162 j) (e3 : ∀ j : Int, h1 163 j = h 163 j) (u : g1 = my_up g 162 i 0) (hi : i = 60 * 5 + 20 * w + k) (w0 : 0 ≤ w) (w2 : w ≤ 2) (k0 : 0 ≤ k) (k9 : k ≤ 19) : zqAg (zqDrop (zqMS h 0) w k) (zqMS g1 5) ∧ OtT h g1 5 5 5 := by
  refine ⟨zqAg.tr (zqDrop_a (Cp_ag5 c q e2 e3)) (MS_dr u hi w0 w2 k0 k9), fun s s8 s5 _ _ => ?_⟩
  obtain ⟨r1, r2⟩ := (OtT_Cp (OtT_0 e2 e3 : OtT h h1 5 5 5) c q (by omega)) s s8 s5 s5 s5
  exact ⟨fun j a b => (my_up_ne u (by omega)).trans (r1 j a b), fun j a b => (my_up_ne u (by omega)).trans (r2 j a b)⟩
theorem zyF_i {m a b c d a1 a2 a3 : Int} (k1 : (m < 2 ∧ a1 = 0) ∨ (2 ≤ m ∧ a1 = b)) (k2 : (m < 3 ∧ a2 = 0) ∨ (3 ≤ m ∧ a2 = c)) (k3 : (m < 4 ∧ a3 = 0) ∨ (4 ≤ m ∧ a3 = d)) : a = zyF m a b c d 0 ∧ a1 = zyF m a b c d 1 ∧ a2 = zyF m a b c d 2 ∧ a3 = zyF m a b c d 3 := by
  unfold zyF
  refine ⟨by rw [if_pos rfl], ?_, ?_, ?_⟩
  · rw [if_neg (by decide), if_pos rfl]
    split <;> omega
  · rw [if_neg (by decide), if_neg (by decide), if_pos rfl]
    split <;> omega
  · rw [if_neg (by decide), if_neg (by decide), if_neg (by decide)]
    split <;> omega
/-- a row is laid in the trial -/
theorem Mrow_t {a b c d a1 a2 a3 r m : Int} (cp : Cp h1 g 0 5) (q : CpI h1 g 0 5 240) (e2 : ∀ j : Int, h1 162 j = h 162 j) (e3 : ∀ j : Int, h1 163 j = h 163 j) (l : LyP g g1 r a a1 a2 a3) (hr : r = 60 * 5 + 20 * w + a) (w0 : 0 ≤ w) (w2 : w ≤ 2) (k0 : 0 ≤ a) (k9 : a ≤ 19) (hm : m = h 157 w) (k1 : (m < 2 ∧ a1 = 0) ∨ (2 ≤ m ∧ a1 = b)) (k2 : (m < 3 ∧ a2 = 0) ∨ (3 ≤ m ∧ a2 = c)) (k3 : (m < 4 ∧ a3 = 0) ∨ (4 ≤ m ∧ a3 = d)) : zqAg (zqAdd (zqMS h 0) w a (zyF (h 157 w) a b c d)) (zqMS g1 5) ∧ OtT h g1 5 5 5 := by
  obtain ⟨f0, f1, f2, f3⟩ := zyF_i (a := a) k1 k2 k3
  rw [← hm]
  refine ⟨zqAg.tr (zqAdd_a (Cp_ag5 cp q e2 e3)) (LyP_add hr w0 w2 k0 k9 l f0 f1 f2 f3), fun s s8 s5 _ _ => ?_⟩
  obtain ⟨r1, r2⟩ := (OtT_Cp (OtT_0 e2 e3 : OtT h h1 5 5 5) cp q (by omega)) s s8 s5 s5 s5
  exact ⟨fun j x y => (l.2.1 _ (by omega)).trans (r1 j x y), fun j x y => (l.2.2.2.2.2.2 _ (by omega)).trans (r2 j x y)⟩
/-- taken -/
theorem Mtk {S : Int → Int} (a : zqAg S (zqMS g 5)) (o : OtT h g 5 5 5) (c : Cp g g1 5 0 ∧ CpI g g1 5 0 240) : zqAg S (zqMS g1 0) ∧ OtT h g1 0 5 5 :=
  ⟨zqAg.tr a (Cp_ag5 c.1 c.2 (fun _ => rfl) (fun _ => rfl)), OtT_Cp (o.w (by omega) (by omega) (by omega)) c.1 c.2 (by omega)⟩
theorem Mlf_t {S : Int → Int} {s : Int} (T : MTy h) (ma : zqMA g = zqMA h) (a : zqAg S (zqMS g s)) : zqLf (zqMA g) (zqMS g s) ↔ zqLf (zqMA h) S := by
  rw [ma]
  exact zqLf_c a (fun u x y => (T.2.2.2 u x (by omega)).2) (fun p x y => T.2.2.1 p x (by omega))
theorem sp_2 {h2 h3 : my_H} {i j x y p : Int} (e8 : ∀ j : Int, h1 158 j = h 158 j) (e9 : ∀ j : Int, h1 159 j = h 159 j) (u : h2 = my_up h1 158 i x) (u2 : h3 = my_up h2 159 j y) (hi : i = p) (hj : j = p) : h3 158 = zyU (h 158) p x ∧ h3 159 = zyU (h 159) p y := by
  refine ⟨funext fun k => ?_, ?_⟩
  · rw [my_up_ne u2 (by omega), zyU_up u hi, show h1 158 = h 158 from funext e8]
  · rw [zyU_up u2 hj, show h2 159 = h 159 from funext fun k => (my_up_ne u (by omega)).trans (e9 k)]
theorem c160w {x i j v : Int} (e : ∀ j : Int, h1 x j = h x j) (u : g = my_up h1 x i v) (hi : i = j) : g x = zyU (h x) j v := by
  rw [zyU_up u hi, show h1 x = h x from funext e]
theorem zyN_m {c o : Int} (e0 : ∀ j : Int, g 157 j = h 157 j) (e1 : ∀ j : Int, g 158 j = h 158 j) (e2 : ∀ j : Int, g 159 j = h 159 j) (e4 : ∀ j : Int, g 161 j = h 161 j) (e3 : g 160 = zyU (h 160) (4 * w + c) o) : zqMA g = zyN (zqMA h) w c o := by
  unfold zqMA zyN
  rw [show g 157 = h 157 from funext e0, show g 158 = h 158 from funext e1, show g 159 = h 159 from funext e2, show g 161 = h 161 from funext e4, e3]
theorem zyO_m {c o : Int} (e0 : ∀ j : Int, g 157 j = h 157 j) (e1 : ∀ j : Int, g 158 j = h 158 j) (e2 : ∀ j : Int, g 159 j = h 159 j) (e3 : ∀ j : Int, g 160 j = h 160 j) (e4 : g 161 = zyU (h 161) (4 * w + c) o) : zqMA g = zyO (zqMA h) w c o := by
  unfold zqMA zyO
  rw [show g 157 = h 157 from funext e0, show g 158 = h 158 from funext e1, show g 159 = h 159 from funext e2, show g 160 = h 160 from funext e3, e4]
theorem nm_1 {A : zqA} {S : Int → Int} (T : MTy g) (a : zqMA g = A) (e : zqMS g 0 = S) (p : MLs g 0) : zqLf A S := by
  rw [← a, ← e]
  exact (MLs_lf T (by omega) (by omega)).mp p
theorem nm_2 {A : zqA} {S : Int → Int} (T : MTy g) (a : zqMA g = A) (e : zqMS g 0 = S) (p : zqLf A S) : MLs g 0 := by
  rw [← a, ← e] at p
  exact (MLs_lf T (by omega) (by omega)).mpr p
theorem mk_T (T : MTy h) (e7 : ∀ j : Int, g 157 j = h 157 j) (e0 : ∀ j : Int, g 160 j = h 160 j) (e2 : ∀ j : Int, g 162 j = h 162 j) (e3 : ∀ j : Int, g 163 j = h 163 j) : MTy g := ⟨fun j a b => by rw [e3]; exact T.1 j a b, fun j a b => by rw [e2]; exact T.2.1 j a b, fun j a b => by rw [e0]; exact T.2.2.1 j a b, fun j a b => by rw [e7]; exact T.2.2.2 j a b⟩
theorem mk_lf {m : Int} (T : MTy h) (ea : zqMA g = zqMA h) (es : zqMS g (1 + m) = zqMS h (1 + m)) (m0 : 0 ≤ m ∧ m ≤ 3) (e7 : ∀ j : Int, g 157 j = h 157 j) (e0 : ∀ j : Int, g 160 j = h 160 j) (e2 : ∀ j : Int, g 162 j = h 162 j) (e3 : ∀ j : Int, g 163 j = h 163 j) : MLs g (1 + m) ↔ zqLf (zqMA h) (zqMS h (1 + m)) := by
  rw [← ea, ← es]
  exact MLs_lf (mk_T T e7 e0 e2 e3) (by omega) (by omega)
theorem mk_c {g2 : my_H} {f t i v : Int} (c : Cp g g1 f t) (q : CpI g g1 f t 240) (e2 : ∀ j : Int, g 162 j = h 162 j) (e3 : ∀ j : Int, g 163 j = h 163 j) (u : g2 = my_up g1 202 i v) : zqAg (zqMS h f) (zqMS g2 t) ∧ OtT h g2 t 5 5 :=
  ⟨zqAg.tr (Cp_ag5 c q e2 e3) (fun j _ _ => by rw [MS_eq (fun k => my_up_ne u (by omega)) (fun k => my_up_ne u (by omega))]), OtT_e (OtT_Cp (OtT_0 e2 e3) c q (by omega)) (fun k => my_up_ne u (by omega)) (fun k => my_up_ne u (by omega))⟩
end
end ZTL
