/-! the class: a row comes to the walls -/
section ZTP
theorem zyF_v {m a b c d : Int} : zyF m a b c d 0 = a ∧ zyF m a b c d 1 = (if m < 2 then 0 else b) ∧ zyF m a b c d 2 = (if m < 3 then 0 else c) ∧ zyF m a b c d 3 = (if m < 4 then 0 else d) := by
  unfold zyF
  exact ⟨if_pos rfl, by rw [if_neg (by decide), if_pos rfl], by rw [if_neg (by decide), if_neg (by decide), if_pos rfl], by rw [if_neg (by decide), if_neg (by decide), if_neg (by decide)]⟩
theorem j4 {j : Int} (a : 0 ≤ j) (b : j ≤ 3) : j = 0 ∨ j = 1 ∨ j = 2 ∨ j = 3 := by omega
theorem zyF_lt {m a b c d j : Int} (j0 : 0 ≤ j) (j3 : j ≤ 3) (jm : j < m) : zyF m a b c d j = zyF 4 a b c d j := by
  obtain ⟨p0, p1, p2, p3⟩ := zyF_v (m := m) (a := a) (b := b) (c := c) (d := d)
  obtain ⟨q0, q1, q2, q3⟩ := zyF_v (m := 4) (a := a) (b := b) (c := c) (d := d)
  rcases j4 j0 j3 with e | e | e | e
  · rw [e, p0, q0]
  · rw [e, p1, q1, if_neg (by omega), if_neg (by decide)]
  · rw [e, p2, q2, if_neg (by omega), if_neg (by decide)]
  · rw [e, p3, q3, if_neg (by omega), if_neg (by decide)]
theorem zyF_ge {m a b c d j : Int} (m1 : 1 ≤ m) (j3 : j ≤ 3) (jm : m ≤ j) : zyF m a b c d j = 0 := by
  obtain ⟨p0, p1, p2, p3⟩ := zyF_v (m := m) (a := a) (b := b) (c := c) (d := d)
  rcases j4 (j := j) (by omega) j3 with e | e | e | e
  · omega
  · rw [e, p1, if_pos (by omega)]
  · rw [e, p2, if_pos (by omega)]
  · rw [e, p3, if_pos (by omega)]
theorem zyF_4 {a b c d : Int} : zyF 4 a b c d 0 = a ∧ zyF 4 a b c d 1 = b ∧ zyF 4 a b c d 2 = c ∧ zyF 4 a b c d 3 = d := by
  obtain ⟨q0, q1, q2, q3⟩ := zyF_v (m := 4) (a := a) (b := b) (c := c) (d := d)
  exact ⟨q0, by rw [q1, if_neg (by decide)], by rw [q2, if_neg (by decide)], by rw [q3, if_neg (by decide)]⟩
section
variable {h g h1 h2 h3 h4 : my_H} {m a b c d k w : Int}
theorem fr_0 (u1 : h1 = my_up h 144 0 a) (u2 : h2 = my_up h1 144 1 b) (u3 : h3 = my_up h2 144 2 c) (u4 : h4 = my_up h3 144 3 d) : ∀ j : Int, 0 ≤ j → j ≤ 3 → h4 144 j = zyF 4 a b c d j := fun j j0 j3 => by
  obtain ⟨q0, q1, q2, q3⟩ := zyF_4 (a := a) (b := b) (c := c) (d := d)
  rcases j4 j0 j3 with e | e | e | e
  · rw [e, q0, my_up_ne u4 (by omega), my_up_ne u3 (by omega), my_up_ne u2 (by omega), my_up_self u1]
  · rw [e, q1, my_up_ne u4 (by omega), my_up_ne u3 (by omega), my_up_self u2]
  · rw [e, q2, my_up_ne u4 (by omega), my_up_self u3]
  · rw [e, q3, my_up_self u4]
/-- a column past the wall's own -/
theorem fr_s0 {i : Int} (u : g = my_up h 144 i 0) (hi : i = k) (k0 : 0 ≤ k) (k3 : k ≤ 3) (m1 : 1 ≤ m) (mk : m ≤ k) (p : ∀ j : Int, 0 ≤ j → j < k → h 144 j = zyF m a b c d j) : ∀ j : Int, 0 ≤ j → j < k + 1 → g 144 j = zyF m a b c d j := fun j a1 b1 => by
  by_cases z : j = k
  · rw [z, ← hi, my_up_self u, zyF_ge m1 (by omega) (by omega)]
  · rw [my_up_ne u (by omega)]; exact p j a1 (by omega)
/-- a column of the wall -/
theorem fr_s1 (k0 : 0 ≤ k) (k3 : k ≤ 3) (mk : k < m) (p : ∀ j : Int, 0 ≤ j → j < k → h 144 j = zyF m a b c d j) (q : ∀ j : Int, k ≤ j → j ≤ 3 → h 144 j = zyF 4 a b c d j) : ∀ j : Int, 0 ≤ j → j < k + 1 → h 144 j = zyF m a b c d j := fun j a1 b1 => by
  by_cases z : j = k
  · rw [z, q k (by omega) k3, zyF_lt k0 k3 mk]
  · exact p j a1 (by omega)
theorem fv_s1 {v : Int} (k0 : 0 ≤ k) (k3 : k ≤ 3) (q : ∀ j : Int, k ≤ j → j ≤ 3 → h 144 j = zyF 4 a b c d j) (hv : v = h 144 k) (v0 : 0 ≤ v) (v1 : v ≤ 19) (p : ∀ j : Int, 0 ≤ j → j < k → j < m → 0 ≤ zyF 4 a b c d j ∧ zyF 4 a b c d j ≤ 19) : ∀ j : Int, 0 ≤ j → j < k + 1 → j < m → 0 ≤ zyF 4 a b c d j ∧ zyF 4 a b c d j ≤ 19 := fun j a1 b1 c1 => by
  by_cases z : j = k
  · rw [z, ← q k (by omega) k3]; omega
  · exact p j a1 (by omega) c1
theorem zyV_f {A : zqA} (w0 : 0 ≤ w ∧ w ≤ 2 ∧ 0 < A.1 w) (p : ∀ j : Int, 0 ≤ j → j < 4 → j < A.1 w → 0 ≤ zyF 4 a b c d j ∧ zyF 4 a b c d j ≤ 19) : zyV A w a b c d := by
  obtain ⟨q0, q1, q2, q3⟩ := zyF_4 (a := a) (b := b) (c := c) (d := d)
  have p0 := p 0 (by omega) (by omega) (by omega)
  rw [q0] at p0
  refine ⟨w0, p0, fun z => ?_, fun z => ?_, fun z => ?_⟩
  · have p1 := p 1 (by omega) (by omega) (by omega)
    rw [q1] at p1; exact p1
  · have p1 := p 2 (by omega) (by omega) (by omega)
    rw [q2] at p1; exact p1
  · have p1 := p 3 (by omega) (by omega) (by omega)
    rw [q3] at p1; exact p1
theorem zyV_n {A : zqA} {v : Int} (p : zyV A w a b c d) (k0 : 0 ≤ k) (k3 : k ≤ 3) (km : k < A.1 w) (q : ∀ j : Int, k ≤ j → j ≤ 3 → h 144 j = zyF 4 a b c d j) (hv : v = h 144 k) : 0 ≤ v ∧ v ≤ 19 := by
  obtain ⟨q0, q1, q2, q3⟩ := zyF_4 (a := a) (b := b) (c := c) (d := d)
  obtain ⟨-, p0, p1, p2, p3⟩ := p
  rw [hv, q k (by omega) k3]
  rcases j4 k0 k3 with e | e | e | e
  · rw [e, q0]; exact p0
  · rw [e, q1]; exact p1 (by omega)
  · rw [e, q2]; exact p2 (by omega)
  · rw [e, q3]; exact p3 (by omega)
/-- the row is laid -/
theorem cA_1 {o : Int} (e8 : ∀ j : Int, g 8 j = h 8 j) (fn : ∀ j : Int, 0 ≤ j → j < 4 → g 144 j = zyF m a b c d j) (f1 : h1 = my_cp g 144 0 8 o 4) (ho : o = 80 * w + 4 * a) : ∀ j : Int, h1 8 j = zqAdd (h 8) w a (zyF m a b c d) j := fun j => by
  unfold zqAdd
  by_cases z : 80 * w + 4 * a ≤ j ∧ j < 80 * w + 4 * a + 4
  · rw [if_pos z, my_cp_in f1 (by omega) (by omega), show (0 : Int) + (j - o) = j - (80 * w + 4 * a) by omega]
    exact fn _ (by omega) (by omega)
  · rw [if_neg z, my_cp_ne f1 (by omega)]; exact e8 j
end
end ZTP
section ZTQ
section
variable {h g g1 g2 g3 g4 : my_H} {a w k : Int} {F : Int → Int}
theorem cA_st (O : WOk h 7) (k0 : 0 ≤ a) (k9 : a ≤ 19) (a1 : 1 ≤ h 2 w) (fk : F 0 = a) (hf : ∀ c : Int, 0 ≤ c → c ≤ 3 → 0 ≤ F c ∧ F c ≤ 19) (fz : ∀ c : Int, h 2 w ≤ c → c ≤ 3 → F c = 0) : zqSt (zqCA h) (zqAdd (h 8) w a F) := zqSt_add k0 k9 O.1.2.2 a1 fk hf fz
theorem cA_l (O : WOk h 7) (st : zqSt (zqCA h) (zqAdd (h 8) w a F)) (eA : zqCA g = zqCA h) (e : ∀ j : Int, g 8 j = zqAdd (h 8) w a F j) : qLaw (zqCA g) (g 8) ↔ zqLf (zqCA h) (zqAdd (h 8) w a F) := by
  rw [eA, show g 8 = zqAdd (h 8) w a F from funext e]
  exact qLaw_lf O.2.1 (fun u a b => (O.2.2.1 u a b).2) st
theorem cA_w (ag : my_ag F5 h g2) (O : WOk h 7) (st : zqSt (zqCA h) (zqAdd (h 8) w a F)) (k0 : 0 ≤ a) (k9 : a ≤ 19) (w0 : 0 ≤ w) (w2 : w ≤ 2) (n : zqCn (h 8) w 20 < 10) (hr : h 8 (80 * w + 4 * a) = -1) (hf : ∀ c : Int, 0 ≤ c → c ≤ 3 → 0 ≤ F c ∧ F c ≤ 19) (lf : zqLf (zqCA h) (zqAdd (h 8) w a F)) (e : ∀ j : Int, g2 8 j = zqAdd (h 8) w a F j) (e9 : ∀ u : Int, 0 ≤ u → u ≤ 2 → g2 9 u = if u = w then h 9 u + 1 else h 9 u) : zqAg (zqAdd (h 8) w a F) (g2 8) ∧ WOk g2 7 := by
  refine ⟨fun j _ _ => e j, WOk_n (x := 7) ag O ⟨zqGd_add k0 k9 O.1.1 n hf, lf, st⟩ (fun j _ _ => e j) (fun u x y => ?_)⟩
  have f0 := hf 0 (by omega) (by omega)
  have q := O.2.2.2.2 u x y
  show g2 9 u = zqCn (zqAdd (h 8) w a F) u 20
  rw [e9 u x y, zqCn_add k0 k9 hr (by omega)]
  have q' : h 9 u = zqCn (h 8) u 20 := q
  rw [q']
theorem cA_9 {i z : Int} (e9 : ∀ j : Int, g 9 j = h 9 j) (f : g2 = my_up g 9 i z) (hi : i = w) (O : WOk h 7) (w0 : 0 ≤ w) (w2 : w ≤ 2) (hz : (0 ≤ g 9 i ∧ g 9 i ≤ 10) → z = g 9 i + 1) : ∀ u : Int, 0 ≤ u → u ≤ 2 → g2 9 u = if u = w then h 9 u + 1 else h 9 u := fun u x y => by
  have s := WOk_sz O w w0 w2
  have s' : 0 ≤ h 9 w ∧ h 9 w ≤ 10 := s
  by_cases q : u = w
  · rw [if_pos q, q, ← hi, my_up_self f, hz (by rw [e9, hi]; exact s'), e9]
  · rw [if_neg q, my_up_ne f (by omega), e9]
/-- the row is taken out again -/
theorem cA_b (ag : my_ag F5 h g3) (O : WOk h 7) (k0 : 0 ≤ a) (k9 : a ≤ 19) (w0 : 0 ≤ w) (w2 : w ≤ 2) (hr : h 8 (80 * w + 4 * a) = -1) (e : ∀ j : Int, g2 8 j = zqAdd (h 8) w a F j) (e9 : ∀ u : Int, 0 ≤ u → u ≤ 2 → g2 9 u = if u = w then h 9 u + 1 else h 9 u) (dr : ∀ j : Int, g3 (7 + 1) j = zqDrop (g2 (7 + 1)) w a j) (dz : ∀ j : Int, g3 (7 + 2) j = if j = w then g2 (7 + 2) j - 1 else g2 (7 + 2) j) : zqAg (h 8) (g3 8) ∧ WOk g3 7 := by
  have e8 : zqAg (h 8) (g3 8) := fun j x y => by
    have q : g3 8 j = zqDrop (g2 8) w a j := dr j
    rw [q]
    unfold zqDrop
    by_cases c0 : j = 80 * w + 4 * a
    · rw [if_pos c0, c0, hr]
    · rw [if_neg c0]
      by_cases c1 : 80 * w + 4 * a < j ∧ j < 80 * w + 4 * a + 4
      · rw [if_pos c1]
        have t := O.1.2.2 w a w0 w2 k0 k9
        rcases t with ⟨-, t1, t2, t3⟩ | ⟨t, -⟩
        · rcases (by omega : j = 80 * w + 4 * a + 1 ∨ j = 80 * w + 4 * a + 2 ∨ j = 80 * w + 4 * a + 3) with z | z | z
          · rw [z]; exact t1.symm
          · rw [z]; exact t2.symm
          · rw [z]; exact t3.symm
        · have t' : h 8 (80 * w + 4 * a) = a := t
          omega
      · rw [if_neg c1, e j]
        unfold zqAdd
        rw [if_neg (by omega)]
  refine ⟨e8, WOk_ag (x := 7) ag O e8 (fun u x y => ?_)⟩
  have q : g3 9 u = if u = w then g2 9 u - 1 else g2 9 u := dz u
  show g3 9 u = h 9 u
  rw [q, e9 u x y]
  by_cases z : u = w
  · rw [if_pos z, if_pos z]; omega
  · rw [if_neg z, if_neg z]
end
end ZTQ
