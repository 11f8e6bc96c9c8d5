/-! class and reference hold the same walls, laws, windows, drafts and marks -/
section ZWD
abbrev LcF : List (Nat × Int) := [(22, -1), (4, -1), (32, -1), (33, -1), (34, -1), (35, -1), (36, -1), (37, -1), (38, -1), (25, -1)]
abbrev SlC : List (Nat × Int) := [(25, -1), (26, -1), (27, -1), (28, -1), (29, -1)]
abbrev SlM : List (Nat × Int) := [(56, -1), (57, -1), (58, -1), (59, -1), (60, -1)]
abbrev SqF : List (Nat × Int) := [(22, -1), (4, -1), (32, -1), (33, -1), (34, -1), (35, -1), (36, -1), (37, -1), (38, -1), (23, -1), (25, -1), (26, -1), (27, -1), (28, -1), (29, -1), (56, -1), (57, -1), (58, -1), (59, -1), (60, -1), (63, -1), (64, -1), (65, -1), (66, -1), (67, -1), (68, -1), (69, -1), (70, -1), (71, -1), (72, -1), (87, -1), (101, -1)]
theorem qis_202 : my_is 101 202 := by unfold my_is; decide +kernel
theorem LwA_c {h g : my_H} (n : Ln h) (a : my_ag LcF h g) (p : LwA h) : LwA g := by
  refine ⟨Lw_ag (a.mo rfl) n p.1, fun w w0 w5 t => ?_⟩
  have hL := n.2.2.1 w w0 w5
  have e27 : g 27 w = h 27 w := a.at pis_27 rfl
  have eL : ∀ f : Int, g (h 27 w) f = h (h 27 w) f := fun f => a.at hL rfl
  rw [e27, eL] at t
  have eC : zqCW g w = zqCW h w := zqCW_ag (a.mo rfl) n w0 w5 t
  have e6 : ∀ j : Int, g (h 27 w + 6) j = h (h 27 w + 6) j := fun j => a.at (pix_6q hL) rfl
  have e7 : ∀ j : Int, g (h 27 w + 7) j = h (h 27 w + 7) j := fun j => a.at (pix_7z hL) rfl
  have e2 : ∀ j : Int, g 2 j = h 2 j := fun j => a.at pis_2 rfl
  have D := p.2 w w0 w5 t
  unfold LwD1 at D ⊢
  rw [e27, eC, eL 2, eL 3, eL 4, eL 6, eL 7, eL 8, e2]
  obtain ⟨d1, d2, d3, d4, d5, d6, d7, d8⟩ := D
  exact ⟨d1, fun c x y => (e6 c).trans (d2 c x y), d3, d4, d5, d6, d7, fun c x y => (e7 c).trans (d8 c x y)⟩
theorem CA_c {h g : my_H} (a : my_ag SlC h g) : zqCA g = zqCA h := zqCA_e (fun j => a.at pis_2 rfl) (fun j => a.at pis_3 rfl) (fun j => a.at pis_4 rfl) (fun j => a.at pis_5 rfl) (fun j => a.at pis_6 rfl)
theorem MA_c {h g : my_H} (a : my_ag SlM h g) : zqMA g = zqMA h := by
  unfold zqMA
  rw [show g 157 = h 157 from funext fun j => a.at mis_157 rfl, show g 158 = h 158 from funext fun j => a.at pis_158 rfl, show g 159 = h 159 from funext fun j => a.at pis_159 rfl, show g 160 = h 160 from funext fun j => a.at pis_160 rfl, show g 161 = h 161 from funext fun j => a.at pis_161 rfl]
theorem WOk_c {h g : my_H} {x : Int} (a : my_ag SlC h g) (O : WOk h x) (e1 : ∀ j : Int, g (x + 1) j = h (x + 1) j) (e2 : ∀ j : Int, g (x + 2) j = h (x + 2) j) : WOk g x := by
  obtain ⟨wo, ld, c4, n5, sz⟩ := O
  have eA := CA_c a
  have f1 : g (x + 1) = h (x + 1) := funext e1
  exact ⟨by rw [eA, f1]; exact wo, by rw [eA]; exact ld, fun u y b => by rw [show g 2 u = h 2 u from a.at pis_2 rfl]; exact c4 u y b, fun p y b => by rw [show g 5 p = h 5 p from a.at pis_5 rfl]; exact n5 p y b, fun u y b => by rw [e2, f1]; exact sz u y b⟩
theorem mkW_c {h g : my_H} {x : Int} (a : my_ag SlC h g) (e1 : ∀ j : Int, g (x + 1) j = h (x + 1) j) (e2 : ∀ j : Int, g (x + 2) j = h (x + 2) j) (p : mkW h x) : mkW g x := by
  obtain ⟨p1, p2, p3⟩ := p
  have f1 : g (x + 1) = h (x + 1) := funext e1
  exact ⟨by rw [f1]; exact p1, by rw [CA_c a, f1]; exact p2, fun u y b => by rw [e2, f1]; exact p3 u y b⟩
theorem OtT_ms {h g : my_H} {a b c s : Int} (p : OtT h g a b c) (s8 : s ≠ 8) (sa : s ≠ a) (sb : s ≠ b) (sc : s ≠ c) : zqAg (zqMS h s) (zqMS g s) := fun j x y => by
  obtain ⟨q1, q2⟩ := p s s8 sa sb sc
  unfold zqMS
  rw [q1 (j / 4) (by omega) (by omega), q2 j x y]
theorem zqAg_t {S T U : Int → Int} (p : zqAg S T) (q : zqAg T U) : zqAg S U := fun j a b => (q j a b).trans (p j a b)
/-- all windows that are told are told alike, and rightly -/
def SiW (h : my_H) : Prop := LwA h ∧ LmW h ∧ ∀ w : Int, 0 ≤ w → w ≤ 5 → h 164 w = 1 → WpE h w
/-- the walls -/
def SiO (h : my_H) : Prop := WOk h 7 ∧ zqAg (h 8) (zqMS h 0)
/-- the laws -/
def SiL (h : my_H) : Prop := LEq (zqCA h) (zqMA h)
/-- the draft -/
def SiD (h : my_H) : Prop := ∀ j : Int, 0 ≤ j → j ≤ 7 → h 93 j = h 188 j
/-- the marks -/
def SiM (h : my_H) : Prop := ∀ m : Int, 0 ≤ m → m ≤ 3 → h 13 m = 14 + 3 * m ∧ h 26 m = h 202 m ∧ (h 26 m = 1 → mkW h (14 + 3 * m) ∧ zqAg (h (15 + 3 * m)) (zqMS h (1 + m)))
def Sim (h : my_H) : Prop := SiW h ∧ SiO h ∧ SiL h ∧ SiD h ∧ SiM h
/-- told alike -/
def ToE (h : my_H) : Prop := ∀ v : Int, 0 ≤ v → v ≤ 5 → h (h 27 v) 0 = h 164 v
theorem SiW_cg {h g : my_H} (n : Ln h) (to : ToE h) (a : my_ag LcF h g) (b : my_ag LmF h g) (p : SiW h) : SiW g := by
  refine ⟨LwA_c n a p.1, LmW_ag b p.2.1, fun w w0 w5 t => ?_⟩
  have t' : h 164 w = 1 := by rw [← show g 164 w = h 164 w from b.at mis_164 rfl]; exact t
  exact WpE_cg n (a.mo rfl) b w0 w5 (by rw [to w w0 w5]; exact t') (p.2.2 w w0 w5 t')
theorem SiO_cg {h g : my_H} (a : my_ag SlC h g) (e : ∀ k j : Int, 7 ≤ k → k ≤ 9 → g k j = h k j) (o : Ot9 h g) (p : SiO h) : SiO g :=
  ⟨WOk_c a p.1 (fun j => e _ j (by omega) (by omega)) (fun j => e _ j (by omega) (by omega)), fun j x y => (o.ms (s := 0) (by omega) (by omega) j x y).trans ((p.2 j x y).trans (e 8 j (by omega) (by omega)).symm)⟩
theorem SiL_cg {h g : my_H} (a : my_ag SlC h g) (b : my_ag SlM h g) (p : SiL h) : SiL g := by
  unfold SiL
  rw [CA_c a, MA_c b]
  exact p
theorem SiD_cg {h g : my_H} (a : my_ag [(23, -1), (87, -1)] h g) (p : SiD h) : SiD g := fun j x y => by
  rw [show g 93 j = h 93 j from a.at pis_93 rfl, show g 188 j = h 188 j from a.at pis_188 rfl]
  exact p j x y
theorem SiM_cg {h g : my_H} (a : my_ag SlC h g) (e : ∀ k j : Int, 13 ≤ k → k ≤ 26 → g k j = h k j) (e2 : ∀ j : Int, g 202 j = h 202 j) (o : ∀ s : Int, 1 ≤ s → s ≤ 4 → zqAg (zqMS h s) (zqMS g s)) (p : SiM h) : SiM g := by
  intro m m0 m3
  obtain ⟨p1, p2, p3⟩ := p m m0 m3
  rw [e 13 m (by omega) (by omega), e 26 m (by omega) (by omega), e2]
  refine ⟨p1, p2, fun t => ?_⟩
  obtain ⟨q1, q2⟩ := p3 t
  exact ⟨mkW_c a (fun j => e _ j (by omega) (by omega)) (fun j => e _ j (by omega) (by omega)) q1, fun j x y => (o (1 + m) (by omega) (by omega) j x y).trans ((q2 j x y).trans (e (15 + 3 * m) j (by omega) (by omega)).symm)⟩
/-- a call that changes none of it -/
theorem Sim_q {h g : my_H} (n : Ln h) (to : ToE h) (a : my_ag SqF h g) (e : ∀ k j : Int, 7 ≤ k → k ≤ 26 → g k j = h k j) (o : Ot9 h g) (p : Sim h) : Sim g := by
  obtain ⟨p1, p2, p3, p4, p5⟩ := p
  exact ⟨SiW_cg n to (a.mo rfl) (a.mo rfl) p1, SiO_cg (a.mo rfl) (fun k j x y => e k j x (by omega)) o p2, SiL_cg (a.mo rfl) (a.mo rfl) p3, SiD_cg (a.mo rfl) p4, SiM_cg (a.mo rfl) (fun k j x y => e k j (by omega) y) (fun j => a.at qis_202 rfl) (fun s x y => o.ms (by omega) (by omega)) p5⟩
/-- both change the walls alike -/
theorem Sim_w {h hc g : my_H} (n : Ln h) (to : ToE h) (a : my_ag SqF h hc) (b : my_ag SqF hc g) (wo : WOk hc 7) (er : ∀ k j : Int, 13 ≤ k → k ≤ 26 → hc k j = h k j) (em : ∀ k j : Int, 7 ≤ k → k ≤ 26 → g k j = hc k j) (o : ∀ s : Int, 1 ≤ s → s ≤ 4 → zqAg (zqMS h s) (zqMS g s)) (ag : zqAg (hc 8) (zqMS g 0)) (p : Sim h) : Sim g := by
  obtain ⟨p1, p2, p3, p4, p5⟩ := p
  have c : my_ag SqF h g := a.tr b
  exact ⟨SiW_cg n to (c.mo rfl) (c.mo rfl) p1, ⟨WOk_c (b.mo rfl) wo (fun j => em _ j (by omega) (by omega)) (fun j => em _ j (by omega) (by omega)), fun j x y => (ag j x y).trans (em 8 j (by omega) (by omega)).symm⟩, SiL_cg (c.mo rfl) (c.mo rfl) p3, SiD_cg (c.mo rfl) p4, SiM_cg (c.mo rfl) (fun k j x y => (em k j (by omega) y).trans (er k j x y)) (fun j => c.at qis_202 rfl) o p5⟩
end ZWD
