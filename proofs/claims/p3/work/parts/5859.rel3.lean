/-! windows are read alike: all is told alike -/
section ZWI
abbrev TwC : List (Nat × Int) := [(4, 0), (4, 1), (4, 2), (4, 3), (4, 4), (4, 5), (4, 6), (4, 7), (4, 8), (4, 9), (5, 2), (5, 4), (5, 5), (5, 6), (5, 7), (5, 8), (5, 9), (22, -1), (32, -1), (33, -1), (34, -1), (35, -1), (36, -1), (37, -1), (38, -1), (39, -1)]
abbrev TwM : List (Nat × Int) := [(10, 0), (10, 2), (10, 3), (10, 7), (10, 8), (10, 27), (10, 32), (10, 33), (52, -1), (53, -1), (54, -1), (63, -1), (64, -1), (65, -1), (66, -1), (67, -1), (68, -1), (69, -1), (70, -1), (71, -1), (72, -1), (73, -1), (74, -1), (75, -1), (76, -1), (77, -1), (78, -1), (79, -1)]
/-- what isn't a window's stays -/
theorem Sim_wo {h hc g : my_H} (f1 : my_fr TwC h hc) (f2 : my_fr TwM hc g) (w : SiW g) (p : Sim h) : Sim g := by
  obtain ⟨-, p2, l, p4, p5⟩ := p
  have ac : my_ag SlC h g := (my_ag.fr f1 rfl).tr (my_ag.fr f2 rfl)
  have e : ∀ k j : Int, 7 ≤ k → k ≤ 26 → g k j = h k j := fun k j y z => (bg26 f2 (by decide +kernel) k j y z).trans (bg26 f1 (by decide +kernel) k j y z)
  have o : Ot9 h g := (Ot9_e (fun j => my_fr.at f1 qis_162 rfl) (fun j => my_fr.at f1 qis_163 rfl)).tr (Ot9_e (fun j => my_fr.at f2 qis_162 rfl) (fun j => my_fr.at f2 qis_163 rfl))
  exact ⟨w, SiO_cg ac (fun k j x y => e k j x (by omega)) o p2, SiL_cg ac ((my_ag.fr f1 rfl).tr (my_ag.fr f2 rfl)) l, SiD_cg ((my_ag.fr f1 rfl).tr (my_ag.fr f2 rfl)) p4, SiM_cg ac (fun k j x y => e k j (by omega) y) (fun j => (my_fr.at f2 qis_202 rfl).trans (my_fr.at f1 qis_202 rfl)) (fun s x y => o.ms (by omega) (by omega)) p5⟩
/-- a window is read, and told -/
theorem Sim_win {h hc g : my_H} {w n : Int} (Lh : Ln h) (Lc : Ln hc) (Lg : Ln g) (Q : Ceq h) (Qg : Ceq g) (T : Teq h) (N : Wnq h) (Ng : Wnq g) (f1 : my_fr TwC h hc) (f2 : my_fr TwM hc g) (w0 : 0 ≤ w) (w5 : w ≤ 5) (U : Un h w) (nu : ∀ k : Int, 0 ≤ k → k ≤ 5 → hc 164 k = 1 → hc 165 k = 0 → hc 166 k ≠ w) (t6 : ∀ k : Int, 0 ≤ k → k ≤ 6 → 0 ≤ hc 167 k ∧ hc 167 k ≤ 6) (mt : Mt (tm_of hc) g n) (pc : NwP h hc w ∧ LoN h hc w ∧ LwA hc) (pm : NwM hc g w ∧ LoM hc g w) (p : Sim h) : Sim g := by
  have et : tm_of hc = tm_of h := Prod.ext (funext (fun j => my_fr.at f1 is_152 rfl)) (my_fr.at f1 is_151 rfl)
  have gm : my_ag LmF h hc := my_ag.fr f1 rfl
  have gc : my_ag WcF hc g := my_ag.fr f2 rfl
  have ne := NwE_mk w5 Q T N (my_ag.fr f1 rfl) et mt pc.1 pm.1
  have mc := (MwW_1 (my_ag.fr f1 rfl) N).1
  have WP := WpE_new ne Lh Lc Lg U pc.2.1 pm.2 mc Ng.2.2.2.1 (LmW_ag gm p.1.2.1) t6 gm gc (fun j => my_fr.at f2 mis_157 rfl) nu N.2.1 w0 w5 p.1.2.2
  have LA : LwA g := LwA_c Lc (my_ag.fr f2 rfl) pc.2.2
  exact Sim_wo f1 f2 ⟨LA, LmW_p LA Qg Ng.2.1 WP, WP⟩ p
/-- windows that are not over w, of the class -/
theorem LwA_N {h hc : my_H} {w : Int} (N : LoN h hc w) (L : Ln h) (U : Un h w) (e2 : ∀ j : Int, hc 2 j = h 2 j) (hw : w < 0) (p : LwA h) : LwA hc := by
  have old : ∀ v : Int, 0 ≤ v → v ≤ 5 → hc (hc 27 v) 0 = 1 → h (h 27 v) 0 = 1 := fun v v0 v5 t => by
    obtain ⟨e27, eF, -⟩ := N v v0 v5 (by omega)
    rw [e27, eF 0] at t
    exact t
  refine ⟨fun v v0 v5 t => ?_, fun v v0 v5 t => ?_⟩
  · have t' := old v v0 v5 t
    obtain ⟨e27, eF, -⟩ := N v v0 v5 (by omega)
    rw [e27, eF 3, eF 2, show zqCW hc v = zqCW h v from zqCf_N N L U 6 v v0 v5 (by omega) t']
    exact p.1 v v0 v5 t'
  · have t' := old v v0 v5 t
    obtain ⟨e27, eF, eA⟩ := N v v0 v5 (by omega)
    obtain ⟨d1, d2, d3, d4, d5, d6, d7, d8⟩ := p.2 v v0 v5 t'
    unfold LwD1
    rw [e27, eF 4, eF 3, eF 2, eF 8, eF 6, eF 7, show zqCW hc v = zqCW h v from zqCf_N N L U 6 v v0 v5 (by omega) t']
    refine ⟨d1, fun c a b => by rw [eA 6 c (by omega) (by omega)]; exact d2 c a b, d3, d4, d5, by rw [e2]; exact d6, d7, fun c a b => by rw [eA 7 c (by omega) (by omega)]; exact d8 c a b⟩
/-- a window is read, and not told -/
theorem Sim_wnt {h hc g : my_H} (Lh : Ln h) (Lc : Ln hc) (N : Wnq h) (Ng : Wnq g) (Qg : Ceq g) (f1 : my_fr TwC h hc) (f2 : my_fr TwM hc g) (t6 : ∀ k : Int, 0 ≤ k → k ≤ 6 → 0 ≤ hc 167 k ∧ hc 167 k ≤ 6) (lz : LoZ h hc) (ko : Ko hc g) (kf : Kf hc g) (p : Sim h) : Sim g := by
  have oc : LoN h hc (-2) := fun v a b _ => lz v a b
  have U : Un h (-2) := fun v a b t => by
    obtain ⟨q1, -⟩ := Lh.2.2.2.2 v a b t
    omega
  have om : LoM hc g (-2) := ⟨fun k a _ => ko.1 k a, fun i a _ => ko.2.1 i a, fun i a _ => ko.2.2 i a, fun i a _ => kf i a⟩
  have gm : my_ag LmF h hc := my_ag.fr f1 rfl
  have gc : my_ag WcF hc g := my_ag.fr f2 rfl
  have mc := (MwW_1 (my_ag.fr f1 rfl) N).1
  have e57 : ∀ j : Int, g 157 j = hc 157 j := fun j => my_fr.at f2 mis_157 rfl
  have nu : ∀ k : Int, 0 ≤ k → k ≤ 5 → hc 164 k = 1 → hc 165 k = 0 → hc 166 k ≠ -2 := fun k a b t _ => by
    obtain ⟨⟨-, o2, -⟩, -⟩ := mc k a b t
    omega
  have e64 : ∀ j : Int, hc 164 j = h 164 j := fun j => gm.at mis_164 rfl
  have e65 : ∀ j : Int, hc 165 j = h 165 j := fun j => gm.at mis_165 rfl
  have e66 : ∀ j : Int, hc 166 j = h 166 j := fun j => gm.at mis_166 rfl
  have e73 : ∀ j : Int, hc 173 j = h 173 j := fun j => gm.at pis_173 rfl
  obtain ⟨em, -, -, -⟩ := Lm_e gm
  have c27 : ∀ v : Int, g 27 v = hc 27 v := fun v => gc.at pis_27 rfl
  have LC : LwA hc := LwA_N oc Lh U (fun j => my_fr.at f1 pis_2 rfl) (by omega) p.1.1
  have LA : LwA g := LwA_c Lc (my_ag.fr f2 rfl) LC
  have Lm : LmW hc := LmW_ag gm p.1.2.1
  have WP : ∀ v : Int, 0 ≤ v → v ≤ 5 → g 164 v = 1 → WpE g v := fun v v0 v5 tg => by
    have t : hc 164 v = 1 := by rw [← (ko.1 v v5).1]; exact tg
    have th : h 164 v = 1 := by rw [← e64]; exact t
    have tc : h (h 27 v) 0 = 1 := by rw [N.2.1 v v0 v5]; exact th
    obtain ⟨o27, oF, oA⟩ := oc v v0 v5 (by omega)
    have tcc : hc (hc 27 v) 0 = 1 := by rw [o27, oF]; exact tc
    have hL := Lc.2.2.1 v v0 v5
    obtain ⟨m1, m2, m3⟩ := mCf_N mc Lm t6 om e57 nu 6 v v0 v5 (by omega) t
    obtain ⟨p1, p2, p3⟩ := p.1.2.2 v v0 v5 th
    have eC : zqCW g v = zqCW h v := (zqCW_ag (gc.mo rfl) Lc v0 v5 tcc).trans (zqCf_N oc Lh U 6 v v0 v5 (by omega) tc)
    have eFl : ∀ c : Int, 0 ≤ c → c ≤ 3 → mFil g v c = mFil h v c := fun c c0 c3 => by
      refine (m3 c c0 c3).trans ?_
      have go : ∀ (f : Nat) (u : Int), mFf hc c f u = mFf h c f u := fun f => by
        induction f with
        | zero => intro u; rfl
        | succ f ih => intro u; rw [mFf, mFf, e73, e65, e66, ih]
      exact go 6 v
    refine ⟨?_, ?_, fun c c0 c3 => ?_⟩
    · rw [c27, show g (hc 27 v) 2 = hc (hc 27 v) 2 from gc.at hL rfl, o27, oF, p1]
      exact ((em v).2.1).symm.trans m2.symm
    · rw [eC]
      exact p2.tr (by rw [← (em v).1]; exact PEqL.sy m1)
    · rw [c27, show g (hc 27 v + 7) c = hc (hc 27 v + 7) c from gc.at (pix_7z hL) rfl, o27, oA 7 c (by omega) (by omega), p3 c c0 c3, eFl c c0 c3]
  exact Sim_wo f1 f2 ⟨LA, LmW_p LA Qg Ng.2.1 WP, WP⟩ p
end ZWI
section ZWJ
abbrev LvF : List (Nat × Int) := [(63, -1), (64, -1), (65, -1), (66, -1), (67, -1), (68, -1), (69, -1), (70, -1), (71, -1), (72, -1)]
theorem mPk_w {h g : my_H} {p : Int} (a : my_ag LvF h g) (s : ∀ j : Int, 1 ≤ h 157 j → g 157 j = h 157 j) (k : h 168 p = 4 → 1 ≤ h 157 (h 170 p)) : mPk g p = mPk h p := by
  unfold mPk
  rw [show g 168 p = h 168 p from a.at mis_168 rfl, show g 169 p = h 169 p from a.at mis_169 rfl, show g 170 p = h 170 p from a.at mis_170 rfl, show g 171 p = h 171 p from a.at mis_171 rfl, show g 172 = h 172 from funext fun j => a.at mis_172 rfl]
  by_cases q : h 168 p = 4
  · rw [s _ (k q)]
  · rw [if_neg (show ¬ h 168 p = 4 from q), if_neg (show ¬ h 168 p = 4 from q)]
theorem mPs_w {h g : my_H} {w : Int} (a : my_ag LvF h g) (s : ∀ j : Int, 1 ≤ h 157 j → g 157 j = h 157 j) : ∀ n : Nat, (∀ i : Nat, i < n → h 168 (6 * w + (i : Int)) = 4 → 1 ≤ h 157 (h 170 (6 * w + (i : Int)))) → mPs g w n = mPs h w n
  | 0, _ => rfl
  | n + 1, k => by rw [mPs, mPs, mPk_w a s (k n (by omega)), mPs_w a s n (fun i hi => k i (by omega))]
theorem mCf_w {h g : my_H} {W : Int → Int} (M : MwW h W) (L : LmW h) (a : my_ag LvF h g) (s : ∀ j : Int, 1 ≤ h 157 j → g 157 j = h 157 j) : ∀ (f : Nat) (v : Int), 0 ≤ v → v ≤ 5 → h 164 v = 1 → mCf g f v = mCf h f v ∧ mBf g f v = mBf h f v ∧ ∀ c : Int, mFf g c f v = mFf h c f v
  | 0, _, _, _, _ => ⟨rfl, rfl, fun _ => rfl⟩
  | f + 1, v, v0, v5, t => by
    obtain ⟨⟨o1, o2, o3, o4, -⟩, -⟩ := M v v0 v5 t
    obtain ⟨wf, -⟩ := L v v0 v5 t
    rw [(mCW_eq M v0 v5 t).1] at wf
    have own : mPs g v (h 167 v).toNat = mPs h v (h 167 v).toNat := mPs_w a s _ (fun i hi k4 => by
      have z := (mWf_ps wf hi).2
      rw [mPk_4 k4] at z
      exact (z.2.1 rfl).2.2.2.2.1)
    have e5 : g 165 v = h 165 v := a.at mis_165 rfl
    have e6 : g 166 v = h 166 v := a.at mis_166 rfl
    have e7 : g 167 v = h 167 v := a.at mis_167 rfl
    have e3 : ∀ j : Int, g 173 j = h 173 j := fun j => a.at pis_173 rfl
    have up : h 165 v ≠ 1 → mCf g f (h 166 v) = mCf h f (h 166 v) ∧ mBf g f (h 166 v) = mBf h f (h 166 v) ∧ ∀ c : Int, mFf g c f (h 166 v) = mFf h c f (h 166 v) := fun z => by
      have q := o4 (by omega)
      exact mCf_w M L a s f (h 166 v) o2 (by omega) q.2
    refine ⟨?_, ?_, fun c => ?_⟩
    · rw [mCf, mCf, e5, e6, e7, own]
      by_cases z : h 165 v = 1
      · rw [if_pos z, if_pos z]
      · rw [if_neg z, if_neg z, (up z).1]
    · rw [mBf, mBf, e5, e6]
      by_cases z : h 165 v = 1
      · rw [if_pos z, if_pos z]
      · rw [if_neg z, if_neg z, (up z).2.1]
    · rw [mFf, mFf, e5, e6, e3]
      by_cases z : h 165 v = 1
      · rw [if_pos z, if_pos z]
      · rw [if_neg z, if_neg z, (up z).2.2 c]
theorem LwA_w {h g : my_H} (n : Ln h) (a : my_ag WcF h g) (s : ∀ j : Int, 1 ≤ h 2 j → g 2 j = h 2 j) (p : LwA h) : LwA g := by
  refine ⟨Lw_ag (a.mo rfl) n p.1, fun w w0 w5 t => ?_⟩
  have hL := n.2.2.1 w w0 w5
  have e27 : g 27 w = h 27 w := a.at pis_27 rfl
  have eL : ∀ f : Int, g (h 27 w) f = h (h 27 w) f := fun f => a.at hL rfl
  rw [e27, eL] at t
  have eC : zqCW g w = zqCW h w := zqCW_ag (a.mo rfl) n w0 w5 t
  have e6 : ∀ j : Int, g (h 27 w + 6) j = h (h 27 w + 6) j := fun j => a.at (pix_6q hL) rfl
  have e7 : ∀ j : Int, g (h 27 w + 7) j = h (h 27 w + 7) j := fun j => a.at (pix_7z hL) rfl
  obtain ⟨d1, d2, d3, d4, d5, d6, d7, d8⟩ := p.2 w w0 w5 t
  unfold LwD1
  rw [e27, eC, eL 2, eL 3, eL 4, eL 6, eL 7, eL 8]
  exact ⟨d1, fun c x y => (e6 c).trans (d2 c x y), d3, d4, d5, (s _ (by omega)).trans d6, d7, fun c x y => (e7 c).trans (d8 c x y)⟩
/-- a wall that wasn't told holds no rows -/
theorem zqSt_w {A B : zqA} {S : Int → Int} {x : Int} (z : A.1 x ≤ 0) (e : ∀ w : Int, w ≠ x → B.1 w = A.1 w) (p : zqSt A S) : zqSt B S := fun w k a b c d => by
  rcases p w k a b c d with q | ⟨q1, q2, q3⟩
  · exact Or.inl q
  · have ne : w ≠ x := fun y => by rw [y] at q2; omega
    exact Or.inr ⟨q1, by rw [e w ne]; exact q2, by rw [e w ne]; exact q3⟩
/-- a wall is told -/
theorem Sim_wall {h hc g : my_H} {x y : Int} (n : Ln h) (to : ToE h) (N : Wnq h) (f1 : my_fr [(25, -1)] h hc) (f2 : my_fr [(10, 0), (56, -1)] hc g) (x0 : 0 ≤ x) (x2 : x ≤ 2) (z : h 2 x ≤ 0) (y1 : 1 ≤ y) (y4 : y ≤ 4) (u : hc = my_up h 2 x y) (e : g 157 x = y) (e' : ∀ j : Int, j ≠ x → g 157 j = hc 157 j) (p : Sim h) : Sim g := by
  obtain ⟨⟨pA, pM, pW⟩, ⟨⟨⟨wg, wl, ws⟩, ld, k4, n5, sz⟩, ag⟩, l, p4, p5⟩ := p
  have a : my_ag WcF h g := (my_ag.fr f1 rfl).tr (my_ag.fr f2 rfl)
  have b : my_ag LvF h g := (my_ag.fr f1 rfl).tr (my_ag.fr f2 rfl)
  have g2 : ∀ j : Int, g 2 j = hc 2 j := fun j => my_fr.at f2 pis_2 rfl
  have g2n : ∀ j : Int, j ≠ x → g 2 j = h 2 j := fun j ne => by rw [g2, my_up_ne u (by omega)]
  have g2x : g 2 x = y := by rw [g2, my_up_self u]
  have m2n : ∀ j : Int, j ≠ x → g 157 j = h 157 j := fun j ne => by rw [e' j ne]; exact my_fr.at f1 mis_157 rfl
  have l1 : ∀ w : Int, 0 ≤ w → w ≤ 2 → h 2 w = h 157 w := l.1
  have zm : h 157 x ≤ 0 := by rw [← l1 x x0 x2]; exact z
  have s2 : ∀ j : Int, 1 ≤ h 2 j → g 2 j = h 2 j := fun j q => g2n j (fun w => by rw [w] at q; omega)
  have s157 : ∀ j : Int, 1 ≤ h 157 j → g 157 j = h 157 j := fun j q => m2n j (fun w => by rw [w] at q; omega)
  have E3 : g 3 = h 3 := funext fun j => (my_fr.at f2 pis_3 rfl).trans (my_fr.at f1 pis_3 rfl)
  have E4 : g 4 = h 4 := funext fun j => (my_fr.at f2 pis_4 rfl).trans (my_fr.at f1 pis_4 rfl)
  have E5 : g 5 = h 5 := funext fun j => (my_fr.at f2 pis_5 rfl).trans (my_fr.at f1 pis_5 rfl)
  have E6 : g 6 = h 6 := funext fun j => (my_fr.at f2 pis_6 rfl).trans (my_fr.at f1 pis_6 rfl)
  have R : ∀ k j : Int, 7 ≤ k → k ≤ 26 → g k j = h k j := fun k j q r => (bg26 f2 (by decide +kernel) k j q r).trans (bg26 f1 (by decide +kernel) k j q r)
  have o : Ot9 h g := (Ot9_e (fun j => my_fr.at f1 qis_162 rfl) (fun j => my_fr.at f1 qis_163 rfl)).tr (Ot9_e (fun j => my_fr.at f2 qis_162 rfl) (fun j => my_fr.at f2 qis_163 rfl))
  have e8 : g 8 = h 8 := funext fun j => R 8 j (by omega) (by omega)
  have st : ∀ S : Int → Int, zqSt (zqCA h) S → zqSt (zqCA g) S := fun S q => zqSt_w (A := zqCA h) (B := zqCA g) (x := x) z g2n q
  have t64 : ∀ j : Int, g 164 j = h 164 j := fun j => b.at mis_164 rfl
  have LA : LwA g := LwA_w n a s2 pA
  have mw := mCf_w N.2.2.2.1 pM b s157
  have WP : ∀ v : Int, 0 ≤ v → v ≤ 5 → g 164 v = 1 → WpE g v := fun v v0 v5 tg => by
    have t : h 164 v = 1 := by rw [← t64]; exact tg
    have hL := n.2.2.1 v v0 v5
    obtain ⟨m1, m2, m3⟩ := mw 6 v v0 v5 t
    obtain ⟨p1, p2, p3⟩ := pW v v0 v5 t
    have e27 : g 27 v = h 27 v := a.at pis_27 rfl
    refine ⟨?_, ?_, fun c c0 c3 => ?_⟩
    · rw [e27, show g (h 27 v) 2 = h (h 27 v) 2 from a.at hL rfl, p1]
      exact m2.symm
    · rw [zqCW_ag (a.mo rfl) n v0 v5 (by rw [to v v0 v5]; exact t)]
      have : mCW g v = mCW h v := m1
      rw [this]; exact p2
    · rw [e27, show g (h 27 v + 7) c = h (h 27 v + 7) c from a.at (pix_7z hL) rfl, p3 c c0 c3]
      exact (m3 c).symm
  have C : ∀ v : Int, 0 ≤ v → v ≤ 2 → g 2 v = g 157 v := fun v v0 v2 => by
    by_cases q : v = x
    · rw [q, g2x, e]
    · rw [g2n v q, m2n v q]; exact l1 v v0 v2
  have tog : ToE g := fun v v0 v5 => by
    have hL := n.2.2.1 v v0 v5
    rw [show g 27 v = h 27 v from a.at pis_27 rfl, show g (h 27 v) 0 = h (h 27 v) 0 from a.at hL rfl, t64]
    exact to v v0 v5
  refine ⟨⟨LA, LmW_p LA C tog WP, WP⟩, ⟨⟨⟨?_, ?_, ?_⟩, ?_, fun w w0 w2 => ?_, fun q q0 q9 => by rw [E5]; exact n5 q q0 q9, fun w w0 w2 => ?_⟩, ?_⟩, ⟨C, fun q q0 q9 => ?_⟩, SiD_cg ((my_ag.fr f1 rfl).tr (my_ag.fr f2 rfl)) p4, fun m m0 m3 => ?_⟩
  · show zqGd (g 8)
    rw [e8]; exact wg
  · show zqLf (zqCA g) (g 8)
    rw [e8]
    intro w k c w0 w2 k0 k9 c0 c1 hr
    have ne : w ≠ x := fun q => by
      rcases ws w k w0 w2 k0 k9 with r | ⟨-, r, -⟩
      · exact hr r.1
      · rw [q] at r; have r' : 1 ≤ h 2 x := r; omega
    have c1' : c < h 2 w := by rw [← g2n w ne]; exact c1
    have q := wl w k c w0 w2 k0 k9 c0 c1' hr
    unfold zqOk at q ⊢
    show g 3 (4 * w + c) ≤ _ ∧ _ ≤ g 4 (4 * w + c) ∧ (g 5 (4 * w + c) ≠ -1 → zqHas (h 8) (g 5 (4 * w + c)) _) ∧ (g 6 (4 * w + c) = 1 → _)
    rw [E3, E4, E5, E6]
    exact q
  · show zqSt (zqCA g) (g 8)
    rw [e8]; exact st _ ws
  · intro w c w0 w2 c0 c3 q
    have q' : h 2 w ≤ c := by
      have q1 : g 2 w ≤ c := q
      by_cases r : w = x
      · rw [r]; omega
      · rw [← g2n w r]; exact q1
    show g 3 (4 * w + c) = 0 ∧ g 4 (4 * w + c) = 19 ∧ g 5 (4 * w + c) = -1 ∧ g 6 (4 * w + c) = 0
    rw [E3, E4, E5, E6]
    exact ld w c w0 w2 c0 c3 q'
  · by_cases r : w = x
    · rw [r, g2x]; omega
    · rw [g2n w r]; exact k4 w w0 w2
  · show g 9 w = zqCn (g 8) w 20
    rw [e8, R 9 w (by omega) (by omega)]; exact sz w w0 w2
  · rw [e8]; exact zqAg_t ag (o.ms (by omega) (by omega))
  · show g 3 q = g 158 q ∧ g 4 q = g 159 q ∧ g 5 q = g 160 q ∧ g 6 q = g 161 q
    rw [E3, E4, E5, E6, show g 158 = h 158 from funext fun j => (my_fr.at f2 pis_158 rfl).trans (my_fr.at f1 pis_158 rfl), show g 159 = h 159 from funext fun j => (my_fr.at f2 pis_159 rfl).trans (my_fr.at f1 pis_159 rfl), show g 160 = h 160 from funext fun j => (my_fr.at f2 pis_160 rfl).trans (my_fr.at f1 pis_160 rfl), show g 161 = h 161 from funext fun j => (my_fr.at f2 pis_161 rfl).trans (my_fr.at f1 pis_161 rfl)]
    exact l.2 q q0 q9
  · obtain ⟨q1, q2, q3⟩ := p5 m m0 m3
    rw [R 13 m (by omega) (by omega), R 26 m (by omega) (by omega), show g 202 m = h 202 m from (my_fr.at f2 qis_202 rfl).trans (my_fr.at f1 qis_202 rfl)]
    refine ⟨q1, q2, fun t => ?_⟩
    obtain ⟨⟨r1, r2, r3⟩, r4⟩ := q3 t
    have F1 : g (14 + 3 * m + 1) = h (14 + 3 * m + 1) := funext fun j => R _ j (by omega) (by omega)
    refine ⟨⟨by rw [F1]; exact r1, by rw [F1]; exact st _ r2, fun w w0 w2 => by rw [F1, R (14 + 3 * m + 2) w (by omega) (by omega)]; exact r3 w w0 w2⟩, ?_⟩
    rw [show g (15 + 3 * m) = h (15 + 3 * m) from funext fun j => R _ j (by omega) (by omega)]
    exact zqAg_t r4 (o.ms (by omega) (by omega))
end ZWJ
