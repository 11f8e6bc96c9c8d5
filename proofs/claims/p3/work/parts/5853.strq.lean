/-! windows: what is told of them is told alike -/
section ZWA
theorem zqFo_D {og D D' : Int → Int} {t : Int} : ∀ n : Nat, (∀ k : Int, 0 ≤ k → k < n → D k = D' k) → zqFo og t D n = zqFo og t D' n
  | 0, _ => rfl
  | n + 1, h => by rw [zqFo, zqFo, zqFo_D n (fun k a b => h k a (by omega)), h n (by omega) (by omega)]
/-- window w is told alike, pane by pane -/
def WpE (h : my_H) (w : Int) : Prop := h (h 27 w) 2 = mBs h w ∧ PEqL (zqCW h w) (mCW h w) ∧ ∀ c : Int, 0 ≤ c → c ≤ 3 → h (h 27 w + 7) c = mFil h w c
theorem WAl_p {h : my_H} {w : Int} (L : LwA h) (M : LmW h) (C : ∀ v : Int, 0 ≤ v → v ≤ 2 → h 2 v = h 157 v) (D : ∀ j : Int, 0 ≤ j → j ≤ 7 → h 93 j = h 188 j) (w0 : 0 ≤ w) (w5 : w ≤ 5) (t : h (h 27 w) 0 = 1) (tm : h 164 w = 1) (p : WpE h w) : WAl h w := by
  obtain ⟨p1, p2, p3⟩ := p
  have m8 := LmW_8 M w0 w5 tm
  obtain ⟨-, m0, m2, m3, m4⟩ := M w w0 w5 tm
  obtain ⟨d1, -, -, -, -, d6, d7, d8⟩ := L.2 w w0 w5 t
  have e3 : h (h 27 w) 3 = h 157 (mBs h w) := by rw [← d6, p1]; exact C _ m0 m2
  refine ⟨p1, e3, zqW_e p2, fun S R => zqRun_e p2, fun u => zqUw_e p2, fun c c0 c3 => ?_⟩
  have eF : h (h 27 w + 7) c = mFu h w c := by
    unfold mFu
    by_cases q : c < h 157 (mBs h w)
    · rw [if_pos q]; exact p3 c c0 c3
    · rw [if_neg q]; exact d8 c (by omega) c3
  unfold MWd at m8
  unfold cmR cmM zqCm MWd
  rw [p1, e3, zqOg_e p2, zqW_e p2, eF, zqFo_D _ (fun k a b => D k a (by omega))]
/-- the base's number, read alike -/
theorem overV {σ σ' : tst} {cl' tl' wd' bc' : Int → Int} {n i w y' c b o : Int} (B : Bis σ σ' n) (a0 : 0 ≤ i) (a1 : i ≤ n) (q : overR σ' cl' tl' wd' bc' w i 0 y' c b o) : sV σ (sN σ (sN σ (sP σ' i))) = sV σ' (sN σ' (sN σ' i)) := by
  obtain ⟨f1, f2, f3, f4, f5, f6, f7⟩ := B i a0 a1
  unfold overR at q
  rcases q with q | ⟨w0, q⟩
  · omega
  · obtain ⟨b0, b1, e⟩ := f7 (f4 (by omega))
    rw [← e]
    obtain ⟨g1, g2, g3, g4, g5, g6, g7⟩ := B _ b0 b1
    rcases q with ⟨w1, q⟩ | ⟨w1, q⟩ | q
    · obtain ⟨c0, c1, e1⟩ := g7 (g4 (by omega))
      rw [← e1]
      obtain ⟨h1, h2, -⟩ := B _ c0 c1
      rcases q with q | q | ⟨k2, -, -⟩
      · omega
      · omega
      · exact (h2 k2).1.symm
    · obtain ⟨c0, c1, e1⟩ := g7 (g4 (by omega))
      rw [← e1]
      obtain ⟨h1, h2, -⟩ := B _ c0 c1
      rcases q with q | q | ⟨k2, -, -⟩
      · omega
      · omega
      · exact (h2 k2).1.symm
    · omega
/-- both have read window w: the same -/
def NwE (h hc h' : my_H) (w : Int) : Prop := ∃ (P : List zqP) (F : Int → Int), PEqL (zqPs hc (hc 27 w) (hc (hc 27 w) 9).toNat) P ∧ PEqL (mPs h' w (h' 167 w).toNat) P ∧ (0 ≤ h' 167 w ∧ h' 167 w ≤ 6) ∧ hc (hc 27 w) 0 = 1 ∧ h' 164 w = 1 ∧ hc (hc 27 w) 1 = ovo h' w ∧ (hc (hc 27 w) 1 = -1 → hc (hc 27 w) 2 = h' 166 w) ∧ (hc (hc 27 w) 1 ≠ -1 → (0 ≤ hc (hc 27 w) 1 ∧ hc (hc 27 w) 1 ≤ 5 ∧ h (h 27 (hc (hc 27 w) 1)) 0 = 1) ∧ hc (hc 27 w) 2 = h (h 27 (hc (hc 27 w) 1)) 2) ∧
  (∀ c : Int, 0 ≤ c → c ≤ 3 → h' 173 (4 * w + c) = F c ∧ hc (hc 27 w + 7) c = if 0 ≤ F c then F c else if hc (hc 27 w) 1 = -1 then 0 else h (h 27 (hc (hc 27 w) 1) + 7) c)
theorem NwE_mk {h hc h' : my_H} {w n : Int} (w5 : w ≤ 5) (Q : Ceq h) (T : Teq h) (N : Wnq h) (g : my_ag [(56, -1), (63, -1), (64, -1), (65, -1), (66, -1), (67, -1), (69, -1), (70, -1)] h hc) (et : tm_of hc = tm_of h) (mt : Mt (tm_of hc) h' n) (pc : NwP h hc w) (pm : NwM hc h' w) : NwE h hc h' w := by
  obtain ⟨y0, c0, k, x, P, F, o1, s1, k1, e1, n1, t1, f1⟩ := pc
  obtain ⟨m1, m2⟩ := MwW_1 g N
  obtain ⟨y0', c0', b', c', o', k', x', P', F', o2, s2, k2, e2, n2, t2, f2, g2, g3, -⟩ := pm _ _ m1 m2
  rw [et, ← show tp_of h = tm_of h from T] at mt
  have ps : tS (tp_of h) 0 = sP (sm h') 0 := mt.2.2.1.symm
  rw [ps] at o1
  have B := Mt_bis mt
  have e57 : ∀ j : Int, hc 157 j = h 157 j := fun j => g.at mis_157 rfl
  have e64 : ∀ j : Int, hc 164 j = h 164 j := fun j => g.at mis_164 rfl
  have hcl : ∀ v : Int, 0 ≤ v → v ≤ 2 → h 2 v = hc 157 v := fun v a b => by rw [e57]; exact Q v a b
  obtain ⟨⟨-, -, sy⟩, eq1⟩ := over2 w5 hcl (fun v a b => ⟨by rw [e64]; exact N.2.1 v a b, fun _ => ⟨rfl, rfl⟩⟩) B (Int.le_refl 0) mt.1 o1 o2
  obtain ⟨ec, eb, eo⟩ := eq1 rfl
  obtain ⟨ey, y1, y2⟩ := sy rfl
  subst ec eb
  rw [ey] at s1
  obtain ⟨-, -, eP, eF⟩ := stQ_end hcl B y1 y2 s1 s2 k1 k2
  subst eP eF
  have nv := overV B (Int.le_refl 0) mt.1 o2
  rw [← ps] at nv
  refine ⟨P, F, e1, e2, n2, t1, t2, eo.trans g3, fun z => ?_, fun z => ?_, fun c a b => ⟨f2 c a b, ?_⟩⟩
  · rcases f1 with ⟨-, q, -⟩ | ⟨q, -⟩
    · rw [q, g2, nv]
    · exact absurd z q
  · rcases f1 with ⟨q, -⟩ | ⟨-, q1, q2, -⟩
    · exact absurd q z
    · exact ⟨q1, q2⟩
  · rcases f1 with ⟨q0, -, q⟩ | ⟨q0, -, -, q⟩
    · rw [q c a b, if_pos q0]
    · rw [q c a b, if_neg q0]
/-- windows that are not over w, of the reference -/
theorem mCf_N {h h' : my_H} {w : Int} {W : Int → Int} (M : MwW h W) (L : LmW h) (t6 : ∀ k : Int, 0 ≤ k → k ≤ 6 → 0 ≤ h 167 k ∧ h 167 k ≤ 6) (N : LoM h h' w) (e57 : ∀ j : Int, h' 157 j = h 157 j) (nu : ∀ k : Int, 0 ≤ k → k ≤ 5 → h 164 k = 1 → h 165 k = 0 → h 166 k ≠ w) : ∀ (f : Nat) (v : Int), 0 ≤ v → v ≤ 5 → v ≠ w → h 164 v = 1 → PEqL (mCf h' f v) (mCf h f v) ∧ mBf h' f v = mBf h f v ∧ ∀ c : Int, 0 ≤ c → c ≤ 3 → mFf h' c f v = mFf h c f v
  | 0, _, _, _, _, _ => ⟨trivial, rfl, fun _ _ _ => rfl⟩
  | f + 1, v, v0, v5, ne, t => by
    obtain ⟨-, e5, e6, e7⟩ := N.1 v v5 ne
    obtain ⟨⟨o1, o2, o3, o4, -⟩, -⟩ := M v v0 v5 t
    obtain ⟨wf, -⟩ := L v v0 v5 t
    rw [(mCW_eq M v0 v5 t).1] at wf
    have tv := t6 v v0 (by omega)
    have own : PEqL (mPs h' v (h 167 v).toNat) (mPs h v (h 167 v).toNat) := by
      refine mPs_old (funext e57) (N := ((h 167 v).toNat : Int)) (fun i a b => ?_) _ (Int.le_refl _)
      obtain ⟨q8, q9, q0, q1⟩ := N.2.1 (6 * v + i) (by omega) (by omega)
      refine ⟨q8, q9, q0, q1, fun j j0 j8 => N.2.2.1 _ (by omega) (by omega), fun k3 => ?_⟩
      have z := (mWf_ps wf (s := i.toNat) (by omega)).2
      rw [Int.toNat_of_nonneg a, mPk_n (by omega) (by omega)] at z
      exact (z.1 k3).2.1
    have up : h 165 v ≠ 1 → PEqL (mCf h' f (h 166 v)) (mCf h f (h 166 v)) ∧ mBf h' f (h 166 v) = mBf h f (h 166 v) ∧ ∀ c : Int, 0 ≤ c → c ≤ 3 → mFf h' c f (h 166 v) = mFf h c f (h 166 v) := fun z => by
      have q := o4 (by omega)
      exact mCf_N M L t6 N e57 nu f (h 166 v) o2 (by omega) (nu v v0 v5 t (by omega)) q.2
    refine ⟨?_, ?_, fun c c0 c3 => ?_⟩
    · rw [mCf, mCf, e5, e6, e7]
      refine PEqL.app own ?_
      by_cases z : h 165 v = 1
      · rw [if_pos z, if_pos z]; trivial
      · rw [if_neg z, if_neg z]; exact (up z).1
    · rw [mBf, mBf, e5, e6]
      by_cases z : h 165 v = 1
      · rw [if_pos z, if_pos z]
      · rw [if_neg z, if_neg z]; exact (up z).2.1
    · rw [mFf, mFf, e5, e6, N.2.2.2 (4 * v + c) (by omega) (by omega)]
      by_cases z : h 165 v = 1
      · rw [if_pos z, if_pos z]
      · rw [if_neg z, if_neg z, (up z).2.2 c c0 c3]
end ZWA
section ZWB
/-- what windows are told by stays -/
abbrev WcF : List (Nat × Int) := [(22, -1), (4, -1), (32, -1), (33, -1), (34, -1), (35, -1), (36, -1), (37, -1), (38, -1)]
theorem WpE_cg {h g : my_H} {w : Int} (n : Ln h) (a : my_ag WcF h g) (b : my_ag LmF h g) (w0 : 0 ≤ w) (w5 : w ≤ 5) (t : h (h 27 w) 0 = 1) (p : WpE h w) : WpE g w := by
  have hL := n.2.2.1 w w0 w5
  obtain ⟨e, -, -, e73⟩ := Lm_e b
  have e27 : g 27 w = h 27 w := a.at pis_27 rfl
  have e5 : ∀ j : Int, g 165 j = h 165 j := fun j => b.at mis_165 rfl
  have e6 : ∀ j : Int, g 166 j = h 166 j := fun j => b.at mis_166 rfl
  have eC : zqCW g w = zqCW h w := zqCW_ag (a.mo rfl) n w0 w5 t
  have eF : ∀ (c : Int) (f : Nat) (v : Int), mFf g c f v = mFf h c f v := fun c f => by
    induction f with
    | zero => intro v; rfl
    | succ f ih => intro v; rw [mFf, mFf, e73, e5, e6, ih]
  obtain ⟨p1, p2, p3⟩ := p
  unfold WpE mFil
  rw [e27, eC, (e w).1, (e w).2.1, show g (h 27 w) 2 = h (h 27 w) 2 from a.at hL rfl]
  refine ⟨p1, p2, fun c c0 c3 => ?_⟩
  rw [eF, show g (h 27 w + 7) c = h (h 27 w + 7) c from a.at (pix_7z hL) rfl]
  exact p3 c c0 c3
/-- a window is told: all told windows are told alike -/
theorem WpE_new {h hc h' : my_H} {w : Int} {W W' : Int → Int} (N : NwE h hc h' w) (Lh : Ln h) (Lc : Ln hc) (L' : Ln h') (U : Un h w) (oc : LoN h hc w) (om : LoM hc h' w) (M : MwW hc W) (M' : MwW h' W') (Lm : LmW hc) (t6 : ∀ k : Int, 0 ≤ k → k ≤ 6 → 0 ≤ hc 167 k ∧ hc 167 k ≤ 6) (gm : my_ag LmF h hc) (gc : my_ag WcF hc h') (e57 : ∀ j : Int, h' 157 j = hc 157 j) (nu : ∀ k : Int, 0 ≤ k → k ≤ 5 → hc 164 k = 1 → hc 165 k = 0 → hc 166 k ≠ w) (to : ∀ v : Int, 0 ≤ v → v ≤ 5 → h (h 27 v) 0 = h 164 v) (w0 : 0 ≤ w) (w5 : w ≤ 5) (P : ∀ v : Int, 0 ≤ v → v ≤ 5 → h 164 v = 1 → WpE h v) : ∀ v : Int, 0 ≤ v → v ≤ 5 → h' 164 v = 1 → WpE h' v := by
  have e64 : ∀ j : Int, hc 164 j = h 164 j := fun j => gm.at mis_164 rfl
  obtain ⟨em, -, -, -⟩ := Lm_e gm
  have c27 : ∀ v : Int, h' 27 v = hc 27 v := fun v => gc.at pis_27 rfl
  have old : ∀ v : Int, 0 ≤ v → v ≤ 5 → v ≠ w → hc 164 v = 1 → WpE h' v ∧ h' 27 v = h 27 v ∧ ∀ c : Int, 0 ≤ c → c ≤ 3 → h' (h' 27 v + 7) c = h (h 27 v + 7) c := fun v v0 v5 ne t => by
    have th : h 164 v = 1 := by rw [← e64]; exact t
    have tc : h (h 27 v) 0 = 1 := by rw [to v v0 v5]; exact th
    obtain ⟨o27, oF, oA⟩ := oc v v0 v5 ne
    have tcc : hc (hc 27 v) 0 = 1 := by rw [o27, oF]; exact tc
    have hL := Lc.2.2.1 v v0 v5
    obtain ⟨m1, m2, m3⟩ := mCf_N M Lm t6 om e57 nu 6 v v0 v5 ne t
    obtain ⟨p1, p2, p3⟩ := P v v0 v5 th
    have eC : zqCW h' v = zqCW h v := (zqCW_ag (gc.mo rfl) Lc v0 v5 tcc).trans (zqCf_N oc Lh U 6 v v0 v5 ne tc)
    have f7 : ∀ c : Int, h' (h' 27 v + 7) c = h (h 27 v + 7) c := fun c => by
      rw [c27, show h' (hc 27 v + 7) c = hc (hc 27 v + 7) c from gc.at (pix_7z hL) rfl, o27, oA 7 c (by omega) (by omega)]
    have eFl : ∀ c : Int, 0 ≤ c → c ≤ 3 → mFil h' v c = mFil h v c := fun c c0 c3 => by
      refine (m3 c c0 c3).trans ?_
      have e5 : ∀ j : Int, hc 165 j = h 165 j := fun j => gm.at mis_165 rfl
      have e6 : ∀ j : Int, hc 166 j = h 166 j := fun j => gm.at mis_166 rfl
      have e73 : ∀ j : Int, hc 173 j = h 173 j := fun j => gm.at pis_173 rfl
      have go : ∀ (f : Nat) (u : Int), mFf hc c f u = mFf h c f u := fun f => by
        induction f with
        | zero => intro u; rfl
        | succ f ih => intro u; rw [mFf, mFf, e73, e5, e6, ih]
      exact go 6 v
    refine ⟨⟨?_, ?_, fun c c0 c3 => ?_⟩, (c27 v).trans o27, fun c _ _ => f7 c⟩
    · rw [c27, show h' (hc 27 v) 2 = hc (hc 27 v) 2 from gc.at hL rfl, o27, oF, p1]
      exact ((em v).2.1).symm.trans m2.symm
    · rw [eC]
      exact p2.tr (by rw [← (em v).1]; exact PEqL.sy m1)
    · rw [f7 c, p3 c c0 c3, eFl c c0 c3]
  intro v v0 v5 t
  by_cases ne : v = w
  · subst ne
    obtain ⟨Q, F, e1, e2, n6, t1, t2, e3, e4, e5, f1⟩ := N
    have hL := Lc.2.2.1 v v0 v5
    have t1' : h' (h' 27 v) 0 = 1 := by rw [c27, show h' (hc 27 v) 0 = hc (hc 27 v) 0 from gc.at hL rfl]; exact t1
    have l1 : h' (h' 27 v) 1 = ovo h' v := by rw [c27, show h' (hc 27 v) 1 = hc (hc 27 v) 1 from gc.at hL rfl]; exact e3
    have l9 : h' (h' 27 v) 9 = hc (hc 27 v) 9 := by rw [c27]; exact gc.at hL rfl
    have l2 : h' (h' 27 v) 2 = hc (hc 27 v) 2 := by rw [c27]; exact gc.at hL rfl
    have ps : zqPs h' (h' 27 v) (h' (h' 27 v) 9).toNat = zqPs hc (hc 27 v) (hc (hc 27 v) 9).toNat := by
      rw [l9, c27]
      exact zqPs_cg (fun j => ⟨gc.at (pix_1 hL) rfl, gc.at (pix_2z hL) rfl, gc.at (pix_3 hL) rfl, gc.at (pix_4 hL) rfl, gc.at (pix_5q hL) rfl⟩) _
    obtain ⟨mc, mb⟩ := mCW_eq M' v0 v5 t
    obtain ⟨⟨o1, o2, o3, o4, -⟩, -⟩ := M' v v0 v5 t
    have own : PEqL (zqPs h' (h' 27 v) (h' (h' 27 v) 9).toNat) (mPs h' v (h' 167 v).toNat) := by rw [ps]; exact e1.tr (PEqL.sy e2)
    by_cases z : h' 165 v = 1
    · have lo : ovo h' v = -1 := if_pos z
      refine ⟨?_, ?_, fun c c0 c3 => ?_⟩
      · rw [mb, if_pos z, l2]; exact e4 (e3.trans lo)
      · rw [zqCW_eq L' v0 v5 t1', mc]
        refine PEqL.app own ?_
        unfold zqUn mUn
        rw [l1, lo, if_pos rfl, if_pos z]
        trivial
      · obtain ⟨f2, f3⟩ := f1 c c0 c3
        rw [mFil_eq M' v0 v5 t, if_pos z, f2, c27, show h' (hc 27 v + 7) c = hc (hc 27 v + 7) c from gc.at (pix_7z hL) rfl, f3, if_pos (e3.trans lo)]
    · have lo : ovo h' v = h' 166 v := if_neg z
      obtain ⟨u1, u2⟩ := o4 (by omega)
      have el : hc (hc 27 v) 1 = h' 166 v := e3.trans lo
      obtain ⟨⟨r0, r5, rt⟩, r2⟩ := e5 (by omega)
      rw [el] at r0 r5 rt r2
      have nv : h' 166 v ≠ v := by omega
      have tu : hc 164 (h' 166 v) = 1 := by
        obtain ⟨q4, -⟩ := om.1 (h' 166 v) r5 nv
        rw [← q4]; exact u2
      obtain ⟨⟨p1, p2, p3⟩, q27, q7⟩ := old (h' 166 v) r0 r5 nv tu
      refine ⟨?_, ?_, fun c c0 c3 => ?_⟩
      · rw [mb, if_neg z, l2, r2, ← p1, q27]
        obtain ⟨o27, oF, -⟩ := oc _ r0 r5 nv
        rw [← oF 2, ← o27]
        exact (gc.at (Lc.2.2.1 _ r0 r5) rfl).symm
      · rw [zqCW_eq L' v0 v5 t1', mc]
        refine PEqL.app own ?_
        unfold zqUn mUn
        rw [l1, lo, if_neg (by omega), if_neg z]
        exact p2
      · obtain ⟨f2, f3⟩ := f1 c c0 c3
        rw [mFil_eq M' v0 v5 t, if_neg z, f2, c27, show h' (hc 27 v + 7) c = hc (hc 27 v + 7) c from gc.at (pix_7z hL) rfl, f3, if_neg (show ¬ hc (hc 27 v) 1 = -1 by omega), el, ← p3 c c0 c3, q7 c c0 c3]
  · have t' : hc 164 v = 1 := by
      obtain ⟨q4, -⟩ := om.1 v v5 ne
      rw [← q4]; exact t
    exact (old v v0 v5 ne t').1
end ZWB
