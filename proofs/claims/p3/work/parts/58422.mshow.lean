/-! the reference's windows as lists of panes; what it shows -/
section ZQY
def mPs (h : my_H) (w : Int) : Nat → List zqP
  | 0 => []
  | n + 1 => mPk h (6 * w + (n : Int)) :: mPs h w n
def mCf (h : my_H) : Nat → Int → List zqP
  | 0, _ => []
  | f + 1, w => mPs h w (h 167 w).toNat ++ (if h 165 w = 1 then [] else mCf h f (h 166 w))
def mCW (h : my_H) (w : Int) : List zqP := mCf h 6 w
def mUn (h : my_H) (w : Int) : List zqP := if h 165 w = 1 then [] else mCW h (h 166 w)
def mBf (h : my_H) : Nat → Int → Int
  | 0, _ => 0
  | f + 1, w => if h 165 w = 1 then h 166 w else mBf h f (h 166 w)
def mBs (h : my_H) (w : Int) : Int := mBf h 6 w
theorem mCf_st {h : my_H} {W : Int → Int} (M : MwW h W) : ∀ (f g : Nat) (w : Int), 0 ≤ w → w ≤ 5 → h 164 w = 1 → w < f → w < g → mCf h f w = mCf h g w ∧ mBf h f w = mBf h g w
  | 0, _, _, w0, _, _, a, _ => by omega
  | _, 0, _, w0, _, _, _, b => by omega
  | f + 1, g + 1, w, w0, w5, t, a, b => by
    obtain ⟨⟨q1, q2, q3, q4, -⟩, -⟩ := M w w0 w5 t
    rw [mCf, mCf, mBf, mBf]
    by_cases u : h 165 w = 1
    · rw [if_pos u, if_pos u, if_pos u, if_pos u]
      exact ⟨rfl, rfl⟩
    · have z := q4 (by omega)
      obtain ⟨r1, r2⟩ := mCf_st M f g (h 166 w) q2 (by omega) z.2 (by omega) (by omega)
      rw [if_neg u, if_neg u, if_neg u, if_neg u, r1, r2]
      exact ⟨rfl, rfl⟩
theorem mCW_eq {h : my_H} {W : Int → Int} (M : MwW h W) {w : Int} (w0 : 0 ≤ w) (w5 : w ≤ 5) (t : h 164 w = 1) : mCW h w = mPs h w (h 167 w).toNat ++ mUn h w ∧ mBs h w = if h 165 w = 1 then h 166 w else mBs h (h 166 w) := by
  obtain ⟨⟨q1, q2, q3, q4, -⟩, -⟩ := M w w0 w5 t
  unfold mCW mUn mBs
  rw [mCf, mBf]
  by_cases u : h 165 w = 1
  · rw [if_pos u, if_pos u, if_pos u, if_pos u]
    exact ⟨rfl, rfl⟩
  · have z := q4 (by omega)
    obtain ⟨r1, r2⟩ := mCf_st M 5 6 (h 166 w) q2 (by omega) z.2 (by omega) (by omega)
    rw [if_neg u, if_neg u, if_neg u, if_neg u, r1, r2]
    exact ⟨rfl, rfl⟩
theorem Fc_bot {h g : my_H} {c x2 : Int} (p : Fc h g c (-1) x2) (hc : 0 < c) : mUn h (g 177 0) = [] := by
  have q := (p.2.1 hc).2.2.2 rfl
  unfold mUn
  rw [if_pos q.1]
theorem Fc_un {h g : my_H} {c x2 j : Int} (p : Fc h g c (-1) x2) (j0 : 0 ≤ j) (j1 : j + 1 < c) : mUn h (g 177 (j + 1)) = mCW h (g 177 j) := by
  obtain ⟨q1, q2⟩ := p.2.2.1 (j + 1) (by omega) j1
  unfold mUn
  rw [if_neg (by omega), q2, show j + 1 - 1 = j by omega]
/-- the base's number -/
theorem Fc_bs {h g : my_H} {W : Int → Int} (M : MwW h W) {c x2 : Int} (x0 : 0 ≤ x2) (x5 : x2 ≤ 5) (t : h 164 x2 = 1) (p : Fc h g c (-1) x2) (hc : 0 < c) : g 151 33 = mBs h x2 := by
  have key : ∀ n : Nat, (n : Int) < c → mBs h (g 177 n) = g 151 33 := by
    intro n
    induction n with
    | zero =>
      intro hn
      have q := (p.2.1 hc).2.2.2 rfl
      have td := Fc_told x5 t x0 p (j := 0) (by omega) hc
      rw [show ((0 : Nat) : Int) = 0 from rfl, (mCW_eq M td.1 td.2.1 td.2.2).2, if_pos q.1, q.2]
    | succ n ih =>
      intro hn
      obtain ⟨q1, q2⟩ := p.2.2.1 ((n + 1 : Nat) : Int) (by omega) hn
      have td := Fc_told x5 t x0 p (j := ((n + 1 : Nat) : Int)) (by omega) hn
      rw [(mCW_eq M td.1 td.2.1 td.2.2).2, if_neg (by omega), q2, show ((n + 1 : Nat) : Int) - 1 = (n : Int) by omega]
      exact ih (by omega)
  have q := p.2.2.2.1 hc
  have z := key (c - 1).toNat (by omega)
  rw [Int.toNat_of_nonneg (by omega), q] at z
  exact z.symm
theorem MS_eq {h g : my_H} {s : Int} (e1 : ∀ j : Int, g 162 j = h 162 j) (e2 : ∀ j : Int, g 163 j = h 163 j) : zqMS g s = zqMS h s := funext fun j => by
  unfold zqMS
  rw [e1, e2]
theorem mPk_eq {h g : my_H} {p : Int} (f157 : ∀ j : Int, g 157 j = h 157 j) (f168 : ∀ j : Int, g 168 j = h 168 j) (f169 : ∀ j : Int, g 169 j = h 169 j) (f170 : ∀ j : Int, g 170 j = h 170 j) (f171 : ∀ j : Int, g 171 j = h 171 j) (f172 : ∀ j : Int, g 172 j = h 172 j) : mPk g p = mPk h p ∧ (∀ wd : Int, wl g p wd = wl h p wd) ∧ ∀ wd : Int, ms g p wd = ms h p wd := by
  have em : ∀ wd : Int, ms g p wd = ms h p wd := fun wd => by
    unfold ms
    rw [f168, f170, f157, f171]
  refine ⟨?_, fun wd => ?_, em⟩
  · unfold mPk
    rw [f168, f169, f170, f157, f171]
    have e : (fun j => g 172 (8 * p + j)) = fun j => h 172 (8 * p + j) := funext fun j => f172 _
    rw [e]
  · unfold wl
    rw [f168, em]
theorem wl_M {h : my_H} {p wd : Int} (k5 : h 168 p ≠ 5) : wl h p wd = zqM wd (mPk h p) := by
  rw [mPk_M]
  unfold wl
  rw [if_neg k5]
theorem mPk_1 {h : my_H} {p : Int} : (mPk h p).1 = h 168 p := by
  by_cases k5 : h 168 p = 5
  · rw [mPk_5 k5, k5]
  · by_cases k4 : h 168 p = 4
    · rw [mPk_4 k4, k4]
    · rw [mPk_n k5 k4]
theorem FmN_no2 {h g g1 : my_H} {m m' kept row : Int} {f : Int × zqR → Option (Int × zqR)} (m8 : m' ≤ 8) (p : FmN h g m m' f kept row) (O : OneN g g1 row) (q : f (zqN h m row.toNat) = none) : FmN h g1 m m' f kept (row + 1) := by
  obtain ⟨p1, p2, p3, p4, p5⟩ := p
  obtain ⟨o1, o2⟩ := O
  refine ⟨p1, by omega, fun j a => by rw [o1]; exact p3 j (by omega), fun j a => by rw [o2 j (by omega)]; exact p4 j (by omega), ?_⟩
  rw [show (row + 1).toNat = row.toNat + 1 by omega, zqL, List.filterMap_cons, q]
  exact (zqL_cg (fun i hi => zqN_cg m8 (o1 _) (fun j a b => o2 _ (by omega)))).trans p5
/-- what the reference shows behind panes -/
def VmI (g : my_H) (S : Int → Int) (b m : Int) (P : List zqP) : Prop := g 151 27 = zqW m P ∧ 0 ≤ g 151 37 ∧ g 151 37 ≤ 10 ∧ ((zqL (zqN g (zqW m P)) (g 151 37).toNat).map Prod.snd).Perm (zqRun S m ((zqLd S b m 20).map Prod.snd) P) ∧ (zqNS P → (zqL (zqN g (zqW m P)) (g 151 37).toNat).Perm ((zqLd S b m 20).filterMap (zqD2 S m P)))
theorem VmI_0 {g : my_H} {S : Int → Int} {b m : Int} (e27 : g 151 27 = m) (e0 : 0 ≤ g 151 37) (e10 : g 151 37 ≤ 10) (el : zqL (zqN g m) (g 151 37).toNat = zqLd S b m 20) : VmI g S b m [] := by
  have id2 : (zqLd S b m 20).filterMap (zqD2 S m []) = zqLd S b m 20 := by
    have e : zqD2 S m [] = some := funext fun e => rfl
    rw [e, List.filterMap_some]
  refine ⟨e27, e0, e10, ?_, fun _ => ?_⟩
  · show ((zqL (zqN g m) (g 151 37).toNat).map Prod.snd).Perm ((zqLd S b m 20).map Prod.snd)
    rw [el]
  · show (zqL (zqN g m) (g 151 37).toNat).Perm _
    rw [el, id2]
theorem VmI_cg {g g' : my_H} {S : Int → Int} {b m : Int} {P : List zqP} (m8 : zqW m P ≤ 8) (p : VmI g S b m P) (e27 : g' 151 27 = g 151 27) (e37 : g' 151 37 = g 151 37) (e181 : ∀ j : Int, g' 181 j = g 181 j) (e182 : ∀ j : Int, g' 182 j = g 182 j) : VmI g' S b m P := by
  obtain ⟨v1, v2, v3, v4, v5⟩ := p
  have ee : zqL (zqN g' (zqW m P)) (g 151 37).toNat = zqL (zqN g (zqW m P)) (g 151 37).toNat := zqL_cg (fun i _ => zqN_cg m8 (e181 _) (fun j _ _ => e182 _))
  refine ⟨by rw [e27]; exact v1, by omega, by omega, ?_, fun ns => ?_⟩
  · rw [e37, ee]; exact v4
  · rw [e37, ee]; exact v5 ns
/-- rows gone through for a pane that isn't a sum -/
theorem VmI_fn {h g g2 : my_H} {S : Int → Int} {b m m' kept row : Int} {P : List zqP} {p : zqP} (vp : VmI h S b m P) (fn : FmN h g (h 151 27) m' (zqO2 S (h 151 27) p) kept row) (hr : row = h 151 37) (k5 : p.1 ≠ 5) (hm : m' = zqM (h 151 27) p) (m8 : m' ≤ 8) (e27 : g2 151 27 = m') (e37 : g2 151 37 = kept) (e181 : ∀ j : Int, g2 181 j = g 181 j) (e182 : ∀ j : Int, g2 182 j = g 182 j) : VmI g2 S b m (p :: P) := by
  obtain ⟨v1, v2, v3, v4, v5⟩ := vp
  obtain ⟨f1, f2, f3, f4, f5⟩ := fn
  have ee : zqL (zqN g2 m') kept.toNat = zqL (zqN g m') kept.toNat := zqL_cg (fun i _ => zqN_cg m8 (e181 _) (fun j _ _ => e182 _))
  rw [hr] at f5
  rw [v1] at f5 hm
  have eW : zqW m (p :: P) = m' := hm.symm
  refine ⟨by rw [eW]; exact e27, by omega, by omega, ?_, fun ns => ?_⟩
  · rw [eW, e37, ee, f5, zqO2_snd k5]
    exact zqT_perm v4
  · have w1 := v5 (fun q hq => ns q (List.mem_cons_of_mem _ hq))
    have two : ∀ e : Int × zqR, (zqD2 S m P e).bind (zqO2 S (zqW m P) p) = zqD2 S m (p :: P) e := fun e => by
      unfold zqD2
      rw [zqD]
      cases zqD S m P e.2 with
      | none => rfl
      | some r => rfl
    rw [eW, e37, ee, f5]
    refine (w1.filterMap _).trans ?_
    rw [List.filterMap_filterMap]
    exact List.Perm.of_eq (congrArg (fun f => List.filterMap f (zqLd S b m 20)) (funext two))
theorem zqO2_5 {S : Int → Int} {m : Int} {p : zqP} (k5 : p.1 = 5) : zqO2 S m p = some := funext fun e => by
  unfold zqO2 zqO
  rw [if_neg (by omega), if_neg (by omega), if_pos ⟨fun z => by omega, fun z => by omega, fun z => by omega⟩]
  rfl
/-- a sum -/
theorem VmI_s5 {h g g3 g4 g2 : my_H} {S : Int → Int} {b m kept row x a : Int} {P : List zqP} {p : zqP} (vp : VmI h S b m P) (m8 : h 151 27 ≤ 8) (fn : FmN h g (h 151 27) (h 151 27) (zqO2 S (h 151 27) p) kept row) (hr : row = h 151 37) (k5 : p.1 = 5) (hx : p.2.1 = x) (ha : p.2.2.1 = a) (c27 : g3 151 27 = h 151 27) (c37 : g3 151 37 = kept) (c181 : ∀ j : Int, g3 181 j = g 181 j) (c182 : ∀ j : Int, g3 182 j = g 182 j) (el : (zqL (zqN g4 2) (g4 151 37).toNat).map Prod.snd = (zqG x a ((zqL (zqN g3 (g3 151 27)) (g3 151 37).toNat).map Prod.snd)).map zq2)
    (d0 : 0 ≤ g4 151 37) (dl : g4 151 37 ≤ 10) (e27 : g2 151 27 = 2) (e37 : g2 151 37 = g4 151 37) (e181 : ∀ j : Int, g2 181 j = g4 181 j) (e182 : ∀ j : Int, g2 182 j = g4 182 j) : VmI g2 S b m (p :: P) := by
  obtain ⟨v1, v2, v3, v4, v5⟩ := vp
  obtain ⟨f1, f2, f3, f4, f5⟩ := fn
  rw [zqO2_5 k5, List.filterMap_some, hr] at f5
  have e3 : zqL (zqN g3 (h 151 27)) kept.toNat = zqL (zqN g (h 151 27)) kept.toNat := zqL_cg (fun i _ => zqN_cg m8 (c181 _) (fun j _ _ => c182 _))
  have e4 : zqL (zqN g2 2) (g4 151 37).toNat = zqL (zqN g4 2) (g4 151 37).toNat := zqL_cg (fun i _ => zqN_cg (by omega) (e181 _) (fun j _ _ => e182 _))
  rw [c27, c37, e3, f5, v1, ← hx, ← ha] at el
  have eW : zqW m (p :: P) = 2 := by
    show zqM (zqW m P) p = 2
    unfold zqM
    rw [if_neg (by omega), if_neg (by omega), if_pos k5]
  have hz : zqRun S m ((zqLd S b m 20).map Prod.snd) (p :: P) = (zqG p.2.1 p.2.2.1 (zqRun S m ((zqLd S b m 20).map Prod.snd) P)).map zq2 := by
    show zqT S (zqW m P) p (zqRun S m ((zqLd S b m 20).map Prod.snd) P) = _
    unfold zqT
    rw [if_pos k5]
  refine ⟨by rw [eW]; exact e27, by omega, by omega, ?_, fun ns => absurd k5 (ns _ (List.mem_cons_self ..))⟩
  rw [eW, e37, e4, el, hz]
  exact (zqG_perm v4).map _
def VmS (g : my_H) : Prop := zqS zqle (fun i => (zqN g (g 151 27) i).2) (g 151 37).toNat
theorem VmI_so {g g' : my_H} {S : Int → Int} {b m : Int} {P : List zqP} (p : VmI g S b m P) (e27 : g' 151 27 = g 151 27) (e37 : g' 151 37 = g 151 37) (s : (zqL (zqN g' (g 151 27)) (g 151 37).toNat).Perm (zqL (zqN g (g 151 27)) (g 151 37).toNat) ∧ zqS zqle (fun i => (zqN g' (g 151 27) i).2) (g 151 37).toNat) : VmI g' S b m P ∧ VmS g' := by
  obtain ⟨v1, v2, v3, v4, v5⟩ := p
  obtain ⟨s1, s2⟩ := s
  refine ⟨⟨by rw [e27]; exact v1, by omega, by omega, ?_, fun ns => ?_⟩, ?_⟩
  · rw [v1] at s1
    rw [e37]
    exact (s1.map _).trans v4
  · rw [v1] at s1
    rw [e37]
    exact s1.trans (v5 ns)
  · unfold VmS
    rw [e27, e37]
    exact s2
end ZQY
