/-! the reference: all ways are found -/
section ZTG
theorem bsr_all : ∀ u : Fin 32, ((Int32.ofInt ((u.val : Nat) : Int) &&& 31).toBitVec.smod 32).toNat = u.val := by decide +kernel
theorem bsr_bit {y u v z : Int} (u0 : 0 ≤ u) (u1 : u ≤ 30) (ev : v = bsr y u) (ez : z = bnd v 1) : z = 1 ↔ zqbt y u := by
  have q := bsr_all ⟨u.toNat, by omega⟩
  simp only [Int.toNat_of_nonneg u0] at q
  have hb : bt (Int32.ofInt v) 0 = bt (Int32.ofInt y) u.toNat := by
    rw [ev]
    unfold bsr bt
    rw [Int32.ofInt_toInt, Int32.toBitVec_shiftRight, BitVec.getLsbD_sshiftRight', q, if_pos (by omega), Nat.add_zero]
    simp
  have e1 : ∀ i, bt (Int32.ofInt 1) i = decide (i = 0) := fun i => by
    unfold bt
    rw [show (Int32.ofInt 1).toBitVec = 1#32 from rfl, BitVec.getLsbD_one]
    simp
  unfold zqbt
  rw [show (u % 32).toNat = u.toNat by omega, ← hb]
  have key : Int32.ofInt v &&& Int32.ofInt 1 = if bt (Int32.ofInt v) 0 = true then 1 else 0 := by
    apply b_ext
    intro i hi
    rw [b_and, e1]
    by_cases h0 : bt (Int32.ofInt v) 0 = true
    · rw [if_pos h0]
      by_cases i0 : i = 0
      · subst i0
        rw [h0]
        rfl
      · rw [decide_eq_false i0, Bool.and_false]
        have := e1 i
        rw [decide_eq_false i0] at this
        exact this.symm
    · rw [if_neg h0, b_0]
      by_cases i0 : i = 0
      · subst i0
        cases hh : bt (Int32.ofInt v) 0 with
        | true => exact absurd hh h0
        | false => rfl
      · rw [decide_eq_false i0, Bool.and_false]
  have ez' : z = (Int32.ofInt v &&& Int32.ofInt 1).toInt := ez
  rw [ez', key]
  by_cases h0 : bt (Int32.ofInt v) 0 = true
  · rw [if_pos h0]; exact ⟨fun _ => h0, fun _ => rfl⟩
  · rw [if_neg h0]; exact ⟨fun z => absurd z (by decide), fun z => absurd z h0⟩
/-- what is wanted of window w in state s, and the state trials are made on -/
def WnM (h : my_H) (s w e i j v : Int) (W : List zqR) : Prop := WntL (zqMS h s) (mBs h w) (h 157 (mBs h w)) (mCW h w) e i j v (h 188) W
def FwA (h g : my_H) (s w e i j v : Int) : Prop := WnM h s w e i j v (WLm g (MWd h w)) ∧ WSm g (MWd h w)
noncomputable def FL0 (h g : my_H) (s w : Int) : List zqY := zqIf ((zqRun (zqMS h s) (h 157 (mBs h w)) ((zqLd (zqMS h s) (mBs h w) (h 157 (mBs h w)) 20).map Prod.snd) (mCW h w)).Perm (WLm g (MWd h w))) [(0, -1, -1, -1, -1)] []
def FQ1 (h g : my_H) (s w : Int) : Int → Int → Prop := zqQ1 (zqMA h) (zqMS h s) (mBs h w) (h 157 (mBs h w)) (mCW h w) (WLm g (MWd h w))
def FQ2 (h g : my_H) (s w : Int) : Int → Prop := zqQ2 (zqMA h) (zqMS h s) (mBs h w) (h 157 (mBs h w)) (mCW h w) (WLm g (MWd h w))
def FQ3 (h g : my_H) (s w : Int) : Prop := zqQ3 (zqMA h) (zqMS h s) (mBs h w) (h 157 (mBs h w)) (mCW h w) (WLm g (MWd h w)) (cmM h w)
def Fw1 (h g : my_H) (s w x : Int) : Prop := WyL g = zqV2 (FQ1 h g s w) x.toNat ++ FL0 h g s w
def Fw2 (h g : my_H) (s w r : Int) : Prop := WyL g = zqV3 (FQ2 h g s w) r.toNat ++ (zqV2 (FQ1 h g s w) 240 ++ FL0 h g s w)
section
variable {h g g1 : my_H} {s w x r : Int}
theorem Fw_eq (wl : WLm g1 (MWd h w) = WLm g (MWd h w)) : FL0 h g1 s w = FL0 h g s w ∧ FQ1 h g1 s w = FQ1 h g s w ∧ FQ2 h g1 s w = FQ2 h g s w ∧ FQ3 h g1 s w = FQ3 h g s w := by
  unfold FL0 FQ1 FQ2 FQ3
  rw [wl]
  exact ⟨rfl, rfl, rfl, rfl⟩
theorem FwA_cg {e i j v : Int} (p : FwA h g s w e i j v) (e46 : g1 151 46 = g 151 46) (e189 : ∀ j : Int, g1 189 j = g 189 j) : FwA h g1 s w e i j v ∧ WLm g1 (MWd h w) = WLm g (MWd h w) := by
  have q := WLm_cg (W := MWd h w) e46 e189
  refine ⟨⟨?_, q.2 p.2⟩, q.1⟩
  rw [q.1]
  exact p.1
theorem Fw1_cg (p : Fw1 h g s w x) (wl : WLm g1 (MWd h w) = WLm g (MWd h w)) (wy : WyL g1 = WyL g) : Fw1 h g1 s w x := by
  unfold Fw1 at p ⊢
  obtain ⟨e0, e1, -⟩ := Fw_eq (s := s) wl
  rw [e0, e1, wy]
  exact p
theorem Fw2_cg (p : Fw2 h g s w r) (wl : WLm g1 (MWd h w) = WLm g (MWd h w)) (wy : WyL g1 = WyL g) : Fw2 h g1 s w r := by
  unfold Fw2 at p ⊢
  obtain ⟨e0, e1, e2, -⟩ := Fw_eq (s := s) wl
  rw [e0, e1, e2, wy]
  exact p
theorem Fw1_0 (wy : WyL g = FL0 h g s w) : Fw1 h g s w 0 := wy
theorem FL_y (wy : WyL g1 = (0, -1, -1, -1, -1) :: WyL g) (w0 : WyL g = []) (wl : WLm g1 (MWd h w) = WLm g (MWd h w)) (is : (zqRun (zqMS h s) (h 157 (mBs h w)) ((zqLd (zqMS h s) (mBs h w) (h 157 (mBs h w)) 20).map Prod.snd) (mCW h w)).Perm (WLm g (MWd h w))) : WyL g1 = FL0 h g1 s w := by
  rw [(Fw_eq (s := s) wl).1, wy, w0]
  unfold FL0
  rw [zqIf_t is]
theorem FL_n (w0 : WyL g = []) (is : ¬ (zqRun (zqMS h s) (h 157 (mBs h w)) ((zqLd (zqMS h s) (mBs h w) (h 157 (mBs h w)) 20).map Prod.snd) (mCW h w)).Perm (WLm g (MWd h w))) : WyL g = FL0 h g s w := by
  rw [w0]
  unfold FL0
  rw [zqIf_f is]
theorem zqV2_sk {Q : Int → Int → Prop} {n : Nat} : ∀ d : Nat, (∀ x v : Int, n ≤ x → x < n + d → 0 ≤ v → v < 20 → ¬ Q x v) → zqV2 Q (n + d) = zqV2 Q n
  | 0, _ => rfl
  | d + 1, hq => by
    have e := zqV_no (Q := Q) (x := ((n + d : Nat) : Int)) 20 (fun v a b => hq _ v (by omega) (by omega) a (by omega))
    rw [Nat.add_succ, zqV2, e, zqV2_sk d (fun x v a b => hq x v a (by omega))]
    rfl
theorem Fw1_s {x2 : Int} (x0 : 0 ≤ x) (x12 : x ≤ x2) (p : Fw1 h g s w x) (n : ∀ y v : Int, x ≤ y → y < x2 → ¬ FQ1 h g s w y v) : Fw1 h g s w x2 := by
  unfold Fw1 at p ⊢
  have e := zqV2_sk (Q := FQ1 h g s w) (n := x.toNat) (x2.toNat - x.toNat) (fun y v a b _ _ => n y v (by omega) (by omega))
  rw [show x.toNat + (x2.toNat - x.toNat) = x2.toNat by omega] at e
  rw [e]
  exact p
/-- a change of one cell, on the trial's state -/
theorem MQ_zq {v : Int} (a : my_ag LmF h g) (ma : zqMA g = zqMA h) (ms : zqAg (zqMS h s) (zqMS g 8)) (L : LmW h) (w0 : 0 ≤ w) (w5 : w ≤ 5) (t : h 164 w = 1) (lf : zqLf (zqMA h) (zqMS h s)) (T : MTy h) (x0 : 0 ≤ x) (x1 : x < 240) (c1 : 1 ≤ x % 4) (c2 : x % 4 < h 157 (x / 80)) (un : zqUw (mBs h w) (mCW h w) (x / 80)) (hr : zqHas (zqMS h s) (x / 80) (x / 4 % 20)) : MQ1 g w x v ↔ FQ1 h g s w x v := by
  obtain ⟨wf, b0, b2, m1, m4⟩ := L w w0 w5 t
  obtain ⟨e, e157, -⟩ := Lm_e a
  have A4 : ∀ u : Int, 0 ≤ u → u ≤ 2 → (zqMA h).1 u ≤ 4 := fun u p q => (T.2.2.2 u p (by omega)).2
  have N2 : ∀ p : Int, 0 ≤ p → p ≤ 11 → -1 ≤ (zqMA h).2.2.2.1 p ∧ (zqMA h).2.2.2.1 p ≤ 2 := fun p q r => T.2.2.1 p q (by omega)
  have sa := zqSet_a (x := x) (v := v) ms
  have lq := zqLf_set lf (w := x / 80) (k := x / 4 % 20) (c := x % 4) (v := v) (by omega) (by omega) (by omega) (by omega) c1 (by omega) c2 A4 (fun p a b => ⟨(N2 p a b).2, (N2 p a b).1⟩) hr.2.2
  rw [show 80 * (x / 80) + 4 * (x / 4 % 20) + x % 4 = x by omega] at lq
  unfold MQ1 FQ1 zqQ1
  rw [ma, (e w).1, (e w).2.1, (e w).2.2, e157, ms x x0 x1, zqLf_c sa A4 N2, zqAll_c sa b0 b2 m4 wf, lq]
  exact ⟨fun z => ⟨⟨by omega, c2, un, hr⟩, z⟩, fun z => z.2⟩
theorem Fw1_v (x0 : 0 ≤ x) (p : Fw1 h g s w x) (wy : WyL g1 = zqV (MQ1 g w) x 20 ++ WyL g) (wl : WLm g1 (MWd h w) = WLm g (MWd h w)) (q : ∀ v : Int, MQ1 g w x v ↔ FQ1 h g s w x v) : Fw1 h g1 s w (x + 1) := by
  unfold Fw1 at p ⊢
  obtain ⟨e0, e1, -⟩ := Fw_eq (s := s) wl
  rw [e0, e1, wy, p, show (x + 1).toNat = x.toNat + 1 by omega, zqV2, Int.toNat_of_nonneg x0, zqV_cg 20 (fun v _ _ => q v), List.append_assoc]
theorem Fw2_0 (p : Fw1 h g s w 240) : Fw2 h g s w 0 := p
theorem Fw2_n (r0 : 0 ≤ r) (p : Fw2 h g s w r) (wl : WLm g1 (MWd h w) = WLm g (MWd h w)) (wy : WyL g1 = WyL g) (n : ¬ FQ2 h g s w r) : Fw2 h g1 s w (r + 1) := by
  have q := Fw2_cg p wl wy
  unfold Fw2 at q ⊢
  rw [zqV3_n r0 (by rw [(Fw_eq (s := s) wl).2.2.1]; exact n)]
  exact q
theorem Fw2_y {a b : Int} (r0 : 0 ≤ r) (p : Fw2 h g s w r) (wl : WLm g1 (MWd h w) = WLm g (MWd h w)) (wy : WyL g1 = (2, a, b, -1, -1) :: WyL g) (ha : a = r / 20) (hb : b = r % 20) (n : FQ2 h g s w r) : Fw2 h g1 s w (r + 1) := by
  unfold Fw2 at p ⊢
  obtain ⟨e0, e1, e2, -⟩ := Fw_eq (s := s) wl
  rw [e0, e1, e2, zqV3_y r0 n, wy, p, ha, hb]
  rfl
/-- a row of the trial's state goes, and is there again -/
theorem MS_drop {i : Int} (ms : zqAg (zqMS h s) (zqMS g 8)) (e : g1 = my_up g 162 i 0) (hi : i = 480 + r) (r0 : 0 ≤ r) (r1 : r < 60) : zqAg (zqDrop (zqMS h s) (r / 20) (r % 20)) (zqMS g1 8) := fun j a b => by
  have e3 : ∀ k : Int, g1 163 k = g 163 k := fun k => my_up_ne e (by omega)
  by_cases z : j / 4 = r
  · have e1 : g1 162 (60 * 8 + j / 4) = 0 := by rw [show 60 * 8 + j / 4 = i by omega]; exact my_up_self e
    unfold zqMS zqDrop
    rw [if_neg (by omega)]
    by_cases y : j % 4 = 0
    · rw [if_pos y, if_pos (by omega)]
    · rw [if_neg y, if_neg (by omega), if_pos (by omega)]
  · have e1 : g1 162 (60 * 8 + j / 4) = g 162 (60 * 8 + j / 4) := my_up_ne e (by omega)
    have q := ms j a b
    rw [zqDrop_off j (by omega), ← q]
    unfold zqMS
    rw [e1, e3]
theorem MS_back {g2 g3 : my_H} {i k y z : Int} (ms : zqAg (zqMS h s) (zqMS g 8)) (e : g1 = my_up g 162 i y) (e2 : ∀ j : Int, g2 162 j = g1 162 j) (e3 : ∀ j : Int, g2 163 j = g 163 j) (u : g3 = my_up g2 162 k z) (hk : k = i) (hz : z = g 162 i) : zqAg (zqMS h s) (zqMS g3 8) := fun j a b => by
  rw [← ms j a b]
  have f2 : ∀ j : Int, g3 162 j = g 162 j := fun j => by
    by_cases x : j = i
    · rw [x, ← hk, my_up_self u, hz, hk]
    · rw [my_up_ne u (by omega), e2, my_up_ne e (by omega)]
  have f3 : ∀ j : Int, g3 163 j = g 163 j := fun j => (my_up_ne u (by omega)).trans (e3 j)
  unfold zqMS
  rw [f2, f3]
/-- laws and rows wanted, of a trial -/
theorem La_m {S' : Int → Int} (ms : zqAg S' (zqMS g1 8)) (ma : zqMA g1 = zqMA h) (T : MTy h) (T1 : MTy g1) : MLs g1 8 ↔ zqLf (zqMA h) S' := by
  rw [MLs_lf T1 (by omega) (by omega), ma]
  exact zqLf_c ms (fun u p q => (T.2.2.2 u p (by omega)).2) (fun p q r => T.2.2.1 p q (by omega))
theorem Is_m {S' : Int → Int} {W : List zqR} {t8 : Int} (a : my_ag LmF h g1) (ms : zqAg S' (zqMS g1 t8)) (L : LmW h) (w0 : 0 ≤ w) (w5 : w ≤ 5) (t : h 164 w = 1) (wl : WLm g1 (MWd h w) = W) : IsP g1 t8 w ↔ (zqRun S' (h 157 (mBs h w)) ((zqLd S' (mBs h w) (h 157 (mBs h w)) 20).map Prod.snd) (mCW h w)).Perm W := by
  obtain ⟨wf, b0, b2, m1, m4⟩ := L w w0 w5 t
  obtain ⟨e, e157, -⟩ := Lm_e a
  unfold IsP
  rw [(e w).1, (e w).2.1, (e w).2.2, e157, zqAll_c ms b0 b2 m4 wf, wl]
theorem FQ2_i {S' : Int → Int} (un : zqUw (mBs h w) (mCW h w) (r / 20)) (hr : zqHas (zqMS h s) (r / 20) (r % 20)) (la : zqLf (zqMA h) (zqDrop (zqMS h s) (r / 20) (r % 20))) (is : (zqRun (zqDrop (zqMS h s) (r / 20) (r % 20)) (h 157 (mBs h w)) ((zqLd (zqDrop (zqMS h s) (r / 20) (r % 20)) (mBs h w) (h 157 (mBs h w)) 20).map Prod.snd) (mCW h w)).Perm (WLm g (MWd h w))) : FQ2 h g s w r := ⟨un, hr, la, is⟩
/-- all of them -/
def FwZ (h g : my_H) (s w : Int) : Prop := WyL g = zqAl (zqMA h) (zqMS h s) (mBs h w) (h 157 (mBs h w)) (mCW h w) (WLm g (MWd h w)) (cmM h w)
theorem FwZ_n (p : Fw2 h g s w 60) (wl : WLm g1 (MWd h w) = WLm g (MWd h w)) (wy : WyL g1 = WyL g) (n : ¬ FQ3 h g s w) : FwZ h g1 s w := by
  unfold FQ3 at n
  unfold FwZ zqAl
  rw [wl, wy, zqIf_f n]
  exact p
theorem FwZ_y {a b : Int} (p : Fw2 h g s w 60) (wl : WLm g1 (MWd h w) = WLm g (MWd h w)) (wy : WyL g1 = (3, a, b, -1, -1) :: WyL g) (ha : a = mBs h w) (hb : b = cmM h w 0) (n : FQ3 h g s w) : FwZ h g1 s w := by
  unfold FQ3 at n
  unfold FwZ zqAl
  rw [wl, wy, zqIf_t n, ha, hb, show WyL g = _ from p]
  rfl
theorem CmOk_m (a : my_ag LmF h g) (e188 : ∀ j : Int, g 188 j = h 188 j) (ms : zqAg (zqMS h s) (zqMS g 8)) (b0 : 0 ≤ mBs h w) (b2 : mBs h w ≤ 2) (k : 0 ≤ cmM h w 0 ∧ cmM h w 0 ≤ 19) : CmOk g 8 w ↔ zqCn (zqMS h s) (mBs h w) 20 < 10 ∧ zqMS h s (80 * mBs h w + 4 * cmM h w 0) = -1 := by
  obtain ⟨e, -⟩ := Lm_e a
  unfold CmOk
  rw [(e w).2.1, cmM_cg a e188, zqCn_c ms b0 b2, ms _ (by omega) (by omega)]
end
end ZTG
