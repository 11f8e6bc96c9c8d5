/-! the reference: what is wanted is seen, ways are found -/
section ZTA
theorem pis_162 : my_is 61 162 := by unfold my_is; decide +kernel
theorem pis_163 : my_is 62 163 := by unfold my_is; decide +kernel
theorem pis_160 : my_is 59 160 := by unfold my_is; decide +kernel
theorem pis_157 : my_is 56 157 := by unfold my_is; decide +kernel
theorem pis_158 : my_is 57 158 := by unfold my_is; decide +kernel
theorem pis_159 : my_is 58 159 := by unfold my_is; decide +kernel
theorem pis_161 : my_is 60 161 := by unfold my_is; decide +kernel
theorem pis_182 : my_is 81 182 := by unfold my_is; decide +kernel
theorem pis_189 : my_is 88 189 := by unfold my_is; decide +kernel
theorem pis_188 : my_is 87 188 := by unfold my_is; decide +kernel
theorem pis_190 : my_is 89 190 := by unfold my_is; decide +kernel
theorem pis_191 : my_is 90 191 := by unfold my_is; decide +kernel
theorem pis_192 : my_is 91 192 := by unfold my_is; decide +kernel
theorem pis_193 : my_is 92 193 := by unfold my_is; decide +kernel
theorem pis_194 : my_is 93 194 := by unfold my_is; decide +kernel
/-- a told window's columns -/
def MWd (h : my_H) (w : Int) : Int := zqW (h 157 (mBs h w)) (mCW h w)
def WLm (g : my_H) (W : Int) : List zqR := (zqL (zqN (wv W g) W) (g 151 46).toNat).map Prod.snd
def WSm (g : my_H) (W : Int) : Prop := zqS zqle (fun i => (zqN (wv W g) W i).2) (g 151 46).toNat ∧ 0 ≤ g 151 46
/-- shown and wanted rows differ -/
def Dif (g : my_H) : Prop := g 151 37 ≠ g 151 46 ∨ ∃ i c : Int, 0 ≤ i ∧ i < g 151 37 ∧ 0 ≤ c ∧ c < g 151 27 ∧ g 182 (8 * i + c) ≠ g 189 (8 * i + c)
def Eqr (g : my_H) (r : Int) : Prop := g 151 37 = g 151 46 ∧ ∀ i c : Int, 0 ≤ i → i < r → 0 ≤ c → c < g 151 27 → g 182 (8 * i + c) = g 189 (8 * i + c)
def Eqc (g : my_H) (r l : Int) : Prop := ∀ c : Int, 0 ≤ c → c < l → g 182 (8 * r + c) = g 189 (8 * r + c)
theorem Eqr_0 {g : my_H} (e : g 151 37 = g 151 46) : Eqr g 0 := ⟨e, fun i c a b => by omega⟩
theorem Eqc_0 {g : my_H} {r : Int} : Eqc g r 0 := fun c a b => by omega
theorem Eqc_s {g : my_H} {r l u v : Int} (p : Eqc g r l) (hu : u = g 182 (8 * r + l)) (hv : v = g 189 (8 * r + l)) (e : u = v) : Eqc g r (l + 1) := fun c a b => by
  by_cases z : c = l
  · rw [z, ← hu, ← hv]; exact e
  · exact p c a (by omega)
theorem Eqr_s {g : my_H} {r l : Int} (p : Eqr g r) (q : Eqc g r l) (hl : g 151 27 ≤ l) : Eqr g (r + 1) := ⟨p.1, fun i c a b c0 c1 => by
  by_cases z : i = r
  · rw [z]; exact q c c0 (by omega)
  · exact p.2 i c a (by omega) c0 c1⟩
theorem Dif_c {g : my_H} {r l u v : Int} (r0 : 0 ≤ r) (r1 : r < g 151 37) (l0 : 0 ≤ l) (l1 : l < g 151 27) (hu : u = g 182 (8 * r + l)) (hv : v = g 189 (8 * r + l)) (e : u ≠ v) : Dif g := Or.inr ⟨r, l, r0, r1, l0, l1, by rw [← hu, ← hv]; exact e⟩
theorem WLm_cg {h g : my_H} {W : Int} (e46 : g 151 46 = h 151 46) (e189 : ∀ j : Int, g 189 j = h 189 j) : WLm g W = WLm h W ∧ (WSm h W → WSm g W) := by
  have e : ∀ i : Nat, (zqN (wv W g) W i).2 = (zqN (wv W h) W i).2 := fun i => funext fun j => by
    show (if 0 ≤ j ∧ j < W then wv W g 182 (8 * (i : Int) + j) else 0) = (if 0 ≤ j ∧ j < W then wv W h 182 (8 * (i : Int) + j) else 0)
    rw [wv_at, wv_at, e189]
  constructor
  · unfold WLm
    rw [e46, zqL_map, zqL_map]
    exact zqL_cg (fun i _ => e i)
  · intro p
    unfold WSm at p ⊢
    rw [e46, show (fun i => (zqN (wv W g) W i).2) = (fun i => (zqN (wv W h) W i).2) from funext e]
    exact p
/-- what is shown is what is wanted, or isn't -/
theorem IsW {g : my_H} {S : Int → Int} {b m : Int} {P : List zqP} (V : VmI g S b m P) (vs : VmS g) (ws : WSm g (zqW m P)) (W8 : zqW m P ≤ 8) : (Eqr g (g 151 37) → (zqRun S m ((zqLd S b m 20).map Prod.snd) P).Perm (WLm g (zqW m P))) ∧ (Dif g → ¬ (zqRun S m ((zqLd S b m 20).map Prod.snd) P).Perm (WLm g (zqW m P))) := by
  obtain ⟨v1, v2, v3, v4, -⟩ := V
  have f1 : (zqL (zqN g (zqW m P)) (g 151 37).toNat).map Prod.snd = zqL (fun i => (zqN g (zqW m P) i).2) (g 151 37).toNat := zqL_map
  have f2 : WLm g (zqW m P) = zqL (fun i => (zqN (wv (zqW m P) g) (zqW m P) i).2) (g 151 46).toNat := by unfold WLm; rw [zqL_map]
  rw [f1] at v4
  refine ⟨fun q => ?_, fun d z => ?_⟩
  · refine v4.symm.trans (List.Perm.of_eq ?_)
    rw [f2, ← q.1]
    refine zqL_cg (fun i hi => funext fun j => ?_)
    show (if 0 ≤ j ∧ j < zqW m P then g 182 (8 * (i : Int) + j) else 0) = (if 0 ≤ j ∧ j < zqW m P then wv (zqW m P) g 182 (8 * (i : Int) + j) else 0)
    by_cases y : 0 ≤ j ∧ j < zqW m P
    · rw [if_pos y, if_pos y, wv_c y.1 y.2 (by omega)]
      exact q.2 i j (by omega) (by omega) y.1 (by omega)
    · rw [if_neg y, if_neg y]
  · have r := v4.trans z
    rw [f2] at r
    have l := r.length_eq
    rw [zqL_len, zqL_len] at l
    have ws0 := ws.2
    rcases d with d | ⟨i, c, i0, i1, c0, c1, ne⟩
    · omega
    · have vs' := vs
      unfold VmS at vs'
      rw [v1] at vs' c1
      rw [← l] at r
      have ws1 := ws.1
      rw [← l] at ws1
      have e := congrFun (zqS_uniq zqle_as vs' ws1 r i.toNat (by omega)) c
      have e1 : (zqN g (zqW m P) i.toNat).2 c = g 182 (8 * i + c) := zqN_at i0 c0 c1
      have e2 : (zqN (wv (zqW m P) g) (zqW m P) i.toNat).2 c = wv (zqW m P) g 182 (8 * i + c) := zqN_at i0 c0 c1
      rw [e1, e2, wv_c c0 c1 (by omega)] at e
      exact ne e
/-- the ways found so far, the last one first -/
def WyL (g : my_H) : List zqY := zqL (fun i : Nat => (g 190 (i : Int), g 191 (i : Int), g 192 (i : Int), g 193 (i : Int), g 194 (i : Int))) (g 151 48).toNat
theorem WyL_cg {h g : my_H} (e : g 151 48 = h 151 48) (e0 : ∀ j : Int, g 190 j = h 190 j) (e1 : ∀ j : Int, g 191 j = h 191 j) (e2 : ∀ j : Int, g 192 j = h 192 j) (e3 : ∀ j : Int, g 193 j = h 193 j) (e4 : ∀ j : Int, g 194 j = h 194 j) : WyL g = WyL h := by
  unfold WyL
  rw [e]
  exact zqL_cg (fun i _ => by rw [e0, e1, e2, e3, e4])
theorem WyL_0 {g : my_H} (e : g 151 48 = 0) : WyL g = [] := by unfold WyL; rw [e]; rfl
theorem WyL_s {h g1 g2 g3 g4 g5 g6 : my_H} {n0 n1 n2 n3 n4 m a0 a1 a2 a3 a4 : Int} (nn : 0 ≤ h 151 48) (u1 : g1 = my_up h 190 n0 a0) (h0 : n0 = h 151 48) (u2 : g2 = my_up g1 191 n1 a1) (h1 : n1 = h 151 48) (u3 : g3 = my_up g2 192 n2 a2) (h2 : n2 = h 151 48) (u4 : g4 = my_up g3 193 n3 a3) (h3 : n3 = h 151 48) (u5 : g5 = my_up g4 194 n4 a4) (h4 : n4 = h 151 48) (u6 : g6 = my_up g5 151 48 m) (hm : m = h 151 48 + 1) : WyL g6 = (a0, a1, a2, a3, a4) :: WyL h := by
  have e : g6 151 48 = h 151 48 + 1 := (my_up_self u6).trans hm
  unfold WyL
  rw [e, show (h 151 48 + 1).toNat = (h 151 48).toNat + 1 by omega, zqL]
  have c0 : ∀ j : Int, g6 190 j = if j = h 151 48 then a0 else h 190 j := fun j => by
    rw [my_up_ne u6 (by omega), my_up_ne u5 (by omega), my_up_ne u4 (by omega), my_up_ne u3 (by omega), my_up_ne u2 (by omega)]
    by_cases z : j = h 151 48
    · rw [if_pos z, show j = n0 by omega, my_up_self u1]
    · rw [if_neg z, my_up_ne u1 (by omega)]
  have c1 : ∀ j : Int, g6 191 j = if j = h 151 48 then a1 else h 191 j := fun j => by
    rw [my_up_ne u6 (by omega), my_up_ne u5 (by omega), my_up_ne u4 (by omega), my_up_ne u3 (by omega)]
    by_cases z : j = h 151 48
    · rw [if_pos z, show j = n1 by omega, my_up_self u2]
    · rw [if_neg z, my_up_ne u2 (by omega), my_up_ne u1 (by omega)]
  have c2 : ∀ j : Int, g6 192 j = if j = h 151 48 then a2 else h 192 j := fun j => by
    rw [my_up_ne u6 (by omega), my_up_ne u5 (by omega), my_up_ne u4 (by omega)]
    by_cases z : j = h 151 48
    · rw [if_pos z, show j = n2 by omega, my_up_self u3]
    · rw [if_neg z, my_up_ne u3 (by omega), my_up_ne u2 (by omega), my_up_ne u1 (by omega)]
  have c3 : ∀ j : Int, g6 193 j = if j = h 151 48 then a3 else h 193 j := fun j => by
    rw [my_up_ne u6 (by omega), my_up_ne u5 (by omega)]
    by_cases z : j = h 151 48
    · rw [if_pos z, show j = n3 by omega, my_up_self u4]
    · rw [if_neg z, my_up_ne u4 (by omega), my_up_ne u3 (by omega), my_up_ne u2 (by omega), my_up_ne u1 (by omega)]
  have c4 : ∀ j : Int, g6 194 j = if j = h 151 48 then a4 else h 194 j := fun j => by
    rw [my_up_ne u6 (by omega)]
    by_cases z : j = h 151 48
    · rw [if_pos z, show j = n4 by omega, my_up_self u5]
    · rw [if_neg z, my_up_ne u5 (by omega), my_up_ne u4 (by omega), my_up_ne u3 (by omega), my_up_ne u2 (by omega), my_up_ne u1 (by omega)]
  have hn : (((h 151 48).toNat : Nat) : Int) = h 151 48 := Int.toNat_of_nonneg nn
  refine congr (congrArg _ ?_) (zqL_cg (fun i hi => ?_))
  · rw [hn, c0, c1, c2, c3, c4, if_pos rfl, if_pos rfl, if_pos rfl, if_pos rfl, if_pos rfl]
  · rw [c0, c1, c2, c3, c4, if_neg (by omega), if_neg (by omega), if_neg (by omega), if_neg (by omega), if_neg (by omega)]
/-- the reference's panes as they can be -/
def LmW (h : my_H) : Prop := ∀ w : Int, 0 ≤ w → w ≤ 5 → h 164 w = 1 → zqWf (h 157 (mBs h w)) (mCW h w) ∧ 0 ≤ mBs h w ∧ mBs h w ≤ 2 ∧ 1 ≤ h 157 (mBs h w) ∧ h 157 (mBs h w) ≤ 4
theorem LmW_8 {h : my_H} {w : Int} (L : LmW h) (w0 : 0 ≤ w) (w5 : w ≤ 5) (t : h 164 w = 1) : 0 ≤ MWd h w ∧ MWd h w ≤ 8 := by
  obtain ⟨wf, b0, b2, m1, m4⟩ := L w w0 w5 t
  exact zqWf_W (by omega) (by omega) wf
/-- what is told, and the walls' columns, stay: so do panes -/
theorem zqMA_e {h g : my_H} (e0 : ∀ j : Int, g 157 j = h 157 j) (e1 : ∀ j : Int, g 158 j = h 158 j) (e2 : ∀ j : Int, g 159 j = h 159 j) (e3 : ∀ j : Int, g 160 j = h 160 j) (e4 : ∀ j : Int, g 161 j = h 161 j) : zqMA g = zqMA h := by
  unfold zqMA
  rw [funext e0, funext e1, funext e2, funext e3, funext e4]
/-- another value in cell x of a state -/
theorem MS_set {h g : my_H} {s x v : Int} (r : h 162 (60 * s + x / 4) = 1) (e2 : ∀ j : Int, g 162 j = h 162 j) (e3 : ∀ j : Int, j ≠ 240 * s + x → g 163 j = h 163 j) (ev : g 163 (240 * s + x) = v) : zqMS g s = zqSet (zqMS h s) x v := funext fun j => by
  unfold zqSet zqMS
  by_cases z : j = x
  · rw [if_pos z, z, e2, if_pos r, ev]
  · rw [if_neg z, e2]
    by_cases q : h 162 (60 * s + j / 4) = 1
    · rw [if_pos q, if_pos q, e3 _ (by omega)]
    · rw [if_neg q, if_neg q]
theorem MS_cell {h : my_H} {s x : Int} (r : h 162 (60 * s + x / 4) = 1) : zqMS h s x = h 163 (240 * s + x) := if_pos r
/-- a change of cell x to v is a way: of the state on which trials are made -/
def MQ1 (h : my_H) (w x v : Int) : Prop := v ≠ zqMS h 8 x ∧ zqLf (zqMA h) (zqSet (zqMS h 8) x v) ∧ (zqRun (zqSet (zqMS h 8) x v) (h 157 (mBs h w)) ((zqLd (zqSet (zqMS h 8) x v) (mBs h w) (h 157 (mBs h w)) 20).map Prod.snd) (mCW h w)).Perm (WLm h (MWd h w))
theorem FvI_s {Q : Int → Int → Prop} {L K : List zqY} {x v : Int} (v0 : 0 ≤ v) (p : K = zqV Q x v.toNat ++ L) (q : ¬ Q x v) : K = zqV Q x (v + 1).toNat ++ L := by rw [zqV_n v0 q]; exact p
theorem FvI_y {Q : Int → Int → Prop} {L K : List zqY} {x v a b c : Int} (v0 : 0 ≤ v) (p : K = zqV Q x v.toNat ++ L) (q : Q x v) (ha : a = x / 80) (hb : b = x / 4 % 20) (hc : c = x % 4) : (1, a, b, c, v) :: K = zqV Q x (v + 1).toNat ++ L := by rw [zqV_y v0 q, p, ha, hb, hc]; rfl
end ZTA
