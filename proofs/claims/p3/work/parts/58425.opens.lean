/-! an edit is opened: what is wanted -/
section ZRA
/-- rows that are wanted: of f's n rows of W columns -/
def EdL (f : Nat → zqR) (n : Nat) (W e i j v : Int) (D : Int → Int) : List zqR :=
  if e = 2 then (fun c => if 0 ≤ c ∧ c < W then D c else 0) :: zqL f n
  else if e = 1 then zqL (fun k => f (if i ≤ (k : Int) then k + 1 else k)) (n - 1)
  else zqL (fun k => if (k : Int) = i then (fun c => if c = j then v else f k c) else f k) n
def EdLh (g : my_H) (e i j v : Int) (D : Int → Int) : List zqR := EdL (fun k => (zqE g 98 (g 98 1) k).2) (g 98 0).toNat (g 98 1) e i j v D
/-- what lies in the wanted view -/
def WLs (g : my_H) : List zqR := (zqL (zqE g 102 (g 102 1)) (g 102 0).toNat).map Prod.snd
def WtB (g : my_H) : Prop := ∀ i : Nat, (i : Int) < g 102 0 → zqBe (zqE g 102 (g 102 1) i).2
def WtQ (g : my_H) (e i j v : Int) (D : Int → Int) : Prop := g 102 1 = g 98 1 ∧ 0 ≤ g 102 0 ∧ g 102 0 ≤ 11 ∧ WLs g = EdLh g e i j v D
theorem EdL_cg {f f' : Nat → zqR} {n : Nat} {W e i j v : Int} {D : Int → Int} (h : ∀ k : Nat, k < n → f k = f' k) : EdL f n W e i j v D = EdL f' n W e i j v D := by
  unfold EdL
  by_cases z2 : e = 2
  · rw [if_pos z2, if_pos z2, zqL_cg h]
  · rw [if_neg z2, if_neg z2]
    by_cases z1 : e = 1
    · rw [if_pos z1, if_pos z1]
      refine zqL_cg (fun k hk => ?_)
      by_cases q : i ≤ (k : Int)
      · rw [if_pos q]; exact h _ (by omega)
      · rw [if_neg q]; exact h _ (by omega)
    · rw [if_neg z1, if_neg z1]
      refine zqL_cg (fun k hk => ?_)
      by_cases q : (k : Int) = i
      · rw [if_pos q, if_pos q, h k hk]
      · rw [if_neg q, if_neg q, h k hk]
/-- a view's rows copied to another -/
theorem zqE_cp {g g2 g3 : my_H} {u v m : Int} {i : Nat} (m16 : m ≤ 16) (hi : (i : Int) < 12) (e3 : g3 = my_cp g2 u 0 (v + 1) 0 204) (eu : ∀ j : Int, g2 u j = g u j) (hu : u = 99) : zqE g3 v m i = zqE g 98 m i := by
  subst hu
  unfold zqE
  have rd : ∀ j : Int, 0 ≤ j → j < 204 → g3 (v + 1) j = g 99 j := fun j a b => by
    rw [my_cp_in e3 (by omega) (by omega), show 0 + (j - 0) = j by omega, eu]
  refine Prod.ext ?_ (funext fun j => ?_)
  · show g3 (v + 1) (17 * (i : Int) + 16) = g (98 + 1) (17 * (i : Int) + 16)
    exact rd _ (by omega) (by omega)
  · show (if 0 ≤ j ∧ j < m then g3 (v + 1) (17 * (i : Int) + j) else 0) = (if 0 ≤ j ∧ j < m then g (98 + 1) (17 * (i : Int) + j) else 0)
    by_cases q : 0 ≤ j ∧ j < m
    · rw [if_pos q, if_pos q]; exact rd _ (by omega) (by omega)
    · rw [if_neg q, if_neg q]
/-- one value is another -/
theorem WtQ_c {g3 g4 : my_H} {e i j v k : Int} {D : Int → Int} (e0 : e = 0) (cp : ∀ (m : Int) (r : Nat), m ≤ 16 → (r : Int) < 12 → zqE g3 102 m r = zqE g3 98 m r) (n0 : 0 ≤ g3 98 0) (n10 : g3 98 0 ≤ 10) (w8 : g3 98 1 ≤ 8) (c0 : g3 102 0 = g3 98 0) (c1 : g3 102 1 = g3 98 1) (i0 : 0 ≤ i) (hi : i < g3 98 0) (j0 : 0 ≤ j) (hj : j < g3 98 1) (e4 : g4 = my_up g3 103 k v) (hk : k = 17 * i + j) : WtQ g4 e i j v D := by
  subst hk
  have o98 : ∀ x : Int, g4 98 x = g3 98 x := fun x => my_up_ne e4 (by omega)
  have o102 : ∀ x : Int, g4 102 x = g3 102 x := fun x => my_up_ne e4 (by omega)
  have f98 : ∀ k : Nat, zqE g4 98 (g3 98 1) k = zqE g3 98 (g3 98 1) k := fun k => zqE_cg (by omega) (fun y _ _ => my_up_ne e4 (by omega))
  refine ⟨by rw [o102, o98]; exact c1, by rw [o102]; omega, by rw [o102]; omega, ?_⟩
  unfold WLs EdLh EdL
  rw [o102, o102, o98, o98, c0, c1, if_neg (by omega), if_neg (by omega), zqL_map]
  refine zqL_cg (fun r hr => ?_)
  show (zqE g4 102 (g3 98 1) r).2 = if (r : Int) = i then (fun c => if c = j then v else (zqE g4 98 (g3 98 1) r).2 c) else (zqE g4 98 (g3 98 1) r).2
  rw [f98 r]
  by_cases z : (r : Int) = i
  · rw [if_pos z]
    refine funext fun c => ?_
    show (if 0 ≤ c ∧ c < g3 98 1 then g4 (102 + 1) (17 * (r : Int) + c) else 0) = if c = j then v else (zqE g3 98 (g3 98 1) r).2 c
    by_cases y : c = j
    · rw [if_pos y, if_pos (by omega), y, z]
      exact my_up_self e4
    · rw [if_neg y, ← cp (g3 98 1) r (by omega) (by omega)]
      show _ = (if 0 ≤ c ∧ c < g3 98 1 then g3 (102 + 1) (17 * (r : Int) + c) else 0)
      by_cases x : 0 ≤ c ∧ c < g3 98 1
      · rw [if_pos x, if_pos x]; exact my_up_ne e4 (by omega)
      · rw [if_neg x, if_neg x]
  · rw [if_neg z, ← cp (g3 98 1) r (by omega) (by omega)]
    have q : zqE g4 102 (g3 98 1) r = zqE g3 102 (g3 98 1) r := zqE_cg (by omega) (fun y a b => my_up_ne e4 (by omega))
    rw [q]
/-- a row goes -/
theorem WtQ_d {g3 g4 : my_H} {e i j v : Int} {D : Int → Int} (e1 : e = 1) (cp : ∀ (m : Int) (r : Nat), m ≤ 16 → (r : Int) < 12 → zqE g3 102 m r = zqE g3 98 m r) (n10 : g3 98 0 ≤ 10) (w8 : g3 98 1 ≤ 8) (c0 : g3 102 0 = g3 98 0) (c1 : g3 102 1 = g3 98 1) (i0 : 0 ≤ i) (hi : i < g3 98 0) (d0 : g4 102 0 = g3 102 0 - 1) (dr : ∀ (m : Int) (r : Nat), m ≤ 16 → (r : Int) < g3 102 0 - 1 → zqE g4 102 m r = zqE g3 102 m (if i ≤ (r : Int) then r + 1 else r)) (d1 : g4 102 1 = g3 102 1) (o0 : g4 98 0 = g3 98 0) (o1 : g4 98 1 = g3 98 1) (og : ∀ y : Int, g4 99 y = g3 99 y) : WtQ g4 e i j v D := by
  have f98 : ∀ k : Nat, zqE g4 98 (g3 98 1) k = zqE g3 98 (g3 98 1) k := fun k => zqE_cg (by omega) (fun y _ _ => og y)
  refine ⟨by omega, by omega, by omega, ?_⟩
  unfold WLs EdLh EdL
  rw [d1, d0, o0, o1, c0, c1, if_neg (by omega), if_pos e1, zqL_map, show (g3 98 0 - 1).toNat = (g3 98 0).toNat - 1 by omega]
  refine zqL_cg (fun r hr => ?_)
  show (zqE g4 102 (g3 98 1) r).2 = (zqE g4 98 (g3 98 1) _).2
  rw [f98, dr _ r (by omega) (by omega)]
  by_cases q : i ≤ (r : Int)
  · rw [if_pos q, cp _ _ (by omega) (by omega)]
  · rw [if_neg q, cp _ _ (by omega) (by omega)]
/-- a row comes -/
theorem WtQ_a {g3 g4 g5 : my_H} {e i j v k n w : Int} (e2 : e = 2) (cp : ∀ (m : Int) (r : Nat), m ≤ 16 → (r : Int) < 12 → zqE g3 102 m r = zqE g3 98 m r) (n0 : 0 ≤ g3 98 0) (n10 : g3 98 0 ≤ 10) (w0 : 0 ≤ g3 98 1) (w8 : g3 98 1 ≤ 8) (c0 : g3 102 0 = g3 98 0) (c1 : g3 102 1 = g3 98 1) (a4 : g4 = my_cp g3 93 0 103 k w) (hk : k = 17 * g3 98 0) (hw : w = g3 98 1) (a5 : g5 = my_up g4 102 0 n) (hn : n = g3 98 0 + 1) : WtQ g5 e i j v (g3 93) := by
  subst hk; subst hw
  have o98 : ∀ x : Int, g5 98 x = g3 98 x := fun x => (my_up_ne a5 (by omega)).trans (my_cp_ne a4 (by omega))
  have t0 : g5 102 0 = g3 98 0 + 1 := (my_up_self a5).trans hn
  have t1 : g5 102 1 = g3 102 1 := (my_up_ne a5 (by omega)).trans (my_cp_ne a4 (by omega))
  have f98 : ∀ k : Nat, zqE g5 98 (g3 98 1) k = zqE g3 98 (g3 98 1) k := fun k => zqE_cg (by omega) (fun y _ _ => (my_up_ne a5 (by omega)).trans (my_cp_ne a4 (by omega)))
  refine ⟨by rw [t1, o98]; exact c1, by omega, by omega, ?_⟩
  unfold WLs EdLh EdL
  rw [t1, t0, o98, o98, c1, if_pos e2, show (g3 98 0 + 1).toNat = (g3 98 0).toNat + 1 by omega, zqL, List.map_cons, zqL_map]
  refine congr (congrArg _ (funext fun c => ?_)) (zqL_cg (fun r hr => ?_))
  · show (if 0 ≤ c ∧ c < g3 98 1 then g5 (102 + 1) (17 * ((g3 98 0).toNat : Int) + c) else 0) = if 0 ≤ c ∧ c < g3 98 1 then g3 93 c else 0
    by_cases x : 0 ≤ c ∧ c < g3 98 1
    · rw [if_pos x, if_pos x, Int.toNat_of_nonneg n0, show (102 : Int) + 1 = 103 from rfl, my_up_ne a5 (by omega), my_cp_in a4 (by omega) (by omega)]
      congr 1
      omega
    · rw [if_neg x, if_neg x]
  · show (zqE g5 102 (g3 98 1) r).2 = (zqE g5 98 (g3 98 1) r).2
    rw [f98, ← cp _ r (by omega) (by omega)]
    have q : zqE g5 102 (g3 98 1) r = zqE g3 102 (g3 98 1) r := zqE_cg (by omega) (fun y a b => (my_up_ne a5 (by omega)).trans (my_cp_ne a4 (by omega)))
    rw [q]
theorem EdL_be {f : Nat → zqR} {n : Nat} {W e i j v : Int} {D : Int → Int} (hf : ∀ k : Nat, k < n → zqBe (f k)) (hv : e = 0 → 0 ≤ v ∧ v ≤ 9999) (he : 0 ≤ e ∧ e ≤ 2) (hD : ∀ c : Int, 0 ≤ c → c < W → 0 ≤ D c ∧ D c ≤ 9999) : ∀ r ∈ EdL f n W e i j v D, zqBe r := by
  intro r hr c
  unfold EdL at hr
  by_cases z2 : e = 2
  · rw [if_pos z2] at hr
    rcases List.mem_cons.mp hr with q | q
    · subst q
      show 0 ≤ (if 0 ≤ c ∧ c < W then D c else 0) ∧ (if 0 ≤ c ∧ c < W then D c else 0) ≤ 9999
      by_cases x : 0 ≤ c ∧ c < W
      · rw [if_pos x]; exact hD c x.1 x.2
      · rw [if_neg x]; omega
    · obtain ⟨k, hk, q⟩ := zqL_mem.mp q
      subst q; exact hf k hk c
  · rw [if_neg z2] at hr
    by_cases z1 : e = 1
    · rw [if_pos z1] at hr
      obtain ⟨k, hk, q⟩ := zqL_mem.mp hr
      subst q
      show 0 ≤ f (if i ≤ (k : Int) then k + 1 else k) c ∧ _
      split
      · exact hf _ (by omega) c
      · exact hf _ (by omega) c
    · rw [if_neg z1] at hr
      obtain ⟨k, hk, q⟩ := zqL_mem.mp hr
      subst q
      show 0 ≤ (if (k : Int) = i then (fun c => if c = j then v else f k c) else f k) c ∧ _ ≤ (9999 : Int)
      by_cases x : (k : Int) = i
      · rw [if_pos x]
        show 0 ≤ (if c = j then v else f k c) ∧ (if c = j then v else f k c) ≤ 9999
        by_cases y : c = j
        · rw [if_pos y]; exact hv (by omega)
        · rw [if_neg y]; exact hf k hk c
      · rw [if_neg x]; exact hf k hk c
theorem WtQ_be {g : my_H} {e i j v : Int} {D : Int → Int} (q : WtQ g e i j v D) (hf : ∀ k : Nat, (k : Int) < g 98 0 → zqBe (zqE g 98 (g 98 1) k).2) (hv : e = 0 → 0 ≤ v ∧ v ≤ 9999) (he : 0 ≤ e ∧ e ≤ 2) (hD : ∀ c : Int, 0 ≤ c → c < g 98 1 → 0 ≤ D c ∧ D c ≤ 9999) : WtB g := by
  intro k hk
  have mem : (zqE g 102 (g 102 1) k).2 ∈ WLs g := List.mem_map.mpr ⟨_, zqL_mem.mpr ⟨k, by omega, rfl⟩, rfl⟩
  rw [q.2.2.2] at mem
  exact EdL_be (fun k hk => hf k (by omega)) hv he hD _ mem
theorem WtQ_so {g g' : my_H} {e i j v : Int} {D : Int → Int} (q : WtQ g e i j v D) (bd : WtB g) (e0 : g' 102 0 = g 102 0) (e1 : g' 102 1 = g 102 1) (s : SrtI g g' 102 (g 102 1) (g 102 0) (g 102 0)) (o0 : g' 98 0 = g 98 0) (o1 : g' 98 1 = g 98 1) (w8 : g 98 1 ≤ 8) (og : ∀ y : Int, g' 99 y = g 99 y) : (WLs g').Perm (EdLh g' e i j v D) ∧ VwS g' 102 ∧ g' 102 1 = g' 98 1 ∧ WtB g' ∧ 0 ≤ g' 102 0 ∧ g' 102 0 ≤ 11 := by
  obtain ⟨q1, q2, q3, q4⟩ := q
  have f98 : ∀ k : Nat, (zqE g' 98 (g 98 1) k).2 = (zqE g 98 (g 98 1) k).2 := fun k => congrArg Prod.snd (zqE_cg (by omega) (fun y _ _ => og y))
  refine ⟨?_, ?_, by omega, fun k hk => ?_, by omega, by omega⟩
  · have z : EdLh g' e i j v D = EdLh g e i j v D := by
      unfold EdLh
      rw [o0, o1]
      exact EdL_cg (fun k _ => f98 k)
    rw [z, ← q4]
    unfold WLs
    rw [e0, e1]
    exact s.1.map _
  · unfold VwS
    rw [e0, e1]
    exact s.2
  · rw [e1]
    exact SrtI_be s bd k (by omega)
theorem vb_mv {g g' : my_H} (p : ∀ i : Nat, (i : Int) < g 98 0 → zqBe (zqE g 98 (g 98 1) i).2) (e0 : g' 98 0 = g 98 0) (e1 : g' 98 1 = g 98 1) (w : g 98 1 ≤ 8) (n : ∀ j : Int, g' 99 j = g 99 j) : ∀ i : Nat, (i : Int) < g' 98 0 → zqBe (zqE g' 98 (g' 98 1) i).2 := by
  intro i hi
  rw [e1, zqE_cg (by omega) (fun y _ _ => n y)]
  exact p i (by omega)
theorem VwS_cg {g g' : my_H} {v : Int} (p : VwS g v) (e0 : g' v 0 = g v 0) (e1 : g' v 1 = g v 1) (w : g v 1 ≤ 16) (n : ∀ j : Int, g' (v + 1) j = g (v + 1) j) : VwS g' v := by
  unfold VwS at p ⊢
  rw [e0, e1]
  have q : (fun i => (zqE g' v (g v 1) i).2) = (fun i => (zqE g v (g v 1) i).2) := funext fun i => congrArg Prod.snd (zqE_cg w (fun y _ _ => n y))
  rw [q]
  exact p
/-- an edit that can be opened -/
def EdOk (h : my_H) (S : Int → Int) (w e i j v : Int) : Prop := (0 ≤ e ∧ e ≤ 2) ∧ (0 ≤ w ∧ w ≤ 5 ∧ h (h 27 w) 0 = 1) ∧ (e ≠ 2 → 0 ≤ i ∧ i < ((zqRun S (h (h 27 w) 3) ((zqLd S (h (h 27 w) 2) (h (h 27 w) 3) 20).map Prod.snd) (zqCW h w)).length : Int)) ∧ (e = 0 → 0 ≤ j ∧ j < zqW (h (h 27 w) 3) (zqCW h w) ∧ 0 ≤ v ∧ v ≤ 199)
theorem VwI_len {g : my_H} {v b m : Int} {S : Int → Int} {P : List zqP} (p : VwI g v S b m P) : g v 0 = ((zqRun S m ((zqLd S b m 20).map Prod.snd) P).length : Int) := by
  obtain ⟨v1, v2, v3, v4, v5⟩ := p
  have q := v4.length_eq
  rw [List.length_map, zqL_len] at q
  omega
end ZRA
