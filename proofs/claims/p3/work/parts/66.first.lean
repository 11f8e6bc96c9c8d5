/-! the first heap: what the machine has made when the law's loop begins -/
section MRF
def iv : Value → Int
  | .int x => x.toInt
  | .long x => x.toInt
  | .ref a => (a : Int)
  | _ => 0
def fvb (e : my_E) (o : Nat) (v : Value) : Bool := match v with
  | .int x => Nat.beq e.1 0 && (decide (e.2.1 ≤ x.toInt) && decide (x.toInt ≤ e.2.2))
  | .long _ => Nat.beq e.1 1
  | .ref a => Nat.beq e.1 2 && (Nat.blt a my_N && (Nat.beq (my_ot a) e.2.1.toNat && (decide (e.2.2 = 0) || decide ((a : Int) = (o : Int) + e.2.2))))
  | _ => false
def allN : Nat → (Nat → Bool) → Bool
  | 0, _ => true
  | n + 1, p => p n && allN n p
theorem allN_spec : ∀ {n : Nat} {p : Nat → Bool}, allN n p = true → ∀ j : Nat, j < n → p j = true
  | 0, _, _, _, hj => absurd hj (Nat.not_lt_zero _)
  | n + 1, p, h, j, hj => by
    rw [allN, Bool.and_eq_true] at h
    rcases Nat.lt_or_ge j n with hl | hg
    · exact allN_spec h.2 j hl
    · have e : j = n := by omega
      rw [e]
      exact h.1
theorem fvb_spec {e : my_E} {o : Nat} {v : Value} (h : fvb e o v = true) : v = my_val (e.1, iv v) ∧ my_el e o (iv v) := by
  obtain ⟨t, lo, hi⟩ := e
  unfold fvb at h
  split at h
  next x =>
    simp only [Bool.and_eq_true, decide_eq_true_eq] at h
    obtain ⟨h1, h2, h3⟩ := h
    have e1 : t = 0 := Nat.eq_of_beq_eq_true h1
    subst e1
    refine ⟨?_, h2, h3, my_fullI x⟩
    show Value.int x = Value.int (Int32.ofInt x.toInt)
    rw [Int32.ofInt_toInt]
  next x =>
    have e1 : t = 1 := Nat.eq_of_beq_eq_true h
    subst e1
    refine ⟨?_, my_fullJ x⟩
    show Value.long x = Value.long (Int64.ofInt x.toInt)
    rw [Int64.ofInt_toInt]
  next a =>
    simp only [Bool.and_eq_true, Bool.or_eq_true, decide_eq_true_eq] at h
    obtain ⟨h1, h2, h3, h4⟩ := h
    have e1 : t = 2 := Nat.eq_of_beq_eq_true h1
    subst e1
    refine ⟨?_, ⟨Int.natCast_nonneg a, ?_, ?_⟩, h4⟩
    · show Value.ref a = Value.ref (a : Int).toNat
      rw [Int.toNat_natCast]
    · show (a : Int).toNat < my_N
      rw [Int.toNat_natCast]
      exact Nat.blt_eq.mp h2
    · show my_ot (a : Int).toNat = lo.toNat
      rw [Int.toNat_natCast]
      exact Nat.eq_of_beq_eq_true h3
  next => cases h
def fsb : List my_E → Nat → List Value → Bool
  | [], _, [] => true
  | e :: es, o, v :: vs => fvb e o v && fsb es o vs
  | _, _, _ => false
theorem fsb_spec : ∀ {es : List my_E} {o : Nat} {fs : List Value}, fsb es o fs = true → fs.length = es.length ∧ ∀ (j : Nat) (e : my_E), es[j]? = some e → fs[j]? = some (my_val (e.1, iv (fs.getD j (.int 0)))) ∧ my_el e o (iv (fs.getD j (.int 0)))
  | [], _, [], _ => ⟨rfl, fun j e h => by simp at h⟩
  | e :: es, o, v :: vs, h => by
    rw [fsb, Bool.and_eq_true] at h
    obtain ⟨l1, l2⟩ := fsb_spec h.2
    refine ⟨by rw [List.length_cons, List.length_cons, l1], fun j e' hj => ?_⟩
    cases j with
    | zero =>
      have e2 : e = e' := by simpa using hj
      subst e2
      obtain ⟨v1, v2⟩ := fvb_spec h.1
      exact ⟨congrArg some v1, v2⟩
    | succ j => exact l2 j e' (by simpa using hj)
  | [], _, _ :: _, h => by simp [fsb] at h
  | _ :: _, _, [], h => by simp [fsb] at h
def ub (es : List my_E) (o : Nat) (j : Nat) (v : Value) : Bool := match es[j % es.length]? with
  | some e => fvb e o v
  | none => true
def cb (D : my_D) (o : Nat) (c : mx_C) : Bool := match D, c with
  | .inl q, .inl (t, n, d, us) => Nat.beq t q.1 && (Nat.beq n q.2.1 && ((q.2.2.all (fun e => fvb e o d) && us.all (fun u => ub q.2.2 o u.1 u.2)) || (Nat.ble n 64 && allN n (fun j => ub q.2.2 o j (mx_at d us j)))))
  | .inr q, .inr (ci, fs) => Nat.beq ci q.1 && fsb q.2 o fs
  | _, _ => false
def civ (c : mx_C) (j : Nat) : Int := match c with
  | .inl (_, _, d, us) => iv (mx_at d us j)
  | .inr (_, fs) => iv (fs.getD j (.int 0))
theorem at_mem {d : Value} {j : Nat} : ∀ {us : List (Nat × Value)}, mx_at d us j = d ∨ ∃ u ∈ us, u.1 = j ∧ mx_at d us j = u.2
  | [] => Or.inl rfl
  | u :: us => by
    unfold mx_at
    rw [mx_look]
    cases hb : Nat.beq u.1 j with
    | true => exact Or.inr ⟨u, List.mem_cons_self, Nat.eq_of_beq_eq_true hb, rfl⟩
    | false =>
      simp only [cond_false]
      rcases at_mem (d := d) (j := j) (us := us) with h | ⟨w, w1, w2, w3⟩
      · exact Or.inl h
      · exact Or.inr ⟨w, List.mem_cons_of_mem _ w1, w2, w3⟩
theorem ub_spec {es : List my_E} {o j : Nat} {v : Value} {e : my_E} (h : ub es o j v = true) (he : es[j % es.length]? = some e) : fvb e o v = true := by
  unfold ub at h
  rw [he] at h
  exact h
theorem cb_spec {D : my_D} {o : Nat} {c : mx_C} (h : cb D o c = true) : my_HC c D o (fun j => civ c j.toNat) := by
  unfold cb at h
  split at h
  next q t n d us =>
    simp only [Bool.and_eq_true, Bool.or_eq_true] at h
    obtain ⟨h1, h2, h3⟩ := h
    have e1 := Nat.eq_of_beq_eq_true h1
    have e2 := Nat.eq_of_beq_eq_true h2
    subst e1; subst e2
    refine ⟨d, us, rfl, fun j e hj he => ?_⟩
    have hv : fvb e o (mx_at d us j) = true := by
      rcases h3 with ⟨h4, h5⟩ | ⟨-, h5⟩
      · rcases at_mem (d := d) (j := j) (us := us) with h | ⟨w, w1, w2, w3⟩
        · rw [h]
          exact List.all_eq_true.mp h4 e (List.mem_of_getElem? he)
        · rw [w3]
          have h6 := List.all_eq_true.mp h5 w w1
          rw [w2] at h6
          exact ub_spec h6 he
      · exact ub_spec (allN_spec h5 j hj) he
    show mx_at d us j = my_val (e.1, iv (mx_at d us (j : Int).toNat)) ∧ my_el e o (iv (mx_at d us (j : Int).toNat))
    rw [Int.toNat_natCast]
    exact fvb_spec hv
  next q ci fs =>
    simp only [Bool.and_eq_true] at h
    have e1 := Nat.eq_of_beq_eq_true h.1
    subst e1
    obtain ⟨l1, l2⟩ := fsb_spec h.2
    refine ⟨fs, rfl, l1, fun j e he => ?_⟩
    show fs[j]? = some (my_val (e.1, iv (fs.getD (j : Int).toNat (.int 0)))) ∧ my_el e o (iv (fs.getD (j : Int).toNat (.int 0)))
    rw [Int.toNat_natCast]
    exact l2 j e he
  next => cases h
def hOf (H : mx_H) : my_H := fun k j => match H[k.toNat]? with
  | some c => civ c j.toNat
  | none => 0
noncomputable def hv (h : mf_H) (k j : Nat) : Int := match fh_nth h k with
  | some c => civ c j
  | none => 0
theorem hOf_hv {h : mf_H} (hk : fh_ok h) (k j : Nat) : hOf h.flatten (k : Int) (j : Int) = hv h k j := by
  unfold hOf hv
  rw [Int.toNat_natCast, Int.toNat_natCast, fh_nth_eq h hk]
noncomputable def fb (h : mf_H) : Bool := allN 204 (fun k => match fh_nth h k with
  | some c => cb (my_rd (my_ot k)) k c
  | none => false)
theorem fb_spec {h : mf_H} (hk : fh_ok h) (hb : fb h = true) : my_HR h.flatten (hOf h.flatten) := by
  intro k hkN
  have h1 := allN_spec hb k hkN
  cases h2 : fh_nth h k with
  | none => rw [h2] at h1; cases h1
  | some c =>
    rw [h2] at h1
    have h3 : h.flatten[k]? = some c := by rw [← fh_nth_eq h hk]; exact h2
    refine ⟨c, h3, ?_⟩
    have h4 : hOf h.flatten (k : Int) = fun j => civ c j.toNat := by
      funext j
      unfold hOf
      rw [Int.toNat_natCast, h3]
    rw [h4]
    exact cb_spec h1
noncomputable def lnb (h : mf_H) : Bool := allN 6 (fun w => decide (hv h 27 w = ((28 + 9 * w : Nat) : Int)) && decide (hv h (28 + 9 * w) 0 = 0)) && decide (hv h 82 2 = ((83 : Nat) : Int))
noncomputable def mwb (h : mf_H) : Bool := allN 6 (fun w => decide (hv h 164 w = 0))
noncomputable def rwb (h : mf_H) : Bool := match fh_nth h 162 with
  | some (.inl (_, _, d, us)) => decide (iv d = 0) && us.all (fun u => decide (iv u.2 = 0))
  | _ => false
noncomputable def wrb (h : mf_H) : Bool := !decide (hv h 156 10 = hv h 156 3) && (!decide (hv h 156 10 = hv h 156 7) && (!decide (hv h 156 10 = hv h 156 8) && !decide (hv h 156 10 = hv h 156 11)))
noncomputable def zb (h : mf_H) (k : Nat) : Bool := match fh_nth h k with
  | some (.inl (_, _, d, us)) => decide (iv d = 0) && us.all (fun u => decide (iv u.2 = 0))
  | _ => false
theorem zb_spec {h : mf_H} (hk : fh_ok h) {k : Nat} (hb : zb h k = true) (j : Int) : hOf h.flatten (k : Int) j = 0 := by
  unfold zb at hb
  rw [fh_nth_eq h hk] at hb
  have e : hOf h.flatten (k : Int) j = match h.flatten[k]? with
    | some c => civ c j.toNat
    | none => 0 := by
    unfold hOf
    rw [Int.toNat_natCast]
  rw [e]
  split at hb
  next d us hq =>
    rw [hq]
    simp only [Bool.and_eq_true, decide_eq_true_eq] at hb
    show iv (mx_at d us j.toNat) = 0
    rcases at_mem (d := d) (j := j.toNat) (us := us) with h | ⟨w, w1, w2, w3⟩
    · rw [h]; exact hb.1
    · rw [w3]
      have := List.all_eq_true.mp hb.2 w w1
      simpa using this
  next => cases hb
noncomputable def simb (h : mf_H) : Bool := allN 12 (fun p => decide (hv h 3 p = 0) && (decide (hv h 4 p = 19) && (decide (hv h 5 p = -1) && (decide (hv h 6 p = 0) && (decide (hv h 158 p = 0) && (decide (hv h 159 p = 19) && (decide (hv h 160 p = -1) && decide (hv h 161 p = 0)))))))) && (allN 240 (fun j => decide (hv h 8 j = if j % 4 = 0 then -1 else 0)) && (allN 3 (fun u => decide (hv h 2 u = 0) && (decide (hv h 157 u = 0) && decide (hv h 9 u = 0))) && (allN 8 (fun j => decide (hv h 93 j = hv h 188 j)) && (allN 4 (fun m => decide (hv h 13 m = 14 + 3 * (m : Int)) && (decide (hv h 26 m = 0) && decide (hv h 202 m = 0))) && (allN 6 (fun m => decide (hv h 125 m = 126 + 3 * (m : Int)) && decide (hv h 164 m = 0)) && zb h 162)))))
noncomputable def cqb (h : mf_H) : Bool := simb h && (allN 3 (fun w => decide (hv h 2 w = hv h 157 w)) && (allN 12 (fun w => decide (hv h 156 w = wm ((w : Nat) : Int))) && (zb h 92 && (zb h 152 && (decide (hv h 82 4 = hv h 151 2) && (lnb h && mwb h))))))
def mz_l23 (ls : mx_L) : Bool := match mx_look ls 0, mx_look ls 1, mx_look ls 2, mx_look ls 3, mx_look ls 4 with
  | some (.float u), some (.ref a1), some (.ref a2), some (.ref a3), some (.int x) => decide (u = 0) && (Nat.beq a1 0 && (Nat.beq a2 151 && (Nat.beq a3 203 && decide (x = 0))))
  | _, _, _, _, _ => false
noncomputable def mz_K23 : mf_K := fun _ h pc ls st => Nat.beq pc 23 && (st.isEmpty && (mz_l23 ls && (Nat.ble h.flatten.length 600000 && (Nat.ble (mx_sz h.flatten) 7000000 && (fb h && (lnb h && (mwb h && (rwb h && (wrb h && cqb h)))))))))
theorem six {w : Int} (h0 : 0 ≤ w) (h5 : w ≤ 5) : ∃ n : Nat, n < 6 ∧ w = (n : Int) := ⟨w.toNat, by omega, by omega⟩
theorem is_lens : ∀ n : Nat, n < 6 → my_is 4 ((28 + 9 * n : Nat) : Int) := by
  intro n hn
  match n, hn with
  | 0, _ => exact ⟨by decide, by decide, by decide +kernel⟩
  | 1, _ => exact ⟨by decide, by decide, by decide +kernel⟩
  | 2, _ => exact ⟨by decide, by decide, by decide +kernel⟩
  | 3, _ => exact ⟨by decide, by decide, by decide +kernel⟩
  | 4, _ => exact ⟨by decide, by decide, by decide +kernel⟩
  | 5, _ => exact ⟨by decide, by decide, by decide +kernel⟩
  | n + 6, hn => omega
theorem first_Ln {h : mf_H} (hk : fh_ok h) (hb : lnb h = true) : Ln (hOf h.flatten) := by
  unfold lnb at hb
  simp only [Bool.and_eq_true, decide_eq_true_eq] at hb
  obtain ⟨h1, h2⟩ := hb
  have g : ∀ n : Nat, n < 6 → hOf h.flatten 27 (n : Int) = ((28 + 9 * n : Nat) : Int) ∧ hOf h.flatten ((28 + 9 * n : Nat) : Int) 0 = 0 := by
    intro n hn
    have h3 := allN_spec h1 n hn
    simp only [Bool.and_eq_true, decide_eq_true_eq] at h3
    exact ⟨(hOf_hv hk 27 n).trans h3.1, (hOf_hv hk (28 + 9 * n) 0).trans h3.2⟩
  have g2 : hOf h.flatten 82 2 = ((83 : Nat) : Int) := (hOf_hv hk 82 2).trans h2
  refine ⟨fun v w v0 v5 w0 w5 e => ?_, fun w w0 w5 => ?_, fun w w0 w5 => ?_, ?_, fun w w0 w5 e => ?_⟩
  · obtain ⟨n, n6, rfl⟩ := six v0 v5
    obtain ⟨k, k6, rfl⟩ := six w0 w5
    rw [(g n n6).1, (g k k6).1] at e
    omega
  · obtain ⟨n, n6, rfl⟩ := six w0 w5
    rw [(g n n6).1, g2]
    omega
  · obtain ⟨n, n6, rfl⟩ := six w0 w5
    rw [(g n n6).1]
    exact is_lens n n6
  · rw [g2]
    exact ⟨by decide, by decide, by decide +kernel⟩
  · obtain ⟨n, n6, rfl⟩ := six w0 w5
    rw [(g n n6).1, (g n n6).2] at e
    omega
theorem first_Mw {h : mf_H} (hk : fh_ok h) (hb : mwb h = true) : Mw3 (hOf h.flatten) := by
  have g : ∀ w : Int, 0 ≤ w → w ≤ 5 → hOf h.flatten 164 w = 0 := by
    intro w w0 w5
    obtain ⟨n, n6, rfl⟩ := six w0 w5
    have h3 := allN_spec hb n n6
    simp only [decide_eq_true_eq] at h3
    exact (hOf_hv hk 164 n).trans h3
  exact ⟨fun _ => 0, fun k k0 k5 e => by rw [g k k0 k5] at e; omega, fun k k0 k5 e => by rw [g k k0 k5] at e; omega⟩
theorem first_Rws {h : mf_H} (hk : fh_ok h) (hb : rwb h = true) : Rws (hOf h.flatten) := by
  have g : ∀ j : Int, hOf h.flatten 162 j = 0 := by
    intro j
    unfold rwb at hb
    rw [fh_nth_eq h hk] at hb
    have e : hOf h.flatten 162 j = match h.flatten[162]? with
      | some c => civ c j.toNat
      | none => 0 := rfl
    rw [e]
    split at hb
    next d us hq =>
      rw [hq]
      simp only [Bool.and_eq_true, decide_eq_true_eq] at hb
      show iv (mx_at d us j.toNat) = 0
      rcases at_mem (d := d) (j := j.toNat) (us := us) with h | ⟨w, w1, w2, w3⟩
      · rw [h]; exact hb.1
      · rw [w3]
        have := List.all_eq_true.mp hb.2 w w1
        simpa using this
    next => cases hb
  have z : ∀ (n : Nat) (b : Int), rc (hOf h.flatten) b n = 0 := by
    intro n
    induction n with
    | zero => intro b; rfl
    | succ n ih => intro b; rw [rc, ih, g]; rfl
  intro s w _ _ _ _
  rw [z]
  decide
theorem first_Wrd {h : mf_H} (hk : fh_ok h) (hb : wrb h = true) : Wrd (hOf h.flatten) := by
  unfold wrb at hb
  simp only [Bool.and_eq_true, Bool.not_eq_true', decide_eq_false_iff_not] at hb
  obtain ⟨h1, h2, h3, h4⟩ := hb
  refine ⟨fun e => h1 ?_, fun e => h2 ?_, fun e => h3 ?_, fun e => h4 ?_⟩
  · exact (hOf_hv hk 156 10).symm.trans (e.trans (hOf_hv hk 156 3))
  · exact (hOf_hv hk 156 10).symm.trans (e.trans (hOf_hv hk 156 7))
  · exact (hOf_hv hk 156 10).symm.trans (e.trans (hOf_hv hk 156 8))
  · exact (hOf_hv hk 156 10).symm.trans (e.trans (hOf_hv hk 156 11))
theorem nof {a b : Int} (a0 : 0 ≤ a) (ab : a < b) : ∃ n : Nat, (n : Int) < b ∧ a = (n : Int) := ⟨a.toNat, by omega, by omega⟩
theorem first_Sim {h : mf_H} (hk : fh_ok h) (W : Wnq (hOf h.flatten)) (hb : simb h = true) : Hed (hOf h.flatten) ∧ Sim (hOf h.flatten) := by
  unfold simb at hb
  simp only [Bool.and_eq_true] at hb
  obtain ⟨h1, h2, h3, h4, h5, h6, h7⟩ := hb
  have P : ∀ p : Int, 0 ≤ p → p ≤ 11 → hOf h.flatten 3 p = 0 ∧ hOf h.flatten 4 p = 19 ∧ hOf h.flatten 5 p = -1 ∧ hOf h.flatten 6 p = 0 ∧ hOf h.flatten 158 p = 0 ∧ hOf h.flatten 159 p = 19 ∧ hOf h.flatten 160 p = -1 ∧ hOf h.flatten 161 p = 0 := fun p p0 p9 => by
    obtain ⟨n, n6, rfl⟩ := nof p0 (show p < 12 by omega)
    have q := allN_spec h1 n (by omega)
    simp only [Bool.and_eq_true, decide_eq_true_eq] at q
    obtain ⟨q1, q2, q3, q4, q5, q6, q7, q8⟩ := q
    exact ⟨(hOf_hv hk 3 n).trans q1, (hOf_hv hk 4 n).trans q2, (hOf_hv hk 5 n).trans q3, (hOf_hv hk 6 n).trans q4, (hOf_hv hk 158 n).trans q5, (hOf_hv hk 159 n).trans q6, (hOf_hv hk 160 n).trans q7, (hOf_hv hk 161 n).trans q8⟩
  have R : ∀ j : Int, 0 ≤ j → j < 240 → hOf h.flatten 8 j = if j % 4 = 0 then -1 else 0 := fun j j0 j9 => by
    obtain ⟨n, n6, rfl⟩ := nof j0 j9
    have q := allN_spec h2 n (by omega)
    simp only [decide_eq_true_eq] at q
    refine (hOf_hv hk 8 n).trans (q.trans ?_)
    by_cases z : n % 4 = 0
    · rw [if_pos z, if_pos (by omega)]
    · rw [if_neg z, if_neg (by omega)]
  have U : ∀ u : Int, 0 ≤ u → u ≤ 2 → hOf h.flatten 2 u = 0 ∧ hOf h.flatten 157 u = 0 ∧ hOf h.flatten 9 u = 0 := fun u u0 u2 => by
    obtain ⟨n, n6, rfl⟩ := nof u0 (show u < 3 by omega)
    have q := allN_spec h3 n (by omega)
    simp only [Bool.and_eq_true, decide_eq_true_eq] at q
    exact ⟨(hOf_hv hk 2 n).trans q.1, (hOf_hv hk 157 n).trans q.2.1, (hOf_hv hk 9 n).trans q.2.2⟩
  have D : ∀ j : Int, 0 ≤ j → j ≤ 7 → hOf h.flatten 93 j = hOf h.flatten 188 j := fun j j0 j7 => by
    obtain ⟨n, n6, rfl⟩ := nof j0 (show j < 8 by omega)
    have q := allN_spec h4 n (by omega)
    simp only [decide_eq_true_eq] at q
    exact (hOf_hv hk 93 n).trans (q.trans (hOf_hv hk 188 n).symm)
  have M : ∀ m : Int, 0 ≤ m → m ≤ 3 → hOf h.flatten 13 m = 14 + 3 * m ∧ hOf h.flatten 26 m = 0 ∧ hOf h.flatten 202 m = 0 := fun m m0 m3 => by
    obtain ⟨n, n6, rfl⟩ := nof m0 (show m < 4 by omega)
    have q := allN_spec h5 n (by omega)
    simp only [Bool.and_eq_true, decide_eq_true_eq] at q
    exact ⟨(hOf_hv hk 13 n).trans q.1, (hOf_hv hk 26 n).trans q.2.1, (hOf_hv hk 202 n).trans q.2.2⟩
  have E : ∀ m : Int, 0 ≤ m → m ≤ 5 → hOf h.flatten 125 m = 126 + 3 * m ∧ hOf h.flatten 164 m = 0 := fun m m0 m5 => by
    obtain ⟨n, n6, rfl⟩ := nof m0 (show m < 6 by omega)
    have q := allN_spec h6 n (by omega)
    simp only [Bool.and_eq_true, decide_eq_true_eq] at q
    exact ⟨(hOf_hv hk 125 n).trans q.1, (hOf_hv hk 164 n).trans q.2⟩
  have Z : ∀ j : Int, hOf h.flatten 162 j = 0 := fun j => zb_spec hk h7 j
  generalize hOf h.flatten = g at P R U D M E Z W ⊢
  have nt : ∀ w : Int, 0 ≤ w → w ≤ 5 → ¬ g 164 w = 1 := fun w w0 w5 q => by
    have := (E w w0 w5).2
    omega
  have ntc : ∀ w : Int, 0 ≤ w → w ≤ 5 → ¬ g (g 27 w) 0 = 1 := fun w w0 w5 q => nt w w0 w5 (by rw [← W.2.1 w w0 w5]; exact q)
  have row : ∀ w k : Int, 0 ≤ w → w ≤ 2 → 0 ≤ k → k ≤ 19 → g 8 (80 * w + 4 * k) = -1 := fun w k w0 w2 k0 k9 => by
    rw [R _ (by omega) (by omega), if_pos (by omega)]
  have col : ∀ w k c : Int, 0 ≤ w → w ≤ 2 → 0 ≤ k → k ≤ 19 → 1 ≤ c → c ≤ 3 → g 8 (80 * w + 4 * k + c) = 0 := fun w k c w0 w2 k0 k9 c1 c3 => by
    rw [R _ (by omega) (by omega), if_neg (by omega)]
  have cn : ∀ w : Int, 0 ≤ w → w ≤ 2 → ∀ n : Nat, n ≤ 20 → zqCn (g 8) w n = 0 := fun w w0 w2 n => by
    induction n with
    | zero => intro _; rfl
    | succ n ih =>
      intro hn
      rw [zqCn, if_pos (row w (n : Int) w0 w2 (by omega) (by omega))]
      exact ih (by omega)
  refine ⟨fun m m0 m5 => (E m m0 m5).1, ⟨⟨fun w w0 w5 t => absurd t (ntc w w0 w5), fun w w0 w5 t => absurd t (ntc w w0 w5)⟩, fun w w0 w5 t => absurd t (nt w w0 w5), fun w w0 w5 t => absurd t (nt w w0 w5)⟩, ⟨⟨⟨⟨fun w k w0 w2 hs => absurd (row w k w0 w2 hs.1 hs.2.1) hs.2.2, fun w w0 w2 => ?_⟩, fun w k c w0 w2 k0 k9 _ _ hr => absurd (row w k w0 w2 k0 k9) hr, fun w k w0 w2 k0 k9 => Or.inl ⟨row w k w0 w2 k0 k9, col w k 1 w0 w2 k0 k9 (by omega) (by omega), col w k 2 w0 w2 k0 k9 (by omega) (by omega), col w k 3 w0 w2 k0 k9 (by omega) (by omega)⟩⟩, fun w c w0 w2 c0 c3 _ => ?_, fun u u0 u2 => ?_, fun p p0 p9 => ?_, fun u u0 u2 => ?_⟩, fun j j0 j9 => ?_⟩, ⟨fun w w0 w2 => ?_, fun p p0 p9 => ?_⟩, D, fun m m0 m3 => ⟨(M m m0 m3).1, (M m m0 m3).2.1.trans (M m m0 m3).2.2.symm, fun t => ?_⟩⟩
  · show zqCn (g 8) w 20 ≤ 10
    rw [cn w w0 w2 20 (by omega)]
    decide
  · obtain ⟨p1, p2, p3, p4, -⟩ := P (4 * w + c) (by omega) (by omega)
    exact ⟨p1, p2, p3, p4⟩
  · rw [(U u u0 u2).1]; omega
  · rw [(P p p0 p9).2.2.1]; omega
  · show g 9 u = zqCn (g 8) u 20
    rw [(U u u0 u2).2.2, cn u u0 u2 20 (by omega)]
  · unfold zqMS
    rw [Z, if_neg (by decide)]
    exact (R j j0 j9).symm
  · show g 2 w = g 157 w
    rw [(U w w0 w2).1, (U w w0 w2).2.1]
  · show g 3 p = g 158 p ∧ g 4 p = g 159 p ∧ g 5 p = g 160 p ∧ g 6 p = g 161 p
    obtain ⟨p1, p2, p3, p4, p5, p6, p7, p8⟩ := P p p0 p9
    exact ⟨p1.trans p5.symm, p2.trans p6.symm, p3.trans p7.symm, p4.trans p8.symm⟩
  · have := (M m m0 m3).2.1
    omega
theorem first_9 {h : mf_H} (hk : fh_ok h) (L : Ln (hOf h.flatten)) (hb : cqb h = true) : Ceq (hOf h.flatten) ∧ Wd9 (hOf h.flatten) ∧ Teq (hOf h.flatten) ∧ Wnq (hOf h.flatten) ∧ Hed (hOf h.flatten) ∧ Sim (hOf h.flatten) := by
  unfold cqb at hb
  simp only [Bool.and_eq_true, decide_eq_true_eq] at hb
  obtain ⟨h0, hb⟩ := hb
  suffices q : Ceq (hOf h.flatten) ∧ Wd9 (hOf h.flatten) ∧ Teq (hOf h.flatten) ∧ Wnq (hOf h.flatten) from ⟨q.1, q.2.1, q.2.2.1, q.2.2.2, first_Sim hk q.2.2.2 h0⟩
  obtain ⟨h1, h2, h3, h4, h5, h6, h7⟩ := hb
  refine ⟨fun w w0 w2 => ?_, fun w w0 w2 => ?_, ?_, ?_⟩
  · obtain ⟨n, n6, rfl⟩ : ∃ n : Nat, n < 3 ∧ w = (n : Int) := ⟨w.toNat, by omega, by omega⟩
    have h3 := allN_spec h1 n n6
    simp only [decide_eq_true_eq] at h3
    exact (hOf_hv hk 2 n).trans (h3.trans (hOf_hv hk 157 n).symm)
  · obtain ⟨n, n6, rfl⟩ : ∃ n : Nat, n < 12 ∧ w = (n : Int) := ⟨w.toNat, by omega, by omega⟩
    have h3 := allN_spec h2 n n6
    simp only [decide_eq_true_eq] at h3
    exact (hOf_hv hk 156 n).trans h3
  · unfold Teq tp_of tm_of
    rw [show hOf h.flatten 92 = hOf h.flatten 152 from funext (fun j => (zb_spec hk h3 j).trans (zb_spec hk h4 j).symm), show hOf h.flatten 82 4 = hOf h.flatten 151 2 from (hOf_hv hk 82 4).trans (h5.trans (hOf_hv hk 151 2).symm)]
  · have g4 : ∀ w : Int, 0 ≤ w → w ≤ 5 → hOf h.flatten 164 w = 0 := by
      intro w w0 w5
      obtain ⟨n, n6, rfl⟩ := six w0 w5
      have h3 := allN_spec h7 n n6
      simp only [decide_eq_true_eq] at h3
      exact (hOf_hv hk 164 n).trans h3
    unfold lnb at h6
    simp only [Bool.and_eq_true, decide_eq_true_eq] at h6
    refine ⟨L.2.2.1, fun w w0 w5 => ?_, fun w w0 w5 e => ?_, fun w w0 w5 e => ?_, fun w w0 w5 e => ?_⟩
    · rw [g4 w w0 w5]
      obtain ⟨n, n6, rfl⟩ := six w0 w5
      have h3 := allN_spec h6.1 n n6
      simp only [Bool.and_eq_true, decide_eq_true_eq] at h3
      rw [show hOf h.flatten 27 (n : Int) = ((28 + 9 * n : Nat) : Int) from (hOf_hv hk 27 n).trans h3.1]
      exact (hOf_hv hk (28 + 9 * n) 0).trans h3.2
    · rw [g4 w w0 w5] at e; omega
    · rw [g4 w w0 w5] at e; omega
    · rw [g4 w w0 w5] at e; omega
theorem mz_l23_spec {ls : mx_L} (h : mz_l23 ls = true) : mx_look ls 0 = some (.float 0) ∧ mx_look ls 1 = some (.ref 0) ∧ mx_look ls 2 = some (.ref 151) ∧ mx_look ls 3 = some (.ref 203) ∧ mx_look ls 4 = some (.int 0) := by
  unfold mz_l23 at h
  split at h
  next u a1 a2 a3 x g0 g1 g2 g3 g4 =>
    simp only [Bool.and_eq_true, decide_eq_true_eq] at h
    obtain ⟨rfl, b1, b2, b3, rfl⟩ := h
    have e1 := Nat.eq_of_beq_eq_true b1
    have e2 := Nat.eq_of_beq_eq_true b2
    have e3 := Nat.eq_of_beq_eq_true b3
    subst e1; subst e2; subst e3
    exact ⟨g0, g1, g2, g3, g4⟩
  next => cases h
end MRF
