/-! the readers, purely: tokens as functions of a tape -/
section MTC
def tp_of (h : my_H) : (Int → Int) × Int := (h 92, h 82 4)
noncomputable def tq (τ : (Int → Int) × Int) (e : Int) : Int × Int × Int := Classical.epsilon (fun r : Int × Int × Int => tk_at τ.1 τ.2 e r.1 r.2.1 r.2.2)
noncomputable def tS (τ : (Int → Int) × Int) (e : Int) : Int := (tq τ e).1
noncomputable def tF (τ : (Int → Int) × Int) (e : Int) : Int := (tq τ e).2.1
noncomputable def tK (τ : (Int → Int) × Int) (e : Int) : Int := (tq τ e).2.2
noncomputable def tN (τ : (Int → Int) × Int) (p : Int) : Int := tS τ (tF τ p)
noncomputable def tV (τ : (Int → Int) × Int) (p : Int) : Int := tk_dv τ.1 p (tF τ p - p).toNat
noncomputable def tW (τ : (Int → Int) × Int) (p : Int) : Int := if tK τ p = 1 then tk_wv τ.1 p (tF τ p - p).toNat else 0
theorem tq_of {τ : (Int → Int) × Int} {e s f k : Int} (p : tk_at τ.1 τ.2 e s f k) : tS τ e = s ∧ tF τ e = f ∧ tK τ e = k :=
  tk_det p (Classical.epsilon_spec (p := fun r : Int × Int × Int => tk_at τ.1 τ.2 e r.1 r.2.1 r.2.2) ⟨(s, f, k), p⟩)
theorem tk_sh {t : Int → Int} {n e s f k : Int} (p : tk_at t n e s f k) : tk_at t n s s f k :=
  ⟨Int.le_refl s, p.2.1, fun i a b => absurd b (by omega), p.2.2.2⟩
theorem tp_eq {h h' : my_H} (e1 : ∀ j : Int, h' 92 j = h 92 j) (e2 : h' 82 4 = h 82 4) : tp_of h' = tp_of h := by
  unfold tp_of
  rw [e2, show h' 92 = h 92 from funext e1]
/-- the class's reader stands at a token: from 7 to 5, of sort 6, a number's value 8 -/
def Cu (h : my_H) : Prop := tk_T (h 92) (h 82 4) (h 82 7) (h 82 7) (h 82 5) (h 82 6) (h 82 8)
theorem Cu_ag {h h' : my_H} (g : my_ag [(5, 4), (5, 5), (5, 6), (5, 7), (5, 8), (40, -1)] h h') (p : Cu h) : Cu h' := by
  unfold Cu at p ⊢
  rw [g.at (j := 4) pis_82 rfl, g.at (j := 5) pis_82 rfl, g.at (j := 6) pis_82 rfl, g.at (j := 7) pis_82 rfl, g.at (j := 8) pis_82 rfl, show h' 92 = h 92 from funext (fun j => g.at (j := j) is_92 rfl)]
  exact p
theorem Cu_k {h : my_H} (c : Cu h) : h 82 6 = tK (tp_of h) (h 82 7) ∧ h 82 5 = tF (tp_of h) (h 82 7) ∧ (h 82 6 = 2 → h 82 8 = tV (tp_of h) (h 82 7)) := by
  obtain ⟨c1, c2⟩ := c
  obtain ⟨-, q2, q3⟩ := tq_of (τ := tp_of h) c1
  refine ⟨q3.symm, q2.symm, fun z => ?_⟩
  rw [c2 z]
  unfold tV
  rw [q2]
  rfl
theorem Cu_T {h h' : my_H} (T : tk_T (h 92) (h 82 4) (h 82 5) (h' 82 7) (h' 82 5) (h' 82 6) (h' 82 8)) (e1 : ∀ j : Int, h' 92 j = h 92 j) (e2 : h' 82 4 = h 82 4) : Cu h' := by
  unfold Cu
  rw [e2, show h' 92 = h 92 from funext e1]
  exact ⟨tk_sh T.1, T.2⟩
theorem T_s {h h' : my_H} (T : tk_T (h 92) (h 82 4) (h 82 5) (h' 82 7) (h' 82 5) (h' 82 6) (h' 82 8)) : h' 82 7 = tS (tp_of h) (h 82 5) := (tq_of (τ := tp_of h) T.1).1.symm
theorem T_n {h h' : my_H} (c : Cu h) (e : h' 82 7 = tS (tp_of h) (h 82 5)) : h' 82 7 = tN (tp_of h) (h 82 7) := by
  rw [e, (Cu_k c).2.1]
  rfl
/-- words -/
def wc (k : Int) : Int := if k = 1 then 790116 else if k = 2 then 1166844 else if k = 3 then 1612493656 else if k = 4 then 316695 else if k = 5 then 4904 else if k = 6 then 8422 else if k = 7 then 527412 else if k = 8 then 26801 else if k = 9 then 615403 else if k = 10 then 352 else if k = 11 then 679695 else 99
def my_sc (k i : Int) : Int := (mj_ch (k - 1).toNat i.toNat).toInt
theorem wc_pos {k : Int} (h : 1 ≤ k ∧ k ≤ 12) : 1 ≤ wc k := by
  unfold wc
  repeat' split
  all_goals omega
theorem sc_bd : ∀ j : Nat, j < 12 → ∀ i : Nat, i < (my_sl ((j : Int) + 1)).toNat → 97 ≤ my_sc ((j : Int) + 1) (i : Int) ∧ my_sc ((j : Int) + 1) (i : Int) ≤ 122 := by decide +kernel
theorem sc_wc : ∀ j : Nat, j < 12 → tk_wv (my_sc ((j : Int) + 1)) 0 (my_sl ((j : Int) + 1)).toNat = wc ((j : Int) + 1) := by decide +kernel
theorem wv_pos {t : Int → Int} {p : Int} : ∀ m : Nat, (∀ i : Nat, i < m → 97 ≤ t (p + i) ∧ t (p + i) ≤ 122) → 0 ≤ tk_wv t p m ∧ (0 < m → 1 ≤ tk_wv t p m)
  | 0, _ => ⟨by unfold tk_wv; omega, fun q => absurd q (by omega)⟩
  | m + 1, b => by
    have q := wv_pos (t := t) (p := p) m (fun i hi => b i (by omega))
    have c := b m (by omega)
    unfold tk_wv
    omega
theorem wv_inj {t u : Int → Int} {p q : Int} : ∀ m L : Nat, (∀ i : Nat, i < m → 97 ≤ t (p + i) ∧ t (p + i) ≤ 122) → (∀ i : Nat, i < L → 97 ≤ u (q + i) ∧ u (q + i) ≤ 122) → tk_wv t p m = tk_wv u q L → m = L ∧ ∀ i : Nat, i < m → t (p + i) = u (q + i)
  | 0, 0, _, _, _ => ⟨rfl, fun i hi => absurd hi (by omega)⟩
  | 0, L + 1, _, b, e => by
    have q := (wv_pos (t := u) (p := q) (L + 1) b).2 (by omega)
    rw [← e] at q
    unfold tk_wv at q
    omega
  | m + 1, 0, a, _, e => by
    have q := (wv_pos (t := t) (p := p) (m + 1) a).2 (by omega)
    rw [e] at q
    unfold tk_wv at q
    omega
  | m + 1, L + 1, a, b, e => by
    have ca := a m (by omega)
    have cb := b L (by omega)
    rw [tk_wv, tk_wv] at e
    have e1 : tk_wv t p m = tk_wv u q L := by omega
    obtain ⟨r1, r2⟩ := wv_inj (t := t) (u := u) (p := p) (q := q) m L (fun i hi => a i (by omega)) (fun i hi => b i (by omega)) e1
    subst r1
    refine ⟨rfl, fun i hi => ?_⟩
    by_cases z : i = m
    · subst z; omega
    · exact r2 i (by omega)
theorem wv_cg {t u : Int → Int} {p q : Int} : ∀ m : Nat, (∀ i : Nat, i < m → t (p + i) = u (q + i)) → tk_wv t p m = tk_wv u q m
  | 0, _ => by rw [tk_wv, tk_wv]
  | m + 1, e => by
    rw [tk_wv, tk_wv, wv_cg (t := t) (u := u) (p := p) (q := q) m (fun i hi => e i (by omega)), e m (by omega)]
theorem W_1 {h : my_H} {k : Int} (c : Cu h) (k6 : h 82 6 = 1) (hk : 1 ≤ k ∧ k ≤ 12) (hl : h 82 5 - h 82 7 = my_sl k) (H : ∀ i : Int, 0 ≤ i → i < my_sl k → h 92 (h 82 7 + i) = my_sc k i) : tW (tp_of h) (h 82 7) = wc k := by
  obtain ⟨c1, c2, -⟩ := Cu_k c
  obtain ⟨j, rfl, hj⟩ : ∃ j : Nat, k = (j : Int) + 1 ∧ j < 12 := ⟨(k - 1).toNat, by omega, by omega⟩
  unfold tW
  rw [if_pos (by omega), ← c2, hl, ← sc_wc j hj]
  refine wv_cg _ (fun i hi => ?_)
  rw [Int.zero_add]
  exact H i (by omega) (by omega)
theorem W_0 {h : my_H} {k : Int} (c : Cu h) (hk : 1 ≤ k ∧ k ≤ 12) (z : tW (tp_of h) (h 82 7) = wc k) : h 82 6 = 1 ∧ h 82 5 - h 82 7 = my_sl k ∧ ∀ i : Int, 0 ≤ i → i < my_sl k → h 92 (h 82 7 + i) = my_sc k i := by
  have wp1 := wc_pos hk
  have sb := my_sl_bd hk
  obtain ⟨c1, c2, -⟩ := Cu_k c
  obtain ⟨j, rfl, hj⟩ : ∃ j : Nat, k = (j : Int) + 1 ∧ j < 12 := ⟨(k - 1).toNat, by omega, by omega⟩
  unfold tW at z
  by_cases k1 : tK (tp_of h) (h 82 7) = 1
  · rw [if_pos k1, ← c2, ← sc_wc j hj] at z
    have h6 : h 82 6 = 1 := by omega
    obtain ⟨⟨-, -, -, c4⟩, -⟩ := c
    rcases c4 with ⟨-, -, a⟩ | ⟨-, -, -, a4, a5, a6, -, -, a9⟩
    · omega
    · have kb : tk_k (h 92 (h 82 7)) = 1 := by omega
      obtain ⟨r1, r2⟩ := wv_inj (t := h 92) (u := my_sc ((j : Int) + 1)) (p := h 82 7) (q := 0) _ _ (fun i hi => by
        have q := a6 (h 82 7 + i) (by omega) (by omega)
        rw [kb] at q
        unfold tk_k at q
        by_cases x1 : 97 ≤ h 92 (h 82 7 + i) ∧ h 92 (h 82 7 + i) ≤ 122
        · exact x1
        · rw [if_neg x1] at q
          by_cases x2 : 48 ≤ h 92 (h 82 7 + i) ∧ h 92 (h 82 7 + i) ≤ 57
          · rw [if_pos x2] at q; omega
          · rw [if_neg x2] at q
            by_cases x3 : h 92 (h 82 7 + i) = 59
            · rw [if_pos x3] at q; omega
            · rw [if_neg x3] at q; omega) (fun i hi => by rw [Int.zero_add]; exact sc_bd j hj i hi) z
      refine ⟨h6, by omega, fun i a b => ?_⟩
      have q := r2 i.toNat (by omega)
      rw [Int.zero_add, Int.toNat_of_nonneg a] at q
      exact q
  · rw [if_neg k1] at z
    omega
variable {l : Launch} {rho : Nat → Int32} {d m pc : Nat} {ls : List my_V} {r : List my_V} {h : my_H} {Q : my_H → my_V → Prop} {a b w : Nat}
theorem w_schrE {q : Nat} {k i : Int} (hd : mj_D 181 q m pc) (hk : 1 ≤ k ∧ k ≤ 12) (h0 : 0 ≤ i) (hn : i < my_sl k) (kk : ∀ z : Int, -2147483648 ≤ z → z ≤ 2147483647 → z = my_sc k i → wp l rho (d + 4) m (pc + 3) ls ((0, z) :: r) h Q) (hr8 : Nat.ble (r.map my_cat).sum 8 = true := by rfl) : wp l rho (d + 4) m pc ls ((0, i) :: (3, k) :: r) h Q := by
  intro hls hst L H hL hH
  obtain ⟨rfl, rfl, hdc⟩ := hd
  have hb := my_sl_bd hk
  obtain ⟨t, rfl, ht⟩ : ∃ t : Nat, k = (t : Int) + 1 ∧ t < 12 := ⟨(k - 1).toNat, by omega, by omega⟩
  obtain ⟨j, rfl⟩ : ∃ j : Nat, i = (j : Int) := ⟨i.toNat, by omega⟩
  rw [mj_sl t ht] at hn
  have hz := my_fullI (mj_ch t j)
  obtain ⟨pc', L', st', H', h', ii, v, hOk, rest⟩ := kk (mj_ch t j).toInt hz.1 hz.2 (by unfold my_sc; rw [show ((t : Int) + 1 - 1).toNat = t by omega, Int.toNat_natCast]) hls (my_all.p hz hst.c.2.c.2) L H hL hH
  refine ⟨pc', L', st', H', h', ii, v, ?_, rest⟩
  have e1 : my_val (3, (t : Int) + 1) = .float (UInt32.ofNat (t + 1)) := by
    show Value.float (UInt32.ofNat ((t : Int) + 1).toNat) = _
    rw [show ((t : Int) + 1).toNat = t + 1 by omega]
  have e2 : my_val (0, (mj_ch t j).toInt) = .int (mj_ch t j) := by
    show Value.int (Int32.ofInt (mj_ch t j).toInt) = _
    rw [Int32.ofInt_toInt]
  have h6 := mj_six t ht
  have e3 : my_val (0, (j : Int)) = .int (Int32.ofNat j) := by
    show Value.int (Int32.ofInt (j : Int)) = _
    rw [mj_oi (by omega)]
  rw [List.map_cons, List.map_cons, e1, e3]
  rw [List.map_cons, e2] at hOk
  refine mj_okV (As := [.int (Int32.ofNat j)]) (idx := 181) ht (fun n0 D tys sg => mj_chS ht (by omega)) rfl (mj_ok 31 rfl) (mj_ok 8 rfl) (mj_ok 29 rfl) (mj_ok 30 rfl) (mj_ok 28 rfl) mj_h7 (by decide) ?_ hdc (fun v hv => ⟨_, List.mem_singleton.mp hv⟩) hOk
  rw [my_cats]
  exact Nat.le_of_ble_eq_true hr8
end MTC
