/-! what touches the heap, held against the model: the rows -/
section MXC4
variable {l : Launch} {P : mx_P} {G : mx_G} {tb : List Cond} {rho : Nat → Int32} {d mi pc : Nat} {ls : mx_L} {st st' : List Value} {h h' : mx_H} {a b : Nat} {env : mx_E}
/-- one step, with nc new cells of ns slots -/
def mx_St (l : Launch) (P : mx_P) (G : mx_G) (tb : List Cond) (rho : Nat → Int32) (d mi pc pcn : Nat) (ls : mx_L) (st : List Value) (h : mx_H) (st' : List Value) (h' : mx_H) : Prop :=
  ∃ nc ns : Nat, h'.length = h.length + nc ∧ mx_sz h' = mx_sz h + ns ∧ ∀ (pc2 : Nat) (ls2 : mx_L) (st2 : List Value) (h2 : mx_H) (mc ms : Nat), mx_Ok l P G tb rho d mi pcn ls st' h' pc2 ls2 st2 h2 mc ms → mx_Ok l P G tb rho d mi pc ls st h pc2 ls2 st2 h2 (nc + mc) (ns + ms)

set_option maxHeartbeats 1000000 in
theorem mx_t_getfield {idx : Nat} (hCl : mx_Cl P tb) (hLk : mx_Lk P G tb mi (.getfield idx) a b) (hdc : mx_Dc P mi pc (.getfield idx)) (h3 : mx_s3 P d (.getfield idx) a b env h st = some (h', st')) : mx_St l P G tb rho d mi pc (pc + mx_len (.getfield idx)) ls st h st' h' := by
  simp only [mx_s3] at h3
  split at h3
  next k r =>
    split at h3
    next ci fs hk0 =>
      split at h3
      next hci =>
        subst hci
        cases hv : fs[b]? with
        | none => rw [hv] at h3; cases h3
        | some v =>
          rw [hv] at h3
          cases h3
          refine ⟨0, 0, rfl, rfl, fun pc2 ls2 st2 h2 mc ms kOk => ?_⟩
          intro p e R s m args below meth c H locs cells slots Q sl stk ws n0 D tys sg hFr hI hc hs hk
          obtain ⟨hx, hb, hr0, hml, hown, hts, hnm, hlk, hfr, hlo, hWd, hn0, hSc⟩ := id hFr
          obtain ⟨hP, hD, hS, hM, hl, hst⟩ := id hI
          obtain ⟨q, e0, rr, rfl, hw, hRC, hr⟩ := mx_ref_at hM hk0 hst
          obtain ⟨vs, rfl, hvs⟩ := hRC
          obtain ⟨w, hw2, hwR⟩ := hvs.get hv
          obtain ⟨qc, g1, g2, g3⟩ := hLk
          obtain ⟨c1, c2, c3, c4, c5, c6⟩ := hCl _ _ g1
          exact va_get hx hb hts c1 hown hWd.1 hP k hw g1 b g2 (hts _ g3) (fun x h => h) hw2 (hdc.of rfl) (mx_go (nc := 0) (ns := 0) kOk hFr hc hs hk ⟨[], by simp⟩ ⟨hP, hD, hS, hM, hl, hwR, hr⟩)
      next => cases h3
    next => cases h3
  next => cases h3

set_option maxHeartbeats 1000000 in
theorem mx_t_putfield {idx : Nat} (hCl : mx_Cl P tb) (hLk : mx_Lk P G tb mi (.putfield idx) a b) (hdc : mx_Dc P mi pc (.putfield idx)) (h3 : mx_s3 P d (.putfield idx) a b env h st = some (h', st')) : mx_St l P G tb rho d mi pc (pc + mx_len (.putfield idx)) ls st h st' h' := by
  simp only [mx_s3] at h3
  split at h3
  next v k r =>
    split at h3
    next ci fs hk0 =>
      split at h3
      next hci =>
        obtain ⟨hci, hbl, hfit⟩ := hci
        subst hci
        cases h3
        refine ⟨0, 0, by simp, mx_sz_set hk0 (by simp [mx_cz]), fun pc2 ls2 st2 h2 mc ms kOk => ?_⟩
        intro p e R s m args below meth c H locs cells slots Q sl stk ws n0 D tys sg hFr hI hc hs hk
        obtain ⟨hx, hb, hr0, hml, hown, hts, hnm, hlk, hfr, hlo, hWd, hn0, hSc⟩ := id hFr
        obtain ⟨hP, hD, hS, hM, hl, hst⟩ := id hI
        obtain ⟨w, rr0, rfl, hw0, hst0⟩ := hst.c
        obtain ⟨q, e0, rr, rfl, hw, hRC, hr⟩ := mx_ref_at hM hk0 hst0
        obtain ⟨vs, rfl, hvs⟩ := hRC
        obtain ⟨qc, g1, g2, g3, g4⟩ := hLk
        obtain ⟨c1, c2, c3, c4, c5, c6⟩ := hCl _ _ g1
        obtain ⟨f1, f2⟩ := mx_fit_spec hfit hw0
        have hbl2 : b < vs.length := by rw [← hvs.len]; exact hbl
        have hRC2 : mx_RC (ws.map Prod.fst) sg rho tys (.inr (ci, fs.set b v)) (.inr (ci, vs.set b w)) := ⟨vs.set b w, rfl, hvs.set hw0⟩
        rcases g4 with g4 | ⟨g4, g5, g6⟩
        · exact va_put hx hb hts c1 (mx_ft P ci) c2 c3 hown hWd.1 hP hD hS k hw g1 b g2 (hts _ g3) (fun x h => h) g4 (c2 b g2) f1 f2 hbl2 (hdc.of rfl) (fun H1 locs1 hP1 hD1 hS1 => mx_go (nc := 0) (ns := 0) kOk hFr hc hs hk ⟨[], by rw [mx_map_set hw]; simp⟩ (mx_In.set hP1 hD1 hS1 hM hw hRC2 hl hr))
        · exact va_putF hx hb hts c1 (mx_ft P ci) c2 c3 hown hWd.1 hP hD hS k hw g1 b g2 (hts _ g3) (fun x h => h) g4 (hnm.trans g5) g6 (c2 b g2) f1 f2 hbl2 (hdc.of rfl) (fun H1 locs1 hP1 hD1 hS1 => mx_go (nc := 0) (ns := 0) kOk hFr hc hs hk ⟨[], by rw [mx_map_set hw]; simp⟩ (mx_In.set hP1 hD1 hS1 hM hw hRC2 hl hr))
      next => cases h3
    next => cases h3
  next => cases h3

set_option maxHeartbeats 1000000 in
theorem mx_t_new {idx : Nat} (hCl : mx_Cl P tb) (hLk : mx_Lk P G tb mi (.new idx) a b) (hdc : mx_Dc P mi pc (.new idx)) (h3 : mx_s3 P d (.new idx) a b env h st = some (h', st')) : mx_St l P G tb rho d mi pc (pc + mx_len (.new idx)) ls st h st' h' := by
  simp only [mx_s3] at h3
  cases h3
  obtain ⟨qc, g1, g2, g3, g4⟩ := hLk
  obtain ⟨c1, c2, c3, c4, c5, c6⟩ := hCl _ _ g1
  refine ⟨1, qc.2.2, by simp, by rw [mx_sz_app]; show mx_sz h + (mx_fd P a).length = _; rw [c6], fun pc2 ls2 st2 h2 mc ms kOk => ?_⟩
  intro p e R s m args below meth c H locs cells slots Q sl stk ws n0 D tys sg hFr hI hc hs hk
  obtain ⟨hx, hb, hr0, hml, hown, hts, hnm, hlk, hfr, hlo, hWd, hn0, hSc⟩ := id hFr
  obtain ⟨hP, hD, hS, hM, hl, hst⟩ := id hI
  exact va_new hx hb hts c1 (mx_ft P a) c2 hown (hts _ g2) (hts _ g3) (hts _ g4) hWd.1 hP hD hS (fun q hq => Nat.le_trans hn0 hq) g1 c4 (by omega) (by omega) (hdc.of rfl) (fun q H1 hP1 hD1 hS1 => mx_go (nc := 1) (ns := qc.2.2) kOk hFr hc hs hk ⟨[q], by simp⟩ (mx_In.push hP1 hD1 hS1 hM ⟨mx_fd P a, rfl, mx_F2_simple c5⟩ hl hst))

set_option maxHeartbeats 1000000 in
theorem mx_t_newarray {ty : ArrayType} (hLk : mx_Lk P G tb mi (.newarray ty) a b) (hdc : mx_Dc P mi pc (.newarray ty)) (h3 : mx_s3 P d (.newarray ty) a b env h st = some (h', st')) : mx_St l P G tb rho d mi pc (pc + mx_len (.newarray ty)) ls st h st' h' := by
  simp only [mx_s3] at h3
  split at h3
  next n r =>
    split at h3
    next => cases h3
    next hn =>
      cases h3
      obtain ⟨g1, g2, g3⟩ := hLk
      refine ⟨1, n.toNatClampNeg, by simp, mx_sz_app _ _, fun pc2 ls2 st2 h2 mc ms kOk => ?_⟩
      intro p e R s m args below meth c H locs cells slots Q sl stk ws n0 D tys sg hFr hI hc hs hk
      obtain ⟨hx, hb, hr0, hml, hown, hts, hnm, hlk, hfr, hlo, hWd, hn0, hSc⟩ := id hFr
      obtain ⟨hP, hD, hS, hM, hl, hst⟩ := id hI
      obtain ⟨w, rr, rfl, hw, hr⟩ := hst.c
      simp only [mx_R] at hw
      subst hw
      have hn1 : ¬ n < 0 := fun q => hn (Or.inl q)
      have hn2 : n.toNatClampNeg ≤ 100000 := Nat.not_lt.mp fun q => hn (Or.inr q)
      have hT : ∃ cA, tys[a]? = some (cA, newarray.typeOf ty) := by
        rw [← hWd.2.1, List.getElem?_map] at g1
        cases hq : tys[a]? with
        | none => rw [hq] at g1; cases g1
        | some x =>
          rw [hq] at g1
          have e1 : x.2 = _ := Option.some.inj g1
          exact ⟨x.1, by rw [← e1]⟩
      obtain ⟨cA0, hT⟩ := hT
      have hK0 := hWd.1.2 a _ hT
      rcases g3 with rfl | rfl | rfl | rfl
      · refine va_newa (a0 := (n.toNatClampNeg, .inl (fun _ => 0))) hx hb (hts _ g2) rfl hWd.1 hP hD hS (fun q hq => Nat.le_trans hn0 hq) (fun cA => rfl) hn1 rfl (by simp only [newarray.typeOf, componentBytes]; omega) (by omega) (by omega) (hdc.of rfl) (fun q cA H1 hK1 hP1 hD1 hS1 => ?_)
        have hc1 := (hK1.2 tys.length (cA, .int) (by simp [newarray.typeOf])).2
        have hcA : cA = cA0 := Option.some.inj (hc1.symm.trans hK0.2)
        subst hcA
        exact mx_go (nc := 1) (ns := n.toNatClampNeg) kOk hFr hc hs hk ⟨[q], by simp⟩ (mx_In.push hP1 hD1 hS1 hM ⟨cA, .int, _, hT, rfl, fun _ => 0, rfl, fun j _ => rfl⟩ hl hr)
      · refine va_newa (a0 := (n.toNatClampNeg, .inl (fun _ => 0))) hx hb (hts _ g2) rfl hWd.1 hP hD hS (fun q hq => Nat.le_trans hn0 hq) (fun cA => rfl) hn1 rfl (by simp only [newarray.typeOf, componentBytes]; omega) (by omega) (by omega) (hdc.of rfl) (fun q cA H1 hK1 hP1 hD1 hS1 => ?_)
        have hc1 := (hK1.2 tys.length (cA, .boolean) (by simp [newarray.typeOf])).2
        have hcA : cA = cA0 := Option.some.inj (hc1.symm.trans hK0.2)
        subst hcA
        exact mx_go (nc := 1) (ns := n.toNatClampNeg) kOk hFr hc hs hk ⟨[q], by simp⟩ (mx_In.push hP1 hD1 hS1 hM ⟨cA, .boolean, _, hT, rfl, fun _ => 0, rfl, fun j _ => rfl⟩ hl hr)
      · refine va_newa (a0 := (n.toNatClampNeg, .inr (.inl (fun _ => 0)))) hx hb (hts _ g2) rfl hWd.1 hP hD hS (fun q hq => Nat.le_trans hn0 hq) (fun cA => rfl) hn1 rfl (by simp only [newarray.typeOf, componentBytes]; omega) (by omega) (by omega) (hdc.of rfl) (fun q cA H1 hK1 hP1 hD1 hS1 => ?_)
        have hc1 := (hK1.2 tys.length (cA, .long) (by simp [newarray.typeOf])).2
        have hcA : cA = cA0 := Option.some.inj (hc1.symm.trans hK0.2)
        subst hcA
        exact mx_go (nc := 1) (ns := n.toNatClampNeg) kOk hFr hc hs hk ⟨[q], by simp⟩ (mx_In.push hP1 hD1 hS1 hM ⟨cA, .long, _, hT, rfl, fun _ => 0, rfl, fun j _ => rfl⟩ hl hr)
      · refine va_newa (a0 := (n.toNatClampNeg, .inl (fun _ => 0))) hx hb (hts _ g2) rfl hWd.1 hP hD hS (fun q hq => Nat.le_trans hn0 hq) (fun cA => rfl) hn1 rfl (by simp only [newarray.typeOf, componentBytes]; omega) (by omega) (by omega) (hdc.of rfl) (fun q cA H1 hK1 hP1 hD1 hS1 => ?_)
        have hc1 := (hK1.2 tys.length (cA, .byte) (by simp [newarray.typeOf])).2
        have hcA : cA = cA0 := Option.some.inj (hc1.symm.trans hK0.2)
        subst hcA
        exact mx_go (nc := 1) (ns := n.toNatClampNeg) kOk hFr hc hs hk ⟨[q], by simp⟩ (mx_In.push hP1 hD1 hS1 hM ⟨cA, .byte, _, hT, rfl, fun _ => 0, rfl, fun j _ => rfl⟩ hl hr)
  next => cases h3

set_option maxHeartbeats 1000000 in
theorem mx_t_anewarray {idx : Nat} (hLk : mx_Lk P G tb mi (.anewarray idx) a b) (hdc : mx_Dc P mi pc (.anewarray idx)) (h3 : mx_s3 P d (.anewarray idx) a b env h st = some (h', st')) : mx_St l P G tb rho d mi pc (pc + mx_len (.anewarray idx)) ls st h st' h' := by
  simp only [mx_s3] at h3
  split at h3
  next n r =>
    split at h3
    next => cases h3
    next hn =>
      cases h3
      obtain ⟨C, g1, g2, g3⟩ := hLk
      refine ⟨1, n.toNatClampNeg, by simp, mx_sz_app _ _, fun pc2 ls2 st2 h2 mc ms kOk => ?_⟩
      intro p e R s m args below meth c H locs cells slots Q sl stk ws n0 D tys sg hFr hI hc hs hk
      obtain ⟨hx, hb, hr0, hml, hown, hts, hnm, hlk, hfr, hlo, hWd, hn0, hSc⟩ := id hFr
      obtain ⟨hP, hD, hS, hM, hl, hst⟩ := id hI
      obtain ⟨w, rr, rfl, hw, hr⟩ := hst.c
      simp only [mx_R] at hw
      subst hw
      have hn1 : ¬ n < 0 := fun q => hn (Or.inl q)
      have hn2 : n.toNatClampNeg ≤ 100000 := Nat.not_lt.mp fun q => hn (Or.inr q)
      have hT : ∃ cA, tys[a]? = some (cA, .object C) := by
        rw [← hWd.2.1, List.getElem?_map] at g1
        cases hq : tys[a]? with
        | none => rw [hq] at g1; cases g1
        | some x =>
          rw [hq] at g1
          have e1 : x.2 = _ := Option.some.inj g1
          exact ⟨x.1, by rw [← e1]⟩
      obtain ⟨cA0, hT⟩ := hT
      have hK0 := hWd.1.2 a _ hT
      refine va_newq hx hb hown (hts _ g2) (hWd.2.2.2.1 C g3) hWd.1 hP hD hS (fun q hq => Nat.le_trans hn0 hq) hn1 rfl (by omega) (by omega) (by omega) (hdc.of rfl) (fun q cA H1 hK1 hP1 hD1 hS1 => ?_)
      obtain ⟨kA, comp, -, -, -, u4⟩ := (hK1.2 tys.length (cA, .object C) (by simp)).2
      obtain ⟨kA0, comp0, -, -, -, v4⟩ := hK0.2
      have hcA : cA = cA0 := Option.some.inj (u4.symm.trans v4)
      subst hcA
      exact mx_go (nc := 1) (ns := n.toNatClampNeg) kOk hFr hc hs hk ⟨[q], by simp⟩ (mx_In.push hP1 hD1 hS1 hM ⟨cA, .object C, _, hT, rfl, fun _ => none, rfl, fun j _ => rfl⟩ hl hr)
  next => cases h3

set_option maxHeartbeats 1000000 in
theorem mx_t_iaload (hdc : mx_Dc P mi pc .iaload) (h3 : mx_aload P .int h st = some (h', st')) : mx_St l P G tb rho d mi pc (pc + mx_len .iaload) ls st h st' h' := by
  unfold mx_aload at h3
  split at h3
  next x k r =>
    split at h3
    next t n d0 us hk0 =>
      split at h3
      next hty =>
        cases hj : mx_idx n x with
        | none => rw [hj] at h3; cases h3
        | some j =>
          rw [hj] at h3
          cases h3
          obtain ⟨j1, rfl, j3⟩ := mx_idx_spec hj
          refine ⟨0, 0, rfl, rfl, fun pc2 ls2 st2 h2 mc ms kOk => ?_⟩
          intro p e R s m args below meth c H locs cells slots Q sl stk ws n0 D tys sg hFr hI hc hs hk
          obtain ⟨hx, hb, hr0, hml, hown, hts, hnm, hlk, hfr, hlo, hWd, hn0, hSc⟩ := id hFr
          obtain ⟨hP, hD, hS, hM, hl, hst⟩ := id hI
          obtain ⟨w, rr0, rfl, hw0, hst0⟩ := hst.c
          simp only [mx_R] at hw0
          subst hw0
          obtain ⟨q, e0, rr, rfl, hw, hRC, hr⟩ := mx_ref_at hM hk0 hst0
          obtain ⟨cA, ty, x1, hT, rfl, hRA⟩ := hRC
          have hty2 := mx_isTy_spec hWd.2.1 hty hT
          subst hty2
          obtain ⟨f, rfl, hf⟩ := hRA
          exact va_iald hx hb hWd.1 hP k t hw hT j1 (hdc.of rfl) (mx_go (nc := 0) (ns := 0) kOk hFr hc hs hk ⟨[], by simp⟩ ⟨hP, hD, hS, hM, hl, hf _ j3, hr⟩)
      next => cases h3
    next => cases h3
  next => cases h3

set_option maxHeartbeats 1000000 in
theorem mx_t_baload (hdc : mx_Dc P mi pc .baload) (h3 : mx_aload P .boolean h st = some (h', st')) : mx_St l P G tb rho d mi pc (pc + mx_len .baload) ls st h st' h' := by
  unfold mx_aload at h3
  split at h3
  next x k r =>
    split at h3
    next t n d0 us hk0 =>
      split at h3
      next hty =>
        cases hj : mx_idx n x with
        | none => rw [hj] at h3; cases h3
        | some j =>
          rw [hj] at h3
          cases h3
          obtain ⟨j1, rfl, j3⟩ := mx_idx_spec hj
          refine ⟨0, 0, rfl, rfl, fun pc2 ls2 st2 h2 mc ms kOk => ?_⟩
          intro p e R s m args below meth c H locs cells slots Q sl stk ws n0 D tys sg hFr hI hc hs hk
          obtain ⟨hx, hb, hr0, hml, hown, hts, hnm, hlk, hfr, hlo, hWd, hn0, hSc⟩ := id hFr
          obtain ⟨hP, hD, hS, hM, hl, hst⟩ := id hI
          obtain ⟨w, rr0, rfl, hw0, hst0⟩ := hst.c
          simp only [mx_R] at hw0
          subst hw0
          obtain ⟨q, e0, rr, rfl, hw, hRC, hr⟩ := mx_ref_at hM hk0 hst0
          obtain ⟨cA, ty, x1, hT, rfl, hRA⟩ := hRC
          have hty2 := mx_isTy_spec hWd.2.1 hty hT
          subst hty2
          obtain ⟨f, rfl, hf⟩ := hRA
          exact va_zald hx hb hWd.1 hP k t hw hT j1 (hdc.of rfl) (mx_go (nc := 0) (ns := 0) kOk hFr hc hs hk ⟨[], by simp⟩ ⟨hP, hD, hS, hM, hl, hf _ j3, hr⟩)
      next => cases h3
    next => cases h3
  next => cases h3

set_option maxHeartbeats 1000000 in
theorem mx_t_baloadB (hdc : mx_Dc P mi pc .baload) (h3 : mx_aload P .byte h st = some (h', st')) : mx_St l P G tb rho d mi pc (pc + mx_len .baload) ls st h st' h' := by
  unfold mx_aload at h3
  split at h3
  next x k r =>
    split at h3
    next t n d0 us hk0 =>
      split at h3
      next hty =>
        cases hj : mx_idx n x with
        | none => rw [hj] at h3; cases h3
        | some j =>
          rw [hj] at h3
          cases h3
          obtain ⟨j1, rfl, j3⟩ := mx_idx_spec hj
          refine ⟨0, 0, rfl, rfl, fun pc2 ls2 st2 h2 mc ms kOk => ?_⟩
          intro p e R s m args below meth c H locs cells slots Q sl stk ws n0 D tys sg hFr hI hc hs hk
          obtain ⟨hx, hb, hr0, hml, hown, hts, hnm, hlk, hfr, hlo, hWd, hn0, hSc⟩ := id hFr
          obtain ⟨hP, hD, hS, hM, hl, hst⟩ := id hI
          obtain ⟨w, rr0, rfl, hw0, hst0⟩ := hst.c
          simp only [mx_R] at hw0
          subst hw0
          obtain ⟨q, e0, rr, rfl, hw, hRC, hr⟩ := mx_ref_at hM hk0 hst0
          obtain ⟨cA, ty, x1, hT, rfl, hRA⟩ := hRC
          have hty2 := mx_isTy_spec hWd.2.1 hty hT
          subst hty2
          obtain ⟨f, rfl, hf⟩ := hRA
          exact va_bald hx hb hWd.1 hP k t hw hT j1 (hdc.of rfl) (mx_go (nc := 0) (ns := 0) kOk hFr hc hs hk ⟨[], by simp⟩ ⟨hP, hD, hS, hM, hl, hf _ j3, hr⟩)
      next => cases h3
    next => cases h3
  next => cases h3

set_option maxHeartbeats 1000000 in
theorem mx_t_laload (hdc : mx_Dc P mi pc .laload) (h3 : mx_aload P .long h st = some (h', st')) : mx_St l P G tb rho d mi pc (pc + mx_len .laload) ls st h st' h' := by
  unfold mx_aload at h3
  split at h3
  next x k r =>
    split at h3
    next t n d0 us hk0 =>
      split at h3
      next hty =>
        cases hj : mx_idx n x with
        | none => rw [hj] at h3; cases h3
        | some j =>
          rw [hj] at h3
          cases h3
          obtain ⟨j1, rfl, j3⟩ := mx_idx_spec hj
          refine ⟨0, 0, rfl, rfl, fun pc2 ls2 st2 h2 mc ms kOk => ?_⟩
          intro p e R s m args below meth c H locs cells slots Q sl stk ws n0 D tys sg hFr hI hc hs hk
          obtain ⟨hx, hb, hr0, hml, hown, hts, hnm, hlk, hfr, hlo, hWd, hn0, hSc⟩ := id hFr
          obtain ⟨hP, hD, hS, hM, hl, hst⟩ := id hI
          obtain ⟨w, rr0, rfl, hw0, hst0⟩ := hst.c
          simp only [mx_R] at hw0
          subst hw0
          obtain ⟨q, e0, rr, rfl, hw, hRC, hr⟩ := mx_ref_at hM hk0 hst0
          obtain ⟨cA, ty, x1, hT, rfl, hRA⟩ := hRC
          have hty2 := mx_isTy_spec hWd.2.1 hty hT
          subst hty2
          obtain ⟨f, rfl, hf⟩ := hRA
          exact va_lald hx hb hWd.1 hP k t hw hT j1 (hdc.of rfl) (mx_go (nc := 0) (ns := 0) kOk hFr hc hs hk ⟨[], by simp⟩ ⟨hP, hD, hS, hM, hl, hf _ j3, hr⟩)
      next => cases h3
    next => cases h3
  next => cases h3

set_option maxHeartbeats 1000000 in
theorem mx_t_sload (hdc : mx_Dc P mi pc .iaload) (he : mx_env rho env) (h3 : mx_sload env h st = some (h', st')) : mx_St l P G tb rho d mi pc (pc + mx_len .iaload) ls st h st' h' := by
  unfold mx_sload at h3
  split at h3
  next x u r =>
    split at h3
    next hu =>
      obtain ⟨rfl, h8⟩ := hu
      cases hj : mx_idx 8 x with
      | none => rw [hj] at h3; cases h3
      | some j =>
        rw [hj] at h3
        cases h3
        obtain ⟨j1, rfl, j3⟩ := mx_idx_spec hj
        refine ⟨0, 0, rfl, rfl, fun pc2 ls2 st2 h2 mc ms kOk => ?_⟩
        intro p e R s m args below meth c H locs cells slots Q sl stk ws n0 D tys sg hFr hI hc hs hk
        obtain ⟨hx, hb, hr0, hml, hown, hts, hnm, hlk, hfr, hlo, hWd, hn0, hSc⟩ := id hFr
        obtain ⟨hP, hD, hS, hM, hl, hst⟩ := id hI
        obtain ⟨w, rr0, rfl, hw0, hst0⟩ := hst.c
        obtain ⟨w2, rr, rfl, hw2, hst1⟩ := hst0.c
        simp only [mx_R] at hw0 hw2
        subst hw0; subst hw2
        obtain ⟨⟨L, hL, hr8, hX, hb0⟩, hXt⟩ := hSc
        have hr := he 4096 _ h8
        dsimp only at hr
        have hL8 : L = 8 := by
          rw [hr8] at hr
          have : (Int32.ofNat L).toInt = (L : Int) := Int32.toInt_ofNat_of_lt (by omega)
          omega
        subst hL8
        exact va_sld hx hb hX (Nat.lt_of_lt_of_le hb0 hn0) (Nat.not_le.mpr hb0) hS j1 (hdc.of rfl) (mx_go (nc := 0) (ns := 0) kOk hFr hc hs hk ⟨[], by simp⟩ ⟨hP, hD, hS, hM, hl, rfl, hst1⟩)
    next => cases h3
  next => cases h3

set_option maxHeartbeats 1000000 in
theorem mx_t_aaload (hdc : mx_Dc P mi pc .aaload) (h3 : mx_qload P h st = some (h', st')) : mx_St l P G tb rho d mi pc (pc + mx_len .aaload) ls st h st' h' := by
  unfold mx_qload at h3
  split at h3
  next x k r =>
    split at h3
    next t n d0 us hk0 =>
      split at h3
      next C hC =>
        cases hj : mx_idx n x with
        | none => rw [hj] at h3; cases h3
        | some j =>
          rw [hj] at h3
          cases h3
          obtain ⟨j1, rfl, j3⟩ := mx_idx_spec hj
          refine ⟨0, 0, rfl, rfl, fun pc2 ls2 st2 h2 mc ms kOk => ?_⟩
          intro p e R s m args below meth c H locs cells slots Q sl stk ws n0 D tys sg hFr hI hc hs hk
          obtain ⟨hx, hb, hr0, hml, hown, hts, hnm, hlk, hfr, hlo, hWd, hn0, hSc⟩ := id hFr
          obtain ⟨hP, hD, hS, hM, hl, hst⟩ := id hI
          obtain ⟨w, rr0, rfl, hw0, hst0⟩ := hst.c
          simp only [mx_R] at hw0
          subst hw0
          obtain ⟨q, e0, rr, rfl, hw, hRC, hr⟩ := mx_ref_at hM hk0 hst0
          obtain ⟨cA, ty, x1, hT, rfl, hRA⟩ := hRC
          have hty2 : ty = .object C := by
            rw [← hWd.2.1, List.getElem?_map, hT] at hC
            cases hC; rfl
          subst hty2
          obtain ⟨f, rfl, hf⟩ := hRA
          exact va_aldq hx hb hWd.1 hP k t hw hT j1 (hdc.of rfl) (mx_go (nc := 0) (ns := 0) kOk hFr hc hs hk ⟨[], by simp⟩ ⟨hP, hD, hS, hM, hl, hf _ j3, hr⟩)
      next => cases h3
    next => cases h3
  next => cases h3

set_option maxHeartbeats 1000000 in
theorem mx_t_iastore (hdc : mx_Dc P mi pc .iastore) (h3 : mx_astore P .int mx_isI h st = some (h', st')) : mx_St l P G tb rho d mi pc (pc + mx_len .iastore) ls st h st' h' := by
  unfold mx_astore at h3
  split at h3
  next v x k r =>
    split at h3
    next t n d0 us hk0 =>
      split at h3
      next hty =>
        simp only [Bool.and_eq_true] at hty
        obtain ⟨hty, hv⟩ := hty
        cases hj : mx_idx n x with
        | none => rw [hj] at h3; cases h3
        | some j =>
          rw [hj] at h3
          cases h3
          obtain ⟨j1, rfl, j3⟩ := mx_idx_spec hj
          refine ⟨0, 0, by simp, mx_sz_set hk0 rfl, fun pc2 ls2 st2 h2 mc ms kOk => ?_⟩
          intro p e R s m args below meth c H locs cells slots Q sl stk ws n0 D tys sg hFr hI hc hs hk
          obtain ⟨hx, hb, hr0, hml, hown, hts, hnm, hlk, hfr, hlo, hWd, hn0, hSc⟩ := id hFr
          obtain ⟨hP, hD, hS, hM, hl, hst⟩ := id hI
          obtain ⟨w, rr0, rfl, hw0, hst0⟩ := hst.c
          obtain ⟨w1, rr1, rfl, hw1, hst1⟩ := hst0.c
          simp only [mx_R] at hw1
          subst hw1
          obtain ⟨q, e0, rr, rfl, hw, hRC, hr⟩ := mx_ref_at hM hk0 hst1
          obtain ⟨cA, ty, x1, hT, rfl, hRA⟩ := hRC
          have hty2 := mx_isTy_spec hWd.2.1 hty hT
          subst hty2
          obtain ⟨f, rfl, hf⟩ := hRA
          obtain ⟨z, rfl⟩ := hw0.i hv
          exact va_iast hx hb hWd.1 hP hD hS k t hw hT j1 (hdc.of rfl) (fun H1 locs1 hP1 hD1 hS1 => mx_go (nc := 0) (ns := 0) kOk hFr hc hs hk ⟨[], by rw [mx_map_set hw]; simp⟩ (mx_In.set hP1 hD1 hS1 hM hw ⟨cA, _, _, hT, rfl, _, rfl, fun i hi => by
            rw [mx_at_up]
            unfold upd
            split
            · exact hw0
            · exact hf i hi⟩ hl hr))
      next => cases h3
    next => cases h3
  next => cases h3

set_option maxHeartbeats 1000000 in
theorem mx_t_bastore (hdc : mx_Dc P mi pc .bastore) (h3 : mx_astore P .boolean mx_01 h st = some (h', st')) : mx_St l P G tb rho d mi pc (pc + mx_len .bastore) ls st h st' h' := by
  unfold mx_astore at h3
  split at h3
  next v x k r =>
    split at h3
    next t n d0 us hk0 =>
      split at h3
      next hty =>
        simp only [Bool.and_eq_true] at hty
        obtain ⟨hty, hv⟩ := hty
        cases hj : mx_idx n x with
        | none => rw [hj] at h3; cases h3
        | some j =>
          rw [hj] at h3
          cases h3
          obtain ⟨j1, rfl, j3⟩ := mx_idx_spec hj
          refine ⟨0, 0, by simp, mx_sz_set hk0 rfl, fun pc2 ls2 st2 h2 mc ms kOk => ?_⟩
          intro p e R s m args below meth c H locs cells slots Q sl stk ws n0 D tys sg hFr hI hc hs hk
          obtain ⟨hx, hb, hr0, hml, hown, hts, hnm, hlk, hfr, hlo, hWd, hn0, hSc⟩ := id hFr
          obtain ⟨hP, hD, hS, hM, hl, hst⟩ := id hI
          obtain ⟨w, rr0, rfl, hw0, hst0⟩ := hst.c
          obtain ⟨w1, rr1, rfl, hw1, hst1⟩ := hst0.c
          simp only [mx_R] at hw1
          subst hw1
          obtain ⟨q, e0, rr, rfl, hw, hRC, hr⟩ := mx_ref_at hM hk0 hst1
          obtain ⟨cA, ty, x1, hT, rfl, hRA⟩ := hRC
          have hty2 := mx_isTy_spec hWd.2.1 hty hT
          subst hty2
          obtain ⟨f, rfl, hf⟩ := hRA
          obtain ⟨z, hz1, rfl⟩ : ∃ z : Int32, vp_nar .boolean z = z ∧ w = .int z := by
            cases v with
            | int z =>
              simp only [mx_R] at hw0
              simp only [mx_01, Bool.or_eq_true, decide_eq_true_eq] at hv
              exact ⟨z, by rcases hv with rfl | rfl <;> rfl, hw0⟩
            | _ => simp [mx_01] at hv
          refine va_zast hx hb hWd.1 hP hD hS k t hw hT j1 (hdc.of rfl) (fun H1 locs1 hP1 hD1 hS1 => ?_)
          rw [hz1] at hP1 hD1
          exact mx_go (nc := 0) (ns := 0) kOk hFr hc hs hk ⟨[], by rw [mx_map_set hw]; simp⟩ (mx_In.set hP1 hD1 hS1 hM hw ⟨cA, _, _, hT, rfl, _, rfl, fun i hi => by
            rw [mx_at_up]
            unfold upd
            split
            · exact hw0
            · exact hf i hi⟩ hl hr)
      next => cases h3
    next => cases h3
  next => cases h3

set_option maxHeartbeats 1000000 in
theorem mx_t_bastoreB (hdc : mx_Dc P mi pc .bastore) (h3 : mx_astore P .byte mx_okB h st = some (h', st')) : mx_St l P G tb rho d mi pc (pc + mx_len .bastore) ls st h st' h' := by
  unfold mx_astore at h3
  split at h3
  next v x k r =>
    split at h3
    next t n d0 us hk0 =>
      split at h3
      next hty =>
        simp only [Bool.and_eq_true] at hty
        obtain ⟨hty, hv⟩ := hty
        cases hj : mx_idx n x with
        | none => rw [hj] at h3; cases h3
        | some j =>
          rw [hj] at h3
          cases h3
          obtain ⟨j1, rfl, j3⟩ := mx_idx_spec hj
          refine ⟨0, 0, by simp, mx_sz_set hk0 rfl, fun pc2 ls2 st2 h2 mc ms kOk => ?_⟩
          intro p e R s m args below meth c H locs cells slots Q sl stk ws n0 D tys sg hFr hI hc hs hk
          obtain ⟨hx, hb, hr0, hml, hown, hts, hnm, hlk, hfr, hlo, hWd, hn0, hSc⟩ := id hFr
          obtain ⟨hP, hD, hS, hM, hl, hst⟩ := id hI
          obtain ⟨w, rr0, rfl, hw0, hst0⟩ := hst.c
          obtain ⟨w1, rr1, rfl, hw1, hst1⟩ := hst0.c
          simp only [mx_R] at hw1
          subst hw1
          obtain ⟨q, e0, rr, rfl, hw, hRC, hr⟩ := mx_ref_at hM hk0 hst1
          obtain ⟨cA, ty, x1, hT, rfl, hRA⟩ := hRC
          have hty2 := mx_isTy_spec hWd.2.1 hty hT
          subst hty2
          obtain ⟨f, rfl, hf⟩ := hRA
          obtain ⟨z, hz1, rfl⟩ : ∃ z : Int32, vp_nar .byte z = z ∧ w = .int z := by
            cases v with
            | int z =>
              simp only [mx_R] at hw0
              simp only [mx_okB, decide_eq_true_eq] at hv
              exact ⟨z, by rw [vp_nar_byte]; exact hv, hw0⟩
            | _ => simp [mx_okB] at hv
          refine va_bast hx hb hWd.1 hP hD hS k t hw hT j1 (hdc.of rfl) (fun H1 locs1 hP1 hD1 hS1 => ?_)
          rw [hz1] at hP1 hD1
          exact mx_go (nc := 0) (ns := 0) kOk hFr hc hs hk ⟨[], by rw [mx_map_set hw]; simp⟩ (mx_In.set hP1 hD1 hS1 hM hw ⟨cA, _, _, hT, rfl, _, rfl, fun i hi => by
            rw [mx_at_up]
            unfold upd
            split
            · exact hw0
            · exact hf i hi⟩ hl hr)
      next => cases h3
    next => cases h3
  next => cases h3

set_option maxHeartbeats 1000000 in
theorem mx_t_lastore (hdc : mx_Dc P mi pc .lastore) (h3 : mx_astore P .long mx_isJ h st = some (h', st')) : mx_St l P G tb rho d mi pc (pc + mx_len .lastore) ls st h st' h' := by
  unfold mx_astore at h3
  split at h3
  next v x k r =>
    split at h3
    next t n d0 us hk0 =>
      split at h3
      next hty =>
        simp only [Bool.and_eq_true] at hty
        obtain ⟨hty, hv⟩ := hty
        cases hj : mx_idx n x with
        | none => rw [hj] at h3; cases h3
        | some j =>
          rw [hj] at h3
          cases h3
          obtain ⟨j1, rfl, j3⟩ := mx_idx_spec hj
          refine ⟨0, 0, by simp, mx_sz_set hk0 rfl, fun pc2 ls2 st2 h2 mc ms kOk => ?_⟩
          intro p e R s m args below meth c H locs cells slots Q sl stk ws n0 D tys sg hFr hI hc hs hk
          obtain ⟨hx, hb, hr0, hml, hown, hts, hnm, hlk, hfr, hlo, hWd, hn0, hSc⟩ := id hFr
          obtain ⟨hP, hD, hS, hM, hl, hst⟩ := id hI
          obtain ⟨w, rr0, rfl, hw0, hst0⟩ := hst.c
          obtain ⟨w1, rr1, rfl, hw1, hst1⟩ := hst0.c
          simp only [mx_R] at hw1
          subst hw1
          obtain ⟨q, e0, rr, rfl, hw, hRC, hr⟩ := mx_ref_at hM hk0 hst1
          obtain ⟨cA, ty, x1, hT, rfl, hRA⟩ := hRC
          have hty2 := mx_isTy_spec hWd.2.1 hty hT
          subst hty2
          obtain ⟨f, rfl, hf⟩ := hRA
          obtain ⟨z, hz0, rfl⟩ := hw0.j hv
          subst hz0
          exact va_last hx hb hWd.1 hP hD hS k t hw hT j1 (hdc.of rfl) (fun H1 locs1 hP1 hD1 hS1 => mx_go (nc := 0) (ns := 0) kOk hFr hc hs hk ⟨[], by rw [mx_map_set hw]; simp⟩ (mx_In.set hP1 hD1 hS1 hM hw ⟨cA, _, _, hT, rfl, _, rfl, fun i hi => by
            rw [mx_at_up]
            unfold vp_updL
            split
            · exact hw0
            · exact hf i hi⟩ hl hr))
      next => cases h3
    next => cases h3
  next => cases h3

set_option maxHeartbeats 1000000 in
theorem mx_t_aastore (hCt : mx_Ct P) (hdc : mx_Dc P mi pc .aastore) (h3 : mx_qstore P h st = some (h', st')) : mx_St l P G tb rho d mi pc (pc + mx_len .aastore) ls st h st' h' := by
  unfold mx_qstore at h3
  split at h3
  next o x k r =>
    split at h3
    next t n d0 us ci fs hk0 ho0 =>
      split at h3
      next C hC =>
        split at h3
        next hec =>
          cases hj : mx_idx n x with
          | none => rw [hj] at h3; cases h3
          | some j =>
            rw [hj] at h3
            cases h3
            obtain ⟨j1, rfl, j3⟩ := mx_idx_spec hj
            refine ⟨0, 0, by simp, mx_sz_set hk0 rfl, fun pc2 ls2 st2 h2 mc ms kOk => ?_⟩
            intro p e R s m args below meth c H locs cells slots Q sl stk ws n0 D tys sg hFr hI hc hs hk
            obtain ⟨hx, hb, hr0, hml, hown, hts, hnm, hlk, hfr, hlo, hWd, hn0, hSc⟩ := id hFr
            obtain ⟨hP, hD, hS, hM, hl, hst⟩ := id hI
            obtain ⟨qo, eo, rr0, rfl, hwo, hRCo, hst0⟩ := mx_ref_at hM ho0 hst
            obtain ⟨w1, rr1, rfl, hw1, hst1⟩ := hst0.c
            simp only [mx_R] at hw1
            subst hw1
            obtain ⟨q, e0, rr, rfl, hw, hRC, hr⟩ := mx_ref_at hM hk0 hst1
            obtain ⟨cA, ty, x1, hT, rfl, hRA⟩ := hRC
            obtain ⟨vs, rfl, hvs⟩ := hRCo
            have hty2 : ty = .object C := by
              rw [← hWd.2.1, List.getElem?_map, hT] at hC
              cases hC; rfl
            subst hty2
            obtain ⟨f, rfl, hf⟩ := hRA
            obtain ⟨r0, hr1, hr2⟩ := hCt t C hC
            subst hr2
            subst hec
            have hqo : mx_R (ws.map Prod.fst) sg rho (.ref o) (.ref qo) := ⟨qo, by rw [List.getElem?_map, hwo]; rfl, rfl⟩
            exact va_astq hx hb hWd.1 hP hD hS k t o (mx_ec P t) hw hT hwo hr1 j1 (hdc.of rfl) (fun H1 locs1 hP1 hD1 hS1 => mx_go (nc := 0) (ns := 0) kOk hFr hc hs hk ⟨[], by rw [mx_map_set hw]; simp⟩ (mx_In.set hP1 hD1 hS1 hM hw ⟨cA, _, _, hT, rfl, _, rfl, fun i hi => by
              rw [mx_at_up]
              unfold va_up
              split
              · exact hqo
              · exact hf i hi⟩ hl hr))
        next => cases h3
      next => cases h3
    next => cases h3
  next => cases h3

set_option maxHeartbeats 1000000 in
theorem mx_t_arraylength (hdc : mx_Dc P mi pc .arraylength) (h3 : mx_s3 P d .arraylength a b env h st = some (h', st')) : mx_St l P G tb rho d mi pc (pc + mx_len .arraylength) ls st h st' h' := by
  simp only [mx_s3] at h3
  split at h3
  next k r =>
    split at h3
    next t n d0 us hk0 =>
      cases h3
      refine ⟨0, 0, rfl, rfl, fun pc2 ls2 st2 h2 mc ms kOk => ?_⟩
      intro p e R s m args below meth c H locs cells slots Q sl stk ws n0 D tys sg hFr hI hc hs hk
      obtain ⟨hx, hb, hr0, hml, hown, hts, hnm, hlk, hfr, hlo, hWd, hn0, hSc⟩ := id hFr
      obtain ⟨hP, hD, hS, hM, hl, hst⟩ := id hI
      obtain ⟨q, e0, rr, rfl, hw, hRC, hr⟩ := mx_ref_at hM hk0 hst
      obtain ⟨cA, ty, x1, hT, rfl, hRA⟩ := hRC
      exact va_alen hx hb hWd.1 hP k t hw hT rfl (hdc.of rfl) (mx_go (nc := 0) (ns := 0) kOk hFr hc hs hk ⟨[], by simp⟩ ⟨hP, hD, hS, hM, hl, rfl, hr⟩)
    next => cases h3
  next u r =>
    split at h3
    next hu =>
      subst hu
      cases h3
      refine ⟨0, 0, rfl, rfl, fun pc2 ls2 st2 h2 mc ms kOk => ?_⟩
      intro p e R s m args below meth c H locs cells slots Q sl stk ws n0 D tys sg hFr hI hc hs hk
      obtain ⟨hx, hb, hr0, hml, hown, hts, hnm, hlk, hfr, hlo, hWd, hn0, hSc⟩ := id hFr
      obtain ⟨hP, hD, hS, hM, hl, hst⟩ := id hI
      obtain ⟨w, rr, rfl, hw, hr⟩ := hst.c
      simp only [mx_R] at hw
      subst hw
      obtain ⟨⟨L, hL, hr8, hX, hb0⟩, hXt⟩ := hSc
      exact va_slen hx hb hX (Nat.lt_of_lt_of_le hb0 hn0) (Nat.not_le.mpr hb0) hS (hdc.of rfl) (mx_go (nc := 0) (ns := 0) kOk hFr hc hs hk ⟨[], by simp⟩ ⟨hP, hD, hS, hM, hl, by simp only [mx_R]; rw [hr8], hr⟩)
    next => cases h3
  next => cases h3

set_option maxHeartbeats 1000000 in
theorem mx_t_ldc {idx : Nat} (hLk : mx_Lk P G tb mi (.ldc idx) a b) (hdc : mx_Dc P mi pc (.ldc idx)) (h3 : mx_s3 P d (.ldc idx) a b env h st = some (h', st')) : mx_St l P G tb rho d mi pc (pc + mx_len (.ldc idx)) ls st h st' h' := by
  simp only [mx_s3] at h3
  rcases hLk with ⟨hb0, g1⟩ | ⟨hb0, g1, k, tx, rfl, g2⟩
  · rw [if_pos hb0] at h3
    cases h3
    refine ⟨0, 0, rfl, rfl, fun pc2 ls2 st2 h2 mc ms kOk => ?_⟩
    intro p e R s m args below meth c H locs cells slots Q sl stk ws n0 D tys sg hFr hI hc hs hk
    obtain ⟨hx, hb, hr0, hml, hown, hts, hnm, hlk, hfr, hlo, hWd, hn0, hSc⟩ := id hFr
    obtain ⟨hP, hD, hS, hM, hl, hst⟩ := id hI
    exact lv_ldc hx hb hown (hts _ g1) (hdc.of rfl) (mx_go (nc := 0) (ns := 0) kOk hFr hc hs hk ⟨[], by simp⟩ ⟨hP, hD, hS, hM, hl, rfl, hst⟩)
  · rw [if_neg hb0] at h3
    cases h3
    refine ⟨0, 0, rfl, rfl, fun pc2 ls2 st2 h2 mc ms kOk => ?_⟩
    intro p e R s m args below meth c H locs cells slots Q sl stk ws n0 D tys sg hFr hI hc hs hk
    obtain ⟨hx, hb, hr0, hml, hown, hts, hnm, hlk, hfr, hlo, hWd, hn0, hSc⟩ := id hFr
    obtain ⟨hP, hD, hS, hM, hl, hst⟩ := id hI
    have hZ := hWd.2.2.2.2 k _ g2
    refine va_ldcS hx hb hown hZ (hdc.of rfl) (mx_go (nc := 0) (ns := 0) kOk hFr hc hs hk ⟨[], by simp⟩ ⟨hP, hD, hS, hM, hl, ?_, hst⟩)
    simp only [mx_R]
    rw [show (UInt32.ofNat (k + 1)).toNat = k + 1 from by rw [UInt32.toNat_ofNat']; exact Nat.mod_eq_of_lt g1]

set_option maxHeartbeats 1000000 in
theorem mx_t_ldc2 {idx : Nat} (hLk : mx_Lk P G tb mi (.ldc2_w idx) a b) (hdc : mx_Dc P mi pc (.ldc2_w idx)) (h3 : mx_s3 P d (.ldc2_w idx) a b env h st = some (h', st')) : mx_St l P G tb rho d mi pc (pc + mx_len (.ldc2_w idx)) ls st h st' h' := by
  simp only [mx_s3] at h3
  cases h3
  refine ⟨0, 0, rfl, rfl, fun pc2 ls2 st2 h2 mc ms kOk => ?_⟩
  intro p e R s m args below meth c H locs cells slots Q sl stk ws n0 D tys sg hFr hI hc hs hk
  obtain ⟨hx, hb, hr0, hml, hown, hts, hnm, hlk, hfr, hlo, hWd, hn0, hSc⟩ := id hFr
  obtain ⟨hP, hD, hS, hM, hl, hst⟩ := id hI
  exact lv_ldc2 hx hb hown (hts _ hLk) (hdc.of rfl) (mx_go (nc := 0) (ns := 0) kOk hFr hc hs hk ⟨[], by simp⟩ ⟨hP, hD, hS, hM, hl, rfl, hst⟩)

set_option maxHeartbeats 1000000 in
theorem mx_t_objinit {idx : Nat} (hLk : mx_Lk P G tb mi (.invokespecial idx) a b) (hdc : mx_Dc P mi pc (.invokespecial idx)) (h3 : mx_s3 P d (.invokespecial idx) a b env h st = some (h', st')) : mx_St l P G tb rho d mi pc (pc + mx_len (.invokespecial idx)) ls st h st' h' := by
  simp only [mx_s3] at h3
  split at h3
  next k r d' =>
    split at h3
    next hsum =>
      cases h3
      obtain ⟨g1, g2, g3⟩ := hLk rfl
      refine ⟨0, 0, rfl, rfl, fun pc2 ls2 st2 h2 mc ms kOk => ?_⟩
      intro p e R s m args below meth c H locs cells slots Q sl stk ws n0 D tys sg hFr hI hc hs hk
      obtain ⟨hx, hb, hr0, hml, hown, hts, hnm, hlk, hfr, hlo, hWd, hn0, hSc⟩ := id hFr
      obtain ⟨hP, hD, hS, hM, hl, hst⟩ := id hI
      obtain ⟨w, rr, rfl, hw, hr⟩ := hst.c
      obtain ⟨q, -, rfl⟩ := hw
      obtain ⟨lv, hl1, hl2⟩ := id hl
      have hcs := mx_F2_cats hr
      have hroom := lv_room (m := m) (pc := pc) (ls := sl) (rest := .ref q :: rr) (st := rr) (by rw [hcs]; exact hsum)
      exact W.objInit hx hb hown (hts _ g1) (hts _ g2) (hts _ g3) (g := F0 m pc sl (.ref q :: rr)) rfl (hl1.1.trans hml.symm) rfl (hdc.of rfl) (by omega) (by omega) (mx_go (nc := 0) (ns := 0) kOk hFr hc hs hk ⟨[], by simp⟩ ⟨hP, hD, hS, hM, hl, hr⟩)
    next => cases h3
  next => cases h3

set_option maxHeartbeats 1000000 in
theorem mx_t_copy {idx : Nat} (hLk : mx_Lk P G tb mi (.invokestatic idx) a b) (hdc : mx_Dc P mi pc (.invokestatic idx)) (h3 : mx_s3 P d (.invokestatic idx) a b env h st = some (h', st')) : mx_St l P G tb rho d mi pc (pc + mx_len (.invokestatic idx)) ls st h st' h' := by
  simp only [mx_s3] at h3
  split at h3
  next d' =>
    obtain ⟨g1, g2, g3, g4⟩ := hLk rfl
    unfold mx_copy at h3
    split at h3
    next n dp k1 sp k0 r =>
      split at h3
      next t0 m0 d0 u0 t1 m1 d1 u1 hk0 hk1 =>
        split at h3
        next hcnd =>
          simp only [Bool.and_eq_true, Bool.not_eq_true', decide_eq_true_eq, decide_eq_false_iff_not] at hcnd
          obtain ⟨⟨⟨⟨⟨⟨⟨y0, y1⟩, y2⟩, y3⟩, y4⟩, y5⟩, y6⟩, y7⟩ := hcnd
          have core : ∀ (cn : mx_C), mx_cz cn = m1 → h' = h.set k1 cn → st' = r → (∀ (al : List Nat) (sg : Nat → Nat) (f g : Nat → Int32), (∀ j, j < m0 → mx_R al sg rho (mx_at d0 u0 j) (.int (f j))) → (∀ j, j < m1 → mx_R al sg rho (mx_at d1 u1 j) (.int (g j))) →
              ∀ (cA : ClassId) (tys : List (ClassId × FieldType)), tys[t1]? = some (cA, .int) → mx_RC al sg rho tys cn (.inl (cA, m1, .inl (va_cpy f g sp.toNatClampNeg dp.toNatClampNeg n.toNatClampNeg)))) → mx_St l P G tb rho (d' + 1) mi pc (pc + mx_len (.invokestatic idx)) ls (.int n :: .int dp :: .ref k1 :: .int sp :: .ref k0 :: r) h st' h' := by
            rintro cn hcz rfl rfl hcn
            refine ⟨0, 0, by simp, mx_sz_set hk1 hcz, fun pc2 ls2 st2 h2 mc ms kOk => ?_⟩
            intro p e R s m args below meth c H locs cells slots Q sl stk ws n0 D tys sg hFr hI hc hs hk
            obtain ⟨hx, hb, hr0, hml, hown, hts, hnm, hlk, hfr, hlo, hWd, hn0, hSc⟩ := id hFr
            obtain ⟨hP, hD, hS, hM, hl, hst⟩ := id hI
            obtain ⟨w0, rr0, rfl, hw0, hs0⟩ := hst.c
            obtain ⟨w1, rr1, rfl, hw1, hs1⟩ := hs0.c
            obtain ⟨qd, ed, rr2, rfl, hwd, hRCd, hs2⟩ := mx_ref_at hM hk1 hs1
            obtain ⟨w3, rr3, rfl, hw3, hs3⟩ := hs2.c
            obtain ⟨qs, es, rr, rfl, hws, hRCs, hr⟩ := mx_ref_at hM hk0 hs3
            simp only [mx_R] at hw0 hw1 hw3
            subst hw0; subst hw1; subst hw3
            obtain ⟨cA0, ty0, x0, hT0, rfl, hRA0⟩ := hRCs
            obtain ⟨cA1, ty1, x1, hT1, rfl, hRA1⟩ := hRCd
            have e0 := mx_isTy_spec hWd.2.1 y0 hT0
            have e1 := mx_isTy_spec hWd.2.1 y1 hT1
            subst e0; subst e1
            obtain ⟨f, rfl, hf⟩ := hRA0
            obtain ⟨g, rfl, hg⟩ := hRA1
            obtain ⟨lv, hl1, hl2⟩ := id hl
            have hcs := mx_F2_cats hr
            have hnw : nativeFrameWords "java/lang/System" "arraycopy" 5 = 7 := by decide +kernel
            exact va_copyi hx hb (hml.trans hl1.1.symm) hown (hts _ g1) (hts _ g2) (hts _ g3) (hts _ g4) hWd.1 hP hD hS k0 k1 t0 t1 hws hwd hT0 hT1 rfl y2 y3 y4 y5 y6 (fun i _ => rfl) (by omega) (by rw [hcs, hnw]; omega) (hdc.of rfl) (fun H1 locs1 hP1 hD1 hS1 => mx_go (nc := 0) (ns := 0) kOk hFr hc hs hk ⟨[], by rw [mx_map_set hwd]; simp⟩ (mx_In.set hP1 hD1 hS1 hM hwd (hcn _ _ f g hf hg cA1 tys hT1) hl hr))
          split at h3
          next hz =>
            cases h3
            refine core _ rfl rfl rfl (fun al sg f g hf hg cA tys hT => ⟨cA, .int, _, hT, rfl, _, rfl, fun j hj => ?_⟩)
            obtain ⟨z1, z2, z3⟩ := hz
            rw [z1, z2, z3, pk_cpy_in (by omega) (by simpa using hj)]
            have := hf j (by simp only at hj; omega)
            simpa using this
          next =>
            cases h3
            refine core _ rfl rfl rfl (fun al sg f g hf hg cA tys hT => ⟨cA, .int, _, hT, rfl, _, rfl, fun j hj => ?_⟩)
            simp only [mx_at, mx_look_app, mx_look_rng]
            by_cases hj2 : dp.toNatClampNeg ≤ j ∧ j < dp.toNatClampNeg + n.toNatClampNeg
            · rw [if_pos hj2, pk_cpy_in hj2.1 hj2.2]
              exact hf _ (by omega)
            · rw [if_neg hj2, pk_cpy_out (by omega)]
              exact hg j hj
        next => cases h3
      next => cases h3
    next => cases h3
  next => cases h3

/-- every row of the heap's -/
theorem mx_c3 {ins : Instr} (hCl : mx_Cl P tb) (hCt : mx_Ct P) (hLk : mx_Lk P G tb mi ins a b) (hdc : mx_Dc P mi pc ins) (he : mx_env rho env) (h3 : mx_s3 P d ins a b env h st = some (h', st')) : mx_St l P G tb rho d mi pc (pc + mx_len ins) ls st h st' h' := by
  cases ins <;> first | (simp only [mx_s3] at h3; cases h3; done) | skip
  case getfield => exact mx_t_getfield hCl hLk hdc h3
  case putfield => exact mx_t_putfield hCl hLk hdc h3
  case new => exact mx_t_new hCl hLk hdc h3
  case newarray => exact mx_t_newarray hLk hdc h3
  case anewarray => exact mx_t_anewarray hLk hdc h3
  case iaload =>
    simp only [mx_s3] at h3
    split at h3
    next q hq => cases h3; exact mx_t_iaload hdc hq
    next => exact mx_t_sload hdc he h3
  case baload =>
    simp only [mx_s3] at h3
    split at h3
    next q hq => cases h3; exact mx_t_baload hdc hq
    next => exact mx_t_baloadB hdc h3
  case laload => exact mx_t_laload hdc h3
  case aaload => exact mx_t_aaload hdc h3
  case iastore => exact mx_t_iastore hdc h3
  case bastore =>
    simp only [mx_s3] at h3
    split at h3
    next q hq => cases h3; exact mx_t_bastore hdc hq
    next => exact mx_t_bastoreB hdc h3
  case lastore => exact mx_t_lastore hdc h3
  case aastore => exact mx_t_aastore hCt hdc h3
  case arraylength => exact mx_t_arraylength hdc h3
  case ldc => exact mx_t_ldc hLk hdc h3
  case ldc2_w => exact mx_t_ldc2 hLk hdc h3
  case invokespecial => exact mx_t_objinit hLk hdc h3
  case invokestatic => exact mx_t_copy hLk hdc h3
end MXC4
