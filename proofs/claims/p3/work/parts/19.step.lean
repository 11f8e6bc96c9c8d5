/-! walks by hand in the machine's own words: a row an instruction -/
section MZS
variable {l : Launch} {rho : Nat → Int32} {d mi pc : Nat} {ls ls' : mx_L} {st st' : List Value} {h h' : mx_H} {pc2 : Nat} {ls2 : mx_L} {st2 : List Value} {h2 : mx_H} {mc ms : Nat} {ins : Instr} {a b w : Nat}
theorem ok_s1 (hpg : mz_pg mi pc = some (ins, a, b, w)) (h1 : mx_s1 (mz_mt mi).2.2.1 ins ls st = some (ls', st')) (k : mx_Ok l mz_P mz_G mz_tb rho d mi (pc + mx_len ins) ls' st' h pc2 ls2 st2 h2 mc ms) : mx_Ok l mz_P mz_G mz_tb rho d mi pc ls st h pc2 ls2 st2 h2 mc ms := by
  obtain ⟨hdc, -, -⟩ := mz_hPg mi pc _ hpg
  intro p e R s mm args below meth c H locs cells slots Q sl stk ws n0 D tys sg hFr hI hc hs hk
  obtain ⟨hP, hD, hS, hM, ⟨lv, hl1, hl2⟩, hst⟩ := hI
  exact mx_c1 hFr.1 hFr.2.1 (fun hsw => hdc.of hsw) h1 hl1 hl2 hst (fun sl' lv' stk' k1 k2 k3 => k p e R s mm args below meth c H locs cells slots Q sl' stk' ws n0 D tys sg hFr ⟨hP, hD, hS, hM, ⟨lv', k1, k2⟩, k3⟩ hc hs hk)
theorem ok_br {t : Nat} {r : List Value} (hpg : mz_pg mi pc = some (ins, a, b, w)) (hb : mx_s2 ins pc [] st = some [([], t, r)]) (k : mx_Ok l mz_P mz_G mz_tb rho d mi t ls r h pc2 ls2 st2 h2 mc ms) : mx_Ok l mz_P mz_G mz_tb rho d mi pc ls st h pc2 ls2 st2 h2 mc ms := by
  obtain ⟨hdc, -, -⟩ := mz_hPg mi pc _ hpg
  obtain ⟨q, hq, -, hbr⟩ := mx_c2 (l := l) (rho := rho) hb (fun i q h => by simp at h)
  have hq2 : q = ([], t, r) := by simpa using hq
  subst hq2
  intro p e R s mm args below meth c H locs cells slots Q sl stk ws n0 D tys sg hFr hI hc hs hk
  obtain ⟨hP, hD, hS, hM, hl, hst⟩ := hI
  exact hbr p e R s mm args below meth c H locs cells slots Q _ sl _ sg stk hFr.1 hFr.2.1 hdc hst (fun stk' k3 => k p e R s mm args below meth c H locs cells slots Q sl stk' ws n0 D tys sg hFr ⟨hP, hD, hS, hM, hl, k3⟩ hc hs hk)
theorem ok_s3 (hpg : mz_pg mi pc = some (ins, a, b, w)) (h3 : mx_s3 mz_P d ins a b [] h st = some (h', st')) (hlen : h'.length = h.length) (hsz : mx_sz h' = mx_sz h) (k : mx_Ok l mz_P mz_G mz_tb rho d mi (pc + mx_len ins) ls st' h' pc2 ls2 st2 h2 mc ms) : mx_Ok l mz_P mz_G mz_tb rho d mi pc ls st h pc2 ls2 st2 h2 mc ms := by
  obtain ⟨hdc, hLk, -⟩ := mz_hPg mi pc _ hpg
  obtain ⟨nc, ns, g1, g2, hstep⟩ := mx_c3 (l := l) (ls := ls) (rho := rho) (env := []) mz_hCl mz_hCt hLk hdc (fun i q h => by simp at h) h3
  have e1 : nc = 0 := by omega
  have e2 : ns = 0 := by omega
  subst e1; subst e2
  have := hstep _ _ _ _ _ _ k
  rwa [Nat.zero_add, Nat.zero_add] at this
theorem ok_call {as r : List Value} {pc1 mc1 ms1 : Nat} {ls1 : mx_L} {st1 : List Value} {h1 : mx_H} {ins1 : Instr} {a1 b1 w1 : Nat} {v1 : Option Value} (hpg : mz_pg mi pc = some (ins, a, b, w)) (h4 : mx_s4 mz_P ins a b h st = some (as, r))
    (hOk : mx_Ok l mz_P mz_G mz_tb rho d b 0 (mx_args 0 as) [] h pc1 ls1 st1 h1 mc1 ms1) (hpg1 : mz_pg b pc1 = some (ins1, a1, b1, w1)) (hrv : mx_rv ins1 (mz_mt b).2.2.2.1 st1 = some v1)
    (k : mx_Ok l mz_P mz_G mz_tb rho (d + 1) mi (pc + 3) ls (v1.toList ++ r) h1 pc2 ls2 st2 h2 mc ms) : mx_Ok l mz_P mz_G mz_tb rho (d + 1) mi pc ls st h pc2 ls2 st2 h2 (mc1 + mc) (ms1 + ms) := by
  obtain ⟨hdc, -, hLc⟩ := mz_hPg mi pc _ hpg
  exact mx_c4 mz_good hLc hdc h4 hOk (mz_hPg b pc1 _ hpg1).1 hrv k
theorem ok_iload {i : Nat} {v : Value} (hpg : mz_pg mi pc = some (.iload i, a, b, w)) (hL : mx_look ls i = some v) (hv : mx_isI v = true) (k : mx_Ok l mz_P mz_G mz_tb rho d mi (pc + 2) ls (v :: st) h pc2 ls2 st2 h2 mc ms) : mx_Ok l mz_P mz_G mz_tb rho d mi pc ls st h pc2 ls2 st2 h2 mc ms :=
  ok_s1 (ls' := ls) (st' := v :: st) hpg (by simp [mx_s1, mx_ld, hL, hv]) k
theorem ok_iload_n {i : Fin 4} {v : Value} (hpg : mz_pg mi pc = some (.iload_n i, a, b, w)) (hL : mx_look ls i = some v) (hv : mx_isI v = true) (k : mx_Ok l mz_P mz_G mz_tb rho d mi (pc + 1) ls (v :: st) h pc2 ls2 st2 h2 mc ms) : mx_Ok l mz_P mz_G mz_tb rho d mi pc ls st h pc2 ls2 st2 h2 mc ms :=
  ok_s1 (ls' := ls) (st' := v :: st) hpg (by simp [mx_s1, mx_ld, hL, hv]) k
theorem ok_lload {i : Nat} {v : Value} (hpg : mz_pg mi pc = some (.lload i, a, b, w)) (hL : mx_look ls i = some v) (hv : mx_isJ v = true) (k : mx_Ok l mz_P mz_G mz_tb rho d mi (pc + 2) ls (v :: st) h pc2 ls2 st2 h2 mc ms) : mx_Ok l mz_P mz_G mz_tb rho d mi pc ls st h pc2 ls2 st2 h2 mc ms :=
  ok_s1 (ls' := ls) (st' := v :: st) hpg (by simp [mx_s1, mx_ld, hL, hv]) k
theorem ok_lload_n {i : Fin 4} {v : Value} (hpg : mz_pg mi pc = some (.lload_n i, a, b, w)) (hL : mx_look ls i = some v) (hv : mx_isJ v = true) (k : mx_Ok l mz_P mz_G mz_tb rho d mi (pc + 1) ls (v :: st) h pc2 ls2 st2 h2 mc ms) : mx_Ok l mz_P mz_G mz_tb rho d mi pc ls st h pc2 ls2 st2 h2 mc ms :=
  ok_s1 (ls' := ls) (st' := v :: st) hpg (by simp [mx_s1, mx_ld, hL, hv]) k
theorem ok_aload {i : Nat} {v : Value} (hpg : mz_pg mi pc = some (.aload i, a, b, w)) (hL : mx_look ls i = some v) (hv : mx_isA v = true) (k : mx_Ok l mz_P mz_G mz_tb rho d mi (pc + 2) ls (v :: st) h pc2 ls2 st2 h2 mc ms) : mx_Ok l mz_P mz_G mz_tb rho d mi pc ls st h pc2 ls2 st2 h2 mc ms :=
  ok_s1 (ls' := ls) (st' := v :: st) hpg (by simp [mx_s1, mx_ld, hL, hv]) k
theorem ok_aload_n {i : Fin 4} {v : Value} (hpg : mz_pg mi pc = some (.aload_n i, a, b, w)) (hL : mx_look ls i = some v) (hv : mx_isA v = true) (k : mx_Ok l mz_P mz_G mz_tb rho d mi (pc + 1) ls (v :: st) h pc2 ls2 st2 h2 mc ms) : mx_Ok l mz_P mz_G mz_tb rho d mi pc ls st h pc2 ls2 st2 h2 mc ms :=
  ok_s1 (ls' := ls) (st' := v :: st) hpg (by simp [mx_s1, mx_ld, hL, hv]) k
theorem ok_istore {i : Nat} {x : Int32} (hpg : mz_pg mi pc = some (.istore i, a, b, w)) (hi : i < (mz_mt mi).2.2.1) (k : mx_Ok l mz_P mz_G mz_tb rho d mi (pc + 2) (mx_put1 ls i (.int x)) st h pc2 ls2 st2 h2 mc ms) : mx_Ok l mz_P mz_G mz_tb rho d mi pc ls (.int x :: st) h pc2 ls2 st2 h2 mc ms :=
  ok_s1 (ls' := mx_put1 ls i (.int x)) (st' := st) hpg (by simp [mx_s1, mx_st1, mx_isI, hi]) k
theorem ok_istore_n {i : Fin 4} {x : Int32} (hpg : mz_pg mi pc = some (.istore_n i, a, b, w)) (hi : (i : Nat) < (mz_mt mi).2.2.1) (k : mx_Ok l mz_P mz_G mz_tb rho d mi (pc + 1) (mx_put1 ls i (.int x)) st h pc2 ls2 st2 h2 mc ms) : mx_Ok l mz_P mz_G mz_tb rho d mi pc ls (.int x :: st) h pc2 ls2 st2 h2 mc ms :=
  ok_s1 (ls' := mx_put1 ls i (.int x)) (st' := st) hpg (by simp [mx_s1, mx_st1, mx_isI, hi]) k
theorem ok_iinc {i : Nat} {n : Int} {x : Int32} (hpg : mz_pg mi pc = some (.iinc i n, a, b, w)) (hL : mx_look ls i = some (.int x)) (hi : i < (mz_mt mi).2.2.1) (k : mx_Ok l mz_P mz_G mz_tb rho d mi (pc + 3) (mx_put1 ls i (.int (x + Int32.ofInt n))) st h pc2 ls2 st2 h2 mc ms) : mx_Ok l mz_P mz_G mz_tb rho d mi pc ls st h pc2 ls2 st2 h2 mc ms :=
  ok_s1 (ls' := mx_put1 ls i (.int (x + Int32.ofInt n))) (st' := st) hpg (by simp [mx_s1, hL, hi]) k
theorem ok_goto {off : Int} {t : Nat} (hpg : mz_pg mi pc = some (.goto off, a, b, w)) (ht : mx_tg pc off = some t) (k : mx_Ok l mz_P mz_G mz_tb rho d mi t ls st h pc2 ls2 st2 h2 mc ms) : mx_Ok l mz_P mz_G mz_tb rho d mi pc ls st h pc2 ls2 st2 h2 mc ms :=
  ok_br (t := t) (r := st) hpg (by simp [mx_s2, ht]) k
theorem ok_ifT {cd : Jvm.ClassFile.Cond} {off : Int} {t : Nat} {x : Int32} (hpg : mz_pg mi pc = some (.ifCond cd off, a, b, w)) (ht : mx_tg pc off = some t) (hc : mx_cmp cd x 0 = true) (k : mx_Ok l mz_P mz_G mz_tb rho d mi t ls st h pc2 ls2 st2 h2 mc ms) : mx_Ok l mz_P mz_G mz_tb rho d mi pc ls (.int x :: st) h pc2 ls2 st2 h2 mc ms :=
  ok_br (t := t) (r := st) hpg (by simp [mx_s2, ht, hc]) k
theorem ok_ifF {cd : Jvm.ClassFile.Cond} {off : Int} {x : Int32} (hpg : mz_pg mi pc = some (.ifCond cd off, a, b, w)) (ht : (mx_tg pc off).isSome = true) (hc : mx_cmp cd x 0 = false) (k : mx_Ok l mz_P mz_G mz_tb rho d mi (pc + 3) ls st h pc2 ls2 st2 h2 mc ms) : mx_Ok l mz_P mz_G mz_tb rho d mi pc ls (.int x :: st) h pc2 ls2 st2 h2 mc ms := by
  obtain ⟨t, ht⟩ := Option.isSome_iff_exists.mp ht
  exact ok_br (t := pc + 3) (r := st) hpg (by simp [mx_s2, ht, hc]) k
theorem ok_icT {cd : Jvm.ClassFile.Cond} {off : Int} {t : Nat} {x y : Int32} (hpg : mz_pg mi pc = some (.if_icmp cd off, a, b, w)) (ht : mx_tg pc off = some t) (hc : mx_cmp cd x y = true) (k : mx_Ok l mz_P mz_G mz_tb rho d mi t ls st h pc2 ls2 st2 h2 mc ms) : mx_Ok l mz_P mz_G mz_tb rho d mi pc ls (.int y :: .int x :: st) h pc2 ls2 st2 h2 mc ms :=
  ok_br (t := t) (r := st) hpg (by simp [mx_s2, ht, hc]) k
theorem ok_icF {cd : Jvm.ClassFile.Cond} {off : Int} {x y : Int32} (hpg : mz_pg mi pc = some (.if_icmp cd off, a, b, w)) (ht : (mx_tg pc off).isSome = true) (hc : mx_cmp cd x y = false) (k : mx_Ok l mz_P mz_G mz_tb rho d mi (pc + 3) ls st h pc2 ls2 st2 h2 mc ms) : mx_Ok l mz_P mz_G mz_tb rho d mi pc ls (.int y :: .int x :: st) h pc2 ls2 st2 h2 mc ms := by
  obtain ⟨t, ht⟩ := Option.isSome_iff_exists.mp ht
  exact ok_br (t := pc + 3) (r := st) hpg (by simp [mx_s2, ht, hc]) k
theorem ok_get {x k : Nat} {fs : List Value} {v : Value} (hpg : mz_pg mi pc = some (.getfield x, a, b, w)) (hk : h[k]? = some (.inr (a, fs))) (hv : fs[b]? = some v) (kk : mx_Ok l mz_P mz_G mz_tb rho d mi (pc + 3) ls (v :: st) h pc2 ls2 st2 h2 mc ms) : mx_Ok l mz_P mz_G mz_tb rho d mi pc ls (.ref k :: st) h pc2 ls2 st2 h2 mc ms :=
  ok_s3 (h' := h) (st' := v :: st) hpg (by simp [mx_s3, hk, hv]) rfl rfl kk
theorem ok_put {x k : Nat} {fs : List Value} {v : Value} (hpg : mz_pg mi pc = some (.putfield x, a, b, w)) (hk : h[k]? = some (.inr (a, fs))) (hb : b < fs.length) (hf : mx_fit (mz_ft a b) v = true) (kk : mx_Ok l mz_P mz_G mz_tb rho d mi (pc + 3) ls st (h.set k (.inr (a, fs.set b v))) pc2 ls2 st2 h2 mc ms) : mx_Ok l mz_P mz_G mz_tb rho d mi pc ls (v :: .ref k :: st) h pc2 ls2 st2 h2 mc ms :=
  ok_s3 (h' := h.set k (.inr (a, fs.set b v))) (st' := st) hpg (by
    have hf2 : mx_fit (mx_ft mz_P a b) v = true := hf
    simp [mx_s3, hk, hb, hf2]) (by simp) (mx_sz_set hk (by simp [mx_cz])) kk
theorem ok_ist {x : Int32} {k n j : Nat} {d0 v : Value} {us : List (Nat × Value)} (hpg : mz_pg mi pc = some (.iastore, a, b, w)) (hk : h[k]? = some (.inl (0, n, d0, us))) (hj : mx_idx n x = some j) (hv : mx_isI v = true) (kk : mx_Ok l mz_P mz_G mz_tb rho d mi (pc + 1) ls st (h.set k (.inl (0, n, d0, mx_up d0 us j v))) pc2 ls2 st2 h2 mc ms) : mx_Ok l mz_P mz_G mz_tb rho d mi pc ls (v :: .int x :: .ref k :: st) h pc2 ls2 st2 h2 mc ms :=
  ok_s3 (h' := h.set k (.inl (0, n, d0, mx_up d0 us j v))) (st' := st) hpg (by
    have ht : mx_isTy mz_P 0 .int = true := rfl
    simp [mx_s3, mx_astore, hk, ht, hv, hj]) (by simp) (mx_sz_set hk rfl) kk
theorem ok_bst {x y : Int32} {k n j : Nat} {d0 : Value} {us : List (Nat × Value)} (hpg : mz_pg mi pc = some (.bastore, a, b, w)) (hk : h[k]? = some (.inl (3, n, d0, us))) (hj : mx_idx n x = some j) (hv : y.toInt8.toInt32 = y) (kk : mx_Ok l mz_P mz_G mz_tb rho d mi (pc + 1) ls st (h.set k (.inl (3, n, d0, mx_up d0 us j (.int y)))) pc2 ls2 st2 h2 mc ms) : mx_Ok l mz_P mz_G mz_tb rho d mi pc ls (.int y :: .int x :: .ref k :: st) h pc2 ls2 st2 h2 mc ms :=
  ok_s3 (h' := h.set k (.inl (3, n, d0, mx_up d0 us j (.int y)))) (st' := st) hpg (by
    have ht : mx_isTy mz_P 3 .byte = true := rfl
    have ht2 : mx_isTy mz_P 3 .boolean = false := rfl
    simp [mx_s3, mx_astore, hk, ht, ht2, hj, mx_okB, hv]) (by simp) (mx_sz_set hk rfl) kk
theorem ok_sym {j : Nat} (k : mx_Ok l mz_P mz_G mz_tb rho d mi pc ls (.int (rho j) :: st) h pc2 ls2 st2 h2 mc ms) : mx_Ok l mz_P mz_G mz_tb rho d mi pc ls (.retAddr j :: st) h pc2 ls2 st2 h2 mc ms := by
  intro p e R s mm args below meth c H locs cells slots Q sl stk ws n0 D tys sg hFr hI hc hs hk
  obtain ⟨hP, hD, hS, hM, hl, hst⟩ := hI
  obtain ⟨v, r, rfl, hv, hr⟩ := hst.c
  exact k p e R s mm args below meth c H locs cells slots Q sl (v :: r) ws n0 D tys sg hFr ⟨hP, hD, hS, hM, hl, ⟨hv, hr⟩⟩ hc hs hk
/-- an element of the script, in known terms -/
theorem ok_sl {x : Int32} {L j : Nat} (hpg : mz_pg mi pc = some (.iaload, a, b, w)) (hL4 : L ≤ 4096) (hL : rho 4096 = Int32.ofNat L) (hj : mx_idx L x = some j) (kk : mx_Ok l mz_P mz_G mz_tb rho d mi (pc + 1) ls (.int (rho j) :: st) h pc2 ls2 st2 h2 mc ms) : mx_Ok l mz_P mz_G mz_tb rho d mi pc ls (.int x :: .float 0 :: st) h pc2 ls2 st2 h2 mc ms := by
  obtain ⟨hdc, -, -⟩ := mz_hPg mi pc _ hpg
  obtain ⟨j1, rfl, j3⟩ := mx_idx_spec hj
  intro p e R s mm args below meth c H locs cells slots Q sl stk ws n0 D tys sg hFr hI hc hs hk
  obtain ⟨hx, hb, hr0, hml, hown, hts, hnm, hlk, hfr, hlo, hWd, hn0, hSc⟩ := id hFr
  obtain ⟨hP, hD, hS, hM, hl, hst⟩ := id hI
  obtain ⟨v1, rr0, rfl, hw0, hst0⟩ := hst.c
  obtain ⟨v2, rr, rfl, hw2, hst1⟩ := hst0.c
  simp only [mx_R] at hw0 hw2
  subst hw0; subst hw2
  obtain ⟨⟨L', hL', hr8, hX, hb0⟩, hXt⟩ := hSc
  have hLL : L' = L := by
    have e1 : (Int32.ofNat L').toInt = (L' : Int) := Int32.toInt_ofNat_of_lt (by omega)
    have e2 : (Int32.ofNat L).toInt = (L : Int) := Int32.toInt_ofNat_of_lt (by omega)
    rw [hr8] at hL
    rw [hL, e2] at e1
    omega
  subst hLL
  exact va_sld hx hb hX (Nat.lt_of_lt_of_le hb0 hn0) (Nat.not_le.mpr hb0) hS j1 (hdc.of rfl) (kk p e R s mm args below meth c H locs cells slots Q sl _ ws n0 D tys sg hFr ⟨hP, hD, hS, hM, hl, rfl, hst1⟩ hc hs hk)
/-- the script's length -/
theorem ok_slen {x : Int32} (hpg : mz_pg mi pc = some (.arraylength, a, b, w)) (h8 : rho 4096 = x) (kk : mx_Ok l mz_P mz_G mz_tb rho d mi (pc + 1) ls (.int x :: st) h pc2 ls2 st2 h2 mc ms) : mx_Ok l mz_P mz_G mz_tb rho d mi pc ls (.float 0 :: st) h pc2 ls2 st2 h2 mc ms := by
  subst h8
  exact ok_s3 (h' := h) (st' := .retAddr 4096 :: st) hpg (by simp [mx_s3]) rfl rfl (ok_sym kk)
theorem mx_look_put {i j : Nat} {x : Value} : ∀ {ls : mx_L} {v : Value}, j ≠ i → (mx_cat v = 2 → j + 1 ≠ i) → mx_look ls j = some v → mx_look (mx_put1 ls i x) j = some v := by
  intro ls v hne hcat hL
  have hb : Nat.beq i j = false := by
    cases hq : Nat.beq i j with
    | false => rfl
    | true => exact absurd (Nat.eq_of_beq_eq_true hq).symm hne
  unfold mx_put1
  simp only [mx_look, hb, cond_false]
  induction ls with
  | nil => simp [mx_look] at hL
  | cons q r ih =>
    simp only [mx_look] at hL
    cases hq : Nat.beq q.1 j with
    | true =>
      rw [hq] at hL
      simp only [cond_true, Option.some.injEq] at hL
      have e1 := Nat.eq_of_beq_eq_true hq
      have hkeep : (!(q.1 == i) && !(q.1 + 1 == i && mx_cat q.2 == 2)) = true := by
        rw [e1, hL]
        by_cases hc : mx_cat v = 2
        · have h1 := hcat hc
          simp [hne, h1]
        · simp [hne, hc]
      rw [List.filter_cons, if_pos hkeep]
      simp only [mx_look, hq, cond_true, hL]
    | false =>
      rw [hq] at hL
      simp only [cond_false] at hL
      rw [List.filter_cons]
      split
      · simp only [mx_look, hq, cond_false]; exact ih hL
      · exact ih hL
theorem mx_look_self {ls : mx_L} {i : Nat} {x : Value} : mx_look (mx_put1 ls i x) i = some x := by
  unfold mx_put1
  simp only [mx_look]
  rw [show Nat.beq i i = true from Nat.beq_refl i]; rfl
end MZS
