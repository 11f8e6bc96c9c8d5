/-! the tables hold -/
theorem mz_okT0 : mz_ok 0 = true := by
  refine List.all_eq_true.mpr (fun pc hp => ?_)
  have hp2 : pc < 1886 := List.mem_range.mp hp
  show mz_at 0 pc = true
  by_cases h0 : pc < 343
  · have := mz_okS0_0 (pc - 0) (by omega); rwa [show 0 + (pc - 0) = pc by omega] at this
  by_cases h343 : pc < 474
  · have := mz_okS0_1 (pc - 343) (by omega); rwa [show 343 + (pc - 343) = pc by omega] at this
  by_cases h474 : pc < 583
  · have := mz_okS0_2 (pc - 474) (by omega); rwa [show 474 + (pc - 474) = pc by omega] at this
  by_cases h583 : pc < 678
  · have := mz_okS0_3 (pc - 583) (by omega); rwa [show 583 + (pc - 583) = pc by omega] at this
  by_cases h678 : pc < 759
  · have := mz_okS0_4 (pc - 678) (by omega); rwa [show 678 + (pc - 678) = pc by omega] at this
  by_cases h759 : pc < 833
  · have := mz_okS0_5 (pc - 759) (by omega); rwa [show 759 + (pc - 759) = pc by omega] at this
  by_cases h833 : pc < 903
  · have := mz_okS0_6 (pc - 833) (by omega); rwa [show 833 + (pc - 833) = pc by omega] at this
  by_cases h903 : pc < 962
  · have := mz_okS0_7 (pc - 903) (by omega); rwa [show 903 + (pc - 903) = pc by omega] at this
  by_cases h962 : pc < 1023
  · have := mz_okS0_8 (pc - 962) (by omega); rwa [show 962 + (pc - 962) = pc by omega] at this
  by_cases h1023 : pc < 1080
  · have := mz_okS0_9 (pc - 1023) (by omega); rwa [show 1023 + (pc - 1023) = pc by omega] at this
  by_cases h1080 : pc < 1130
  · have := mz_okS0_10 (pc - 1080) (by omega); rwa [show 1080 + (pc - 1080) = pc by omega] at this
  by_cases h1130 : pc < 1180
  · have := mz_okS0_11 (pc - 1130) (by omega); rwa [show 1130 + (pc - 1130) = pc by omega] at this
  by_cases h1180 : pc < 1229
  · have := mz_okS0_12 (pc - 1180) (by omega); rwa [show 1180 + (pc - 1180) = pc by omega] at this
  by_cases h1229 : pc < 1277
  · have := mz_okS0_13 (pc - 1229) (by omega); rwa [show 1229 + (pc - 1229) = pc by omega] at this
  by_cases h1277 : pc < 1322
  · have := mz_okS0_14 (pc - 1277) (by omega); rwa [show 1277 + (pc - 1277) = pc by omega] at this
  by_cases h1322 : pc < 1364
  · have := mz_okS0_15 (pc - 1322) (by omega); rwa [show 1322 + (pc - 1322) = pc by omega] at this
  by_cases h1364 : pc < 1407
  · have := mz_okS0_16 (pc - 1364) (by omega); rwa [show 1364 + (pc - 1364) = pc by omega] at this
  by_cases h1407 : pc < 1450
  · have := mz_okS0_17 (pc - 1407) (by omega); rwa [show 1407 + (pc - 1407) = pc by omega] at this
  by_cases h1450 : pc < 1490
  · have := mz_okS0_18 (pc - 1450) (by omega); rwa [show 1450 + (pc - 1450) = pc by omega] at this
  by_cases h1490 : pc < 1531
  · have := mz_okS0_19 (pc - 1490) (by omega); rwa [show 1490 + (pc - 1490) = pc by omega] at this
  by_cases h1531 : pc < 1572
  · have := mz_okS0_20 (pc - 1531) (by omega); rwa [show 1531 + (pc - 1531) = pc by omega] at this
  by_cases h1572 : pc < 1608
  · have := mz_okS0_21 (pc - 1572) (by omega); rwa [show 1572 + (pc - 1572) = pc by omega] at this
  by_cases h1608 : pc < 1646
  · have := mz_okS0_22 (pc - 1608) (by omega); rwa [show 1608 + (pc - 1608) = pc by omega] at this
  by_cases h1646 : pc < 1686
  · have := mz_okS0_23 (pc - 1646) (by omega); rwa [show 1646 + (pc - 1646) = pc by omega] at this
  by_cases h1686 : pc < 1721
  · have := mz_okS0_24 (pc - 1686) (by omega); rwa [show 1686 + (pc - 1686) = pc by omega] at this
  by_cases h1721 : pc < 1757
  · have := mz_okS0_25 (pc - 1721) (by omega); rwa [show 1721 + (pc - 1721) = pc by omega] at this
  by_cases h1757 : pc < 1790
  · have := mz_okS0_26 (pc - 1757) (by omega); rwa [show 1757 + (pc - 1757) = pc by omega] at this
  by_cases h1790 : pc < 1829
  · have := mz_okS0_27 (pc - 1790) (by omega); rwa [show 1790 + (pc - 1790) = pc by omega] at this
  by_cases h1829 : pc < 1866
  · have := mz_okS0_28 (pc - 1829) (by omega); rwa [show 1829 + (pc - 1829) = pc by omega] at this
  by_cases h1866 : pc < 1886
  · have := mz_okS0_29 (pc - 1866) (by omega); rwa [show 1866 + (pc - 1866) = pc by omega] at this
  omega
theorem mz_okT145 : mz_ok 145 = true := by
  refine List.all_eq_true.mpr (fun pc hp => ?_)
  have hp2 : pc < 538 := List.mem_range.mp hp
  show mz_at 145 pc = true
  by_cases h0 : pc < 353
  · have := mz_okS145_0 (pc - 0) (by omega); rwa [show 0 + (pc - 0) = pc by omega] at this
  by_cases h353 : pc < 523
  · have := mz_okS145_1 (pc - 353) (by omega); rwa [show 353 + (pc - 353) = pc by omega] at this
  by_cases h523 : pc < 538
  · have := mz_okS145_2 (pc - 523) (by omega); rwa [show 523 + (pc - 523) = pc by omega] at this
  omega
theorem mz_okT196 : mz_ok 196 = true := by
  refine List.all_eq_true.mpr (fun pc hp => ?_)
  have hp2 : pc < 362 := List.mem_range.mp hp
  show mz_at 196 pc = true
  by_cases h0 : pc < 329
  · have := mz_okS196_0 (pc - 0) (by omega); rwa [show 0 + (pc - 0) = pc by omega] at this
  by_cases h329 : pc < 362
  · have := mz_okS196_1 (pc - 329) (by omega); rwa [show 329 + (pc - 329) = pc by omega] at this
  omega
theorem mz_okAll : ∀ m, m < 250 → mz_ok m = true := by
  intro m hm
  by_cases h0 : m < 1
  · have e : m = 0 := by omega
    rw [e]; exact mz_okT0
  by_cases h1 : m < 9
  · have := mz_okG0 (m - 1) (by omega); rwa [show 1 + (m - 1) = m by omega] at this
  by_cases h9 : m < 19
  · have := mz_okG1 (m - 9) (by omega); rwa [show 9 + (m - 9) = m by omega] at this
  by_cases h19 : m < 30
  · have := mz_okG2 (m - 19) (by omega); rwa [show 19 + (m - 19) = m by omega] at this
  by_cases h30 : m < 37
  · have := mz_okG3 (m - 30) (by omega); rwa [show 30 + (m - 30) = m by omega] at this
  by_cases h37 : m < 41
  · have := mz_okG4 (m - 37) (by omega); rwa [show 37 + (m - 37) = m by omega] at this
  by_cases h41 : m < 52
  · have := mz_okG5 (m - 41) (by omega); rwa [show 41 + (m - 41) = m by omega] at this
  by_cases h52 : m < 62
  · have := mz_okG6 (m - 52) (by omega); rwa [show 52 + (m - 52) = m by omega] at this
  by_cases h62 : m < 68
  · have := mz_okG7 (m - 62) (by omega); rwa [show 62 + (m - 62) = m by omega] at this
  by_cases h68 : m < 76
  · have := mz_okG8 (m - 68) (by omega); rwa [show 68 + (m - 68) = m by omega] at this
  by_cases h76 : m < 84
  · have := mz_okG9 (m - 76) (by omega); rwa [show 76 + (m - 76) = m by omega] at this
  by_cases h84 : m < 95
  · have := mz_okG10 (m - 84) (by omega); rwa [show 84 + (m - 84) = m by omega] at this
  by_cases h95 : m < 98
  · have := mz_okG11 (m - 95) (by omega); rwa [show 95 + (m - 95) = m by omega] at this
  by_cases h98 : m < 102
  · have := mz_okG12 (m - 98) (by omega); rwa [show 98 + (m - 98) = m by omega] at this
  by_cases h102 : m < 108
  · have := mz_okG13 (m - 102) (by omega); rwa [show 102 + (m - 102) = m by omega] at this
  by_cases h108 : m < 114
  · have := mz_okG14 (m - 108) (by omega); rwa [show 108 + (m - 108) = m by omega] at this
  by_cases h114 : m < 118
  · have := mz_okG15 (m - 114) (by omega); rwa [show 114 + (m - 114) = m by omega] at this
  by_cases h118 : m < 122
  · have := mz_okG16 (m - 118) (by omega); rwa [show 118 + (m - 118) = m by omega] at this
  by_cases h122 : m < 128
  · have := mz_okG17 (m - 122) (by omega); rwa [show 122 + (m - 122) = m by omega] at this
  by_cases h128 : m < 135
  · have := mz_okG18 (m - 128) (by omega); rwa [show 128 + (m - 128) = m by omega] at this
  by_cases h135 : m < 145
  · have := mz_okG19 (m - 135) (by omega); rwa [show 135 + (m - 135) = m by omega] at this
  by_cases h145 : m < 146
  · have e : m = 145 := by omega
    rw [e]; exact mz_okT145
  by_cases h146 : m < 155
  · have := mz_okG20 (m - 146) (by omega); rwa [show 146 + (m - 146) = m by omega] at this
  by_cases h155 : m < 166
  · have := mz_okG21 (m - 155) (by omega); rwa [show 155 + (m - 155) = m by omega] at this
  by_cases h166 : m < 169
  · have := mz_okG22 (m - 166) (by omega); rwa [show 166 + (m - 166) = m by omega] at this
  by_cases h169 : m < 174
  · have := mz_okG23 (m - 169) (by omega); rwa [show 169 + (m - 169) = m by omega] at this
  by_cases h174 : m < 182
  · have := mz_okG24 (m - 174) (by omega); rwa [show 174 + (m - 174) = m by omega] at this
  by_cases h182 : m < 185
  · have := mz_okG25 (m - 182) (by omega); rwa [show 182 + (m - 182) = m by omega] at this
  by_cases h185 : m < 188
  · have := mz_okG26 (m - 185) (by omega); rwa [show 185 + (m - 185) = m by omega] at this
  by_cases h188 : m < 191
  · have := mz_okG27 (m - 188) (by omega); rwa [show 188 + (m - 188) = m by omega] at this
  by_cases h191 : m < 195
  · have := mz_okG28 (m - 191) (by omega); rwa [show 191 + (m - 191) = m by omega] at this
  by_cases h195 : m < 196
  · have := mz_okG29 (m - 195) (by omega); rwa [show 195 + (m - 195) = m by omega] at this
  by_cases h196 : m < 197
  · have e : m = 196 := by omega
    rw [e]; exact mz_okT196
  by_cases h197 : m < 201
  · have := mz_okG30 (m - 197) (by omega); rwa [show 197 + (m - 197) = m by omega] at this
  by_cases h201 : m < 208
  · have := mz_okG31 (m - 201) (by omega); rwa [show 201 + (m - 201) = m by omega] at this
  by_cases h208 : m < 210
  · have := mz_okG32 (m - 208) (by omega); rwa [show 208 + (m - 208) = m by omega] at this
  by_cases h210 : m < 215
  · have := mz_okG33 (m - 210) (by omega); rwa [show 210 + (m - 210) = m by omega] at this
  by_cases h215 : m < 222
  · have := mz_okG34 (m - 215) (by omega); rwa [show 215 + (m - 215) = m by omega] at this
  by_cases h222 : m < 225
  · have := mz_okG35 (m - 222) (by omega); rwa [show 222 + (m - 222) = m by omega] at this
  by_cases h225 : m < 229
  · have := mz_okG36 (m - 225) (by omega); rwa [show 225 + (m - 225) = m by omega] at this
  by_cases h229 : m < 233
  · have := mz_okG37 (m - 229) (by omega); rwa [show 229 + (m - 229) = m by omega] at this
  by_cases h233 : m < 237
  · have := mz_okG38 (m - 233) (by omega); rwa [show 233 + (m - 233) = m by omega] at this
  by_cases h237 : m < 241
  · have := mz_okG39 (m - 237) (by omega); rwa [show 237 + (m - 237) = m by omega] at this
  by_cases h241 : m < 245
  · have := mz_okG40 (m - 241) (by omega); rwa [show 241 + (m - 241) = m by omega] at this
  by_cases h245 : m < 248
  · have := mz_okG41 (m - 245) (by omega); rwa [show 245 + (m - 245) = m by omega] at this
  by_cases h248 : m < 250
  · have := mz_okG42 (m - 248) (by omega); rwa [show 248 + (m - 248) = m by omega] at this
  omega
theorem mz_me {b : Nat} (h0 : 0 < b) (hb : b < 250) : mx_Me mz_P mz_tb b := by
  have h := mz_okNAll b h0 hb
  unfold mz_okN at h
  simp only [Bool.and_eq_true, Bool.not_eq_true', decide_eq_false_iff_not, decide_eq_true_eq] at h
  obtain ⟨⟨⟨⟨⟨⟨h2, h3⟩, h4⟩, h5⟩, h6⟩, h7⟩, -⟩ := h
  exact ⟨mz_wc_spec (mz_okCAll b h0 hb), mz_w_spec h2, h3, ⟨h4, h5, h6⟩, h7⟩
theorem mz_mo {b : Nat} (h : (match mz_cl[(mz_mt b).2.2.2.2.2]? with
      | some q => decide (q.1 = (mz_mt b).1.cls)
      | none => false) = true) : mx_Mo mz_P b := by
  split at h
  next q hq => exact ⟨q, hq, of_decide_eq_true h⟩
  next => cases h
theorem mz_k1 {b : Nat} (h0 : 0 < b) (hb : b < 250) (hk : (mz_mw b).2.2.2.2 = 1) : mx_Mo mz_P b ∧ Cond.instanceMethod (mz_mt b).1 ∈ mz_tb ∧ Cond.selects (mz_mt b).1.cls (mz_mt b).1 (mz_mt b).1 ∈ mz_tb := by
  have h := mz_okNAll b h0 hb
  unfold mz_okN at h
  rw [hk] at h
  simp only [Bool.and_eq_true] at h
  obtain ⟨-, ⟨h1, h2⟩, h3⟩ := h
  exact ⟨mz_mo h3, mz_w_spec h1, mz_w_spec h2⟩
theorem mz_k2 {b : Nat} (h0 : 0 < b) (hb : b < 250) (hk : (mz_mw b).2.2.2.2 = 2) : mx_Mo mz_P b ∧ Cond.instanceMethod (mz_mt b).1 ∈ mz_tb ∧ (mz_mt b).1.name = "<init>" ∧ (mz_mt b).2.2.2.1 = none := by
  have h := mz_okNAll b h0 hb
  unfold mz_okN at h
  rw [hk] at h
  simp only [Bool.and_eq_true, decide_eq_true_eq] at h
  obtain ⟨-, ⟨⟨h1, h2⟩, h3⟩, h4⟩ := h
  exact ⟨mz_mo h4, mz_w_spec h1, h2, h3⟩
theorem mz_k0 {b : Nat} (h0 : 0 < b) (hb : b < 250) (hk : (mz_mw b).2.2.2.2 = 0) : Cond.static (mz_mt b).1 ∈ mz_tb := by
  have h := mz_okNAll b h0 hb
  unfold mz_okN at h
  rw [hk] at h
  simp only [Bool.and_eq_true] at h
  exact mz_w_spec h.2
theorem mz_ln_spec {m idx a b w : Nat} (h : mz_ln m idx a b w = true) : 0 < b ∧ b < 250 ∧ (Cond.methodLink (mz_mt m).1.cls idx (mz_mt b).1 ∈ mz_tb ∨ ∃ host : String, ((mz_mt m).1.cls, idx, (mz_mt b).1, host) ∈ mz_nw) := by
  unfold mz_ln at h
  simp only [Bool.and_eq_true, decide_eq_true_eq] at h
  obtain ⟨⟨h1, h2⟩, h3⟩ := h
  refine ⟨h1, h2, ?_⟩
  split at h3
  next => exact Or.inl (mz_w_spec h3)
  next =>
    split at h3
    next q hq =>
      simp only [Bool.and_eq_true, decide_eq_true_eq] at h3
      obtain ⟨⟨e1, e2⟩, e3⟩ := h3
      refine Or.inr ⟨q.2.2.2, ?_⟩
      rw [← e1, ← e2, ← e3]
      exact List.mem_of_getElem? hq
    next => cases h3
set_option maxHeartbeats 1000000 in
theorem mz_hPg : mx_Pg mz_P mz_G mz_tb := by
  intro m pc i hi
  have hpg : mz_pg m pc = some i := hi
  unfold mz_pg at hpg
  cases hm : Nat.blt m 250 with
  | false => rw [hm] at hpg; cases hpg
  | true =>
    rw [hm] at hpg
    simp only [cond_true] at hpg
    cases hp : Nat.blt pc (mz_N m) with
    | false => rw [hp] at hpg; cases hpg
    | true =>
      rw [hp] at hpg
      simp only [cond_true] at hpg
      have hm2 : m < 250 := Nat.blt_eq.mp hm
      have hp2 : pc < mz_N m := Nat.blt_eq.mp hp
      have hok := mz_okAll m hm2
      unfold mz_ok at hok
      have h := List.all_eq_true.mp hok pc (List.mem_range.mpr hp2)
      unfold mz_at at h
      rw [hpg] at h
      simp only [Bool.and_eq_true] at h
      obtain ⟨⟨h1, h2⟩, h3⟩ := h
      refine ⟨?_, ?_, ?_⟩
      · unfold mz_dc at h1
        split at h1
        next j len hd =>
          simp only [Bool.and_eq_true, Bool.or_eq_true, decide_eq_true_eq] at h1
          obtain ⟨rfl, h1⟩ := h1
          exact ⟨len, hd, h1⟩
        next => cases h1
      · obtain ⟨ins, a, b, w⟩ := i
        dsimp only at h2 ⊢
        cases ins <;> first | exact trivial | skip
        case getfield idx =>
          simp only [mz_lk] at h2
          split at h2
          next q hq =>
            simp only [Bool.and_eq_true, decide_eq_true_eq] at h2
            exact ⟨q, hq, h2.1, mz_w_spec h2.2⟩
          next => cases h2
        case putfield idx =>
          simp only [mz_lk] at h2
          split at h2
          next q hq =>
            simp only [Bool.and_eq_true, Bool.or_eq_true, Bool.not_eq_true', decide_eq_true_eq] at h2
            refine ⟨q, hq, h2.1.1, mz_w_spec h2.1.2, ?_⟩
            rcases h2.2 with g | ⟨g1, g2⟩
            · exact Or.inl g
            · cases hf : (q.2.1 b).2.2.2 with
              | false => exact Or.inl rfl
              | true => exact Or.inr ⟨rfl, g1, g2⟩
          next => cases h2
        case new idx =>
          simp only [mz_lk] at h2
          split at h2
          next q hq =>
            simp only [Bool.and_eq_true] at h2
            exact ⟨q, hq, mz_w_spec h2.1.1, mz_w_spec h2.1.2, mz_w_spec h2.2⟩
          next => cases h2
        case newarray ty =>
          simp only [mz_lk, Bool.and_eq_true, Bool.or_eq_true, decide_eq_true_eq] at h2
          obtain ⟨⟨g1, g2⟩, g3⟩ := h2
          refine ⟨g1, mz_w_spec g2, ?_⟩
          rcases g3 with ((g | g) | g) | g
          · exact Or.inl g
          · exact Or.inr (Or.inl g)
          · exact Or.inr (Or.inr (Or.inl g))
          · exact Or.inr (Or.inr (Or.inr g))
        case anewarray idx =>
          simp only [mz_lk] at h2
          split at h2
          next C hC =>
            simp only [Bool.and_eq_true, decide_eq_true_eq] at h2
            exact ⟨C, hC, mz_w_spec h2.1, h2.2⟩
          next => cases h2
        case ldc idx =>
          simp only [mz_lk] at h2
          split at h2
          next hb => exact Or.inl ⟨hb, mz_w_spec h2⟩
          next hb =>
            simp only [Bool.and_eq_true, decide_eq_true_eq] at h2
            obtain ⟨g1, g2⟩ := h2
            split at g2
            next => cases g2
            next k =>
              split at g2
              next q hq =>
                simp only [Bool.and_eq_true, decide_eq_true_eq] at g2
                refine Or.inr ⟨hb, g1, k, q.2.2, rfl, ?_⟩
                rw [show (((mx_mt mz_P m).1.cls, idx, q.2.2) : String × Nat × String) = q from by rw [← g2.2]; exact congrArg (fun x => (x, q.2.1, q.2.2)) g2.1.symm]
                exact hq
              next => cases g2
        case ldc2_w idx => exact mz_w_spec h2
        case invokespecial idx =>
          intro ha
          simp only [mz_lk, ha, if_true] at h2
          exact ⟨mz_w_spec h2, mz_w_spec mz_oi.1, mz_w_spec mz_oi.2⟩
        case invokestatic idx =>
          intro ha
          simp only [mz_lk, ha, if_true] at h2
          exact ⟨mz_w_spec h2, mz_w_spec mz_ac.1, mz_w_spec mz_ac.2.1, mz_w_spec mz_ac.2.2⟩
      · obtain ⟨ins, a, b, w⟩ := i
        dsimp only at h3 ⊢
        cases ins <;> first | exact trivial | skip
        case invokevirtual idx =>
          simp only [mz_lc, Bool.and_eq_true, decide_eq_true_eq] at h3
          obtain ⟨hk, h3⟩ := h3
          obtain ⟨b0, b1, hl⟩ := mz_ln_spec h3
          obtain ⟨k1, k2, k3⟩ := mz_k1 b0 b1 hk
          exact ⟨mz_me b0 b1, k1, k2, k3, hl⟩
        case invokespecial idx =>
          intro ha
          simp only [mz_lc, if_neg ha, Bool.and_eq_true, decide_eq_true_eq] at h3
          obtain ⟨hk, h3⟩ := h3
          obtain ⟨b0, b1, hl⟩ := mz_ln_spec h3
          obtain ⟨k1, k2, k3, k4⟩ := mz_k2 b0 b1 hk
          exact ⟨mz_me b0 b1, k1, k2, k3, k4, hl⟩
        case invokestatic idx =>
          intro ha
          simp only [mz_lc, if_neg ha, Bool.and_eq_true, decide_eq_true_eq] at h3
          obtain ⟨hk, h3⟩ := h3
          obtain ⟨b0, b1, hl⟩ := mz_ln_spec h3
          exact ⟨mz_me b0 b1, mz_k0 b0 b1 hk, hl⟩
