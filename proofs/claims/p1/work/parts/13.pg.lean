/-! the tables hold -/
theorem mz_okT0 : mz_ok 0 = true := by
  refine List.all_eq_true.mpr (fun pc hp => ?_)
  have hp2 : pc < 1914 := List.mem_range.mp hp
  show mz_at 0 pc = true
  by_cases h0 : pc < 343
  · have := mz_okS0_0 (pc - 0) (by omega); rwa [show 0 + (pc - 0) = pc by omega] at this
  by_cases h343 : pc < 475
  · have := mz_okS0_1 (pc - 343) (by omega); rwa [show 343 + (pc - 343) = pc by omega] at this
  by_cases h475 : pc < 583
  · have := mz_okS0_2 (pc - 475) (by omega); rwa [show 475 + (pc - 475) = pc by omega] at this
  by_cases h583 : pc < 678
  · have := mz_okS0_3 (pc - 583) (by omega); rwa [show 583 + (pc - 583) = pc by omega] at this
  by_cases h678 : pc < 764
  · have := mz_okS0_4 (pc - 678) (by omega); rwa [show 678 + (pc - 678) = pc by omega] at this
  by_cases h764 : pc < 836
  · have := mz_okS0_5 (pc - 764) (by omega); rwa [show 764 + (pc - 764) = pc by omega] at this
  by_cases h836 : pc < 905
  · have := mz_okS0_6 (pc - 836) (by omega); rwa [show 836 + (pc - 836) = pc by omega] at this
  by_cases h905 : pc < 969
  · have := mz_okS0_7 (pc - 905) (by omega); rwa [show 905 + (pc - 905) = pc by omega] at this
  by_cases h969 : pc < 1026
  · have := mz_okS0_8 (pc - 969) (by omega); rwa [show 969 + (pc - 969) = pc by omega] at this
  by_cases h1026 : pc < 1081
  · have := mz_okS0_9 (pc - 1026) (by omega); rwa [show 1026 + (pc - 1026) = pc by omega] at this
  by_cases h1081 : pc < 1135
  · have := mz_okS0_10 (pc - 1081) (by omega); rwa [show 1081 + (pc - 1081) = pc by omega] at this
  by_cases h1135 : pc < 1187
  · have := mz_okS0_11 (pc - 1135) (by omega); rwa [show 1135 + (pc - 1135) = pc by omega] at this
  by_cases h1187 : pc < 1235
  · have := mz_okS0_12 (pc - 1187) (by omega); rwa [show 1187 + (pc - 1187) = pc by omega] at this
  by_cases h1235 : pc < 1282
  · have := mz_okS0_13 (pc - 1235) (by omega); rwa [show 1235 + (pc - 1235) = pc by omega] at this
  by_cases h1282 : pc < 1326
  · have := mz_okS0_14 (pc - 1282) (by omega); rwa [show 1282 + (pc - 1282) = pc by omega] at this
  by_cases h1326 : pc < 1371
  · have := mz_okS0_15 (pc - 1326) (by omega); rwa [show 1326 + (pc - 1326) = pc by omega] at this
  by_cases h1371 : pc < 1414
  · have := mz_okS0_16 (pc - 1371) (by omega); rwa [show 1371 + (pc - 1371) = pc by omega] at this
  by_cases h1414 : pc < 1454
  · have := mz_okS0_17 (pc - 1414) (by omega); rwa [show 1414 + (pc - 1414) = pc by omega] at this
  by_cases h1454 : pc < 1494
  · have := mz_okS0_18 (pc - 1454) (by omega); rwa [show 1454 + (pc - 1454) = pc by omega] at this
  by_cases h1494 : pc < 1532
  · have := mz_okS0_19 (pc - 1494) (by omega); rwa [show 1494 + (pc - 1494) = pc by omega] at this
  by_cases h1532 : pc < 1574
  · have := mz_okS0_20 (pc - 1532) (by omega); rwa [show 1532 + (pc - 1532) = pc by omega] at this
  by_cases h1574 : pc < 1612
  · have := mz_okS0_21 (pc - 1574) (by omega); rwa [show 1574 + (pc - 1574) = pc by omega] at this
  by_cases h1612 : pc < 1647
  · have := mz_okS0_22 (pc - 1612) (by omega); rwa [show 1612 + (pc - 1612) = pc by omega] at this
  by_cases h1647 : pc < 1688
  · have := mz_okS0_23 (pc - 1647) (by omega); rwa [show 1647 + (pc - 1647) = pc by omega] at this
  by_cases h1688 : pc < 1725
  · have := mz_okS0_24 (pc - 1688) (by omega); rwa [show 1688 + (pc - 1688) = pc by omega] at this
  by_cases h1725 : pc < 1759
  · have := mz_okS0_25 (pc - 1725) (by omega); rwa [show 1725 + (pc - 1725) = pc by omega] at this
  by_cases h1759 : pc < 1795
  · have := mz_okS0_26 (pc - 1759) (by omega); rwa [show 1759 + (pc - 1759) = pc by omega] at this
  by_cases h1795 : pc < 1829
  · have := mz_okS0_27 (pc - 1795) (by omega); rwa [show 1795 + (pc - 1795) = pc by omega] at this
  by_cases h1829 : pc < 1864
  · have := mz_okS0_28 (pc - 1829) (by omega); rwa [show 1829 + (pc - 1829) = pc by omega] at this
  by_cases h1864 : pc < 1905
  · have := mz_okS0_29 (pc - 1864) (by omega); rwa [show 1864 + (pc - 1864) = pc by omega] at this
  by_cases h1905 : pc < 1914
  · have := mz_okS0_30 (pc - 1905) (by omega); rwa [show 1905 + (pc - 1905) = pc by omega] at this
  omega
theorem mz_okT146 : mz_ok 146 = true := by
  refine List.all_eq_true.mpr (fun pc hp => ?_)
  have hp2 : pc < 538 := List.mem_range.mp hp
  show mz_at 146 pc = true
  by_cases h0 : pc < 353
  · have := mz_okS146_0 (pc - 0) (by omega); rwa [show 0 + (pc - 0) = pc by omega] at this
  by_cases h353 : pc < 523
  · have := mz_okS146_1 (pc - 353) (by omega); rwa [show 353 + (pc - 353) = pc by omega] at this
  by_cases h523 : pc < 538
  · have := mz_okS146_2 (pc - 523) (by omega); rwa [show 523 + (pc - 523) = pc by omega] at this
  omega
theorem mz_okT197 : mz_ok 197 = true := by
  refine List.all_eq_true.mpr (fun pc hp => ?_)
  have hp2 : pc < 362 := List.mem_range.mp hp
  show mz_at 197 pc = true
  by_cases h0 : pc < 329
  · have := mz_okS197_0 (pc - 0) (by omega); rwa [show 0 + (pc - 0) = pc by omega] at this
  by_cases h329 : pc < 362
  · have := mz_okS197_1 (pc - 329) (by omega); rwa [show 329 + (pc - 329) = pc by omega] at this
  omega
theorem mz_okAll : ∀ m, m < 251 → mz_ok m = true := by
  intro m hm
  by_cases h0 : m < 1
  · have e : m = 0 := by omega
    rw [e]; exact mz_okT0
  by_cases h1 : m < 9
  · have := mz_okG0 (m - 1) (by omega); rwa [show 1 + (m - 1) = m by omega] at this
  by_cases h9 : m < 19
  · have := mz_okG1 (m - 9) (by omega); rwa [show 9 + (m - 9) = m by omega] at this
  by_cases h19 : m < 30
  · have := mz_okG2 (m - 19) (by omega); rwa [show 19 + (m - 19) = m by omega] at this
  by_cases h30 : m < 37
  · have := mz_okG3 (m - 30) (by omega); rwa [show 30 + (m - 30) = m by omega] at this
  by_cases h37 : m < 41
  · have := mz_okG4 (m - 37) (by omega); rwa [show 37 + (m - 37) = m by omega] at this
  by_cases h41 : m < 52
  · have := mz_okG5 (m - 41) (by omega); rwa [show 41 + (m - 41) = m by omega] at this
  by_cases h52 : m < 62
  · have := mz_okG6 (m - 52) (by omega); rwa [show 52 + (m - 52) = m by omega] at this
  by_cases h62 : m < 68
  · have := mz_okG7 (m - 62) (by omega); rwa [show 62 + (m - 62) = m by omega] at this
  by_cases h68 : m < 76
  · have := mz_okG8 (m - 68) (by omega); rwa [show 68 + (m - 68) = m by omega] at this
  by_cases h76 : m < 84
  · have := mz_okG9 (m - 76) (by omega); rwa [show 76 + (m - 76) = m by omega] at this
  by_cases h84 : m < 95
  · have := mz_okG10 (m - 84) (by omega); rwa [show 84 + (m - 84) = m by omega] at this
  by_cases h95 : m < 98
  · have := mz_okG11 (m - 95) (by omega); rwa [show 95 + (m - 95) = m by omega] at this
  by_cases h98 : m < 102
  · have := mz_okG12 (m - 98) (by omega); rwa [show 98 + (m - 98) = m by omega] at this
  by_cases h102 : m < 108
  · have := mz_okG13 (m - 102) (by omega); rwa [show 102 + (m - 102) = m by omega] at this
  by_cases h108 : m < 114
  · have := mz_okG14 (m - 108) (by omega); rwa [show 108 + (m - 108) = m by omega] at this
  by_cases h114 : m < 118
  · have := mz_okG15 (m - 114) (by omega); rwa [show 114 + (m - 114) = m by omega] at this
  by_cases h118 : m < 122
  · have := mz_okG16 (m - 118) (by omega); rwa [show 118 + (m - 118) = m by omega] at this
  by_cases h122 : m < 128
  · have := mz_okG17 (m - 122) (by omega); rwa [show 122 + (m - 122) = m by omega] at this
  by_cases h128 : m < 135
  · have := mz_okG18 (m - 128) (by omega); rwa [show 128 + (m - 128) = m by omega] at this
  by_cases h135 : m < 146
  · have := mz_okG19 (m - 135) (by omega); rwa [show 135 + (m - 135) = m by omega] at this
  by_cases h146 : m < 147
  · have e : m = 146 := by omega
    rw [e]; exact mz_okT146
  by_cases h147 : m < 156
  · have := mz_okG20 (m - 147) (by omega); rwa [show 147 + (m - 147) = m by omega] at this
  by_cases h156 : m < 167
  · have := mz_okG21 (m - 156) (by omega); rwa [show 156 + (m - 156) = m by omega] at this
  by_cases h167 : m < 170
  · have := mz_okG22 (m - 167) (by omega); rwa [show 167 + (m - 167) = m by omega] at this
  by_cases h170 : m < 175
  · have := mz_okG23 (m - 170) (by omega); rwa [show 170 + (m - 170) = m by omega] at this
  by_cases h175 : m < 183
  · have := mz_okG24 (m - 175) (by omega); rwa [show 175 + (m - 175) = m by omega] at this
  by_cases h183 : m < 186
  · have := mz_okG25 (m - 183) (by omega); rwa [show 183 + (m - 183) = m by omega] at this
  by_cases h186 : m < 189
  · have := mz_okG26 (m - 186) (by omega); rwa [show 186 + (m - 186) = m by omega] at this
  by_cases h189 : m < 192
  · have := mz_okG27 (m - 189) (by omega); rwa [show 189 + (m - 189) = m by omega] at this
  by_cases h192 : m < 196
  · have := mz_okG28 (m - 192) (by omega); rwa [show 192 + (m - 192) = m by omega] at this
  by_cases h196 : m < 197
  · have := mz_okG29 (m - 196) (by omega); rwa [show 196 + (m - 196) = m by omega] at this
  by_cases h197 : m < 198
  · have e : m = 197 := by omega
    rw [e]; exact mz_okT197
  by_cases h198 : m < 202
  · have := mz_okG30 (m - 198) (by omega); rwa [show 198 + (m - 198) = m by omega] at this
  by_cases h202 : m < 209
  · have := mz_okG31 (m - 202) (by omega); rwa [show 202 + (m - 202) = m by omega] at this
  by_cases h209 : m < 211
  · have := mz_okG32 (m - 209) (by omega); rwa [show 209 + (m - 209) = m by omega] at this
  by_cases h211 : m < 216
  · have := mz_okG33 (m - 211) (by omega); rwa [show 211 + (m - 211) = m by omega] at this
  by_cases h216 : m < 223
  · have := mz_okG34 (m - 216) (by omega); rwa [show 216 + (m - 216) = m by omega] at this
  by_cases h223 : m < 226
  · have := mz_okG35 (m - 223) (by omega); rwa [show 223 + (m - 223) = m by omega] at this
  by_cases h226 : m < 230
  · have := mz_okG36 (m - 226) (by omega); rwa [show 226 + (m - 226) = m by omega] at this
  by_cases h230 : m < 234
  · have := mz_okG37 (m - 230) (by omega); rwa [show 230 + (m - 230) = m by omega] at this
  by_cases h234 : m < 238
  · have := mz_okG38 (m - 234) (by omega); rwa [show 234 + (m - 234) = m by omega] at this
  by_cases h238 : m < 242
  · have := mz_okG39 (m - 238) (by omega); rwa [show 238 + (m - 238) = m by omega] at this
  by_cases h242 : m < 246
  · have := mz_okG40 (m - 242) (by omega); rwa [show 242 + (m - 242) = m by omega] at this
  by_cases h246 : m < 249
  · have := mz_okG41 (m - 246) (by omega); rwa [show 246 + (m - 246) = m by omega] at this
  by_cases h249 : m < 251
  · have := mz_okG42 (m - 249) (by omega); rwa [show 249 + (m - 249) = m by omega] at this
  omega
theorem mz_me {b : Nat} (h0 : 0 < b) (hb : b < 251) : mx_Me mz_P mz_tb b := by
  have h := mz_okNAll b h0 hb
  unfold mz_okN at h
  simp only [Bool.and_eq_true, Bool.not_eq_true', decide_eq_false_iff_not, decide_eq_true_eq] at h
  obtain ⟨⟨⟨⟨⟨⟨h2, h3⟩, h4⟩, h5⟩, h6⟩, h7⟩, -⟩ := h
  exact ⟨mz_wc_spec (mz_okCAll b h0 hb), mz_w_spec h2, h3, ⟨h4, h5, h6⟩, h7⟩
theorem mz_mo {b : Nat} (h : (match mz_cl[(mz_mt b).2.2.2.2.2]? with
      | some q => decide (q.1 = (mz_mt b).1.cls)
      | none => false) = true) : mx_Mo mz_P b := by
  split at h
  next q hq => exact ⟨q, hq, of_decide_eq_true h⟩
  next => cases h
theorem mz_k1 {b : Nat} (h0 : 0 < b) (hb : b < 251) (hk : (mz_mw b).2.2.2.2 = 1) : mx_Mo mz_P b ∧ Cond.instanceMethod (mz_mt b).1 ∈ mz_tb ∧ Cond.selects (mz_mt b).1.cls (mz_mt b).1 (mz_mt b).1 ∈ mz_tb := by
  have h := mz_okNAll b h0 hb
  unfold mz_okN at h
  rw [hk] at h
  simp only [Bool.and_eq_true] at h
  obtain ⟨-, ⟨h1, h2⟩, h3⟩ := h
  exact ⟨mz_mo h3, mz_w_spec h1, mz_w_spec h2⟩
theorem mz_k2 {b : Nat} (h0 : 0 < b) (hb : b < 251) (hk : (mz_mw b).2.2.2.2 = 2) : mx_Mo mz_P b ∧ Cond.instanceMethod (mz_mt b).1 ∈ mz_tb ∧ (mz_mt b).1.name = "<init>" ∧ (mz_mt b).2.2.2.1 = none := by
  have h := mz_okNAll b h0 hb
  unfold mz_okN at h
  rw [hk] at h
  simp only [Bool.and_eq_true, decide_eq_true_eq] at h
  obtain ⟨-, ⟨⟨h1, h2⟩, h3⟩, h4⟩ := h
  exact ⟨mz_mo h4, mz_w_spec h1, h2, h3⟩
theorem mz_k0 {b : Nat} (h0 : 0 < b) (hb : b < 251) (hk : (mz_mw b).2.2.2.2 = 0) : Cond.static (mz_mt b).1 ∈ mz_tb := by
  have h := mz_okNAll b h0 hb
  unfold mz_okN at h
  rw [hk] at h
  simp only [Bool.and_eq_true] at h
  exact mz_w_spec h.2
theorem mz_ln_spec {m idx a b w : Nat} (h : mz_ln m idx a b w = true) : 0 < b ∧ b < 251 ∧ (Cond.methodLink (mz_mt m).1.cls idx (mz_mt b).1 ∈ mz_tb ∨ ∃ host : String, ((mz_mt m).1.cls, idx, (mz_mt b).1, host) ∈ mz_nw) := by
  unfold mz_ln at h
  simp only [Bool.and_eq_true, decide_eq_true_eq] at h
  obtain ⟨⟨h1, h2⟩, h3⟩ := h
  refine ⟨h1, h2, ?_⟩
  split at h3
  next => exact Or.inl (mz_w_spec h3)
  next =>
    split at h3
    next q hq =>
      simp only [Bool.and_eq_true, decide_eq_true_eq] at h3
      obtain ⟨⟨e1, e2⟩, e3⟩ := h3
      refine Or.inr ⟨q.2.2.2, ?_⟩
      rw [← e1, ← e2, ← e3]
      exact List.mem_of_getElem? hq
    next => cases h3
set_option maxHeartbeats 1000000 in
theorem mz_hPg : mx_Pg mz_P mz_G mz_tb := by
  intro m pc i hi
  have hpg : mz_pg m pc = some i := hi
  unfold mz_pg at hpg
  cases hm : Nat.blt m 251 with
  | false => rw [hm] at hpg; cases hpg
  | true =>
    rw [hm] at hpg
    simp only [cond_true] at hpg
    cases hp : Nat.blt pc (mz_N m) with
    | false => rw [hp] at hpg; cases hpg
    | true =>
      rw [hp] at hpg
      simp only [cond_true] at hpg
      have hm2 : m < 251 := Nat.blt_eq.mp hm
      have hp2 : pc < mz_N m := Nat.blt_eq.mp hp
      have hok := mz_okAll m hm2
      unfold mz_ok at hok
      have h := List.all_eq_true.mp hok pc (List.mem_range.mpr hp2)
      unfold mz_at at h
      rw [hpg] at h
      simp only [Bool.and_eq_true] at h
      obtain ⟨⟨h1, h2⟩, h3⟩ := h
      refine ⟨?_, ?_, ?_⟩
      · unfold mz_dc at h1
        split at h1
        next j len hd =>
          simp only [Bool.and_eq_true, Bool.or_eq_true, decide_eq_true_eq] at h1
          obtain ⟨rfl, h1⟩ := h1
          exact ⟨len, hd, h1⟩
        next => cases h1
      · obtain ⟨ins, a, b, w⟩ := i
        dsimp only at h2 ⊢
        cases ins <;> first | exact trivial | skip
        case getfield idx =>
          simp only [mz_lk] at h2
          split at h2
          next q hq =>
            simp only [Bool.and_eq_true, decide_eq_true_eq] at h2
            exact ⟨q, hq, h2.1, mz_w_spec h2.2⟩
          next => cases h2
        case putfield idx =>
          simp only [mz_lk] at h2
          split at h2
          next q hq =>
            simp only [Bool.and_eq_true, Bool.or_eq_true, Bool.not_eq_true', decide_eq_true_eq] at h2
            refine ⟨q, hq, h2.1.1, mz_w_spec h2.1.2, ?_⟩
            rcases h2.2 with g | ⟨g1, g2⟩
            · exact Or.inl g
            · cases hf : (q.2.1 b).2.2.2 with
              | false => exact Or.inl rfl
              | true => exact Or.inr ⟨rfl, g1, g2⟩
          next => cases h2
        case new idx =>
          simp only [mz_lk] at h2
          split at h2
          next q hq =>
            simp only [Bool.and_eq_true] at h2
            exact ⟨q, hq, mz_w_spec h2.1.1, mz_w_spec h2.1.2, mz_w_spec h2.2⟩
          next => cases h2
        case newarray ty =>
          simp only [mz_lk, Bool.and_eq_true, Bool.or_eq_true, decide_eq_true_eq] at h2
          obtain ⟨⟨g1, g2⟩, g3⟩ := h2
          refine ⟨g1, mz_w_spec g2, ?_⟩
          rcases g3 with ((g | g) | g) | g
          · exact Or.inl g
          · exact Or.inr (Or.inl g)
          · exact Or.inr (Or.inr (Or.inl g))
          · exact Or.inr (Or.inr (Or.inr g))
        case anewarray idx =>
          simp only [mz_lk] at h2
          split at h2
          next C hC =>
            simp only [Bool.and_eq_true, decide_eq_true_eq] at h2
            exact ⟨C, hC, mz_w_spec h2.1, h2.2⟩
          next => cases h2
        case ldc idx =>
          simp only [mz_lk] at h2
          split at h2
          next hb => exact Or.inl ⟨hb, mz_w_spec h2⟩
          next hb =>
            simp only [Bool.and_eq_true, decide_eq_true_eq] at h2
            obtain ⟨g1, g2⟩ := h2
            split at g2
            next => cases g2
            next k =>
              split at g2
              next q hq =>
                simp only [Bool.and_eq_true, decide_eq_true_eq] at g2
                refine Or.inr ⟨hb, g1, k, q.2.2, rfl, ?_⟩
                rw [show (((mx_mt mz_P m).1.cls, idx, q.2.2) : String × Nat × String) = q from by rw [← g2.2]; exact congrArg (fun x => (x, q.2.1, q.2.2)) g2.1.symm]
                exact hq
              next => cases g2
        case ldc2_w idx => exact mz_w_spec h2
        case invokespecial idx =>
          intro ha
          simp only [mz_lk, ha, if_true] at h2
          exact ⟨mz_w_spec h2, mz_w_spec mz_oi.1, mz_w_spec mz_oi.2⟩
        case invokestatic idx =>
          intro ha
          simp only [mz_lk, ha, if_true] at h2
          exact ⟨mz_w_spec h2, mz_w_spec mz_ac.1, mz_w_spec mz_ac.2.1, mz_w_spec mz_ac.2.2⟩
      · obtain ⟨ins, a, b, w⟩ := i
        dsimp only at h3 ⊢
        cases ins <;> first | exact trivial | skip
        case invokevirtual idx =>
          simp only [mz_lc, Bool.and_eq_true, decide_eq_true_eq] at h3
          obtain ⟨hk, h3⟩ := h3
          obtain ⟨b0, b1, hl⟩ := mz_ln_spec h3
          obtain ⟨k1, k2, k3⟩ := mz_k1 b0 b1 hk
          exact ⟨mz_me b0 b1, k1, k2, k3, hl⟩
        case invokespecial idx =>
          intro ha
          simp only [mz_lc, if_neg ha, Bool.and_eq_true, decide_eq_true_eq] at h3
          obtain ⟨hk, h3⟩ := h3
          obtain ⟨b0, b1, hl⟩ := mz_ln_spec h3
          obtain ⟨k1, k2, k3, k4⟩ := mz_k2 b0 b1 hk
          exact ⟨mz_me b0 b1, k1, k2, k3, k4, hl⟩
        case invokestatic idx =>
          intro ha
          simp only [mz_lc, if_neg ha, Bool.and_eq_true, decide_eq_true_eq] at h3
          obtain ⟨hk, h3⟩ := h3
          obtain ⟨b0, b1, hl⟩ := mz_ln_spec h3
          exact ⟨mz_me b0 b1, mz_k0 b0 b1 hk, hl⟩
