/-! what the machine's values and cells stand for in the model -/
section MXB
def mx_F2 {α β : Type} (R : α → β → Prop) : List α → List β → Prop
  | [], [] => True
  | a :: as, b :: bs => R a b ∧ mx_F2 R as bs
  | _, _ => False
theorem mx_F2.len {α β : Type} {R : α → β → Prop} : ∀ {as : List α} {bs : List β}, mx_F2 R as bs → as.length = bs.length
  | [], [], _ => rfl
  | _ :: as, _ :: bs, h => by simp [mx_F2.len (as := as) (bs := bs) h.2]
  | [], _ :: _, h => h.elim
  | _ :: _, [], h => h.elim
theorem mx_F2.get {α β : Type} {R : α → β → Prop} : ∀ {as : List α} {bs : List β} {k : Nat} {a : α}, mx_F2 R as bs → as[k]? = some a → ∃ b, bs[k]? = some b ∧ R a b
  | [], [], _, _, _, h => by simp at h
  | a :: _, b :: _, 0, x, h, hk => by simp at hk; subst hk; exact ⟨b, by simp, h.1⟩
  | _ :: as, _ :: bs, k + 1, x, h, hk => by
    simp at hk
    obtain ⟨b, h1, h2⟩ := mx_F2.get (as := as) (bs := bs) h.2 hk
    exact ⟨b, by simpa using h1, h2⟩
  | [], _ :: _, _, _, h, _ => h.elim
  | _ :: _, [], _, _, h, _ => h.elim
theorem mx_F2.set {α β : Type} {R : α → β → Prop} : ∀ {as : List α} {bs : List β} {k : Nat} {a : α} {b : β}, mx_F2 R as bs → R a b → mx_F2 R (as.set k a) (bs.set k b)
  | [], [], _, _, _, _, _ => trivial
  | _ :: _, _ :: _, 0, _, _, h, r => ⟨r, h.2⟩
  | _ :: as, _ :: bs, k + 1, _, _, h, r => ⟨h.1, mx_F2.set (as := as) (bs := bs) h.2 r⟩
  | [], _ :: _, _, _, _, h, _ => h.elim
  | _ :: _, [], _, _, _, h, _ => h.elim
theorem mx_F2.app {α β : Type} {R : α → β → Prop} : ∀ {as : List α} {bs : List β} {cs : List α} {ds : List β}, mx_F2 R as bs → mx_F2 R cs ds → mx_F2 R (as ++ cs) (bs ++ ds)
  | [], [], _, _, _, h => h
  | _ :: as, _ :: bs, _, _, h, h2 => ⟨h.1, mx_F2.app (as := as) (bs := bs) h.2 h2⟩
  | [], _ :: _, _, _, h, _ => h.elim
  | _ :: _, [], _, _, h, _ => h.elim
theorem mx_F2.imp {α β : Type} {R T : α → β → Prop} (f : ∀ a b, R a b → T a b) : ∀ {as : List α} {bs : List β}, mx_F2 R as bs → mx_F2 T as bs
  | [], [], _ => trivial
  | _ :: as, _ :: bs, h => ⟨f _ _ h.1, mx_F2.imp f (as := as) (bs := bs) h.2⟩
  | [], _ :: _, h => h.elim
  | _ :: _, [], h => h.elim
theorem mx_F2.drop {α β : Type} {R : α → β → Prop} : ∀ {as : List α} {bs : List β} (n : Nat), mx_F2 R as bs → mx_F2 R (as.drop n) (bs.drop n)
  | _, _, 0, h => by simpa using h
  | [], [], n + 1, _ => by simp [mx_F2]
  | _ :: as, _ :: bs, n + 1, h => by simpa using mx_F2.drop (as := as) (bs := bs) n h.2
  | [], _ :: _, _, h => h.elim
  | _ :: _, [], _, h => h.elim
theorem mx_F2.take {α β : Type} {R : α → β → Prop} : ∀ {as : List α} {bs : List β} (n : Nat), mx_F2 R as bs → mx_F2 R (as.take n) (bs.take n)
  | _, _, 0, h => by simp [mx_F2]
  | [], [], n + 1, _ => by simp [mx_F2]
  | _ :: as, _ :: bs, n + 1, h => by simpa [mx_F2] using ⟨h.1, mx_F2.take (as := as) (bs := bs) n h.2⟩
  | [], _ :: _, _, h => h.elim
  | _ :: _, [], _, h => h.elim
theorem mx_F2.rev {α β : Type} {R : α → β → Prop} : ∀ {as : List α} {bs : List β}, mx_F2 R as bs → mx_F2 R as.reverse bs.reverse
  | [], [], _ => by simp [mx_F2]
  | a :: as, b :: bs, h => by
    simp only [List.reverse_cons]
    exact mx_F2.app (mx_F2.rev (as := as) (bs := bs) h.2) ⟨h.1, trivial⟩
  | [], _ :: _, h => h.elim
  | _ :: _, [], h => h.elim
theorem mx_F2.c {α β : Type} {R : α → β → Prop} {a : α} {as : List α} {bs : List β} (h : mx_F2 R (a :: as) bs) : ∃ b bs', bs = b :: bs' ∧ R a b ∧ mx_F2 R as bs' := by
  cases bs with
  | nil => exact h.elim
  | cons b bs' => exact ⟨b, bs', rfl, h.1, h.2⟩
theorem mx_F2.n {α β : Type} {R : α → β → Prop} {bs : List β} (h : mx_F2 R [] bs) : bs = [] := by
  cases bs with
  | nil => rfl
  | cons b bs' => exact h.elim
def mx_R (al : List Nat) (sg : Nat → Nat) (rho : Nat → Int32) (a v : Value) : Prop := match a with
  | .int x => v = .int x
  | .long x => v = .long x
  | .null => v = .null
  | .ref k => ∃ q : Nat, al[k]? = some q ∧ v = .ref q
  | .retAddr i => v = .int (rho i)
  | .float u => v = .ref (sg u.toNat)
  | .double _ => ∃ x : Int32, v = .int x
section
variable {al : List Nat} {sg : Nat → Nat} {rho : Nat → Int32} {a v : Value}
theorem mx_R.i (h : mx_R al sg rho a v) (hi : mx_isI a = true) : ∃ x : Int32, v = .int x := by
  cases a <;> simp [mx_isI] at hi <;> simp only [mx_R] at h
  · exact ⟨_, h⟩
  · exact h
  · exact ⟨_, h⟩
theorem mx_R.j (h : mx_R al sg rho a v) (hi : mx_isJ a = true) : ∃ x : Int64, a = .long x ∧ v = .long x := by
  cases a <;> simp [mx_isJ] at hi
  exact ⟨_, rfl, h⟩
theorem mx_R.q (h : mx_R al sg rho a v) (hi : mx_isA a = true) : v = .null ∨ ∃ q : Nat, v = .ref q := by
  cases a <;> simp [mx_isA] at hi <;> simp only [mx_R] at h
  · exact Or.inr ⟨_, h⟩
  · exact Or.inl h
  · obtain ⟨q, -, h⟩ := h
    exact Or.inr ⟨q, h⟩
theorem mx_R.cat (h : mx_R al sg rho a v) : v.category = mx_cat a := by
  cases a <;> simp only [mx_R] at h
  · rw [h]; rfl
  · rw [h]; rfl
  · rw [h]; rfl
  · obtain ⟨x, h⟩ := h; rw [h]; rfl
  · rw [h]; rfl
  · obtain ⟨q, -, h⟩ := h; rw [h]; rfl
  · rw [h]; rfl
theorem mx_R.mono (be : List Nat) (h : mx_R al sg rho a v) : mx_R (al ++ be) sg rho a v := by
  cases a <;> simp only [mx_R] at h ⊢ <;> first | exact h | skip
  obtain ⟨q, h1, h2⟩ := h
  exact ⟨q, by rw [List.getElem?_append_left (List.getElem?_eq_some_iff.mp h1).1]; exact h1, h2⟩
theorem mx_cat_j {a : Value} : mx_isJ a = false → mx_cat a = 1 := by cases a <;> simp [mx_isJ, mx_cat]
theorem mx_cat_j2 {a : Value} : mx_isJ a = true → mx_cat a = 2 := by cases a <;> simp [mx_isJ, mx_cat]
end
/-- the locals -/
def mx_RL (al : List Nat) (sg : Nat → Nat) (rho : Nat → Int32) (a v : Nat × Value) : Prop := a.1 = v.1 ∧ mx_R al sg rho a.2 v.2
theorem mx_look_get {al : List Nat} {sg : Nat → Nat} {rho : Nat → Int32} : ∀ {ls : mx_L} {lv : List (Nat × Value)} {i : Nat} {a : Value}, mx_F2 (mx_RL al sg rho) ls lv → mx_look ls i = some a → ∃ (k : Nat) (v : Value), lv[k]? = some (i, v) ∧ mx_R al sg rho a v
  | [], [], _, _, _, h => by simp [mx_look] at h
  | q :: ls, w :: lv, i, a, h, hk => by
    simp only [mx_look] at hk
    cases hb : Nat.beq q.1 i with
    | true =>
      simp only [hb, cond_true, Option.some.injEq] at hk
      have hi : q.1 = i := Nat.eq_of_beq_eq_true hb
      refine ⟨0, w.2, ?_, by rw [← hk]; exact h.1.2⟩
      rw [← hi, h.1.1]; rfl
    | false =>
      simp only [hb, cond_false] at hk
      obtain ⟨k, v, h1, h2⟩ := mx_look_get (ls := ls) (lv := lv) h.2 hk
      exact ⟨k + 1, v, by simpa using h1, h2⟩
  | [], _ :: _, _, _, h, _ => h.elim
  | _ :: _, [], _, _, h, _ => h.elim
theorem mx_F2.filt {α β : Type} {R : α → β → Prop} (f : α → Bool) (g : β → Bool) (hfg : ∀ a b, R a b → f a = g b) : ∀ {as : List α} {bs : List β}, mx_F2 R as bs → mx_F2 R (as.filter f) (bs.filter g)
  | [], [], _ => by simp [mx_F2]
  | a :: as, b :: bs, h => by
    have e := hfg a b h.1
    have ih := mx_F2.filt f g hfg (as := as) (bs := bs) h.2
    simp only [List.filter_cons, e]
    cases hg : g b with
    | true => simpa [mx_F2] using ⟨h.1, ih⟩
    | false => simpa using ih
  | [], _ :: _, h => h.elim
  | _ :: _, [], h => h.elim
theorem mx_F2_put1 {al : List Nat} {sg : Nat → Nat} {rho : Nat → Int32} {ls : mx_L} {lv : List (Nat × Value)} {i : Nat} {a v : Value} (h : mx_F2 (mx_RL al sg rho) ls lv) (hv : mx_R al sg rho a v) :
    mx_F2 (mx_RL al sg rho) (mx_put1 ls i a) ((i, v) :: lv.filter (fun q => !(q.1 == i) && !(q.1 + 1 == i && q.2.category == 2))) :=
  ⟨⟨rfl, hv⟩, mx_F2.filt _ _ (fun a b hab => by simp only [hab.1, hab.2.cat]) h⟩
theorem mx_F2_put2 {al : List Nat} {sg : Nat → Nat} {rho : Nat → Int32} {ls : mx_L} {lv : List (Nat × Value)} {i : Nat} {a v : Value} (h : mx_F2 (mx_RL al sg rho) ls lv) (hv : mx_R al sg rho a v) :
    mx_F2 (mx_RL al sg rho) (mx_put2 ls i a) ((i, v) :: lv.filter (fun q => !(q.1 == i) && (!(q.1 == i + 1) && !(q.1 + 1 == i && q.2.category == 2)))) :=
  ⟨⟨rfl, hv⟩, mx_F2.filt _ _ (fun a b hab => by simp only [hab.1, hab.2.cat]) h⟩
theorem mx_F2_args {al : List Nat} {sg : Nat → Nat} {rho : Nat → Int32} : ∀ {as vs : List Value} (i : Nat), mx_F2 (mx_R al sg rho) as vs → mx_F2 (mx_RL al sg rho) (mx_args i as) (lv_args i vs)
  | [], [], _, _ => trivial
  | a :: as, v :: vs, i, h => by
    refine ⟨⟨rfl, h.1⟩, ?_⟩
    have e : (if v.category = 2 then i + 2 else i + 1) = i + mx_cat a := by
      rw [h.1.cat]
      cases a <;> rfl
    rw [e]
    exact mx_F2_args _ h.2
  | [], _ :: _, _, h => h.elim
  | _ :: _, [], _, h => h.elim
theorem mx_F2_cats {al : List Nat} {sg : Nat → Nat} {rho : Nat → Int32} : ∀ {as vs : List Value}, mx_F2 (mx_R al sg rho) as vs → (vs.map fun v => v.category).sum = (as.map mx_cat).sum
  | [], [], _ => rfl
  | a :: as, v :: vs, h => by simp [h.1.cat, mx_F2_cats h.2]
  | [], _ :: _, h => h.elim
  | _ :: _, [], h => h.elim
theorem mx_sl_len : ∀ vs : List Value, (lg_sl vs).length = (vs.map fun v => v.category).sum
  | [] => rfl
  | v :: vs => by
    have ih := mx_sl_len vs
    simp only [lg_sl, List.flatMap_cons, List.length_append, List.map_cons, List.sum_cons] at ih ⊢
    rw [ih]
    cases v <;> simp [Value.category]
/-- the cells -/
def mx_RA (al : List Nat) (sg : Nat → Nat) (rho : Nat → Int32) (ty : FieldType) (n : Nat) (d : Value) (us : List (Nat × Value)) (x : (Nat → Int32) ⊕ (Nat → Int64) ⊕ (Nat → UInt32) ⊕ (Nat → UInt64) ⊕ (Nat → Option Nat)) : Prop := match ty with
  | .int => ∃ f : Nat → Int32, x = .inl f ∧ ∀ j, j < n → mx_R al sg rho (mx_at d us j) (.int (f j))
  | .byte => ∃ f : Nat → Int32, x = .inl f ∧ ∀ j, j < n → mx_R al sg rho (mx_at d us j) (.int (f j))
  | .boolean => ∃ f : Nat → Int32, x = .inl f ∧ ∀ j, j < n → mx_R al sg rho (mx_at d us j) (.int (f j))
  | .long => ∃ f : Nat → Int64, x = .inr (.inl f) ∧ ∀ j, j < n → mx_R al sg rho (mx_at d us j) (.long (f j))
  | .object _ => ∃ f : Nat → Option Nat, x = .inr (.inr (.inr (.inr f))) ∧ ∀ j, j < n → mx_R al sg rho (mx_at d us j) (va_rf (f j))
  | _ => False
def mx_RC (al : List Nat) (sg : Nat → Nat) (rho : Nat → Int32) (tys : List (ClassId × FieldType)) (c : mx_C) (e : va_E) : Prop := match c with
  | .inl q => ∃ (cA : ClassId) (ty : FieldType) (x : (Nat → Int32) ⊕ (Nat → Int64) ⊕ (Nat → UInt32) ⊕ (Nat → UInt64) ⊕ (Nat → Option Nat)), tys[q.1]? = some (cA, ty) ∧ e = .inl (cA, q.2.1, x) ∧ mx_RA al sg rho ty q.2.1 q.2.2.1 q.2.2.2 x
  | .inr q => ∃ vs : List Value, e = .inr (q.1, vs) ∧ mx_F2 (mx_R al sg rho) q.2 vs
theorem mx_RA.mono {al : List Nat} {sg : Nat → Nat} {rho : Nat → Int32} {ty : FieldType} {n : Nat} {d : Value} {us : List (Nat × Value)} {x : (Nat → Int32) ⊕ (Nat → Int64) ⊕ (Nat → UInt32) ⊕ (Nat → UInt64) ⊕ (Nat → Option Nat)} (be : List Nat) (h : mx_RA al sg rho ty n d us x) : mx_RA (al ++ be) sg rho ty n d us x := by
  cases ty <;> simp only [mx_RA] at h ⊢ <;> first | exact h.elim | (obtain ⟨f, h1, h2⟩ := h; exact ⟨f, h1, fun j hj => (h2 j hj).mono be⟩)
theorem mx_RC.mono {al : List Nat} {sg : Nat → Nat} {rho : Nat → Int32} {tys : List (ClassId × FieldType)} {c : mx_C} {e : va_E} (be : List Nat) (h : mx_RC al sg rho tys c e) : mx_RC (al ++ be) sg rho tys c e := by
  cases c with
  | inl q =>
    obtain ⟨cA, ty, x, h1, h2, h3⟩ := h
    exact ⟨cA, ty, x, h1, h2, h3.mono be⟩
  | inr q =>
    obtain ⟨vs, h1, h2⟩ := h
    exact ⟨vs, h1, h2.imp (fun _ _ r => r.mono be)⟩
def mx_S (sg : Nat → Nat) (rho : Nat → Int32) (tys : List (ClassId × FieldType)) (ws : va_W) (h : mx_H) : Prop := mx_F2 (fun c (q : Nat × va_E) => mx_RC (ws.map Prod.fst) sg rho tys c q.2) h ws
theorem mx_map_set {ws : va_W} {k q : Nat} {e e' : va_E} (h : ws[k]? = some (q, e)) : (ws.set k (q, e')).map Prod.fst = ws.map Prod.fst := by
  rw [List.map_set]
  have hk := (List.getElem?_eq_some_iff.mp h)
  obtain ⟨hl, hk⟩ := hk
  apply List.ext_getElem?
  intro i
  rw [List.getElem?_set]
  split
  next hi =>
    subst hi
    simp only [List.length_map, hl, if_true, List.getElem?_map]
    rw [List.getElem?_eq_getElem hl, hk]; rfl
  next => rfl
/-- a cell of the heap is changed -/
theorem mx_S.set {sg : Nat → Nat} {rho : Nat → Int32} {tys : List (ClassId × FieldType)} {ws : va_W} {h : mx_H} {k q : Nat} {e e' : va_E} {c' : mx_C} (hS : mx_S sg rho tys ws h) (hk : ws[k]? = some (q, e)) (hc : mx_RC (ws.map Prod.fst) sg rho tys c' e') : mx_S sg rho tys (ws.set k (q, e')) (h.set k c') := by
  unfold mx_S
  rw [mx_map_set hk]
  exact mx_F2.set hS hc
/-- a cell is made -/
theorem mx_S.push {sg : Nat → Nat} {rho : Nat → Int32} {tys : List (ClassId × FieldType)} {ws : va_W} {h : mx_H} {q : Nat} {e' : va_E} {c' : mx_C} (hS : mx_S sg rho tys ws h) (hc : mx_RC (ws.map Prod.fst ++ [q]) sg rho tys c' e') : mx_S sg rho tys (ws ++ [(q, e')]) (h ++ [c']) := by
  unfold mx_S
  rw [List.map_append]
  exact mx_F2.app (mx_F2.imp (fun _ _ r => r.mono _) hS) ⟨hc, trivial⟩
theorem mx_S.at {sg : Nat → Nat} {rho : Nat → Int32} {tys : List (ClassId × FieldType)} {ws : va_W} {h : mx_H} {k : Nat} {c : mx_C} (hS : mx_S sg rho tys ws h) (hk : h[k]? = some c) : ∃ (q : Nat) (e : va_E), ws[k]? = some (q, e) ∧ (ws.map Prod.fst)[k]? = some q ∧ mx_RC (ws.map Prod.fst) sg rho tys c e := by
  obtain ⟨b, h1, h2⟩ := mx_F2.get hS hk
  exact ⟨b.1, b.2, h1, by rw [List.getElem?_map, h1]; rfl, h2⟩
/-- what holds of the tables, the texts and the script -/
def mx_Wd (P : mx_P) (G : mx_G) (D : va_G) (tys : List (ClassId × FieldType)) (sg : Nat → Nat) (U : State) : Prop :=
  va_K D (mx_cl P) tys U ∧ tys.map Prod.snd = mx_TY P ∧ (∀ w ∈ G.1, va_Nw (.methodLinkNest w.1 w.2.1 w.2.2.1 w.2.2.2) U) ∧ (∀ C ∈ G.2.1, va_AO C U) ∧ ∀ (k : Nat) (q : String × Nat × String), G.2.2[k]? = some q → vk_R q.1 q.2.1 q.2.2 (sg (k + 1)) U
theorem mx_Wd.moved {P : mx_P} {G : mx_G} {D : va_G} {tys : List (ClassId × FieldType)} {sg : Nat → Nat} {s U : State} (hW : s.WarmedH U.vm) (h : mx_Wd P G D tys sg s) : mx_Wd P G D tys sg U :=
  ⟨va_K.moved hW.alike h.1, h.2.1, fun w hw => va_Nw.warmM hW (h.2.2.1 w hw), fun C hC => va_AO.moved hW.alike (h.2.2.2.1 C hC), fun k q hk => vk_R.warm hW (h.2.2.2.2 k q hk)⟩
/-- the twelve texts and the table of orders: what they hold -/
def mx_tl : List Nat := [4, 4, 6, 4, 3, 3, 4, 3, 4, 2, 4, 2]
def mx_tb : List (List Int32) := [[111, 118, 101, 114], [119, 97, 108, 108], [119, 105, 110, 100, 111, 119], [102, 105, 108, 108], [99, 117, 116], [102, 101, 119], [106, 111, 105, 110], [115, 117, 109], [108, 101, 115, 115], [105, 115], [109, 111, 114, 101], [98, 121]]
def mx_od : List Int32 := [0, 1, 2, 1, 0, 2, 0, 2, 1, 1, 2, 0, 2, 0, 1, 2, 1, 0]
def mx_Xt (n0 : Nat) (sg : Nat → Nat) (U : State) (H : Heap) : Prop :=
  (∀ i : Nat, i < 12 → va_O "java/lang/String" (sg (i + 1)) (fun q => n0 ≤ q) U H ∧ va_OF "java/lang/String" "coder" "B" (.int 0) (sg (i + 1)) (fun q => n0 ≤ q) U H ∧ va_OF "java/lang/String" "value" "[B" (.ref (sg (i + 14))) (sg (i + 1)) (fun q => n0 ≤ q) U H ∧ va_T .byte (sg (i + 14)) (mx_tl.getD i 0) (fun j => .int ((mx_tb.getD i []).getD j 0)) (fun q => n0 ≤ q) U H) ∧
  va_Z "java/lang/String" "COMPACT_STRINGS" "Z" (.int 1) (fun q => n0 ≤ q) U H ∧ va_Zq "jdk/internal/util/Preconditions" "SIOOBE_FORMATTER" "Ljava/util/function/BiFunction;" (fun q => n0 ≤ q) U H ∧
  va_Z "ThroughWindow$Clerks" "ORDERS" "[I" (.ref (sg 13)) (fun q => n0 ≤ q) U H ∧ va_T .int (sg 13) 18 (fun j => .int (mx_od.getD j 0)) (fun q => n0 ≤ q) U H
theorem mx_Xt.moved {n0 : Nat} {sg : Nat → Nat} {s U : State} {H H1 : Heap} (hW : s.WarmedH U.vm) (hH : ∀ a : Nat, a < n0 → H1[a]? = H[a]?) (h : mx_Xt n0 sg s H) : mx_Xt n0 sg U H1 := by
  have hq : ∀ a : Nat, a < H.size → ¬ n0 ≤ a → H1[a]? = H[a]? := fun a _ h => hH a (Nat.not_le.mp h)
  obtain ⟨h1, h2, h3, h4, h5⟩ := h
  exact ⟨fun i hi => ⟨va_O.kept (va_O.moved hW.alike (h1 i hi).1) hq, va_OF.kept (va_OF.moved hW.alike (h1 i hi).2.1) hq, va_OF.kept (va_OF.moved hW.alike (h1 i hi).2.2.1) hq, va_T.kept (va_T.moved hW.alike (h1 i hi).2.2.2) hq⟩, va_Z.kept (va_Z.moved hW.alike h2) hq, va_Zq.kept (va_Zq.moved hW.alike h3) hq, va_Z.kept (va_Z.moved hW.alike h4) hq, va_T.kept (va_T.moved hW.alike h5) hq⟩
def mx_Sc (n0 : Nat) (sg : Nat → Nat) (rho : Nat → Int32) (U : State) (H : Heap) : Prop := (∃ L : Nat, L ≤ 4096 ∧ rho 4096 = Int32.ofNat L ∧ va_X (sg 0) L rho U H ∧ sg 0 < n0) ∧ mx_Xt n0 sg U H
theorem mx_Sc.moved {n0 : Nat} {sg : Nat → Nat} {rho : Nat → Int32} {s U : State} {H H1 : Heap} (hW : s.WarmedH U.vm) (hH : ∀ a : Nat, a < n0 → H1[a]? = H[a]?) (h : mx_Sc n0 sg rho s H) : mx_Sc n0 sg rho U H1 := by
  obtain ⟨⟨L, h1, h2, h3, h4⟩, h5⟩ := h
  exact ⟨⟨L, h1, h2, (h3.kept (hH _ h4)).moved hW.alike, h4⟩, h5.moved hW hH⟩
/-- a frame: the method mi stands there, with room for d calls within calls -/
def mx_Fr (P : mx_P) (G : mx_G) (tb : List Cond) (n0 : Nat) (D : va_G) (tys : List (ClassId × FieldType)) (sg : Nat → Nat) (rho : Nat → Int32) (p : Program) (R : Room) (s : State) (m : MethodId) (args : Array Value) (meth : Method) (c : Code) (d mi : Nat) : Prop :=
  p.tables.exec = Jvm.exec ∧ c.code = (mx_mt P mi).2.1 ∧ meth.sig.returnType = (mx_mt P mi).2.2.2.1 ∧ c.maxLocals = (mx_mt P mi).2.2.1 ∧ s.vm.findClass (mx_mt P mi).1.cls = some m.cls ∧ (∀ w ∈ tb, w.before args s = true) ∧ meth.name = (mx_mt P mi).1.name ∧ meth.locks = false ∧ d ≤ R.frames ∧ 60 * d ≤ R.locals ∧ mx_Wd P G D tys sg s ∧ n0 ≤ s.heap.size ∧ mx_Sc n0 sg rho s s.heap
/-- the heap, the locals and the stack are as the machine has them -/
def mx_In (P : mx_P) (n0 : Nat) (D : va_G) (tys : List (ClassId × FieldType)) (sg : Nat → Nat) (rho : Nat → Int32) (s : State) (H : Heap) (locs : List Loc) (mi : Nat) (ws : va_W) (h : mx_H) (ls : mx_L) (st : List Value) (sl : Array Slot) (stk : List Value) : Prop :=
  va_P D (mx_cl P) ws H ∧ va_D (fun q => n0 ≤ q) ws ∧ va_S (fun q => n0 ≤ q) s.heap H locs ∧ mx_S sg rho tys ws h ∧ (∃ lv : List (Nat × Value), lv_has sl (mx_mt P mi).2.2.1 lv ∧ mx_F2 (mx_RL (ws.map Prod.fst) sg rho) ls lv) ∧ mx_F2 (mx_R (ws.map Prod.fst) sg rho) st stk
/-- from one point of a method's walk the machine comes to another, with mc new cells of ms slots -/
def mx_Ok (l : Launch) (P : mx_P) (G : mx_G) (tb : List Cond) (rho : Nat → Int32) (d mi pc : Nat) (ls : mx_L) (st : List Value) (h : mx_H) (pc' : Nat) (ls' : mx_L) (st' : List Value) (h' : mx_H) (mc ms : Nat) : Prop :=
  ∀ (p : Program) (e : Env) (R : Room) (s : State) (m : MethodId) (args : Array Value) (below : List Frame) (meth : Method) (c : Code) (H : Heap) (locs : List Loc) (cells slots : Nat) (Q : State → Prop) (sl : Array Slot) (stk : List Value) (ws : va_W) (n0 : Nat) (D : va_G) (tys : List (ClassId × FieldType)) (sg : Nat → Nat),
    mx_Fr P G tb n0 D tys sg rho p R s m args meth c d mi → mx_In P n0 D tys sg rho s H locs mi ws h ls st sl stk → cells + mc ≤ R.cells → slots + ms ≤ R.slots →
    (∀ (H' : Heap) (locs' : List Loc) (sl' : Array Slot) (stk' : List Value) (ws' : va_W), (∃ be : List Nat, ws'.map Prod.fst = ws.map Prod.fst ++ be) → mx_In P n0 D tys sg rho s H' locs' mi ws' h' ls' st' sl' stk' →
      W p l e R s m args below meth c H' locs' (cells + mc) (slots + ms) Q (F0 m pc' sl' stk')) →
    W p l e R s m args below meth c H locs cells slots Q (F0 m pc sl stk)
theorem mx_Ok.rf {l : Launch} {P : mx_P} {G : mx_G} {tb : List Cond} {rho : Nat → Int32} {d mi pc : Nat} {ls : mx_L} {st : List Value} {h : mx_H} : mx_Ok l P G tb rho d mi pc ls st h pc ls st h 0 0 :=
  fun _ _ _ _ _ _ _ _ _ _ _ _ _ _ _ _ ws _ _ _ _ _ hI _ _ k => k _ _ _ _ ws ⟨[], by simp⟩ hI
/-- what the code tables say of an instruction -/
def mx_Dc (P : mx_P) (mi pc : Nat) (ins : Instr) : Prop := ∃ len : Nat, decode (mx_mt P mi).2.1 pc = .ok (ins, len) ∧ (mx_sw ins = true ∨ len = mx_len ins)
theorem mx_Dc.of {P : mx_P} {mi pc : Nat} {ins : Instr} (h : mx_Dc P mi pc ins) (hs : mx_sw ins = false) : decode (mx_mt P mi).2.1 pc = .ok (ins, mx_len ins) := by
  obtain ⟨len, h1, h2⟩ := h
  rcases h2 with h2 | h2
  · rw [hs] at h2; cases h2
  · rw [← h2]; exact h1
def mx_env (rho : Nat → Int32) (env : mx_E) : Prop := ∀ (i : Nat) (q : Int × Int), env[i]? = some q → q.1 ≤ (rho i).toInt ∧ (rho i).toInt ≤ q.2
theorem mx_env.set {rho : Nat → Int32} {env : mx_E} {i : Nat} {q : Int × Int} (h : mx_env rho env) (hq : q.1 ≤ (rho i).toInt ∧ (rho i).toInt ≤ q.2) : mx_env rho (env.set i q) := by
  intro j r hr
  rw [List.getElem?_set] at hr
  split at hr
  next hij =>
    subst hij
    split at hr
    next => cases hr; exact hq
    next => cases hr
  next => exact h j r hr
end MXB
