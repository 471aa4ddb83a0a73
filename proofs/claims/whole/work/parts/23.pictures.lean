/-! The small machine's worlds and the true ones; each instruction of the small machine is sound. -/
section AMR
/-- a cell of the small machine and a true one -/
def am_E (ad : List Nat) (tys : List (ClassId × FieldType)) (I : Nat → Nat → Int32) (L : Nat → Nat → Int64) (k : Nat) (c : am_Cl) (e : va_E) : Prop := match c.1 with
  | 0 => ∃ (cA : ClassId) (t0 : Nat), e = .inl (cA, c.2.1, .inl (I k)) ∧ tys[t0]? = some (cA, .int)
  | 1 => ∃ (cA : ClassId) (t0 : Nat), e = .inl (cA, c.2.1, .inl (I k)) ∧ tys[t0]? = some (cA, .boolean)
  | 2 => ∃ (cA : ClassId) (t0 : Nat), e = .inl (cA, c.2.1, .inr (.inl (L k))) ∧ tys[t0]? = some (cA, .long)
  | 3 => ∃ (cA : ClassId) (t0 : Nat) (f : Nat → Option Nat), e = .inl (cA, c.2.1, .inr (.inr (.inr (.inr f)))) ∧ tys[t0]? = some (cA, .array .int) ∧ ∀ (j x : Nat), c.2.2[j]? = some x → ∃ a : Nat, ad[x]? = some a ∧ f j = some a
  | ci + 4 => ∃ fs : List Value, e = .inr (ci, fs) ∧ fs.length = c.2.2.length ∧ ∀ (j t : Nat), c.2.2[j]? = some t → ∃ v : Value, fs[j]? = some v ∧ (t = 0 → v = .int (I k j)) ∧ (t = 1 → v = .null) ∧ ∀ x : Nat, t = x + 2 → ∃ a : Nat, ad[x]? = some a ∧ v = .ref a
def am_R (w : am_W) (ws : va_W) (tys : List (ClassId × FieldType)) : Prop := w.1.length = ws.length ∧ ∀ (k : Nat) (c : am_Cl), w.1[k]? = some c → ∃ a e, ws[k]? = some (a, e) ∧ am_E (ws.map Prod.fst) tys w.2.1 w.2.2.1 k c e
/-- a value of the small machine and a true one, by the cells' addresses -/
def am_v (ad : List Nat) (bS : Nat) (v cv : Value) : Prop := match v with
  | .int x => cv = .int x
  | .long x => cv = .long x
  | .ref k => ∃ a : Nat, ad[k]? = some a ∧ cv = .ref a
  | .null => cv = .null ∨ ∃ q : Nat, cv = .ref q
  | .retAddr _ => cv = .ref bS
  | _ => False
def am_V (ad : List Nat) (bS : Nat) : List Value → List Value → Prop
  | [], [] => True
  | v :: r, c :: r' => am_v ad bS v c ∧ am_V ad bS r r'
  | _, _ => False
def am_L (ad : List Nat) (bS nL : Nat) (ls : List (Option Value)) (lc : Array Slot) : Prop := lc.size = nL ∧ lv_wf lc ∧ ∀ (i : Nat) (v : Value), ls[i]? = some (some v) → v.category = 1 ∧ ∃ cv : Value, lc[i]? = some (Slot.val cv) ∧ am_v ad bS v cv
theorem am_v_cat {ad : List Nat} {bS : Nat} {v cv : Value} (h : am_v ad bS v cv) : cv.category = v.category := by
  cases v with
  | int x => cases h; rfl
  | long x => cases h; rfl
  | ref k => obtain ⟨a, -, rfl⟩ := h; rfl
  | null => rcases h with rfl | ⟨q, rfl⟩ <;> rfl
  | retAddr k => cases h; rfl
  | float x => exact h.elim
  | double x => exact h.elim
theorem am_pre {ad ad' : List Nat} {k a : Nat} (hp : ad <+: ad') (h : ad[k]? = some a) : ad'[k]? = some a := by
  obtain ⟨t, rfl⟩ := hp
  rw [List.getElem?_append_left (List.getElem?_eq_some_iff.mp h).1]
  exact h
theorem am_v_mono {ad ad' : List Nat} {bS : Nat} {v cv : Value} (hp : ad <+: ad') (h : am_v ad bS v cv) : am_v ad' bS v cv := by
  cases v with
  | ref k => obtain ⟨a, h1, h2⟩ := h; exact ⟨a, am_pre hp h1, h2⟩
  | _ => exact h
theorem am_V_mono {ad ad' : List Nat} {bS : Nat} (hp : ad <+: ad') : ∀ {r r' : List Value}, am_V ad bS r r' → am_V ad' bS r r'
  | [], [], _ => trivial
  | _ :: _, _ :: _, h => ⟨am_v_mono hp h.1, am_V_mono hp h.2⟩
  | [], _ :: _, h => h.elim
  | _ :: _, [], h => h.elim
theorem am_L_mono {ad ad' : List Nat} {bS nL : Nat} {ls : List (Option Value)} {lc : Array Slot} (hp : ad <+: ad') (h : am_L ad bS nL ls lc) : am_L ad' bS nL ls lc :=
  ⟨h.1, h.2.1, fun i v hv => ⟨(h.2.2 i v hv).1, by obtain ⟨cv, h1, h2⟩ := (h.2.2 i v hv).2; exact ⟨cv, h1, am_v_mono hp h2⟩⟩⟩
theorem am_V_cons {ad : List Nat} {bS : Nat} {v : Value} {r st : List Value} (h : am_V ad bS (v :: r) st) : ∃ cv r', st = cv :: r' ∧ am_v ad bS v cv ∧ am_V ad bS r r' := by
  cases st with
  | nil => exact h.elim
  | cons c r' => exact ⟨c, r', rfl, h.1, h.2⟩
theorem am_V_nil {ad : List Nat} {bS : Nat} {st : List Value} (h : am_V ad bS [] st) : st = [] := by
  cases st with
  | nil => rfl
  | cons c r' => exact h.elim
theorem am_V_int {ad : List Nat} {bS : Nat} {x : Int32} {r st : List Value} (h : am_V ad bS (.int x :: r) st) : ∃ r', st = .int x :: r' ∧ am_V ad bS r r' := by
  obtain ⟨cv, r', rfl, h1, h2⟩ := am_V_cons h
  cases h1
  exact ⟨r', rfl, h2⟩
theorem am_V_long {ad : List Nat} {bS : Nat} {x : Int64} {r st : List Value} (h : am_V ad bS (.long x :: r) st) : ∃ r', st = .long x :: r' ∧ am_V ad bS r r' := by
  obtain ⟨cv, r', rfl, h1, h2⟩ := am_V_cons h
  cases h1
  exact ⟨r', rfl, h2⟩
theorem am_V_ref {ad : List Nat} {bS : Nat} {k : Nat} {r st : List Value} (h : am_V ad bS (.ref k :: r) st) : ∃ a r', st = .ref a :: r' ∧ ad[k]? = some a ∧ am_V ad bS r r' := by
  obtain ⟨cv, r', rfl, ⟨a, h1, rfl⟩, h2⟩ := am_V_cons h
  exact ⟨a, r', rfl, h1, h2⟩
theorem am_V_scr {ad : List Nat} {bS : Nat} {k : Nat} {r st : List Value} (h : am_V ad bS (.retAddr k :: r) st) : ∃ r', st = .ref bS :: r' ∧ am_V ad bS r r' := by
  obtain ⟨cv, r', rfl, h1, h2⟩ := am_V_cons h
  cases h1
  exact ⟨r', rfl, h2⟩
theorem am_V_cat {ad : List Nat} {bS : Nat} : ∀ {r r' : List Value}, am_V ad bS r r' → (r'.map fun v => v.category).sum = (r.map fun v => v.category).sum
  | [], [], _ => rfl
  | _ :: _, _ :: _, h => by
    simp only [List.map_cons, List.sum_cons]
    rw [am_v_cat h.1, am_V_cat h.2]
  | [], _ :: _, h => h.elim
  | _ :: _, [], h => h.elim
theorem am_V_len {ad : List Nat} {bS : Nat} : ∀ {r r' : List Value}, am_V ad bS r r' → r'.length = r.length
  | [], [], _ => rfl
  | _ :: _, _ :: _, h => by simp only [List.length_cons]; rw [am_V_len h.2]
  | [], _ :: _, h => h.elim
  | _ :: _, [], h => h.elim
theorem am_V_app {ad : List Nat} {bS : Nat} : ∀ {r q st : List Value}, am_V ad bS (r ++ q) st → ∃ r' q', st = r' ++ q' ∧ am_V ad bS r r' ∧ am_V ad bS q q'
  | [], q, st, h => ⟨[], st, rfl, trivial, h⟩
  | v :: r, q, st, h => by
    obtain ⟨cv, t, rfl, h1, h2⟩ := am_V_cons h
    obtain ⟨r', q', rfl, h3, h4⟩ := am_V_app h2
    exact ⟨cv :: r', q', rfl, ⟨h1, h3⟩, h4⟩
theorem am_V_join {ad : List Nat} {bS : Nat} : ∀ {r r' q q' : List Value}, am_V ad bS r r' → am_V ad bS q q' → am_V ad bS (r ++ q) (r' ++ q')
  | [], [], _, _, _, h => h
  | _ :: _, _ :: _, _, _, h, h' => ⟨h.1, am_V_join h.2 h'⟩
  | [], _ :: _, _, _, h, _ => h.elim
  | _ :: _, [], _, _, h, _ => h.elim
theorem am_V_rev {ad : List Nat} {bS : Nat} : ∀ {r r' : List Value}, am_V ad bS r r' → am_V ad bS r.reverse r'.reverse
  | [], [], _ => trivial
  | v :: r, c :: r', h => by
    rw [List.reverse_cons, List.reverse_cons]
    exact am_V_join (am_V_rev h.2) ⟨h.1, trivial⟩
  | [], _ :: _, h => h.elim
  | _ :: _, [], h => h.elim
/-- all that the locals hold, as a list -/
def am_all (lc : Array Slot) : List (Nat × Value) := (List.range lc.size).filterMap fun (j : Nat) => match lc[j]? with
  | some (Slot.val v) => if v.category = 1 then some (j, v) else none
  | _ => none
theorem am_all_mem {lc : Array Slot} {j : Nat} {v : Value} (h : lc[j]? = some (.val v)) (hc : v.category = 1) : (j, v) ∈ am_all lc := by
  refine List.mem_filterMap.mpr ⟨j, List.mem_range.mpr (Array.getElem?_eq_some_iff.mp h).1, ?_⟩
  rw [h]
  simp [hc]
theorem am_all_has {lc : Array Slot} {nL : Nat} (h1 : lc.size = nL) (h2 : lv_wf lc) : lv_has lc nL (am_all lc) := by
  refine ⟨h1, h2, fun q hq => ?_⟩
  obtain ⟨j, -, hj⟩ := List.mem_filterMap.mp hq
  cases hl : lc[j]? with
  | none => rw [hl] at hj; cases hj
  | some x =>
    rw [hl] at hj
    cases x with
    | unset => cases hj
    | second => cases hj
    | val v =>
      by_cases hc : v.category = 1
      · simp [hc] at hj
        rw [← hj]
        exact hl
      · simp [hc] at hj
theorem am_set_at : ∀ (ls : List (Option Value)) (i j : Nat) (v u : Value), (am_set ls i v)[j]? = some (some u) → (j = i ∧ u = v) ∨ (j ≠ i ∧ ls[j]? = some (some u))
  | [], 0, 0, v, u, h => by simp [am_set] at h; exact Or.inl ⟨rfl, h.symm⟩
  | [], 0, j + 1, v, u, h => by simp [am_set] at h
  | [], i + 1, 0, v, u, h => by simp [am_set] at h
  | [], i + 1, j + 1, v, u, h => by
    simp only [am_set, List.getElem?_cons_succ] at h
    rcases am_set_at [] i j v u h with ⟨h1, h2⟩ | ⟨h1, h2⟩
    · exact Or.inl ⟨by omega, h2⟩
    · simp at h2
  | x :: ls, 0, 0, v, u, h => by simp [am_set] at h; exact Or.inl ⟨rfl, h.symm⟩
  | x :: ls, 0, j + 1, v, u, h => by
    simp only [am_set, List.getElem?_cons_succ] at h
    exact Or.inr ⟨by omega, by simpa using h⟩
  | x :: ls, i + 1, 0, v, u, h => by
    simp only [am_set, List.getElem?_cons_zero] at h
    exact Or.inr ⟨by omega, by simpa using h⟩
  | x :: ls, i + 1, j + 1, v, u, h => by
    simp only [am_set, List.getElem?_cons_succ] at h
    rcases am_set_at ls i j v u h with ⟨h1, h2⟩ | ⟨h1, h2⟩
    · exact Or.inl ⟨by omega, h2⟩
    · exact Or.inr ⟨by omega, by simpa using h2⟩
/-- the locals behind a store -/
theorem am_L_set {ad : List Nat} {bS nL i : Nat} {ls : List (Option Value)} {lc lc' : Array Slot} {v cv : Value} (h : am_L ad bS nL ls lc) (hv : am_v ad bS v cv) (hc : v.category = 1)
    (h' : lv_has lc' nL ((i, cv) :: (am_all lc).filter (fun q => !(q.1 == i) && !(q.1 + 1 == i && q.2.category == 2)))) : am_L ad bS nL (am_set ls i v) lc' := by
  refine ⟨h'.1, h'.2.1, fun j u hu => ?_⟩
  rcases am_set_at ls i j v u hu with ⟨rfl, rfl⟩ | ⟨hj, hl⟩
  · exact ⟨hc, cv, h'.2.2 (j, cv) List.mem_cons_self, hv⟩
  · obtain ⟨h1, cu, h2, h3⟩ := h.2.2 j u hl
    refine ⟨h1, cu, h'.2.2 (j, cu) (List.mem_cons_of_mem _ (List.mem_filter.mpr ⟨am_all_mem h2 (by rw [am_v_cat h3]; exact h1), ?_⟩)), h3⟩
    have : cu.category = 1 := by rw [am_v_cat h3]; exact h1
    simp [hj, this]
theorem am_map_set {ws : va_W} {k a : Nat} {e0 e : va_E} (h : ws[k]? = some (a, e0)) : (ws.set k (a, e)).map Prod.fst = ws.map Prod.fst := by
  refine List.ext_getElem? fun j => ?_
  rw [List.getElem?_map, List.getElem?_map]
  by_cases hj : k = j
  · subst hj
    rw [List.getElem?_set_self (List.getElem?_eq_some_iff.mp h).1, h]
    rfl
  · rw [List.getElem?_set_ne hj]
theorem am_at {ws : va_W} {k a : Nat} {e : va_E} (h : ws[k]? = some (a, e)) : (ws.map Prod.fst)[k]? = some a := by
  rw [List.getElem?_map, h]; rfl
/-- a cell of the small machine, its true cell at that address -/
theorem am_R_at {w : am_W} {ws : va_W} {tys : List (ClassId × FieldType)} {k a : Nat} {c : am_Cl} (hR : am_R w ws tys) (hc : w.1[k]? = some c) (ha : (ws.map Prod.fst)[k]? = some a) : ∃ e, ws[k]? = some (a, e) ∧ am_E (ws.map Prod.fst) tys w.2.1 w.2.2.1 k c e := by
  obtain ⟨a', e, h1, h2⟩ := hR.2 k c hc
  cases Option.some.inj ((am_at h1).symm.trans ha)
  exact ⟨e, h1, h2⟩
theorem am_E_eq {ad : List Nat} {tys : List (ClassId × FieldType)} {I I' : Nat → Nat → Int32} {L L' : Nat → Nat → Int64} {k : Nat} {c : am_Cl} {e : va_E} (h : am_E ad tys I L k c e) (hI : I' k = I k) (hL : L' k = L k) : am_E ad tys I' L' k c e := by
  unfold am_E at h ⊢
  rw [hI, hL]
  exact h
/-- one cell is written -/
theorem am_R_set {w : am_W} {ws : va_W} {tys : List (ClassId × FieldType)} {k a : Nat} {c : am_Cl} {e0 e : va_E} {I' : Nat → Nat → Int32} {L' : Nat → Nat → Int64} (hR : am_R w ws tys) (hw : ws[k]? = some (a, e0)) (hc : w.1[k]? = some c)
    (he : am_E (ws.map Prod.fst) tys I' L' k c e) (hI : ∀ j, j ≠ k → I' j = w.2.1 j) (hL : ∀ j, j ≠ k → L' j = w.2.2.1 j) : am_R (w.1, I', L', w.2.2.2) (ws.set k (a, e)) tys := by
  refine ⟨by rw [List.length_set]; exact hR.1, fun j cj hj => ?_⟩
  rw [am_map_set hw]
  by_cases hjk : j = k
  · subst hjk
    cases Option.some.inj (hj.symm.trans hc)
    exact ⟨a, e, by rw [List.getElem?_set_self (List.getElem?_eq_some_iff.mp hw).1], he⟩
  · obtain ⟨a', e', h1, h2⟩ := hR.2 j cj hj
    exact ⟨a', e', by rw [List.getElem?_set_ne (Ne.symm hjk)]; exact h1, am_E_eq h2 (hI j hjk) (hL j hjk)⟩
theorem am_u2_self {α : Type} (f : Nat → Nat → α) (k j : Nat) (x : α) : am_u2 f k j x k = fun b => if b = j then x else f k b := by
  funext b; simp [am_u2]
theorem am_u2_ne {α : Type} {f : Nat → Nat → α} {k j : Nat} {x : α} {a : Nat} (h : a ≠ k) : am_u2 f k j x a = f a := by
  funext b; simp [am_u2, h]
theorem am_u1_self {α : Type} (f : Nat → Nat → α) (k : Nat) (g : Nat → α) : am_u1 f k g k = g := by
  funext b; simp [am_u1]
theorem am_u1_ne {α : Type} {f : Nat → Nat → α} {k : Nat} {g : Nat → α} {a : Nat} (h : a ≠ k) : am_u1 f k g a = f a := by
  funext b; simp [am_u1, h]
theorem am_E_mono {ad ad' : List Nat} {tys tys' : List (ClassId × FieldType)} {I I' : Nat → Nat → Int32} {L L' : Nat → Nat → Int64} {k : Nat} {c : am_Cl} {e : va_E} (hp : ad <+: ad') (ht : tys <+: tys') (h : am_E ad tys I L k c e) (hI : I' k = I k) (hL : L' k = L k) : am_E ad' tys' I' L' k c e := by
  have htt : ∀ {j : Nat} {q : ClassId × FieldType}, tys[j]? = some q → tys'[j]? = some q := by
    intro j q hj
    obtain ⟨t, rfl⟩ := ht
    rw [List.getElem?_append_left (List.getElem?_eq_some_iff.mp hj).1]
    exact hj
  obtain ⟨kd, n, q⟩ := c
  match kd, h with
  | 0, ⟨cA, t0, h1, h2⟩ => exact ⟨cA, t0, by rw [hI]; exact h1, htt h2⟩
  | 1, ⟨cA, t0, h1, h2⟩ => exact ⟨cA, t0, by rw [hI]; exact h1, htt h2⟩
  | 2, ⟨cA, t0, h1, h2⟩ => exact ⟨cA, t0, by rw [hL]; exact h1, htt h2⟩
  | 3, ⟨cA, t0, f, h1, h2, h3⟩ => exact ⟨cA, t0, f, h1, htt h2, fun j x hx => by obtain ⟨a, h4, h5⟩ := h3 j x hx; exact ⟨a, am_pre hp h4, h5⟩⟩
  | ci + 4, ⟨fs, h1, h2, h3⟩ =>
    refine ⟨fs, h1, h2, fun j t hj => ?_⟩
    obtain ⟨v, h4, h5, h6, h7⟩ := h3 j t hj
    exact ⟨v, h4, fun e9 => by rw [hI]; exact h5 e9, h6, fun x hx => by obtain ⟨a, h8, h9⟩ := h7 x hx; exact ⟨a, am_pre hp h8, h9⟩⟩
/-- one cell more -/
theorem am_R_push {w : am_W} {ws : va_W} {tys tys' : List (ClassId × FieldType)} {a : Nat} {c : am_Cl} {e : va_E} {I' : Nat → Nat → Int32} {L' : Nat → Nat → Int64} (hR : am_R w ws tys) (ht : tys <+: tys')
    (he : am_E ((ws ++ [(a, e)]).map Prod.fst) tys' I' L' w.1.length c e) (hI : ∀ j, j ≠ w.1.length → I' j = w.2.1 j) (hL : ∀ j, j ≠ w.1.length → L' j = w.2.2.1 j) : am_R (w.1 ++ [c], I', L', w.2.2.2) (ws ++ [(a, e)]) tys' := by
  refine ⟨by simp [hR.1], fun j cj hj => ?_⟩
  have hp : ws.map Prod.fst <+: (ws ++ [(a, e)]).map Prod.fst := by rw [List.map_append]; exact List.prefix_append _ _
  by_cases hl : j < w.1.length
  · dsimp only at hj
    rw [List.getElem?_append_left hl] at hj
    obtain ⟨a', e', h1, h2⟩ := hR.2 j cj hj
    exact ⟨a', e', by rw [List.getElem?_append_left (by rw [← hR.1]; exact hl)]; exact h1, am_E_mono hp ht h2 (hI j (by omega)) (hL j (by omega))⟩
  · dsimp only at hj
    rw [List.getElem?_append_right (by omega)] at hj
    have hz : j - w.1.length < 1 := (List.getElem?_eq_some_iff.mp hj).1
    have hj0 : j = w.1.length := by omega
    subst hj0
    rw [Nat.sub_self] at hj
    cases hj
    exact ⟨a, e, by rw [hR.1, List.getElem?_append_right (Nat.le_refl _), Nat.sub_self]; rfl, he⟩
/-- an object's place gets a cell -/
theorem am_R_setr {w : am_W} {ws : va_W} {tys : List (ClassId × FieldType)} {k a ci n j x ax : Nat} {q : List Nat} {fs : List Value} (hR : am_R w ws tys) (hw : ws[k]? = some (a, .inr (ci, fs))) (hc : w.1[k]? = some (ci + 4, n, q)) (hj : q[j]? = some 1) (hx : (ws.map Prod.fst)[x]? = some ax) :
    am_R (w.1.set k (ci + 4, n, q.set j (x + 2)), w.2) (ws.set k (a, .inr (ci, fs.set j (.ref ax)))) tys := by
  have hjl : j < q.length := (List.getElem?_eq_some_iff.mp hj).1
  have hkl : k < w.1.length := (List.getElem?_eq_some_iff.mp hc).1
  refine ⟨by rw [List.length_set, List.length_set]; exact hR.1, fun i ck hi => ?_⟩
  rw [am_map_set hw]
  by_cases hik : i = k
  · subst hik
    dsimp only at hi
    rw [List.getElem?_set_self hkl] at hi
    cases hi
    obtain ⟨a', e', h1, h2⟩ := hR.2 i _ hc
    cases Option.some.inj (h1.symm.trans hw)
    obtain ⟨fs', h3, h4, h5⟩ := h2
    cases h3
    refine ⟨a, _, by rw [List.getElem?_set_self (List.getElem?_eq_some_iff.mp hw).1], fs.set j (.ref ax), rfl, by simp [h4], fun i t hi => ?_⟩
    dsimp only at hi h4
    by_cases hij : i = j
    · subst hij
      rw [List.getElem?_set_self hjl] at hi
      cases hi
      refine ⟨.ref ax, by rw [List.getElem?_set_self (by rw [h4]; exact hjl)], fun e9 => by omega, fun e9 => by omega, fun y hy => ?_⟩
      have : y = x := by omega
      subst this
      exact ⟨ax, hx, rfl⟩
    · rw [List.getElem?_set_ne (Ne.symm hij)] at hi ⊢
      exact h5 i t hi
  · dsimp only at hi
    rw [List.getElem?_set_ne (Ne.symm hik)] at hi
    obtain ⟨a', e', h1, h2⟩ := hR.2 i ck hi
    exact ⟨a', e', by rw [List.getElem?_set_ne (Ne.symm hik)]; exact h1, h2⟩
end AMR
