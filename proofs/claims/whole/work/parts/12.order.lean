/-! pure mathematics of the desk: the search through the orders -/
section RDS
theorem rd_cnt_zero {p : Nat → Bool} {n : Nat} (h : ∀ i, i < n → p i = false) : rd_cnt p n = 0 := by
  induction n with
  | zero => rfl
  | succ n ih => simp only [rd_cnt]; rw [ih (fun i hi => h i (by omega)), h n (by omega)]; simp
theorem rd_cnt_true (n : Nat) : rd_cnt (fun _ => true) n = n := by
  induction n with
  | zero => rfl
  | succ n ih => simp only [rd_cnt]; rw [ih]; simp
theorem rd_cnt_list {n : Nat} : ∀ l : List Nat, l.Nodup → (∀ x ∈ l, x < n) → rd_cnt (fun i => decide (i ∈ l)) n = l.length
  | [], _, _ => by
    rw [rd_cnt_zero (fun i _ => by simp)]; rfl
  | a :: l, hn, hl => by
    obtain ⟨h1, h2⟩ := List.nodup_cons.mp hn
    have ih := rd_cnt_list l h2 (fun x hx => hl x (List.mem_cons_of_mem _ hx))
    have e : rd_cnt (fun i => decide (i ∈ a :: l)) n = rd_cnt (fun i => decide (i ∈ l) || decide (i = a)) n := rd_cnt_congr fun i _ => by
      by_cases hi : i = a <;> by_cases hj : i ∈ l <;> simp [hi, hj]
    rw [e, rd_cnt_set (p := fun i => decide (i ∈ l)) (hl a List.mem_cons_self) (by simpa using h1), ih]
    rfl
theorem rd_filter_len (p : Nat → Bool) (n : Nat) : ((List.range n).filter p).length = rd_cnt p n := by
  induction n with
  | zero => rfl
  | succ n ih =>
    rw [List.range_succ, List.filter_append, List.length_append, ih]
    simp only [rd_cnt]
    by_cases h : p n = true <;> simp [h]
/-! the first-come order -/
def rd_bf (t : Nat → Int) (o m : Nat) : Bool := decide (t o < t m) || (decide (t o = t m) && decide (o < m))
theorem rd_bf_tot {t : Nat → Int} {a b : Nat} (h : a ≠ b) : rd_bf t a b = true ∨ rd_bf t b a = true := by
  simp only [rd_bf, Bool.or_eq_true, Bool.and_eq_true, decide_eq_true_eq]; omega
theorem rd_bf_irr (t : Nat → Int) (a : Nat) : rd_bf t a a = false := by simp [rd_bf]
theorem rd_bf_tr {t : Nat → Int} {a b c : Nat} (h : rd_bf t a b = true) (h' : rd_bf t b c = true) : rd_bf t a c = true := by
  simp only [rd_bf, Bool.or_eq_true, Bool.and_eq_true, decide_eq_true_eq] at *; omega
/-- a movement's place among those that have p, by t -/
def rd_plc (p : Nat → Bool) (t : Nat → Int) (m : Nat) : Nat := rd_cnt (fun o => p o && rd_bf t o m) 7
theorem rd_plc_lt {p : Nat → Bool} {t : Nat → Int} {a b : Nat} (ha : a < 7) (hp : p a = true) (h : rd_bf t a b = true) : rd_plc p t a < rd_plc p t b := by
  refine rd_cnt_lt (j := a) (fun i _ hi2 => ?_) ha (by simp [hp, h]) (by simp [rd_bf_irr])
  simp only [Bool.and_eq_true] at hi2 ⊢
  exact ⟨hi2.1, rd_bf_tr hi2.2 h⟩
theorem rd_plc_inj {p : Nat → Bool} {t : Nat → Int} {a b : Nat} (ha : a < 7) (hb : b < 7) (hp : p a = true) (hq : p b = true) (h : rd_plc p t a = rd_plc p t b) : a = b := by
  by_cases hab : a = b
  · exact hab
  · rcases rd_bf_tot (t := t) hab with h1 | h1
    · have := rd_plc_lt ha hp h1; omega
    · have := rd_plc_lt hb hq h1; omega
theorem rd_plc_n {p : Nat → Bool} {t : Nat → Int} {a : Nat} (ha : a < 7) (hp : p a = true) : rd_plc p t a < rd_cnt p 7 := by
  refine rd_cnt_lt (j := a) (fun i _ hi2 => ?_) ha hp (by simp [rd_bf_irr])
  simp only [Bool.and_eq_true] at hi2
  exact hi2.1
theorem rd_plc_onto {p : Nat → Bool} {t : Nat → Int} {k : Nat} (hk : k < rd_cnt p 7) : ∃ m, m < 7 ∧ p m = true ∧ rd_plc p t m = k := by
  have hnd : (((List.range 7).filter p).map (rd_plc p t)).Nodup := by
    rw [List.Nodup, List.pairwise_map]
    refine List.Pairwise.imp_of_mem ?_ (List.Pairwise.filter p (List.pairwise_lt_range (n := 7)))
    intro a b ha hb hab he
    simp only [List.mem_filter, List.mem_range] at ha hb
    have := rd_plc_inj ha.1 hb.1 ha.2 hb.2 he
    omega
  have hlt : ∀ x ∈ ((List.range 7).filter p).map (rd_plc p t), x < rd_cnt p 7 := by
    intro x hx
    obtain ⟨a, ha, rfl⟩ := List.mem_map.mp hx
    simp only [List.mem_filter, List.mem_range] at ha
    exact rd_plc_n ha.1 ha.2
  have h1 := rd_cnt_list _ hnd hlt
  rw [List.length_map, rd_filter_len] at h1
  have h2 := rd_cnt_all (p := fun i => decide (i ∈ ((List.range 7).filter p).map (rd_plc p t))) (q := fun _ => true) (fun _ _ _ => rfl) (by rw [rd_cnt_true, h1]; exact Nat.le_refl _) k hk rfl
  simp only [decide_eq_true_eq] at h2
  obtain ⟨a, ha, e⟩ := List.mem_map.mp h2
  simp only [List.mem_filter, List.mem_range] at ha
  exact ⟨a, ha.1, ha.2, e⟩
def rd_n (z : rd_Z) : Nat := rd_cnt (rd_th z) 7
def rd_pl (z : rd_Z) (m : Nat) : Nat := rd_plc (rd_th z) (z 3) m
/-- who has place p in the first-come order -/
def rd_ln (z : rd_Z) (p : Nat) : Nat := (rd_fst (fun m => rd_th z m && decide (rd_pl z m = p)) 7).getD 0
theorem rd_ln_of {z : rd_Z} {m : Nat} (hm : m < 7) (ht : rd_th z m = true) : rd_ln z (rd_pl z m) = m := by
  unfold rd_ln
  cases hf : rd_fst (fun k => rd_th z k && decide (rd_pl z k = rd_pl z m)) 7 with
  | none => have := rd_fst_none hf m hm; simp [ht] at this
  | some k =>
    obtain ⟨h1, h2, -⟩ := rd_fst_some hf
    simp only [Bool.and_eq_true, decide_eq_true_eq] at h2
    exact rd_plc_inj h1 hm h2.1 ht h2.2
theorem rd_ln_ok {z : rd_Z} {p : Nat} (hp : p < rd_n z) : rd_ln z p < 7 ∧ rd_th z (rd_ln z p) = true ∧ rd_pl z (rd_ln z p) = p := by
  obtain ⟨m, h1, h2, h3⟩ := rd_plc_onto (p := rd_th z) (t := z 3) hp
  have e : rd_ln z p = m := by rw [← h3]; exact rd_ln_of h1 h2
  rw [e]; exact ⟨h1, h2, h3⟩
/-! orders that have begun: movements with their seconds -/
abbrev rd_P : Type := List (Nat × Int)
def rd_gap (z : rd_Z) (a b : Nat) : Int := z 7 (6 * (z 1 a).toNat + (z 1 b).toNat)
def rd_dl (z : rd_Z) (m : Nat) (s : Int) : Int := z 5 m * max 0 (s - z 3 m)
def rd_lk (o : Nat) : rd_P → Option Int
  | [] => none
  | q :: r => if q.1 = o then some q.2 else rd_lk o r
def rd_need (z : rd_Z) (pre : rd_P) (o : Nat) : Int := pre.foldl (fun a q => max a (q.2 + rd_gap z q.1 o)) 0
def rd_row (z : rd_Z) (pre : rd_P) (o : Nat) : Int := match rd_lk o pre with
  | some s => s
  | none => rd_sec z o (rd_need z pre o)
/-- the delay of a row, -1 if one has no second -/
def rd_rdl (z : rd_Z) (r : Nat → Int) : Int := if rd_any (fun m => rd_th z m && decide (r m = -1)) 7 = true then -1 else rd_sum (fun m => if rd_th z m = true then rd_dl z m (r m) else 0) 7
def rd_cost (z : rd_Z) (pre : rd_P) : Int := pre.foldl (fun a q => a + rd_dl z q.1 q.2) 0
def rd_may (z : rd_Z) (m d p : Nat) : Bool := decide (z 6 m ≠ -1) || (decide ((d : Int) - p ≤ z 10 1) && decide ((p : Int) - d ≤ z 10 1))
def rd_kid (f : rd_P → List (Int × rd_P)) (z : rd_Z) (pre : rd_P) (p : Nat) : List (Int × rd_P) :=
  if (rd_lk (rd_ln z p) pre).isSome = true then []
  else if rd_may z (rd_ln z p) pre.length p = false then []
  else if rd_sec z (rd_ln z p) (rd_need z pre (rd_ln z p)) = -1 then []
  else f (pre ++ [(rd_ln z p, rd_sec z (rd_ln z p) (rd_need z pre (rd_ln z p)))])
/-- all orders that go on from pre by k movements, with their delays, in the document's sequence -/
def rd_lvs (z : rd_Z) : Nat → rd_P → List (Int × rd_P)
  | 0, pre => [(rd_cost z pre, pre)]
  | k + 1, pre => (List.range (rd_n z)).flatMap (rd_kid (rd_lvs z k) z pre)
def rd_up (acc : Option (Int × rd_P)) (lf : Int × rd_P) : Option (Int × rd_P) := match acc with
  | none => some lf
  | some a => if lf.1 < a.1 then some lf else some a
/-- the best order -/
def rd_best (z : rd_Z) : Option (Int × rd_P) := (rd_lvs z (rd_n z) []).foldl rd_up none
def rd_gd (z : rd_Z) (pre : rd_P) : Prop := (∀ q ∈ pre, q.1 < 7 ∧ rd_th z q.1 = true ∧ 0 ≤ q.2 ∧ q.2 ≤ 3000) ∧ (pre.map Prod.fst).Nodup
theorem rd_lk_app (o : Nat) (pre : rd_P) (m : Nat) (s : Int) : rd_lk o (pre ++ [(m, s)]) = match rd_lk o pre with
    | some x => some x
    | none => if m = o then some s else none := by
  induction pre with
  | nil => simp [rd_lk]
  | cons q r ih =>
    simp only [List.cons_append, rd_lk]
    split
    · rfl
    · exact ih
theorem rd_lk_mem {o : Nat} {pre : rd_P} {s : Int} (h : rd_lk o pre = some s) : (o, s) ∈ pre := by
  induction pre with
  | nil => cases h
  | cons q r ih =>
    simp only [rd_lk] at h
    split at h
    · rename_i e
      cases h
      rw [← e]
      exact List.mem_cons_self
    · exact List.mem_cons_of_mem _ (ih h)
theorem rd_lk_none {o : Nat} {pre : rd_P} : rd_lk o pre = none ↔ o ∉ pre.map Prod.fst := by
  induction pre with
  | nil => simp [rd_lk]
  | cons q r ih =>
    simp only [rd_lk, List.map_cons, List.mem_cons, not_or]
    split
    · rename_i e
      simp [e]
    · rename_i e
      rw [ih]
      constructor
      · intro h; exact ⟨fun e' => e e'.symm, h⟩
      · intro h; exact h.2
theorem rd_need_app (z : rd_Z) (pre : rd_P) (m : Nat) (s : Int) (o : Nat) : rd_need z (pre ++ [(m, s)]) o = max (rd_need z pre o) (s + rd_gap z m o) := by
  simp [rd_need, List.foldl_append]
theorem rd_cost_app (z : rd_Z) (pre : rd_P) (m : Nat) (s : Int) : rd_cost z (pre ++ [(m, s)]) = rd_cost z pre + rd_dl z m s := by
  simp [rd_cost, List.foldl_append]
theorem rd_dl_ge {z : rd_Z} {m : Nat} (hz : rd_ok z) (hm : m < 7) (s : Int) : 0 ≤ rd_dl z m s := by
  have h := hz.1 m hm
  exact Int.mul_nonneg (by omega) (by omega)
theorem rd_dl_mono {z : rd_Z} {m : Nat} {s t : Int} (hz : rd_ok z) (hm : m < 7) (hst : s ≤ t) : rd_dl z m s ≤ rd_dl z m t := by
  have h := hz.1 m hm
  exact Int.mul_le_mul_of_nonneg_left (by omega) (by omega)
theorem rd_rdl_ne {z : rd_Z} {r : Nat → Int} (hz : rd_ok z) : rd_rdl z r ≠ -1 ↔ ∀ m, m < 7 → rd_th z m = true → r m ≠ -1 := by
  have hs : 0 ≤ rd_sum (fun m => if rd_th z m = true then rd_dl z m (r m) else 0) 7 := by
    have := rd_sum_mono (f := fun _ => 0) (g := fun m => if rd_th z m = true then rd_dl z m (r m) else 0) (n := 7) (fun i hi => by
      skip
      split
      · exact rd_dl_ge hz hi _
      · exact Int.le_refl _)
    have e : rd_sum (fun _ => (0 : Int)) 7 = 0 := rfl
    omega
  unfold rd_rdl
  constructor
  · intro h m hm ht he
    rw [if_pos (rd_any_iff.mpr ⟨m, hm, by simp [ht, he]⟩)] at h
    exact h rfl
  · intro h
    rw [if_neg]
    · omega
    · intro ha
      obtain ⟨m, h1, h2⟩ := rd_any_iff.mp ha
      simp only [Bool.and_eq_true, decide_eq_true_eq] at h2
      exact h m h1 h2.1 h2.2
theorem rd_rdl_eq {z : rd_Z} {r : Nat → Int} (hz : rd_ok z) (h : ∀ m, m < 7 → rd_th z m = true → r m ≠ -1) : rd_rdl z r = rd_sum (fun m => if rd_th z m = true then rd_dl z m (r m) else 0) 7 := by
  unfold rd_rdl
  rw [if_neg]
  intro ha
  obtain ⟨m, h1, h2⟩ := rd_any_iff.mp ha
  simp only [Bool.and_eq_true, decide_eq_true_eq] at h2
  exact h m h1 h2.1 h2.2
theorem rd_rdl_mono {z : rd_Z} {r r' : Nat → Int} (hz : rd_ok z) (h : ∀ m, m < 7 → rd_th z m = true → r' m ≠ -1 → r m ≠ -1 ∧ r m ≤ r' m) (h' : rd_rdl z r' ≠ -1) : rd_rdl z r ≠ -1 ∧ rd_rdl z r ≤ rd_rdl z r' := by
  have h1 := (rd_rdl_ne hz).mp h'
  have h2 : ∀ m, m < 7 → rd_th z m = true → r m ≠ -1 := fun m hm ht => (h m hm ht (h1 m hm ht)).1
  refine ⟨(rd_rdl_ne hz).mpr h2, ?_⟩
  rw [rd_rdl_eq hz h1, rd_rdl_eq hz h2]
  refine rd_sum_mono fun i hi => ?_
  skip
  split
  · rename_i ht
    exact rd_dl_mono hz hi (h i hi ht (h1 i hi ht)).2
  · exact Int.le_refl _
/-- one movement more: nobody comes earlier -/
theorem rd_row_mono {z : rd_Z} {pre : rd_P} {m : Nat} (hz : rd_ok z) (hm : rd_lk m pre = none) {o : Nat} (ho : o < 7)
    (h : rd_row z (pre ++ [(m, rd_sec z m (rd_need z pre m))]) o ≠ -1) : rd_row z pre o ≠ -1 ∧ rd_row z pre o ≤ rd_row z (pre ++ [(m, rd_sec z m (rd_need z pre m))]) o := by
  unfold rd_row at h ⊢
  rw [rd_lk_app] at h ⊢
  cases hk : rd_lk o pre with
  | some x => rw [hk] at h; exact ⟨h, Int.le_refl _⟩
  | none =>
    rw [hk] at h
    dsimp only at h ⊢
    by_cases e : m = o
    · subst e
      simp only [if_true] at h ⊢
      exact ⟨h, Int.le_refl _⟩
    · simp only [if_neg e] at h ⊢
      rw [rd_need_app] at h ⊢
      have hle : rd_need z pre o ≤ max (rd_need z pre o) (rd_sec z m (rd_need z pre m) + rd_gap z m o) := by omega
      exact ⟨fun q => h (rd_sec_none hz hle q ho), rd_sec_mono hz hle h⟩
theorem rd_gd_app {z : rd_Z} {pre : rd_P} {m : Nat} (hz : rd_ok z) (hg : rd_gd z pre) (hm : m < 7) (ht : rd_th z m = true) (hk : rd_lk m pre = none) (hs : rd_sec z m (rd_need z pre m) ≠ -1) :
    rd_gd z (pre ++ [(m, rd_sec z m (rd_need z pre m))]) := by
  have h1 := rd_sec_ge hz hm hs
  refine ⟨fun q hq => ?_, ?_⟩
  · rcases List.mem_append.mp hq with h | h
    · exact hg.1 q h
    · rw [List.mem_singleton.mp h]; exact ⟨hm, ht, h1.2.1, h1.2.2⟩
  · rw [List.map_append, List.nodup_append]
    refine ⟨hg.2, by simp, ?_⟩
    intro a ha b hb
    simp only [List.map_cons, List.map_nil, List.mem_singleton] at hb
    subst hb
    intro e
    subst e
    exact rd_lk_none.mp hk ha
/-- the delay so far, by movements -/
theorem rd_cost_sum {z : rd_Z} {pre : rd_P} (hg : rd_gd z pre) : rd_cost z pre = rd_sum (fun m => match rd_lk m pre with | some s => rd_dl z m s | none => 0) 7 := by
  have key : ∀ (r : rd_P), rd_gd z r.reverse → rd_cost z r.reverse = rd_sum (fun m => match rd_lk m r.reverse with | some s => rd_dl z m s | none => 0) 7 := by
    intro r
    induction r with
    | nil => intro _; rfl
    | cons q r ih =>
      intro hg
      obtain ⟨m, s⟩ := q
      rw [List.reverse_cons] at hg ⊢
      have hg' : rd_gd z r.reverse := by
        refine ⟨fun q hq => hg.1 q (List.mem_append_left _ hq), ?_⟩
        have := hg.2
        rw [List.map_append, List.nodup_append] at this
        exact this.1
      have hm : m < 7 := (hg.1 (m, s) (by simp)).1
      have hk : rd_lk m r.reverse = none := by
        rw [rd_lk_none]
        intro hmem
        have := hg.2
        rw [List.map_append, List.nodup_append] at this
        exact this.2.2 m hmem m (by simp) rfl
      rw [rd_cost_app, ih hg']
      symm
      refine rd_sum_set (j := m) hm (fun i hi hne => ?_) ?_
      · skip
        rw [rd_lk_app]
        cases hx : rd_lk i r.reverse with
        | some x => rfl
        | none => dsimp only; rw [if_neg (fun e => hne e.symm)]
      · skip
        rw [rd_lk_app, hk]
        simp
  have := key pre.reverse
  rw [List.reverse_reverse] at this
  exact this hg
/-- an order that has all: who is there stands in it -/
theorem rd_full {z : rd_Z} {pre : rd_P} (hg : rd_gd z pre) (hn : pre.length = rd_n z) : ∀ m, m < 7 → rd_th z m = true → rd_lk m pre ≠ none := by
  have h1 := rd_cnt_list (n := 7) (pre.map Prod.fst) hg.2 (fun x hx => by
    obtain ⟨q, hq, rfl⟩ := List.mem_map.mp hx
    exact (hg.1 q hq).1)
  rw [List.length_map] at h1
  have h2 := rd_cnt_all (p := fun i => decide (i ∈ pre.map Prod.fst)) (q := rd_th z) (n := 7) (fun i _ hi2 => by
    simp only [decide_eq_true_eq] at hi2
    obtain ⟨q, hq, rfl⟩ := List.mem_map.mp hi2
    exact (hg.1 q hq).2.1) (by rw [h1, hn]; exact Nat.le_refl _)
  intro m hm ht hk
  have := h2 m hm ht
  simp only [decide_eq_true_eq] at this
  exact rd_lk_none.mp hk this
theorem rd_full_cost {z : rd_Z} {pre : rd_P} (hz : rd_ok z) (hg : rd_gd z pre) (hn : pre.length = rd_n z) : rd_rdl z (rd_row z pre) ≠ -1 ∧ rd_rdl z (rd_row z pre) = rd_cost z pre := by
  have hf := rd_full hg hn
  have hr : ∀ m, m < 7 → rd_th z m = true → rd_row z pre m ≠ -1 := by
    intro m hm ht
    unfold rd_row
    cases hk : rd_lk m pre with
    | none => exact absurd hk (hf m hm ht)
    | some s =>
      have := (hg.1 _ (rd_lk_mem hk)).2.2.1
      dsimp only at this ⊢
      omega
  refine ⟨(rd_rdl_ne hz).mpr hr, ?_⟩
  rw [rd_rdl_eq hz hr, rd_cost_sum hg]
  refine rd_sum_congr fun i hi => ?_
  unfold rd_row
  cases hk : rd_lk i pre with
  | some s =>
    have := (hg.1 _ (rd_lk_mem hk)).2.1
    dsimp only at this ⊢
    rw [if_pos this]
  | none =>
    dsimp only
    by_cases ht : rd_th z i = true
    · exact absurd hk (hf i hi ht)
    · rw [if_neg ht]
theorem rd_kid_mem {f : rd_P → List (Int × rd_P)} {z : rd_Z} {pre : rd_P} {p : Nat} {lf : Int × rd_P} (h : lf ∈ rd_kid f z pre p) :
    rd_lk (rd_ln z p) pre = none ∧ rd_sec z (rd_ln z p) (rd_need z pre (rd_ln z p)) ≠ -1 ∧ lf ∈ f (pre ++ [(rd_ln z p, rd_sec z (rd_ln z p) (rd_need z pre (rd_ln z p)))]) := by
  unfold rd_kid at h
  split at h
  · cases h
  · rename_i h1
    split at h
    · cases h
    · split at h
      · cases h
      · rename_i h3
        refine ⟨?_, h3, h⟩
        cases hk : rd_lk (rd_ln z p) pre with
        | none => rfl
        | some x => rw [hk] at h1; exact absurd rfl h1
/-- the delay of a row is the least that an order with this beginning can have -/
theorem rd_lb {z : rd_Z} (hz : rd_ok z) : ∀ (k : Nat) (pre : rd_P), rd_gd z pre → pre.length + k = rd_n z → ∀ lf ∈ rd_lvs z k pre, rd_rdl z (rd_row z pre) ≠ -1 ∧ rd_rdl z (rd_row z pre) ≤ lf.1
  | 0, pre, hg, hn, lf, h => by
    simp only [rd_lvs, List.mem_singleton] at h
    subst h
    have := rd_full_cost hz hg (by omega)
    exact ⟨this.1, by rw [this.2]; exact Int.le_refl _⟩
  | k + 1, pre, hg, hn, lf, h => by
    simp only [rd_lvs, List.mem_flatMap, List.mem_range] at h
    obtain ⟨p, hp, h⟩ := h
    obtain ⟨h1, h2, h3⟩ := rd_kid_mem h
    obtain ⟨g1, g2, -⟩ := rd_ln_ok hp
    have ih := rd_lb hz k _ (rd_gd_app hz hg g1 g2 h1 h2) (by simp; omega) lf h3
    have hm := rd_rdl_mono hz (r := rd_row z pre) (fun m hm _ hne => rd_row_mono hz h1 hm hne) ih.1
    exact ⟨hm.1, by omega⟩
theorem rd_lb2 {z : rd_Z} (hz : rd_ok z) : ∀ (k : Nat) (pre : rd_P), ∀ lf ∈ rd_lvs z k pre, rd_cost z pre ≤ lf.1
  | 0, pre, lf, h => by
    simp only [rd_lvs, List.mem_singleton] at h
    subst h
    exact Int.le_refl _
  | k + 1, pre, lf, h => by
    simp only [rd_lvs, List.mem_flatMap, List.mem_range] at h
    obtain ⟨p, hp, h⟩ := h
    obtain ⟨h1, h2, h3⟩ := rd_kid_mem h
    have ih := rd_lb2 hz k _ lf h3
    rw [rd_cost_app] at ih
    have := rd_dl_ge hz (rd_ln_ok hp).1 (rd_sec z (rd_ln z p) (rd_need z pre (rd_ln z p)))
    omega
theorem rd_up_skip {L : List (Int × rd_P)} {a : Int × rd_P} (h : ∀ lf ∈ L, a.1 ≤ lf.1) : L.foldl rd_up (some a) = some a := by
  induction L with
  | nil => rfl
  | cons lf L ih =>
    rw [List.foldl_cons]
    have h1 := h lf List.mem_cons_self
    have : rd_up (some a) lf = some a := by
      unfold rd_up
      dsimp only
      rw [if_neg (by omega)]
    rw [this]
    exact ih fun x hx => h x (List.mem_cons_of_mem _ hx)
/-- not worthwhile: nothing changes -/
theorem rd_skip {z : rd_Z} (hz : rd_ok z) {k : Nat} {pre : rd_P} (hg : rd_gd z pre) (hn : pre.length + k = rd_n z) {acc : Option (Int × rd_P)}
    (h : rd_rdl z (rd_row z pre) = -1 ∨ ∃ a, acc = some a ∧ a.1 ≤ rd_rdl z (rd_row z pre)) : (rd_lvs z k pre).foldl rd_up acc = acc := by
  rcases h with h | ⟨a, rfl, h⟩
  · have : rd_lvs z k pre = [] := by
      cases hl : rd_lvs z k pre with
      | nil => rfl
      | cons lf L => exact absurd h (rd_lb hz k pre hg hn lf (by rw [hl]; exact List.mem_cons_self)).1
    rw [this]; rfl
  · exact rd_up_skip fun lf hlf => Int.le_trans h (rd_lb hz k pre hg hn lf hlf).2
theorem rd_skip2 {z : rd_Z} (hz : rd_ok z) {k : Nat} {pre : rd_P} {a : Int × rd_P} (h : a.1 ≤ rd_cost z pre) : (rd_lvs z k pre).foldl rd_up (some a) = some a :=
  rd_up_skip fun lf hlf => Int.le_trans h (rd_lb2 hz k pre lf hlf)
/-- the kids of the first p places -/
def rd_ks (z : rd_Z) (k : Nat) (pre : rd_P) (p : Nat) : List (Int × rd_P) := (List.range p).flatMap (rd_kid (rd_lvs z k) z pre)
theorem rd_ks_succ (z : rd_Z) (k : Nat) (pre : rd_P) (p : Nat) (acc : Option (Int × rd_P)) : (rd_ks z k pre (p + 1)).foldl rd_up acc = (rd_kid (rd_lvs z k) z pre p).foldl rd_up ((rd_ks z k pre p).foldl rd_up acc) := by
  unfold rd_ks
  rw [List.range_succ, List.flatMap_append, List.foldl_append]
  simp
theorem rd_ks_full (z : rd_Z) (k : Nat) (pre : rd_P) : rd_ks z k pre (rd_n z) = rd_lvs z (k + 1) pre := rfl
/-- the row behind one movement more, out of the row before -/
theorem rd_row_next {z : rd_Z} {pre : rd_P} {m : Nat} (hz : rd_ok z) {s : Int} {o : Nat} (ho : o < 7) (hne : rd_row z pre o ≠ -1) (hk : rd_lk o (pre ++ [(m, s)]) = none) :
    rd_sec z o (max (rd_row z pre o) (s + rd_gap z m o)) = rd_row z (pre ++ [(m, s)]) o := by
  have hk0 : rd_lk o pre = none := by
    rw [rd_lk_app] at hk
    cases h : rd_lk o pre with
    | none => rfl
    | some x => rw [h] at hk; cases hk
  have e1 : rd_row z pre o = rd_sec z o (rd_need z pre o) := by unfold rd_row; rw [hk0]
  have e2 : rd_row z (pre ++ [(m, s)]) o = rd_sec z o (rd_need z (pre ++ [(m, s)]) o) := by unfold rd_row; rw [hk]
  rw [e2, rd_need_app, e1]
  rw [e1] at hne
  exact rd_sec_max hz ho hne
end RDS
