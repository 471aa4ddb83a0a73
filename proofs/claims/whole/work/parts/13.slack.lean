/-! pure mathematics of the desk: sound plans, and how far one can be moved -/
section RDL
/-- a movement's place in a plan -/
def rd_pi (r : Nat → Int) (m : Nat) : Nat := rd_plc (fun o => decide (r o ≠ -1)) r m
/-- is one ahead of it too near -/
def rd_nr (z : rd_Z) (r : Nat → Int) (m : Nat) : Bool := rd_any (fun o => decide (r o ≠ -1) && rd_bf r o m && decide (r m - r o < rd_gap z o m)) 7
def rd_sf (z : rd_Z) (r : Nat → Int) (m : Nat) : Bool :=
  decide (r m ≠ -1) && (decide (z 2 m ≤ r m) && decide (r m ≤ z 4 m)) && !rd_cl z (r m) && (decide (z 6 m = -1) || decide (z 6 m = r m)) && !rd_nr z r m && rd_may z m (rd_pi r m) (rd_pl z m)
/-- the least movement for which the plan isn't sound -/
def rd_lu (z : rd_Z) (r : Nat → Int) : Option Nat := rd_fst (fun m => rd_th z m && !rd_sf z r m) 7
theorem rd_lu_none {z : rd_Z} {r : Nat → Int} : rd_lu z r = none ↔ ∀ m, m < 7 → rd_th z m = true → rd_sf z r m = true := by
  constructor
  · intro h m hm ht
    have := rd_fst_none h m hm
    simpa [ht] using this
  · intro h
    refine rd_fst_all fun m hm => ?_
    cases ht : rd_th z m with
    | false => simp
    | true => simp [h m hm ht]
theorem rd_sf_iff {z : rd_Z} {r : Nat → Int} {m : Nat} : rd_sf z r m = true ↔ r m ≠ -1 ∧ (z 2 m ≤ r m ∧ r m ≤ z 4 m) ∧ rd_cl z (r m) = false ∧ (z 6 m = -1 ∨ z 6 m = r m) ∧ rd_nr z r m = false ∧ rd_may z m (rd_pi r m) (rd_pl z m) = true := by
  unfold rd_sf
  simp only [Bool.and_eq_true, decide_eq_true_eq, Bool.or_eq_true, Bool.not_eq_true']
  constructor
  · rintro ⟨⟨⟨⟨⟨h1, h2⟩, h3⟩, h4⟩, h5⟩, h6⟩; exact ⟨h1, h2, h3, h4, h5, h6⟩
  · rintro ⟨h1, h2, h3, h4, h5, h6⟩; exact ⟨⟨⟨⟨⟨h1, h2⟩, h3⟩, h4⟩, h5⟩, h6⟩
/-- the plan with m at s -/
def rd_at (r : Nat → Int) (m : Nat) (s : Int) : Nat → Int := fun o => if o = m then s else r o
theorem rd_at_self (r : Nat → Int) (m : Nat) (s : Int) : rd_at r m s m = s := by simp [rd_at]
theorem rd_at_ne {r : Nat → Int} {m : Nat} {s : Int} {o : Nat} (h : o ≠ m) : rd_at r m s o = r o := by simp [rd_at, h]
theorem rd_gap_ge {z : rd_Z} (hz : rd_ok z) {a b : Nat} (ha : a < 7) (hb : b < 7) : 45 ≤ rd_gap z a b ∧ rd_gap z a b ≤ 300 := by
  have h1 := hz.1 a ha
  have h2 := hz.1 b hb
  exact hz.2.1 _ (by omega)
/-- one second later is sound too, unless .. -/
theorem rd_step {z : rd_Z} {r : Nat → Int} {m : Nat} {s : Int} (hz : rd_ok z) (hm : m < 7) (ht : rd_th z m = true) (hr : ∀ o, o < 7 → r o ≠ -1 → rd_th z o = true) (hr0 : ∀ o, o < 7 → -1 ≤ r o) (hs : 0 ≤ s)
    (h : rd_lu z (rd_at r m s) = none) (hl : s + 1 ≤ z 4 m) (hf : z 6 m = -1) (hc : ∀ c, c < rd_nc z → z 8 c ≠ s + 1) (ho : ∀ o, o < 7 → o ≠ m → r o ≠ -1 → r o - rd_gap z m o ≠ s) : rd_lu z (rd_at r m (s + 1)) = none := by
  have hS := rd_lu_none.mp h
  have hSm := rd_sf_iff.mp (hS m hm ht)
  -- who is in the plan beside m lies far from it
  have far : ∀ o, o < 7 → o ≠ m → r o ≠ -1 → (r o < s ∧ rd_gap z o m ≤ s - r o) ∨ (s < r o ∧ rd_gap z m o < r o - s) := by
    intro o h7 hne hro
    have hg1 := rd_gap_ge hz h7 hm
    have hg2 := rd_gap_ge hz hm h7
    rcases rd_bf_tot (t := rd_at r m s) hne with hb | hb
    · have h5 := rd_any_false.mp hSm.2.2.2.2.1 o h7
      rw [hb, rd_at_ne hne, rd_at_self] at h5
      simp [hro] at h5
      left; omega
    · have h5 := rd_any_false.mp (rd_sf_iff.mp (hS o h7 (hr o h7 hro))).2.2.2.2.1 m hm
      rw [hb, rd_at_ne hne, rd_at_self] at h5
      have hs1 : s ≠ -1 := by omega
      simp [hs1] at h5
      have := ho o h7 hne hro
      right; omega
  have bfe : ∀ a b, a < 7 → b < 7 → rd_at r m s a ≠ -1 → rd_at r m s b ≠ -1 → rd_bf (rd_at r m (s + 1)) a b = rd_bf (rd_at r m s) a b := by
    intro a b ha hb hra hrb
    by_cases e1 : a = m
    · by_cases e2 : b = m
      · subst e1; subst e2; rw [rd_bf_irr, rd_bf_irr]
      · subst e1
        rw [rd_at_ne e2] at hrb
        have hg1 := rd_gap_ge hz hb hm
        have hg2 := rd_gap_ge hz hm hb
        have hfar := far b hb e2 hrb
        simp only [rd_bf, rd_at_self, rd_at_ne e2]
        rw [Bool.eq_iff_iff]
        simp only [Bool.or_eq_true, Bool.and_eq_true, decide_eq_true_eq]
        omega
    · by_cases e2 : b = m
      · subst e2
        rw [rd_at_ne e1] at hra
        have hg1 := rd_gap_ge hz ha hm
        have hg2 := rd_gap_ge hz hm ha
        have hfar := far a ha e1 hra
        simp only [rd_bf, rd_at_self, rd_at_ne e1]
        rw [Bool.eq_iff_iff]
        simp only [Bool.or_eq_true, Bool.and_eq_true, decide_eq_true_eq]
        omega
      · simp only [rd_bf, rd_at_ne e1, rd_at_ne e2]
  have hin : ∀ a, (rd_at r m (s + 1) a ≠ -1) ↔ (rd_at r m s a ≠ -1) := by
    intro a
    by_cases e1 : a = m
    · subst e1; rw [rd_at_self, rd_at_self]; omega
    · rw [rd_at_ne e1, rd_at_ne e1]
  have pie : ∀ b, b < 7 → rd_at r m s b ≠ -1 → rd_pi (rd_at r m (s + 1)) b = rd_pi (rd_at r m s) b := by
    intro b hb hrb
    unfold rd_pi rd_plc
    refine rd_cnt_congr fun a ha => ?_
    by_cases hra : rd_at r m s a = -1
    · have : rd_at r m (s + 1) a = -1 := by
        by_cases hq : rd_at r m (s + 1) a = -1
        · exact hq
        · exact absurd hra ((hin a).mp hq)
      simp [hra, this]
    · have h1 : rd_at r m (s + 1) a ≠ -1 := (hin a).mpr hra
      simp only [decide_eq_true h1, decide_eq_true hra, Bool.true_and]
      exact bfe a b ha hb hra hrb
  refine rd_lu_none.mpr fun o h7 hto => rd_sf_iff.mpr ?_
  have hSo := rd_sf_iff.mp (hS o h7 hto)
  by_cases e : o = m
  · subst e
    rw [rd_at_self] at hSo ⊢
    refine ⟨by omega, by omega, ?_, Or.inl hf, ?_, ?_⟩
    · refine rd_any_false.mpr fun k hk => ?_
      have h1 := rd_any_false.mp hSo.2.2.1 k hk
      have h2 := hc k hk
      simp only [rd_in, Bool.and_eq_false_iff, decide_eq_false_iff_not] at h1 ⊢
      omega
    · refine rd_any_false.mpr fun a ha => ?_
      by_cases e1 : a = o
      · subst e1; rw [rd_bf_irr]; simp
      · by_cases hra : r a = -1
        · rw [rd_at_ne e1]; simp [hra]
        · have hg1 := rd_gap_ge hz ha h7
          have hg2 := rd_gap_ge hz h7 ha
          have hfar := far a ha e1 hra
          rw [rd_at_ne e1, rd_at_self]
          simp only [rd_bf, rd_at_ne e1, rd_at_self]
          cases hd : decide (s + 1 - r a < rd_gap z a o) with
          | false => simp
          | true =>
            simp only [decide_eq_true_eq] at hd
            have q1 : ¬ r a < s + 1 := by omega
            have q2 : ¬ r a = s + 1 := by omega
            simp [q1, q2]
    · rw [pie o h7 (by rw [rd_at_self]; omega)]
      exact hSo.2.2.2.2.2
  · have hro : rd_at r m s o ≠ -1 := hSo.1
    have ep := pie o h7 hro
    rw [rd_at_ne e] at hSo ⊢
    refine ⟨hSo.1, hSo.2.1, hSo.2.2.1, hSo.2.2.2.1, ?_, by rw [ep]; exact hSo.2.2.2.2.2⟩
    refine rd_any_false.mpr fun a ha => ?_
    have h5 := rd_any_false.mp hSo.2.2.2.2.1 a ha
    by_cases e1 : a = m
    · subst e1
      have hg1 := rd_gap_ge hz h7 ha
      have hg2 := rd_gap_ge hz ha h7
      have hfar := far o h7 e (by rw [← rd_at_ne (r := r) (s := s) e]; exact hro)
      rw [rd_at_self, rd_at_ne e]
      simp only [rd_bf, rd_at_ne e, rd_at_self]
      cases hd : decide (r o - (s + 1) < rd_gap z a o) with
      | false => simp
      | true =>
        simp only [decide_eq_true_eq] at hd
        have q1 : ¬ s + 1 < r o := by omega
        have q2 : ¬ s + 1 = r o := by omega
        simp [q1, q2]
    · rw [rd_at_ne e1, rd_at_ne e] at h5 ⊢
      by_cases hra : r a = -1
      · simp [hra]
      · rw [bfe a o ha h7 (by rw [rd_at_ne e1]; exact hra) hro]
        exact h5
/-- the last sound second of the first k behind had, by how much it lies behind it -/
def rd_gr (z : rd_Z) (r : Nat → Int) (m : Nat) : Nat → Nat
  | 0 => 0
  | k + 1 => if rd_lu z (rd_at r m (r m + (k + 1 : Nat))) = none then k + 1 else rd_gr z r m k
theorem rd_gr_le (z : rd_Z) (r : Nat → Int) (m k : Nat) : rd_gr z r m k ≤ k := by
  induction k with
  | zero => simp [rd_gr]
  | succ k ih => simp only [rd_gr]; split <;> omega
theorem rd_gr_ok {z : rd_Z} {r : Nat → Int} {m k : Nat} (h : rd_gr z r m k ≠ 0) : rd_lu z (rd_at r m (r m + (rd_gr z r m k : Nat))) = none := by
  induction k with
  | zero => exact absurd rfl h
  | succ k ih =>
    simp only [rd_gr] at h ⊢
    split
    · rename_i h1; exact h1
    · rename_i h1
      rw [if_neg h1] at h
      exact ih h
theorem rd_gr_max {z : rd_Z} {r : Nat → Int} {m k j : Nat} (hj : j ≤ k) (h : rd_lu z (rd_at r m (r m + (j : Nat))) = none) : j ≤ rd_gr z r m k := by
  induction k with
  | zero => omega
  | succ k ih =>
    simp only [rd_gr]
    split
    · omega
    · rename_i h1
      rcases Nat.lt_succ_iff_lt_or_eq.mp (Nat.lt_succ_of_le hj) with h2 | h2
      · exact ih (by omega)
      · subst h2; exact absurd h h1
/-- the desk's way: from candidate to candidate -/
def rd_lt (z : rd_Z) (r : Nat → Int) (m : Nat) (a c : Int) : Int := if c ≤ a then a else if rd_lu z (rd_at r m c) = none then c else a
def rd_cands (z : rd_Z) (r : Nat → Int) (m : Nat) : List Int := z 4 m :: ((List.range (rd_nc z)).map (fun c => z 8 c - 1) ++ ((List.range 7).filter (fun o => decide (o ≠ m) && decide (r o ≠ -1))).map (fun o => r o - rd_gap z m o))
theorem rd_lt_fold {z : rd_Z} {r : Nat → Int} {m : Nat} {b : Int} (hb : ∀ c, rd_lu z (rd_at r m c) = none → c ≤ b) : ∀ (l : List Int) (a : Int), a ≤ b → l.foldl (rd_lt z r m) a ≤ b ∧ a ≤ l.foldl (rd_lt z r m) a ∧ (b ∈ l → rd_lu z (rd_at r m b) = none → b ≤ l.foldl (rd_lt z r m) a)
  | [], a, ha => ⟨ha, Int.le_refl _, fun h => by cases h⟩
  | c :: l, a, ha => by
    have h1 : rd_lt z r m a c ≤ b ∧ a ≤ rd_lt z r m a c := by
      unfold rd_lt
      split
      · exact ⟨ha, Int.le_refl _⟩
      · split
        · rename_i h2; exact ⟨hb c h2, by omega⟩
        · exact ⟨ha, Int.le_refl _⟩
    obtain ⟨h2, h3, h4⟩ := rd_lt_fold hb l (rd_lt z r m a c) h1.1
    rw [List.foldl_cons]
    refine ⟨h2, by omega, fun hmem hs => ?_⟩
    rcases List.mem_cons.mp hmem with h5 | h5
    · subst h5
      have : b ≤ rd_lt z r m a b := by
        unfold rd_lt
        split
        · assumption
        · first | exact Int.le_refl _ | (rw [if_pos hs]; exact Int.le_refl _)
      omega
    · exact h4 h5 hs
theorem rd_slack {z : rd_Z} {r : Nat → Int} {m : Nat} (hz : rd_ok z) (hm : m < 7) (ht : rd_th z m = true) (hr : ∀ o, o < 7 → r o ≠ -1 → rd_th z o = true) (hr0 : ∀ o, o < 7 → -1 ≤ r o) (h0 : rd_lu z r = none) :
    (rd_cands z r m).foldl (rd_lt z r m) (r m) - r m = (rd_gr z r m (z 4 m - r m).toNat : Nat) := by
  have hSm := rd_sf_iff.mp (rd_lu_none.mp h0 m hm ht)
  have hz2 := hz.1 m hm
  have eself : rd_at r m (r m) = r := by
    funext o
    by_cases e : o = m
    · subst e; exact rd_at_self _ _ _
    · exact rd_at_ne e
  obtain ⟨g, hg⟩ : ∃ g, g = rd_gr z r m (z 4 m - r m).toNat := ⟨_, rfl⟩
  rw [← hg]
  have hgs : rd_lu z (rd_at r m (r m + (g : Nat))) = none := by
    by_cases h : g = 0
    · subst h
      have : r m + ((0 : Nat) : Int) = r m := by omega
      rw [this, eself]; exact h0
    · rw [hg] at h ⊢; exact rd_gr_ok h
  have hsr : ∀ c, rd_lu z (rd_at r m c) = none → z 2 m ≤ c ∧ c ≤ z 4 m ∧ (z 6 m = -1 ∨ z 6 m = c) := by
    intro c hc
    have := rd_sf_iff.mp (rd_lu_none.mp hc m hm ht)
    rw [rd_at_self] at this
    exact ⟨this.2.1.1, this.2.1.2, this.2.2.2.1⟩
  have hb : ∀ c, rd_lu z (rd_at r m c) = none → c ≤ r m + (g : Nat) := by
    intro c hc
    have h1 := hsr c hc
    by_cases hle : c ≤ r m
    · omega
    · have h2 := rd_gr_max (z := z) (r := r) (m := m) (k := (z 4 m - r m).toNat) (j := (c - r m).toNat) (by omega) (by
        have : r m + ((c - r m).toNat : Int) = c := by omega
        rw [this]; exact hc)
      rw [← hg] at h2
      omega
  have hmem : r m + (g : Nat) ∈ rd_cands z r m ∨ g = 0 := by
    by_cases hg0 : g = 0
    · exact Or.inr hg0
    · left
      unfold rd_cands
      have h1 := hsr _ hgs
      by_cases hlate : r m + (g : Nat) = z 4 m
      · rw [hlate]; exact List.mem_cons_self
      · have hf : z 6 m = -1 := by
          rcases h1.2.2 with q | q
          · exact q
          · have := hSm.2.2.2.1
            omega
        by_cases hc : ∃ c, c < rd_nc z ∧ z 8 c = r m + (g : Nat) + 1
        · obtain ⟨c, hc1, hc2⟩ := hc
          refine List.mem_cons_of_mem _ (List.mem_append_left _ (List.mem_map.mpr ⟨c, List.mem_range.mpr hc1, by omega⟩))
        · by_cases ho : ∃ o, o < 7 ∧ o ≠ m ∧ r o ≠ -1 ∧ r o - rd_gap z m o = r m + (g : Nat)
          · obtain ⟨o, o1, o2, o3, o4⟩ := ho
            refine List.mem_cons_of_mem _ (List.mem_append_right _ (List.mem_map.mpr ⟨o, List.mem_filter.mpr ⟨List.mem_range.mpr o1, by simp [o2, o3]⟩, o4⟩))
          · exfalso
            have h2 := rd_step hz hm ht hr hr0 (s := r m + (g : Nat)) (by omega) hgs (by omega) hf (fun c q1 q2 => hc ⟨c, q1, q2⟩) (fun o q1 q2 q3 q4 => ho ⟨o, q1, q2, q3, q4⟩)
            have := hb _ h2
            omega
  have hfold := rd_lt_fold hb (rd_cands z r m) (r m) (by omega)
  rcases hmem with h | h
  · have := hfold.2.2 h hgs
    omega
  · omega
end RDL
