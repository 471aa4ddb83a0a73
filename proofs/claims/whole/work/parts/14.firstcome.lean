/-! pure mathematics of the desk: the first-come order's plan -/
section RDF
/-- the first-come order, its first k movements laid one behind the other -/
def rd_fc (z : rd_Z) : Nat → Option rd_P
  | 0 => some []
  | k + 1 => match rd_fc z k with
    | none => none
    | some pre => if rd_sec z (rd_ln z k) (rd_need z pre (rd_ln z k)) = -1 then none else some (pre ++ [(rd_ln z k, rd_sec z (rd_ln z k) (rd_need z pre (rd_ln z k)))])
def rd_fcv (z : rd_Z) : Int := match rd_fc z (rd_n z) with
  | none => -1
  | some pre => rd_cost z pre
theorem rd_fc_succ {z : rd_Z} {k : Nat} {pre : rd_P} (h : rd_fc z (k + 1) = some pre) : ∃ p0, rd_fc z k = some p0 ∧ rd_sec z (rd_ln z k) (rd_need z p0 (rd_ln z k)) ≠ -1 ∧ pre = p0 ++ [(rd_ln z k, rd_sec z (rd_ln z k) (rd_need z p0 (rd_ln z k)))] := by
  simp only [rd_fc] at h
  cases h0 : rd_fc z k with
  | none => rw [h0] at h; cases h
  | some p0 =>
    rw [h0] at h
    dsimp only at h
    by_cases hs : rd_sec z (rd_ln z k) (rd_need z p0 (rd_ln z k)) = -1
    · rw [if_pos hs] at h; cases h
    · rw [if_neg hs] at h
      exact ⟨p0, rfl, hs, (Option.some.inj h).symm⟩
theorem rd_fc_len {z : rd_Z} : ∀ {k : Nat} {pre : rd_P}, rd_fc z k = some pre → pre.length = k ∧ pre.map Prod.fst = (List.range k).map (rd_ln z)
  | 0, pre, h => by cases h; exact ⟨rfl, rfl⟩
  | k + 1, pre, h => by
    obtain ⟨p0, h0, -, rfl⟩ := rd_fc_succ h
    obtain ⟨h1, h2⟩ := rd_fc_len h0
    refine ⟨by simp [h1], ?_⟩
    rw [List.map_append, h2, List.range_succ, List.map_append]
    rfl
theorem rd_fc_lk {z : rd_Z} {k j : Nat} {pre : rd_P} (h : rd_fc z k = some pre) (hj : k ≤ j) (hn : j < rd_n z) : rd_lk (rd_ln z j) pre = none := by
  rw [rd_lk_none, (rd_fc_len h).2]
  intro hm
  obtain ⟨i, hi, he⟩ := List.mem_map.mp hm
  have hik := List.mem_range.mp hi
  have h1 := (rd_ln_ok (z := z) (p := i) (by omega)).2.2
  have h2 := (rd_ln_ok (z := z) (p := j) hn).2.2
  rw [he] at h1
  omega
theorem rd_fc_gd {z : rd_Z} (hz : rd_ok z) : ∀ {k : Nat} {pre : rd_P}, k ≤ rd_n z → rd_fc z k = some pre → rd_gd z pre
  | 0, pre, _, h => by cases h; exact ⟨fun _ h => (List.not_mem_nil h).elim, List.nodup_nil⟩
  | k + 1, pre, hk, h => by
    obtain ⟨p0, h0, h1, rfl⟩ := rd_fc_succ h
    have hl := rd_ln_ok (z := z) (p := k) (by omega)
    exact rd_gd_app hz (rd_fc_gd hz (by omega) h0) hl.1 hl.2.1 (rd_fc_lk h0 (Nat.le_refl _) (by omega)) h1
theorem rd_fc_none {z : rd_Z} {d : Nat} (h : rd_fc z d = none) : ∀ j, rd_fc z (d + j) = none
  | 0 => h
  | j + 1 => by
    show rd_fc z ((d + j) + 1) = none
    simp only [rd_fc]
    rw [rd_fc_none h j]
theorem rd_fc_need {z : rd_Z} {d : Nat} {pre : rd_P} (h : rd_fc z d = some pre) (o : Nat) : ∀ (j : Nat) (p1 : rd_P), rd_fc z (d + j) = some p1 → rd_need z pre o ≤ rd_need z p1 o
  | 0, p1, h1 => by
    rw [Nat.add_zero, h] at h1
    cases h1
    exact Int.le_refl _
  | j + 1, p1, h1 => by
    obtain ⟨p0, h0, -, rfl⟩ := rd_fc_succ (k := d + j) h1
    have ih := rd_fc_need h o j p0 h0
    rw [rd_need_app]
    omega
/-- one has no second: the first-come order has no plan -/
theorem rd_fc_stop {z : rd_Z} (hz : rd_ok z) {d : Nat} {pre : rd_P} (h : rd_fc z d = some pre) (hd : d ≤ rd_n z) (hr : rd_rdl z (rd_row z pre) = -1) : rd_fc z (rd_n z) = none := by
  by_cases hall : ∀ m, m < 7 → rd_th z m = true → rd_row z pre m ≠ -1
  · exact absurd hr ((rd_rdl_ne hz).mpr hall)
  · have hex : ∃ m, m < 7 ∧ rd_th z m = true ∧ rd_row z pre m = -1 := by
      refine Classical.byContradiction fun hn => hall fun m hm ht hq => hn ⟨m, hm, ht, hq⟩
    obtain ⟨m, hm, ht, hq⟩ := hex
    have hg := rd_fc_gd hz hd h
    have hk : rd_lk m pre = none := by
      cases hk : rd_lk m pre with
      | none => rfl
      | some s =>
        have := (hg.1 _ (rd_lk_mem hk)).2.2.1
        unfold rd_row at hq
        rw [hk] at hq
        dsimp only at hq this
        omega
    have hs : rd_sec z m (rd_need z pre m) = -1 := by
      unfold rd_row at hq
      rw [hk] at hq
      exact hq
    have hpl : rd_pl z m < rd_n z := rd_plc_n hm ht
    have hln : rd_ln z (rd_pl z m) = m := rd_ln_of hm ht
    have hge : d ≤ rd_pl z m := by
      rcases Nat.lt_or_ge (rd_pl z m) d with h1 | h1
      · exfalso
        rw [rd_lk_none, (rd_fc_len h).2] at hk
        exact hk (List.mem_map.mpr ⟨rd_pl z m, List.mem_range.mpr h1, hln⟩)
      · exact h1
    have h1 : rd_fc z (rd_pl z m + 1) = none := by
      simp only [rd_fc]
      cases h2 : rd_fc z (rd_pl z m) with
      | none => rfl
      | some p1 =>
        dsimp only
        rw [hln]
        have hn := rd_fc_need h m (rd_pl z m - d) p1 (by rw [show d + (rd_pl z m - d) = rd_pl z m by omega]; exact h2)
        rw [if_pos (rd_sec_none hz hn hs hm)]
    have := rd_fc_none h1 (rd_n z - (rd_pl z m + 1))
    rw [show rd_pl z m + 1 + (rd_n z - (rd_pl z m + 1)) = rd_n z by omega] at this
    exact this
/-- nobody is without a second: the next one can be laid -/
theorem rd_fc_next {z : rd_Z} (hz : rd_ok z) {d : Nat} {pre : rd_P} (h : rd_fc z d = some pre) (hd : d < rd_n z) (hr : rd_rdl z (rd_row z pre) ≠ -1) :
    rd_fc z (d + 1) = some (pre ++ [(rd_ln z d, rd_row z pre (rd_ln z d))]) := by
  have hl := rd_ln_ok (z := z) (p := d) hd
  have hk := rd_fc_lk h (Nat.le_refl _) hd
  have h1 := (rd_rdl_ne hz).mp hr _ hl.1 hl.2.1
  have e : rd_row z pre (rd_ln z d) = rd_sec z (rd_ln z d) (rd_need z pre (rd_ln z d)) := by
    unfold rd_row
    rw [hk]
  rw [e] at h1 ⊢
  simp only [rd_fc]
  rw [h]
  dsimp only
  rw [if_neg h1]
end RDF
