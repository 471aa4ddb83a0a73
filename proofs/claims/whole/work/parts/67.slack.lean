/-! the desk's slack -/
section OP3
theorem bf_congr {r r' : Nat → Int} {a b : Nat} (h1 : r a = r' a) (h2 : r b = r' b) : rd_bf r a b = rd_bf r' a b := by unfold rd_bf; rw [h1, h2]
theorem sf_congr {z : rd_Z} {r r' : Nat → Int} (h : ∀ j, j < 7 → r j = r' j) {m : Nat} (hm : m < 7) : rd_sf z r m = rd_sf z r' m := by
  have e1 : rd_nr z r m = rd_nr z r' m := rd_any_congr (fun o ho => by rw [h o ho, h m hm, bf_congr (h o ho) (h m hm)])
  have e2 : rd_pi r m = rd_pi r' m := rd_cnt_congr (fun o ho => by dsimp only; rw [h o ho, bf_congr (h o ho) (h m hm)])
  unfold rd_sf
  rw [e1, e2, h m hm]
theorem lu_congr {z : rd_Z} {r r' : Nat → Int} (h : ∀ j, j < 7 → r j = r' j) : rd_lu z r = rd_lu z r' := rd_fst_congr (fun m hm => by rw [sf_congr h hm])
theorem oI_none {x : Option Nat} : oI x = -1 ↔ x = none := by
  cases x with
  | none => exact ⟨fun _ => rfl, fun _ => rfl⟩
  | some i => exact ⟨fun h => by have h : (i : Int) = -1 := h; omega, fun h => by cases h⟩
theorem uZ_fr {Z : wZ} {c m : Nat} {v : Int} : ∀ k j, (k ≠ c ∨ j ≠ m) → uZ Z c m v k j = Z k j := fun k j q => by
  by_cases h : k = c
  · subst h
    exact uZ_nj _ (by omega)
  · exact uZ_ne h j
theorem lt_B {z : rd_Z} {r : Nat → Int} {m : Nat} {a c : Int} (h1 : -1 ≤ a ∧ a ≤ 3000) (h2 : c ≤ 3000) : -1 ≤ rd_lt z r m a c ∧ rd_lt z r m a c ≤ 3000 := by
  unfold rd_lt
  split
  · exact h1
  · split
    · omega
    · exact h1

theorem s_26 {d : Nat} {Z : wZ} {Lg : Nat → Nat → Int64} {N : Nat} {X : Nat → Int32} {z : rd_Z} (hc : cR z Z) (hz : rd_ok z) (hB : zB z) {m : Nat} (hm : m < 7) {a c : Int} (ha : -1 ≤ a ∧ a ≤ 3000) (hcc : -1000 ≤ c ∧ c ≤ 3000) (hr : ∀ j, j < 7 → j ≠ m → Z 33 j = z 11 j) : am_T am_tabs am_ar (d + 5) 26 [.ref 0, .int (iI m), .int (iI a), .int (iI c)] (mW Z Lg N X) (am_iw (fun v w1 => v = rd_lt z (z 11) m a c ∧ ∃ Z1, w1 = mW Z1 Lg N X ∧ ∀ k j, (k ≠ 33 ∨ j ≠ m) → Z1 k j = Z k j)) := by
  refine ⟨⟨rfl, rfl⟩, ?_⟩
  show am_X (am_tb op_26) _ _ _
  have e : rd_lu z (uZ Z 33 m c 33) = rd_lu z (rd_at (z 11) m c) := lu_congr (fun j hj => by
    by_cases q : j = m
    · subst q; rw [uZ_eq, rd_at_self]
    · rw [uZ_nj _ q, rd_at_ne q, hr j hj q])
  have hP : a < c → pB (uZ Z 33 m c) 33 := fun q j hj => by
    by_cases q : j = m
    · subst q; rw [uZ_eq]; omega
    · rw [uZ_nj _ q, hr j hj q]; exact ok_rs hz hj
  refine r_iload rfl rfl ?_
  refine r_iload rfl rfl ?_
  refine r_c4 rfl (by first | exact iB0 | exact iB1 | exact iBm | exact hB _ _ | exact hT _ (by omega) | exact ⟨by omega, by omega⟩) (by first | exact iB0 | exact iB1 | exact iBm | exact hB _ _ | exact hT _ (by omega) | exact ⟨by omega, by omega⟩) (fun h2 => ?_) (fun h2 => ?_)
  · refine r_aload rfl rfl ?_
    refine q_getr rfl rfl rfl ?_
    refine r_iload rfl rfl ?_
    refine r_iload rfl rfl ?_
    refine q_iast rfl rfl (by omega) (by omega) rfl ?_
    refine r_aload rfl rfl ?_
    refine q_getr rfl rfl rfl ?_
    refine r_aload rfl rfl ?_
    refine q_getr rfl rfl rfl ?_
    refine r_ki1 rfl rfl rfl rfl rfl (s_94 (cR_u hc (by omega)) hz hB (k := 33) rfl (hP h2)) ?_
    refine r_push rfl ?_
    refine r_c1 rfl (oI_B (by omega)) iBm (fun h26 => ?_) (fun h26 => ?_)
    · refine r_iload rfl rfl ?_
      refine q_iret rfl rfl rfl ?_
      exact ⟨_, rfl, by rw [rd_lt, if_neg (by omega), if_neg (fun q => h26 (oI_none.mpr (e.trans q)))], _, rfl, uZ_fr⟩
    · refine r_iload rfl rfl ?_
      refine r_goto rfl ?_
      refine q_iret rfl rfl rfl ?_
      exact ⟨_, rfl, by rw [rd_lt, if_neg (by omega), if_pos (e ▸ oI_none.mp h26)], _, rfl, uZ_fr⟩
  · refine r_iload rfl rfl ?_
    refine q_iret rfl rfl rfl ?_
    exact ⟨_, rfl, (if_pos (by omega)).symm, Z, rfl, fun _ _ _ => rfl⟩

theorem s_25 {d : Nat} {Z : wZ} {Lg : Nat → Nat → Int64} {N : Nat} {X : Nat → Int32} {z : rd_Z} (hc : cR z Z) (hz : rd_ok z) (hB : zB z) {m : Nat} (hm : m < 7)  : am_T am_tabs am_ar (d + 6) 25 [.ref 0, .int (iI m)] (mW Z Lg N X) (am_iw (fun v w1 => v = (rd_cands z (z 11) m).foldl (rd_lt z (z 11) m) (z 11 m) ∧ ∃ Z1, w1 = mW Z1 Lg N X ∧ ∀ k j, k ≠ 33 → Z1 k j = Z k j)) := by
  refine ⟨⟨rfl, rfl⟩, ?_⟩
  show am_X (am_tb op_25) _ _ _
  have hrg := ok_rg hz hm
  have hrs := ok_rs hz hm
  have hnc := ok_nc hz
  have hcp : cR z (cpZ Z 31 33) := cR_of hc (fun k j q => by unfold cpZ; rw [if_neg (by omega)])
  have hcr : ∀ j, j < 7 → j ≠ m → cpZ Z 31 33 33 j = z 11 j := fun j hj _ => by
    show (if 33 = 33 then (if j < 7 then Z 31 j else _) else _) = _
    rw [if_pos rfl, if_pos hj]; exact hc.2.2.2.2.2.2.2.2.2.2.2.2.2.1 j
  refine r_aload rfl rfl ?_
  refine q_getr rfl rfl rfl ?_
  refine r_push rfl ?_
  refine r_aload rfl rfl ?_
  refine q_getr rfl rfl rfl ?_
  refine r_push rfl ?_
  refine r_push rfl ?_
  refine q_copy rfl rfl rfl rfl ?_
  refine r_aload rfl rfl ?_
  refine r_iload rfl rfl ?_
  refine r_aload rfl rfl ?_
  refine q_getr rfl rfl rfl ?_
  refine r_iload rfl rfl ?_
  refine q_iald rfl rfl (by omega) (by omega) rfl (hcp.2.2.2.2.2.2.2.2.2.2.2.2.2.1 m) ?_
  refine r_aload rfl rfl ?_
  refine q_getr rfl rfl rfl ?_
  refine q_getr rfl rfl rfl ?_
  refine r_iload rfl rfl ?_
  refine q_iald rfl rfl (by omega) (by omega) rfl (hcp.2.2.2.2.1 m) ?_
  refine r_kw3 rfl rfl rfl rfl rfl (s_26 hcp hz hB hm hrs ⟨by omega, by omega⟩ hcr) (fun x32 w1 h32 => ?_)
  obtain ⟨e32, Z1, rfl, q1⟩ := h32
  refine r_istore rfl ?_
  refine r_push rfl ?_
  refine r_istore rfl ?_
  refine r_loopS (fun o σ => ∃ (Z1 : wZ) (v : Int), v = ((z 4 m :: (List.range o).map (fun c => z 8 c - 1)).foldl (rd_lt z (z 11) m) (z 11 m)) ∧ -1 ≤ v ∧ v ≤ 3000 ∧ (∀ k j, k ≠ 33 → Z1 k j = Z k j) ∧ (∀ j, j < 7 → j ≠ m → Z1 33 j = z 11 j) ∧ σ = (38, [some (.ref 0), some (.int (iI m)), some (.int (iI v)), some (.int (iI o))], [], mW Z1 Lg N X, 0, 0)) (rd_nc z) (fun o σ ho hS1 hn => ?_) (fun σ hS1 => ?_) ⟨Z1, _, rfl, (lt_B hrs (by omega)).1, (lt_B hrs (by omega)).2, fun k j q => (q1 k j (Or.inl q)).trans (by unfold cpZ; rw [if_neg q]), fun j hj q => (q1 33 j (Or.inr q)).trans (hcr j hj q), by rw [e32]; rfl⟩
  · obtain ⟨Z1, v, t0, t1, t2, t3, t4, rfl⟩ := hS1
    have hc1 : cR z Z1 := cR_of hc (fun k j q => t3 k j (by omega))
    have hk := ok_cl hz ho
    refine r_iload rfl rfl ?_
    refine r_aload rfl rfl ?_
    refine q_getr rfl rfl rfl ?_
    refine q_geti rfl rfl rfl hc1.2.2.2.2.2.2.2.2.2.2.2.1 ?_
    refine r_c3 rfl (by first | exact iB0 | exact iB1 | exact iBm | exact hB _ _ | exact hT _ (by omega) | exact ⟨by omega, by omega⟩) (by first | exact iB0 | exact iB1 | exact iBm | exact hB _ _ | exact hT _ (by omega) | exact ⟨by omega, by omega⟩) (fun h46 => ?_) (fun h46 => ?_)
    · exfalso; omega
    · refine r_aload rfl rfl ?_
      refine r_iload rfl rfl ?_
      refine r_iload rfl rfl ?_
      refine r_aload rfl rfl ?_
      refine q_getr rfl rfl rfl ?_
      refine q_getr rfl rfl rfl ?_
      refine r_iload rfl rfl ?_
      refine q_iald rfl rfl (by omega) (by omega) rfl (hc1.2.2.2.2.2.2.2.2.1 o) ?_
      refine r_push rfl ?_
      refine r_isub rfl ?_
      refine r_kw3 rfl rfl rfl rfl rfl (s_26 hc1 hz hB hm ⟨t1, t2⟩ ⟨by omega, by omega⟩ t4) (fun x63 w1 h63 => ?_)
      obtain ⟨e63, Z2, rfl, q1⟩ := h63
      refine r_istore rfl ?_
      refine r_iinc rfl rfl ?_
      refine r_goto rfl ?_
      have hb : -1 ≤ x63 ∧ x63 ≤ 3000 := by rw [e63]; exact lt_B ⟨t1, t2⟩ (by omega)
      refine hn _ ⟨Z2, x63, ?_, hb.1, hb.2, fun k j q => (q1 k j (Or.inl q)).trans (t3 k j q), fun j hj q => (q1 33 j (Or.inr q)).trans (t4 j hj q), rfl⟩
      rw [e63, t0]
      simp [List.range_succ, List.foldl_append]
  · obtain ⟨Z1, v, t0, t1, t2, t3, t4, rfl⟩ := hS1
    have hc1 : cR z Z1 := cR_of hc (fun k j q => t3 k j (by omega))
    refine r_iload rfl rfl ?_
    refine r_aload rfl rfl ?_
    refine q_getr rfl rfl rfl ?_
    refine q_geti rfl rfl rfl hc1.2.2.2.2.2.2.2.2.2.2.2.1 ?_
    refine r_c3 rfl (by first | exact iB0 | exact iB1 | exact iBm | exact hB _ _ | exact hT _ (by omega) | exact ⟨by omega, by omega⟩) (by first | exact iB0 | exact iB1 | exact iBm | exact hB _ _ | exact hT _ (by omega) | exact ⟨by omega, by omega⟩) (fun h46 => ?_) (fun h46 => ?_)
    · refine r_push rfl ?_
      refine r_istore rfl ?_
      refine r_loopS (fun o σ => ∃ (Z1 : wZ) (v : Int), v = ((((List.range o).filter (fun o => decide (o ≠ m) && decide (z 11 o ≠ -1))).map (fun o => z 11 o - rd_gap z m o)).foldl (rd_lt z (z 11) m) ((z 4 m :: (List.range (rd_nc z)).map (fun c => z 8 c - 1)).foldl (rd_lt z (z 11) m) (z 11 m))) ∧ -1 ≤ v ∧ v ≤ 3000 ∧ (∀ k j, k ≠ 33 → Z1 k j = Z k j) ∧ (∀ j, j < 7 → j ≠ m → Z1 33 j = z 11 j) ∧ σ = (75, [some (.ref 0), some (.int (iI m)), some (.int (iI v)), some (.int (iI o))], [], mW Z1 Lg N X, 0, 0)) 7 (fun o σ ho hS1 hn => ?_) (fun σ hS1 => ?_) ⟨Z1, v, by simpa using t0, t1, t2, t3, t4, rfl⟩
      · obtain ⟨Z1, v, t0, t1, t2, t3, t4, rfl⟩ := hS1
        have hc1 : cR z Z1 := cR_of hc (fun k j q => t3 k j (by omega))
        have hk := ok_rs hz ho
        have hgg := rd_gap_ge hz hm ho
        refine r_iload rfl rfl ?_
        refine r_push rfl ?_
        refine r_c3 rfl (by first | exact iB0 | exact iB1 | exact iBm | exact hB _ _ | exact hT _ (by omega) | exact ⟨by omega, by omega⟩) (by first | exact iB0 | exact iB1 | exact iBm | exact hB _ _ | exact hT _ (by omega) | exact ⟨by omega, by omega⟩) (fun h78 => ?_) (fun h78 => ?_)
        · exfalso; omega
        · refine r_iload rfl rfl ?_
          refine r_iload rfl rfl ?_
          refine r_c0 rfl (by first | exact iB0 | exact iB1 | exact iBm | exact hB _ _ | exact hT _ (by omega) | exact ⟨by omega, by omega⟩) (by first | exact iB0 | exact iB1 | exact iBm | exact hB _ _ | exact hT _ (by omega) | exact ⟨by omega, by omega⟩) (fun h83 => ?_) (fun h83 => ?_)
          · refine r_iinc rfl rfl ?_
            refine r_goto rfl ?_
            refine hn _ ⟨Z1, v, ?_, t1, t2, t3, t4, rfl⟩
            have h83 : o = m := by omega
            rw [t0]
            simp [List.range_succ, List.filter_append, h83]
          · refine r_aload rfl rfl ?_
            refine q_getr rfl rfl rfl ?_
            refine r_iload rfl rfl ?_
            refine q_iald rfl rfl (by omega) (by omega) rfl (hc1.2.2.2.2.2.2.2.2.2.2.2.2.2.1 o) ?_
            refine r_push rfl ?_
            refine r_c0 rfl (by first | exact iB0 | exact iB1 | exact iBm | exact hB _ _ | exact hT _ (by omega) | exact ⟨by omega, by omega⟩) (by first | exact iB0 | exact iB1 | exact iBm | exact hB _ _ | exact hT _ (by omega) | exact ⟨by omega, by omega⟩) (fun h93 => ?_) (fun h93 => ?_)
            · refine r_iinc rfl rfl ?_
              refine r_goto rfl ?_
              refine hn _ ⟨Z1, v, ?_, t1, t2, t3, t4, rfl⟩
              rw [t0]
              simp [List.range_succ, List.filter_append, h93]
            · refine r_aload rfl rfl ?_
              refine r_iload rfl rfl ?_
              refine r_iload rfl rfl ?_
              refine r_aload rfl rfl ?_
              refine q_getr rfl rfl rfl ?_
              refine r_iload rfl rfl ?_
              refine q_iald rfl rfl (by omega) (by omega) rfl (hc1.2.2.2.2.2.2.2.2.2.2.2.2.2.1 o) ?_
              refine r_aload rfl rfl ?_
              refine q_getr rfl rfl rfl ?_
              refine r_iload rfl rfl ?_
              refine r_iload rfl rfl ?_
              refine r_ki2 rfl rfl rfl rfl rfl (s_84 hc1 hz hB hm ho) ?_
              refine r_isub rfl ?_
              refine r_kw3 rfl rfl rfl rfl rfl (s_26 hc1 hz hB hm ⟨t1, t2⟩ ⟨by omega, by omega⟩ t4) (fun x115 w1 h115 => ?_)
              obtain ⟨e115, Z2, rfl, q1⟩ := h115
              refine r_istore rfl ?_
              refine r_iinc rfl rfl ?_
              refine r_goto rfl ?_
              have hb : -1 ≤ x115 ∧ x115 ≤ 3000 := by rw [e115]; exact lt_B ⟨t1, t2⟩ (by omega)
              refine hn _ ⟨Z2, x115, ?_, hb.1, hb.2, fun k j q => (q1 k j (Or.inl q)).trans (t3 k j q), fun j hj q => (q1 33 j (Or.inr q)).trans (t4 j hj q), rfl⟩
              rw [e115, t0]
              have h83 : ¬ o = m := by omega
              simp [List.range_succ, List.filter_append, List.foldl_append, h83, h93]
      · obtain ⟨Z1, v, t0, t1, t2, t3, t4, rfl⟩ := hS1
        refine r_iload rfl rfl ?_
        refine r_push rfl ?_
        refine r_c3 rfl (by first | exact iB0 | exact iB1 | exact iBm | exact hB _ _ | exact hT _ (by omega) | exact ⟨by omega, by omega⟩) (by first | exact iB0 | exact iB1 | exact iBm | exact hB _ _ | exact hT _ (by omega) | exact ⟨by omega, by omega⟩) (fun h78 => ?_) (fun h78 => ?_)
        · refine r_iload rfl rfl ?_
          refine q_iret rfl rfl rfl ?_
          refine ⟨_, rfl, ?_, Z1, rfl, t3⟩
          rw [t0, rd_cands]
          simp [List.foldl_append]
        · exfalso; omega
    · exfalso; omega

theorem s_18 {d : Nat} {Z : wZ} {Lg : Nat → Nat → Int64} {N : Nat} {X : Nat → Int32} {z : rd_Z} (hc : cR z Z) (hz : rd_ok z) (hB : zB z) {m : Int} (hm : iB m) : am_T am_tabs am_ar (d + 7) 18 [.ref 0, .int (iI m)] (mW Z Lg N X) (dQ (f_sla z m) [2, 1] Z Lg N X) := by
  refine ⟨⟨rfl, rfl⟩, ?_⟩
  show am_X (am_tb op_18) _ _ _
  have e11 : Z 31 = z 11 := funext hc.2.2.2.2.2.2.2.2.2.2.2.2.2.1
  have hP := pB_11 hc hz
  refine r_aload rfl rfl ?_
  refine r_iload rfl rfl ?_
  refine r_x1 rfl rfl rfl rfl rfl (s_21 hc hz hB hm) (fun h2 => ?_) (fun h2 => ?_)
  · exact dQ_ex 0 (if_neg h2) rfl rfl hc
  obtain ⟨n, rfl⟩ : ∃ n : Nat, m = n := ⟨m.toNat, by omega⟩
  have hn : n < 7 := by omega
  have ht : rd_th z n = true := h2.2.2
  refine r_aload rfl rfl ?_
  refine q_getr rfl rfl rfl ?_
  refine r_aload rfl rfl ?_
  refine q_getr rfl rfl rfl ?_
  refine r_ki1 rfl rfl rfl rfl rfl (e11 ▸ s_94 hc hz hB (k := 31) rfl hP) ?_
  refine r_push rfl ?_
  refine r_c0 rfl (oI_B (by omega)) iBm (fun h17 => ?_) (fun h17 => ?_)
  · refine r_aload rfl rfl ?_
    refine r_iload rfl rfl ?_
    refine r_kw1 rfl rfl rfl rfl rfl (s_25 hc hz hB hn) (fun x30 w1 h30 => ?_)
    obtain ⟨e30, Z1, rfl, g0⟩ := h30
    have hc1 : cR z Z1 := cR_of hc (fun k j q => g0 k j (by omega))
    refine r_aload rfl rfl ?_
    refine q_getr rfl rfl rfl ?_
    refine r_iload rfl rfl ?_
    refine q_iald rfl rfl (by omega) (by omega) rfl (hc1.2.2.2.2.2.2.2.2.2.2.2.2.2.1 n) ?_
    refine r_isub rfl ?_
    refine q_iret rfl rfl rfl ?_
    have hl := oI_none.mp h17
    have hsl := rd_slack hz hn ht (fun j hj q => th_iff.mpr (fun q0 => q (ok_no hz hj q0).1)) (fun j hj => (ok_rs hz hj).1) hl
    exact dQ_ok ((if_pos h2).trans (if_pos hl)) (by rw [e30]; exact hsl) hc1 (fun k j q => g0 k j (by omega))
  · refine q_throw rfl rfl rfl rfl ?_
    exact dQ_ex 1 ((if_pos h2).trans (if_neg (fun q => h17 (oI_none.mpr q)))) rfl rfl hc

end OP3
