/-! the desk's other calls -/
section OP2
theorem th_add {z : rd_Z} {m : Nat} {t e g l w : Int} (j : Nat) : rd_th (z_add z m t e g l w) j = (rd_th z j || decide (j = m)) := by
  show decide (uZ z 0 m 1 0 j ≠ 0) = (decide (z 0 j ≠ 0) || decide (j = m))
  by_cases h : j = m
  · subst h; rw [uZ_eq]; simp
  · rw [uZ_nj _ h]; simp [h]
theorem n_add {z : rd_Z} {m : Nat} {t e g l w : Int} (hm : m < 7) (h : rd_th z m = false) : rd_n (z_add z m t e g l w) = rd_n z + 1 := by
  unfold rd_n
  rw [rd_cnt_congr (q := fun j => rd_th z j || decide (j = m)) (fun j _ => th_add j)]
  exact rd_cnt_set hm h
theorem th_rem {z : rd_Z} {m : Nat} (j : Nat) : rd_th (z_rem z m) j = (rd_th z j && decide (j ≠ m)) := by
  show decide (uZ z 0 m 0 0 j ≠ 0) = (decide (z 0 j ≠ 0) && decide (j ≠ m))
  by_cases h : j = m
  · subst h; rw [uZ_eq]; simp
  · rw [uZ_nj _ h]; simp [h]
theorem n_rem {z : rd_Z} {m : Nat} (hm : m < 7) (h : rd_th z m = true) : rd_n z = rd_n (z_rem z m) + 1 := by
  have h0 : rd_th (z_rem z m) m = false := by rw [th_rem]; simp
  unfold rd_n
  rw [← rd_cnt_set hm h0]
  refine rd_cnt_congr (fun j _ => ?_)
  rw [th_rem]
  by_cases e : j = m
  · subst e; simp [h]
  · simp [e]
theorem bI_none {z : rd_Z} (h : rd_best z = none) : bI z = -1 := by unfold bI; rw [h]
theorem bI_some {z : rd_Z} {a : Int × rd_P} (h : rd_best z = some a) : bI z = a.1 := by unfold bI; rw [h]
theorem uZ_back (z : rd_Z) (f j : Nat) (v : Int) : uZ (uZ z f j v) f j (z f j) = z := by
  funext a b
  by_cases h : a = f
  · subst h
    by_cases h2 : b = j
    · subst h2; exact uZ_eq _ _ _ _
    · rw [uZ_nj _ h2, uZ_nj _ h2]
  · rw [uZ_ne h, uZ_ne h]
theorem zB_u {z : rd_Z} (h : zB z) {f j : Nat} {v : Int} (hv : iB v) : zB (uZ z f j v) := by
  intro a b
  unfold uZ
  split
  · split
    · exact hv
    · exact h a b
  · exact h a b
theorem ok_u3 {z : rd_Z} (hz : rd_ok z) {n : Nat} {t : Int} (hn : n < 7) (h : z 2 n ≤ t ∧ t ≤ z 4 n) : rd_ok (uZ z 3 n t) := by
  obtain ⟨h1, h2⟩ := hz
  refine ⟨fun m hm => ?_, h2⟩
  have a := h1 m hm
  have b := h1 n hn
  show (z 0 m = 0 ∨ z 0 m = 1) ∧ 0 ≤ z 1 m ∧ z 1 m ≤ 5 ∧ 0 ≤ z 2 m ∧ z 2 m ≤ z 4 m ∧ z 4 m ≤ 3000 ∧ 0 ≤ uZ z 3 n t 3 m ∧ uZ z 3 n t 3 m ≤ 3000 ∧ 0 ≤ z 5 m ∧ z 5 m ≤ 100 ∧
    -1 ≤ z 6 m ∧ z 6 m ≤ 3000 ∧ -1 ≤ z 11 m ∧ z 11 m ≤ 3000 ∧ -1 ≤ z 12 m ∧ z 12 m ≤ 3000 ∧ (z 0 m = 0 → z 11 m = -1 ∧ z 12 m = -1)
  by_cases e : m = n
  · subst e
    rw [uZ_eq]
    obtain ⟨a1, a2, a3, a4, a5, a6, a7, a8, a9⟩ := a
    exact ⟨a1, a2, a3, a4, a5, a6, by omega, by omega, a9⟩
  · rw [uZ_nj _ e]
    exact a
theorem cR_pln {z : rd_Z} {Z : wZ} {p : rd_P} (hc : cR z Z) (h : ∀ m, m < 7 → Z 30 m = (rd_lk m p).getD (-1)) : cR (z_pln z p) (cpZ Z 30 31) := by
  obtain ⟨h0, h1, h2, h3, h4, h5, h6, h7, h8, h9, h10, h11, h12, h13, h14⟩ := hc
  refine ⟨h0, h1, h2, h3, h4, h5, h6, fun a b ha hb => ?_, h8, h9, h10, h11, h12, fun j => ?_, h14⟩
  · unfold cpZ
    rw [if_neg (by omega)]
    exact h7 a b ha hb
  · show (if 31 = 31 then (if j < 7 then Z 30 j else Z 31 j) else _) = (if 11 = 11 then (if j < 7 then (rd_lk j p).getD (-1) else z 11 j) else _)
    rw [if_pos rfl, if_pos rfl]
    by_cases e : j < 7
    · rw [if_pos e, if_pos e, h j e]
    · rw [if_neg e, if_neg e, h13 j]
theorem cR_acc {z : rd_Z} {Z : wZ} (hc : cR z Z) : cR (z_acc z) (cpZ Z 31 32) := by
  obtain ⟨h0, h1, h2, h3, h4, h5, h6, h7, h8, h9, h10, h11, h12, h13, h14⟩ := hc
  refine ⟨h0, h1, h2, h3, h4, h5, h6, fun a b ha hb => ?_, h8, h9, h10, h11, h12, h13, fun j => ?_⟩
  · unfold cpZ
    rw [if_neg (by omega)]
    exact h7 a b ha hb
  · show (if 32 = 32 then (if j < 7 then Z 31 j else Z 32 j) else _) = (if 12 = 12 then (if j < 7 then z 11 j else z 12 j) else _)
    rw [if_pos rfl, if_pos rfl]
    by_cases e : j < 7
    · rw [if_pos e, if_pos e, h13 j]
    · rw [if_neg e, if_neg e, h14 j]
theorem mF_cp {Z Z' : wZ} (h : mF Z Z') {s e : Nat} (he : e < 34) : mF Z (cpZ Z' s e) := fun a b q => by
  unfold cpZ
  rw [if_neg (by omega)]
  exact h a b q
theorem sF_mF {Z Z' : wZ} (h : sF Z Z') : mF Z Z' := fun a b q => h a b (by omega)
theorem pB_11 {z : rd_Z} {Z : wZ} (hc : cR z Z) (hz : rd_ok z) : pB Z 31 := fun j hj => by
  rw [hc.2.2.2.2.2.2.2.2.2.2.2.2.2.1 j]
  exact ok_rs hz hj

theorem s_2 {d : Nat} {Z : wZ} {Lg : Nat → Nat → Int64} {N : Nat} {X : Nat → Int32} {z : rd_Z} (hc : cR z Z) (hz : rd_ok z) (hB : zB z) {t : Int} (ht : iB t) {e : Int} (he : iB e) {g : Int} (hg : iB g) {l : Int} (hl : iB l) {w : Int} (hw : iB w) : am_T am_tabs am_ar (d + 3) 2 [.ref 0, .int (iI t), .int (iI e), .int (iI g), .int (iI l), .int (iI w)] (mW Z Lg N X) (dQ (f_add z t e g l w) [0, 1] Z Lg N X) := by
  refine ⟨⟨rfl, rfl⟩, ?_⟩
  show am_X (am_tb op_2) _ _ _
  cases hf : rd_fst (fun m => !rd_th z m) 7 with
  | none =>
    have h81 : ∀ d, am_T am_tabs am_ar (d + 1) 81 [.ref 1] (mW Z Lg N X) (am_ret (iI (-1)) (mW Z Lg N X)) := fun d => by
      have h := s_81 (d := d) (Lg := Lg) (N := N) (X := X) hc hz hB
      rw [hf] at h
      exact h
    refine r_push rfl ?_
    refine r_iload rfl rfl ?_
    refine r_c4 rfl iB0 he (fun h2 => ?_) (fun h2 => ?_)
    · refine r_push rfl ?_
      refine r_istore rfl ?_
      refine r_iload rfl rfl ?_
      refine r_sb1 rfl rfl rfl rfl (s_28 ht) (fun h31 => ?_) (fun h31 => ?_)
      · refine r_f0 rfl (by first | exact iB0 | exact iB1 | exact iBm | exact hB _ _ | exact hT _ (by omega) | exact ⟨by omega, by omega⟩) (by omega) ?_
        refine r_iload rfl rfl ?_
        refine r_t0 rfl (by first | exact iB0 | exact iB1 | exact iBm | exact hB _ _ | exact hT _ (by omega) | exact ⟨by omega, by omega⟩) (by omega) ?_
        refine q_throw rfl rfl rfl rfl ?_
        exact dQ_ex 0 (if_neg (by omega)) rfl rfl hc
      · refine r_t0 rfl (by first | exact iB0 | exact iB1 | exact iBm | exact hB _ _ | exact hT _ (by omega) | exact ⟨by omega, by omega⟩) (by omega) ?_
        refine q_throw rfl rfl rfl rfl ?_
        exact dQ_ex 0 (if_neg (by omega)) rfl rfl hc
    · refine r_iload rfl rfl ?_
      refine r_push rfl ?_
      refine r_c4 rfl hl ⟨by omega, by omega⟩ (fun h10 => ?_) (fun h10 => ?_)
      · refine r_push rfl ?_
        refine r_istore rfl ?_
        refine r_iload rfl rfl ?_
        refine r_sb1 rfl rfl rfl rfl (s_28 ht) (fun h31 => ?_) (fun h31 => ?_)
        · refine r_f0 rfl (by first | exact iB0 | exact iB1 | exact iBm | exact hB _ _ | exact hT _ (by omega) | exact ⟨by omega, by omega⟩) (by omega) ?_
          refine r_iload rfl rfl ?_
          refine r_t0 rfl (by first | exact iB0 | exact iB1 | exact iBm | exact hB _ _ | exact hT _ (by omega) | exact ⟨by omega, by omega⟩) (by omega) ?_
          refine q_throw rfl rfl rfl rfl ?_
          exact dQ_ex 0 (if_neg (by omega)) rfl rfl hc
        · refine r_t0 rfl (by first | exact iB0 | exact iB1 | exact iBm | exact hB _ _ | exact hT _ (by omega) | exact ⟨by omega, by omega⟩) (by omega) ?_
          refine q_throw rfl rfl rfl rfl ?_
          exact dQ_ex 0 (if_neg (by omega)) rfl rfl hc
      · refine r_iload rfl rfl ?_
        refine r_iload rfl rfl ?_
        refine r_iload rfl rfl ?_
        refine r_sb3 rfl rfl rfl rfl (s_27 hg he hl) (fun h17 => ?_) (fun h17 => ?_)
        · refine r_f0 rfl (by first | exact iB0 | exact iB1 | exact iBm | exact hB _ _ | exact hT _ (by omega) | exact ⟨by omega, by omega⟩) (by omega) ?_
          refine r_push rfl ?_
          refine r_goto rfl ?_
          refine r_istore rfl ?_
          refine r_iload rfl rfl ?_
          refine r_sb1 rfl rfl rfl rfl (s_28 ht) (fun h31 => ?_) (fun h31 => ?_)
          · refine r_f0 rfl (by first | exact iB0 | exact iB1 | exact iBm | exact hB _ _ | exact hT _ (by omega) | exact ⟨by omega, by omega⟩) (by omega) ?_
            refine r_iload rfl rfl ?_
            refine r_f0 rfl (by first | exact iB0 | exact iB1 | exact iBm | exact hB _ _ | exact hT _ (by omega) | exact ⟨by omega, by omega⟩) (by omega) ?_
            refine r_iload rfl rfl ?_
            refine r_push rfl ?_
            refine r_push rfl ?_
            refine r_sb3 rfl rfl rfl rfl (s_27 hw iB0 ⟨by omega, by omega⟩) (fun h47 => ?_) (fun h47 => ?_)
            · refine r_t1 rfl (by first | exact iB0 | exact iB1 | exact iBm | exact hB _ _ | exact hT _ (by omega) | exact ⟨by omega, by omega⟩) (by omega) ?_
              refine r_aload rfl rfl ?_
              refine q_getr rfl rfl rfl ?_
              refine r_ki0 rfl rfl rfl rfl rfl (h81 _) ?_
              refine r_istore rfl ?_
              refine r_iload rfl rfl ?_
              refine r_push rfl ?_
              refine r_c1 rfl (by first | exact iB0 | exact iB1 | exact iBm | exact hB _ _ | exact hT _ (by omega) | exact ⟨by omega, by omega⟩) (by first | exact iB0 | exact iB1 | exact iBm | exact hB _ _ | exact hT _ (by omega) | exact ⟨by omega, by omega⟩) (fun h73 => ?_) (fun h73 => ?_)
              · exfalso; omega
              · refine q_throw rfl rfl rfl rfl ?_
                exact dQ_ex 1 ((if_pos (by omega)).trans (by rw [hf]; rfl)) rfl rfl hc
            · refine r_f1 rfl (by first | exact iB0 | exact iB1 | exact iBm | exact hB _ _ | exact hT _ (by omega) | exact ⟨by omega, by omega⟩) (by omega) ?_
              refine q_throw rfl rfl rfl rfl ?_
              exact dQ_ex 0 (if_neg (by omega)) rfl rfl hc
          · refine r_t0 rfl (by first | exact iB0 | exact iB1 | exact iBm | exact hB _ _ | exact hT _ (by omega) | exact ⟨by omega, by omega⟩) (by omega) ?_
            refine q_throw rfl rfl rfl rfl ?_
            exact dQ_ex 0 (if_neg (by omega)) rfl rfl hc
        · refine r_t0 rfl (by first | exact iB0 | exact iB1 | exact iBm | exact hB _ _ | exact hT _ (by omega) | exact ⟨by omega, by omega⟩) (by omega) ?_
          refine r_push rfl ?_
          refine r_istore rfl ?_
          refine r_iload rfl rfl ?_
          refine r_sb1 rfl rfl rfl rfl (s_28 ht) (fun h31 => ?_) (fun h31 => ?_)
          · refine r_f0 rfl (by first | exact iB0 | exact iB1 | exact iBm | exact hB _ _ | exact hT _ (by omega) | exact ⟨by omega, by omega⟩) (by omega) ?_
            refine r_iload rfl rfl ?_
            refine r_t0 rfl (by first | exact iB0 | exact iB1 | exact iBm | exact hB _ _ | exact hT _ (by omega) | exact ⟨by omega, by omega⟩) (by omega) ?_
            refine q_throw rfl rfl rfl rfl ?_
            exact dQ_ex 0 (if_neg (by omega)) rfl rfl hc
          · refine r_t0 rfl (by first | exact iB0 | exact iB1 | exact iBm | exact hB _ _ | exact hT _ (by omega) | exact ⟨by omega, by omega⟩) (by omega) ?_
            refine q_throw rfl rfl rfl rfl ?_
            exact dQ_ex 0 (if_neg (by omega)) rfl rfl hc
  | some m =>
    obtain ⟨hm, hm2, -⟩ := rd_fst_some hf
    have hm3 : rd_th z m = false := by simpa using hm2
    have h81 : ∀ d, am_T am_tabs am_ar (d + 1) 81 [.ref 1] (mW Z Lg N X) (am_ret (iI (m : Int)) (mW Z Lg N X)) := fun d => by
      have h := s_81 (d := d) (Lg := Lg) (N := N) (X := X) hc hz hB
      rw [hf] at h
      exact h
    have hcn := n_add (t := t) (e := e) (g := g) (l := l) (w := w) hm hm3
    refine r_push rfl ?_
    refine r_iload rfl rfl ?_
    refine r_c4 rfl iB0 he (fun h2 => ?_) (fun h2 => ?_)
    · refine r_push rfl ?_
      refine r_istore rfl ?_
      refine r_iload rfl rfl ?_
      refine r_sb1 rfl rfl rfl rfl (s_28 ht) (fun h31 => ?_) (fun h31 => ?_)
      · refine r_f0 rfl (by first | exact iB0 | exact iB1 | exact iBm | exact hB _ _ | exact hT _ (by omega) | exact ⟨by omega, by omega⟩) (by omega) ?_
        refine r_iload rfl rfl ?_
        refine r_t0 rfl (by first | exact iB0 | exact iB1 | exact iBm | exact hB _ _ | exact hT _ (by omega) | exact ⟨by omega, by omega⟩) (by omega) ?_
        refine q_throw rfl rfl rfl rfl ?_
        exact dQ_ex 0 (if_neg (by omega)) rfl rfl hc
      · refine r_t0 rfl (by first | exact iB0 | exact iB1 | exact iBm | exact hB _ _ | exact hT _ (by omega) | exact ⟨by omega, by omega⟩) (by omega) ?_
        refine q_throw rfl rfl rfl rfl ?_
        exact dQ_ex 0 (if_neg (by omega)) rfl rfl hc
    · refine r_iload rfl rfl ?_
      refine r_push rfl ?_
      refine r_c4 rfl hl ⟨by omega, by omega⟩ (fun h10 => ?_) (fun h10 => ?_)
      · refine r_push rfl ?_
        refine r_istore rfl ?_
        refine r_iload rfl rfl ?_
        refine r_sb1 rfl rfl rfl rfl (s_28 ht) (fun h31 => ?_) (fun h31 => ?_)
        · refine r_f0 rfl (by first | exact iB0 | exact iB1 | exact iBm | exact hB _ _ | exact hT _ (by omega) | exact ⟨by omega, by omega⟩) (by omega) ?_
          refine r_iload rfl rfl ?_
          refine r_t0 rfl (by first | exact iB0 | exact iB1 | exact iBm | exact hB _ _ | exact hT _ (by omega) | exact ⟨by omega, by omega⟩) (by omega) ?_
          refine q_throw rfl rfl rfl rfl ?_
          exact dQ_ex 0 (if_neg (by omega)) rfl rfl hc
        · refine r_t0 rfl (by first | exact iB0 | exact iB1 | exact iBm | exact hB _ _ | exact hT _ (by omega) | exact ⟨by omega, by omega⟩) (by omega) ?_
          refine q_throw rfl rfl rfl rfl ?_
          exact dQ_ex 0 (if_neg (by omega)) rfl rfl hc
      · refine r_iload rfl rfl ?_
        refine r_iload rfl rfl ?_
        refine r_iload rfl rfl ?_
        refine r_sb3 rfl rfl rfl rfl (s_27 hg he hl) (fun h17 => ?_) (fun h17 => ?_)
        · refine r_f0 rfl (by first | exact iB0 | exact iB1 | exact iBm | exact hB _ _ | exact hT _ (by omega) | exact ⟨by omega, by omega⟩) (by omega) ?_
          refine r_push rfl ?_
          refine r_goto rfl ?_
          refine r_istore rfl ?_
          refine r_iload rfl rfl ?_
          refine r_sb1 rfl rfl rfl rfl (s_28 ht) (fun h31 => ?_) (fun h31 => ?_)
          · refine r_f0 rfl (by first | exact iB0 | exact iB1 | exact iBm | exact hB _ _ | exact hT _ (by omega) | exact ⟨by omega, by omega⟩) (by omega) ?_
            refine r_iload rfl rfl ?_
            refine r_f0 rfl (by first | exact iB0 | exact iB1 | exact iBm | exact hB _ _ | exact hT _ (by omega) | exact ⟨by omega, by omega⟩) (by omega) ?_
            refine r_iload rfl rfl ?_
            refine r_push rfl ?_
            refine r_push rfl ?_
            refine r_sb3 rfl rfl rfl rfl (s_27 hw iB0 ⟨by omega, by omega⟩) (fun h47 => ?_) (fun h47 => ?_)
            · refine r_t1 rfl (by first | exact iB0 | exact iB1 | exact iBm | exact hB _ _ | exact hT _ (by omega) | exact ⟨by omega, by omega⟩) (by omega) ?_
              refine r_aload rfl rfl ?_
              refine q_getr rfl rfl rfl ?_
              refine r_ki0 rfl rfl rfl rfl rfl (h81 _) ?_
              refine r_istore rfl ?_
              refine r_iload rfl rfl ?_
              refine r_push rfl ?_
              refine r_c1 rfl (by first | exact iB0 | exact iB1 | exact iBm | exact hB _ _ | exact hT _ (by omega) | exact ⟨by omega, by omega⟩) (by first | exact iB0 | exact iB1 | exact iBm | exact hB _ _ | exact hT _ (by omega) | exact ⟨by omega, by omega⟩) (fun h73 => ?_) (fun h73 => ?_)
              · refine r_aload rfl rfl ?_
                refine q_getr rfl rfl rfl ?_
                refine q_getr rfl rfl rfl ?_
                refine r_iload rfl rfl ?_
                refine r_push rfl ?_
                refine q_zast rfl rfl (by omega) (by omega) rfl (by omega) ?_
                refine r_aload rfl rfl ?_
                refine q_getr rfl rfl rfl ?_
                refine q_getr rfl rfl rfl ?_
                refine r_iload rfl rfl ?_
                refine r_iload rfl rfl ?_
                refine q_iast rfl rfl (by omega) (by omega) rfl ?_
                refine r_aload rfl rfl ?_
                refine q_getr rfl rfl rfl ?_
                refine q_getr rfl rfl rfl ?_
                refine r_iload rfl rfl ?_
                refine r_iload rfl rfl ?_
                refine q_iast rfl rfl (by omega) (by omega) rfl ?_
                refine r_aload rfl rfl ?_
                refine q_getr rfl rfl rfl ?_
                refine q_getr rfl rfl rfl ?_
                refine r_iload rfl rfl ?_
                refine r_iload rfl rfl ?_
                refine q_iast rfl rfl (by omega) (by omega) rfl ?_
                refine r_aload rfl rfl ?_
                refine q_getr rfl rfl rfl ?_
                refine q_getr rfl rfl rfl ?_
                refine r_iload rfl rfl ?_
                refine r_iload rfl rfl ?_
                refine q_iast rfl rfl (by omega) (by omega) rfl ?_
                refine r_aload rfl rfl ?_
                refine q_getr rfl rfl rfl ?_
                refine q_getr rfl rfl rfl ?_
                refine r_iload rfl rfl ?_
                refine r_iload rfl rfl ?_
                refine q_iast rfl rfl (by omega) (by omega) rfl ?_
                refine r_aload rfl rfl ?_
                refine q_getr rfl rfl rfl ?_
                refine q_getr rfl rfl rfl ?_
                refine r_iload rfl rfl ?_
                refine r_push rfl ?_
                refine q_iast rfl rfl (by omega) (by omega) rfl ?_
                refine r_aload rfl rfl ?_
                refine q_getr rfl rfl rfl ?_
                refine r_dupr rfl ?_
                refine q_geti rfl rfl rfl hc.2.2.2.2.2.2.2.2.2.2.1 ?_
                refine r_push rfl ?_
                refine r_iadd rfl ?_
                refine q_puti rfl rfl rfl ?_
                refine r_iload rfl rfl ?_
                refine q_iret rfl rfl rfl ?_
                exact dQ_ok ((if_pos (by omega)).trans (by rw [hf]; rfl)) rfl (cR_m (cu_n (cu_6 (cu_5 (cu_4 (cu_3 (cu_2 (cu_1 (cu_0 (cR_n hc) m 1) m t) m e) m g) m l) m w) m (-1))) (by have := hcn; show (rd_n z : Int) + 1 = ((rd_n (z_add z m t e g l w) : Nat) : Int); omega)) (mF_u (mF_u (mF_u (mF_u (mF_u (mF_u (mF_u (mF_u (mF_r Z) (by omega)) (by omega)) (by omega)) (by omega)) (by omega)) (by omega)) (by omega)) (by omega))
              · exfalso; omega
            · refine r_f1 rfl (by first | exact iB0 | exact iB1 | exact iBm | exact hB _ _ | exact hT _ (by omega) | exact ⟨by omega, by omega⟩) (by omega) ?_
              refine q_throw rfl rfl rfl rfl ?_
              exact dQ_ex 0 (if_neg (by omega)) rfl rfl hc
          · refine r_t0 rfl (by first | exact iB0 | exact iB1 | exact iBm | exact hB _ _ | exact hT _ (by omega) | exact ⟨by omega, by omega⟩) (by omega) ?_
            refine q_throw rfl rfl rfl rfl ?_
            exact dQ_ex 0 (if_neg (by omega)) rfl rfl hc
        · refine r_t0 rfl (by first | exact iB0 | exact iB1 | exact iBm | exact hB _ _ | exact hT _ (by omega) | exact ⟨by omega, by omega⟩) (by omega) ?_
          refine r_push rfl ?_
          refine r_istore rfl ?_
          refine r_iload rfl rfl ?_
          refine r_sb1 rfl rfl rfl rfl (s_28 ht) (fun h31 => ?_) (fun h31 => ?_)
          · refine r_f0 rfl (by first | exact iB0 | exact iB1 | exact iBm | exact hB _ _ | exact hT _ (by omega) | exact ⟨by omega, by omega⟩) (by omega) ?_
            refine r_iload rfl rfl ?_
            refine r_t0 rfl (by first | exact iB0 | exact iB1 | exact iBm | exact hB _ _ | exact hT _ (by omega) | exact ⟨by omega, by omega⟩) (by omega) ?_
            refine q_throw rfl rfl rfl rfl ?_
            exact dQ_ex 0 (if_neg (by omega)) rfl rfl hc
          · refine r_t0 rfl (by first | exact iB0 | exact iB1 | exact iBm | exact hB _ _ | exact hT _ (by omega) | exact ⟨by omega, by omega⟩) (by omega) ?_
            refine q_throw rfl rfl rfl rfl ?_
            exact dQ_ex 0 (if_neg (by omega)) rfl rfl hc

theorem s_3 {d : Nat} {Z : wZ} {Lg : Nat → Nat → Int64} {N : Nat} {X : Nat → Int32} {z : rd_Z} (hc : cR z Z) (hz : rd_ok z) (hB : zB z) {m : Int} (hm : iB m) : am_T am_tabs am_ar (d + 4) 3 [.ref 0, .int (iI m)] (mW Z Lg N X) (dQ (f_rem z m) [2] Z Lg N X) := by
  refine ⟨⟨rfl, rfl⟩, ?_⟩
  show am_X (am_tb op_3) _ _ _
  refine r_aload rfl rfl ?_
  refine r_iload rfl rfl ?_
  refine r_x1 rfl rfl rfl rfl rfl (s_21 hc hz hB hm) (fun h2 => ?_) (fun h2 => ?_)
  · exact dQ_ex 0 (if_neg h2) rfl rfl hc
  obtain ⟨n, rfl⟩ : ∃ n : Nat, m = n := ⟨m.toNat, by omega⟩
  have hn : n < 7 := by omega
  have ht : rd_th z n = true := h2.2.2
  have hcn := n_rem hn ht
  refine r_aload rfl rfl ?_
  refine q_getr rfl rfl rfl ?_
  refine q_getr rfl rfl rfl ?_
  refine r_iload rfl rfl ?_
  refine r_push rfl ?_
  refine q_zast rfl rfl (by omega) (by omega) rfl (by omega) ?_
  refine r_aload rfl rfl ?_
  refine q_getr rfl rfl rfl ?_
  refine r_dupr rfl ?_
  refine q_geti rfl rfl rfl hc.2.2.2.2.2.2.2.2.2.2.1 ?_
  refine r_push rfl ?_
  refine r_isub rfl ?_
  refine q_puti rfl rfl rfl ?_
  refine r_aload rfl rfl ?_
  refine q_getr rfl rfl rfl ?_
  refine r_iload rfl rfl ?_
  refine r_push rfl ?_
  refine q_iast rfl rfl (by omega) (by omega) rfl ?_
  refine r_aload rfl rfl ?_
  refine q_getr rfl rfl rfl ?_
  refine r_iload rfl rfl ?_
  refine r_push rfl ?_
  refine q_iast rfl rfl (by omega) (by omega) rfl ?_
  refine r_aload rfl rfl ?_
  refine q_getr rfl rfl rfl ?_
  refine q_geti rfl rfl rfl (rfl : _ = (rd_n z : Int) - 1) ?_
  refine q_iret rfl rfl rfl ?_
  have e1 : (rd_n z : Int) - 1 = rd_n (z_rem z n) := by omega
  exact dQ_ok (if_pos h2) e1 (cR_m (cu_12 (cu_11 (cu_n (cu_0 (cR_n hc) n 0)) n (-1)) n (-1)) e1) (mF_u (mF_u (mF_u (mF_u (mF_r Z) (by omega)) (by omega)) (by omega)) (by omega))

theorem s_10 {d : Nat} {Z : wZ} {Lg : Nat → Nat → Int64} {N : Nat} {X : Nat → Int32} {z : rd_Z} (hc : cR z Z) (hz : rd_ok z) (hB : zB z)  : am_T am_tabs am_ar (d + 14) 10 [.ref 0] (mW Z Lg N X) (dQ (f_sol z) [] Z Lg N X) := by
  refine ⟨⟨rfl, rfl⟩, ?_⟩
  show am_X (am_tb op_10) _ _ _
  refine r_aload rfl rfl ?_
  refine q_getr rfl rfl rfl ?_
  refine r_aload rfl rfl ?_
  refine q_getr rfl rfl rfl ?_
  refine r_kw1 rfl rfl rfl rfl rfl (s_70 hc hz hB) (fun x8 w1 h8 => ?_)
  obtain ⟨e8, Z1, rfl, g0, g1⟩ := h8
  have hbb := accR_B g1
  rw [accR_v g1] at hbb
  have hc1 := sF_cR hc g0
  refine r_istore rfl ?_
  refine r_iload rfl rfl ?_
  refine r_push rfl ?_
  refine r_c0 rfl ⟨by omega, by omega⟩ iBm (fun h14 => ?_) (fun h14 => ?_)
  · refine r_iload rfl rfl ?_
    refine q_iret rfl rfl rfl ?_
    cases hb : rd_best z with
    | none => exact dQ_ok (by rw [f_sol, hb]) h14 hc1 (sF_mF g0)
    | some a => rw [hb] at g1; have e9 := bI_some hb; have := g1.2.1; exfalso; omega
  · refine r_aload rfl rfl ?_
    refine q_getr rfl rfl rfl ?_
    refine r_aload rfl rfl ?_
    refine q_getr rfl rfl rfl ?_
    refine r_kv1 rfl rfl rfl rfl rfl (s_73) (fun w1 h25 => ?_)
    subst h25
    refine r_iload rfl rfl ?_
    refine q_iret rfl rfl rfl ?_
    cases hb : rd_best z with
    | none => have e9 := bI_none hb; exfalso; omega
    | some a => rw [hb] at g1; have e9 := bI_some hb; exact dQ_ok (by rw [f_sol, hb]) (e8.trans e9) (cR_pln hc1 g1.2.2.2.2) (mF_cp (sF_mF g0) (by omega))

theorem s_11 {d : Nat} {Z : wZ} {Lg : Nat → Nat → Int64} {N : Nat} {X : Nat → Int32} {z : rd_Z} (hc : cR z Z) (hz : rd_ok z) (hB : zB z) {m : Int} (hm : iB m) {t : Int} (ht_ : iB t) : am_T am_tabs am_ar (d + 14) 11 [.ref 0, .int (iI m), .int (iI t)] (mW Z Lg N X) (dQ (f_wha z m t) [2, 0] Z Lg N X) := by
  refine ⟨⟨rfl, rfl⟩, ?_⟩
  show am_X (am_tb op_11) _ _ _
  refine r_aload rfl rfl ?_
  refine r_iload rfl rfl ?_
  refine r_x1 rfl rfl rfl rfl rfl (s_21 hc hz hB hm) (fun h2 => ?_) (fun h2 => ?_)
  · exact dQ_ex 0 (if_neg h2) rfl rfl hc
  obtain ⟨n, rfl⟩ : ∃ n : Nat, m = n := ⟨m.toNat, by omega⟩
  have hn : n < 7 := by omega
  have ht : rd_th z n = true := h2.2.2
  refine r_aload rfl rfl ?_
  refine r_iload rfl rfl ?_
  refine r_iload rfl rfl ?_
  refine r_x2 rfl rfl rfl rfl rfl (s_22 hc hz hB hn ht_) (fun h8 => ?_) (fun h8 => ?_)
  · exact dQ_ex 1 ((if_pos h2).trans (if_neg h8)) rfl rfl hc
  have hz1 := ok_u3 hz hn h8
  have hc0 : cR (uZ z 3 n t) (uZ Z 5 n t) := cu_3 (cR_n hc) n t
  refine r_aload rfl rfl ?_
  refine q_getr rfl rfl rfl ?_
  refine q_getr rfl rfl rfl ?_
  refine r_iload rfl rfl ?_
  refine q_iald rfl rfl (by omega) (by omega) rfl (hc.2.2.2.1 n) ?_
  refine r_istore rfl ?_
  refine r_aload rfl rfl ?_
  refine q_getr rfl rfl rfl ?_
  refine q_getr rfl rfl rfl ?_
  refine r_iload rfl rfl ?_
  refine r_iload rfl rfl ?_
  refine q_iast rfl rfl (by omega) (by omega) rfl ?_
  refine r_aload rfl rfl ?_
  refine q_getr rfl rfl rfl ?_
  refine r_aload rfl rfl ?_
  refine q_getr rfl rfl rfl ?_
  refine r_kw1 rfl rfl rfl rfl rfl (s_70 hc0 hz1 (zB_u hB ht_)) (fun x39 w1 h39 => ?_)
  obtain ⟨e39, Z1, rfl, g0, g1⟩ := h39
  have hc1 := sF_cR hc0 g0
  refine r_istore rfl ?_
  refine r_aload rfl rfl ?_
  refine q_getr rfl rfl rfl ?_
  refine q_getr rfl rfl rfl ?_
  refine r_iload rfl rfl ?_
  refine r_iload rfl rfl ?_
  refine q_iast rfl rfl (by omega) (by omega) rfl ?_
  refine r_iload rfl rfl ?_
  refine q_iret rfl rfl rfl ?_
  have hc2 := cu_3 (cR_n hc1) n (z 3 n)
  rw [uZ_back] at hc2
  exact dQ_ok ((if_pos h2).trans (if_pos h8)) e39 hc2 (mF_u (fun a b q => (g0 a b (by omega)).trans (uZ_ne (by omega) b)) (by omega))

theorem s_13 {d : Nat} {Z : wZ} {Lg : Nat → Nat → Int64} {N : Nat} {X : Nat → Int32} {z : rd_Z} (hc : cR z Z) (hz : rd_ok z) (hB : zB z) {i : Int} (hi_ : iB i) : am_T am_tabs am_ar (d + 3) 13 [.ref 0, .int (iI i)] (mW Z Lg N X) (dQ (f_at z i) [3] Z Lg N X) := by
  refine ⟨⟨rfl, rfl⟩, ?_⟩
  show am_X (am_tb op_13) _ _ _
  have e11 : Z 31 = z 11 := funext hc.2.2.2.2.2.2.2.2.2.2.2.2.2.1
  have hP := pB_11 hc hz
  have hT := pB_iB hP
  refine r_push rfl ?_
  refine r_istore rfl ?_
  refine r_loop (fun o => (2, [some (.ref 0), some (.int (iI i)), some (.int (iI o))], [], mW Z Lg N X, 0, 0)) (fun o => ∀ j, j < o → p_at z i j = false) 7 fst_no (fun o ho hi hn => ?_) (fun hi => ?_)
  · (try dsimp only at hi); (try dsimp only at hn); (try dsimp only)
    have l1 : rd_pi (z 11) o ≤ 7 := rd_cnt_le _ _
    refine r_iload rfl rfl ?_
    refine r_push rfl ?_
    refine r_c3 rfl (by first | exact iB0 | exact iB1 | exact iBm | exact hB _ _ | exact hT _ (by omega) | exact ⟨by omega, by omega⟩) (by first | exact iB0 | exact iB1 | exact iBm | exact hB _ _ | exact hT _ (by omega) | exact ⟨by omega, by omega⟩) (fun h5 => ?_) (fun h5 => ?_)
    · exfalso; omega
    · refine r_aload rfl rfl ?_
      refine q_getr rfl rfl rfl ?_
      refine r_iload rfl rfl ?_
      refine q_iald rfl rfl (by omega) (by omega) rfl (hc.2.2.2.2.2.2.2.2.2.2.2.2.2.1 o) ?_
      refine r_push rfl ?_
      refine r_c0 rfl (by first | exact iB0 | exact iB1 | exact iBm | exact hB _ _ | exact hT _ (by omega) | exact ⟨by omega, by omega⟩) (by first | exact iB0 | exact iB1 | exact iBm | exact hB _ _ | exact hT _ (by omega) | exact ⟨by omega, by omega⟩) (fun h15 => ?_) (fun h15 => ?_)
      · refine r_iinc rfl rfl ?_
        refine r_goto rfl ?_
        exact hn (fst_next hi (by simp [p_at] <;> omega))
      · refine r_aload rfl rfl ?_
        refine q_getr rfl rfl rfl ?_
        refine r_iload rfl rfl ?_
        refine r_si2 rfl rfl rfl rfl (e11 ▸ s_30 (k := 31) rfl hT ho) ?_
        refine r_iload rfl rfl ?_
        refine r_c1 rfl ⟨by omega, by omega⟩ hi_ (fun h27 => ?_) (fun h27 => ?_)
        · refine r_iinc rfl rfl ?_
          refine r_goto rfl ?_
          exact hn (fst_next hi (by simp [p_at] <;> omega))
        · refine r_iload rfl rfl ?_
          refine q_iret rfl rfl rfl ?_
          exact dQ_ok (by rw [f_at, rd_fst_stop ho hi (by simp [p_at] <;> omega)]) rfl hc (mF_r Z)
  · (try dsimp only at hi); (try dsimp only)
    refine r_iload rfl rfl ?_
    refine r_push rfl ?_
    refine r_c3 rfl (by first | exact iB0 | exact iB1 | exact iBm | exact hB _ _ | exact hT _ (by omega) | exact ⟨by omega, by omega⟩) (by first | exact iB0 | exact iB1 | exact iBm | exact hB _ _ | exact hT _ (by omega) | exact ⟨by omega, by omega⟩) (fun h5 => ?_) (fun h5 => ?_)
    · refine q_throw rfl rfl rfl rfl ?_
      exact dQ_ex 0 (by rw [f_at, rd_fst_all hi]; rfl) rfl rfl hc
    · exfalso; omega

theorem s_15 {d : Nat} {Z : wZ} {Lg : Nat → Nat → Int64} {N : Nat} {X : Nat → Int32} {z : rd_Z} (hc : cR z Z) (hz : rd_ok z) (hB : zB z)  : am_T am_tabs am_ar (d + 5) 15 [.ref 0] (mW Z Lg N X) (dQ (f_ver z) [] Z Lg N X) := by
  refine ⟨⟨rfl, rfl⟩, ?_⟩
  show am_X (am_tb op_15) _ _ _
  have e11 : Z 31 = z 11 := funext hc.2.2.2.2.2.2.2.2.2.2.2.2.2.1
  have hP := pB_11 hc hz
  have hT := pB_iB hP
  refine r_aload rfl rfl ?_
  refine q_getr rfl rfl rfl ?_
  refine r_aload rfl rfl ?_
  refine q_getr rfl rfl rfl ?_
  refine r_ki1 rfl rfl rfl rfl rfl (e11 ▸ s_94 hc hz hB (k := 31) rfl hP) ?_
  refine q_iret rfl rfl rfl ?_
  exact dQ_ok rfl rfl hc (mF_r Z)

theorem s_16 {d : Nat} {Z : wZ} {Lg : Nat → Nat → Int64} {N : Nat} {X : Nat → Int32} {z : rd_Z} (hc : cR z Z) (hz : rd_ok z) (hB : zB z)  : am_T am_tabs am_ar (d + 7) 16 [.ref 0] (mW Z Lg N X) (dQ (f_fir z) [] Z Lg N X) := by
  refine ⟨⟨rfl, rfl⟩, ?_⟩
  show am_X (am_tb op_16) _ _ _
  refine r_aload rfl rfl ?_
  refine q_getr rfl rfl rfl ?_
  refine r_aload rfl rfl ?_
  refine q_getr rfl rfl rfl ?_
  refine r_kw1 rfl rfl rfl rfl rfl (s_71 hc hz hB) (fun x8 w1 h8 => ?_)
  obtain ⟨e8, Z1, rfl, g0⟩ := h8
  refine q_iret rfl rfl rfl ?_
  exact dQ_ok rfl e8 (sF_cR hc g0) (sF_mF g0)

theorem s_17 {d : Nat} {Z : wZ} {Lg : Nat → Nat → Int64} {N : Nat} {X : Nat → Int32} {z : rd_Z} (hc : cR z Z) (hz : rd_ok z) (hB : zB z)  : am_T am_tabs am_ar (d + 7) 17 [.ref 0] (mW Z Lg N X) (dQ (f_bou z) [] Z Lg N X) := by
  refine ⟨⟨rfl, rfl⟩, ?_⟩
  show am_X (am_tb op_17) _ _ _
  refine r_aload rfl rfl ?_
  refine q_getr rfl rfl rfl ?_
  refine r_aload rfl rfl ?_
  refine q_getr rfl rfl rfl ?_
  refine r_kw1 rfl rfl rfl rfl rfl (s_72 hc hz hB) (fun x8 w1 h8 => ?_)
  obtain ⟨e8, Z1, rfl, g0⟩ := h8
  refine q_iret rfl rfl rfl ?_
  exact dQ_ok rfl e8 (sF_cR hc g0) (sF_mF g0)

theorem s_23 {d : Nat} {Z : wZ} {Lg : Nat → Nat → Int64} {N : Nat} {X : Nat → Int32} {z : rd_Z} (hc : cR z Z) (hz : rd_ok z) (hB : zB z) {m : Nat} (hm : m < 7)  : am_T am_tabs am_ar (d + 1) 23 [.ref 0, .int (iI m)] (mW Z Lg N X) (am_bl (z 12 m ≠ z 11 m) (mW Z Lg N X)) := by
  refine ⟨⟨rfl, rfl⟩, ?_⟩
  show am_X (am_tb op_23) _ _ _
  refine r_aload rfl rfl ?_
  refine q_getr rfl rfl rfl ?_
  refine r_iload rfl rfl ?_
  refine q_iald rfl rfl (by omega) (by omega) rfl (hc.2.2.2.2.2.2.2.2.2.2.2.2.2.2 m) ?_
  refine r_aload rfl rfl ?_
  refine q_getr rfl rfl rfl ?_
  refine r_iload rfl rfl ?_
  refine q_iald rfl rfl (by omega) (by omega) rfl (hc.2.2.2.2.2.2.2.2.2.2.2.2.2.1 m) ?_
  refine r_c0 rfl (by first | exact iB0 | exact iB1 | exact iBm | exact hB _ _ | exact hT _ (by omega) | exact ⟨by omega, by omega⟩) (by first | exact iB0 | exact iB1 | exact iBm | exact hB _ _ | exact hT _ (by omega) | exact ⟨by omega, by omega⟩) (fun h12 => ?_) (fun h12 => ?_)
  · refine r_push rfl ?_
    refine q_zret rfl rfl rfl (by omega) ?_
    exact ⟨rfl, _, rfl, by omega⟩
  · refine r_push rfl ?_
    refine r_goto rfl ?_
    refine q_zret rfl rfl rfl (by omega) ?_
    exact ⟨rfl, _, rfl, by omega⟩

theorem s_19 {d : Nat} {Z : wZ} {Lg : Nat → Nat → Int64} {N : Nat} {X : Nat → Int32} {z : rd_Z} (hc : cR z Z) (hz : rd_ok z) (hB : zB z)  : am_T am_tabs am_ar (d + 2) 19 [.ref 0] (mW Z Lg N X) (dQ (f_acc z) [] Z Lg N X) := by
  refine ⟨⟨rfl, rfl⟩, ?_⟩
  show am_X (am_tb op_19) _ _ _
  refine r_push rfl ?_
  refine r_istore rfl ?_
  refine r_push rfl ?_
  refine r_istore rfl ?_
  refine r_loop (fun o => (4, [some (.ref 0), some (.int (iI (rd_cnt (p_chg z) o))), some (.int (iI o))], [], mW Z Lg N X, 0, 0)) (fun o => True) 7 trivial (fun o ho hi hn => ?_) (fun hi => ?_)
  · (try dsimp only at hi); (try dsimp only at hn); (try dsimp only)
    refine r_iload rfl rfl ?_
    refine r_push rfl ?_
    refine r_c3 rfl (by first | exact iB0 | exact iB1 | exact iBm | exact hB _ _ | exact hT _ (by omega) | exact ⟨by omega, by omega⟩) (by first | exact iB0 | exact iB1 | exact iBm | exact hB _ _ | exact hT _ (by omega) | exact ⟨by omega, by omega⟩) (fun h7 => ?_) (fun h7 => ?_)
    · exfalso; omega
    · refine r_aload rfl rfl ?_
      refine r_iload rfl rfl ?_
      refine r_kb1 rfl rfl rfl rfl rfl (s_23 hc hz hB ho) (fun h12 => ?_) (fun h12 => ?_)
      · refine r_f0 rfl (by first | exact iB0 | exact iB1 | exact iBm | exact hB _ _ | exact hT _ (by omega) | exact ⟨by omega, by omega⟩) (by omega) ?_
        refine r_iinc rfl rfl ?_
        refine r_iinc rfl rfl ?_
        refine r_goto rfl ?_
        first
        | exact am_X_of (hn trivial) (by rw [rd_cnt_t (p := (p_chg z)) (o := o) (by simp [p_chg] <;> omega)]; rfl)
        | exact am_X_of (hn trivial) (by rw [rd_cnt_f (p := (p_chg z)) (o := o) (by simp [p_chg] <;> omega)]; rfl)
      · refine r_t0 rfl (by first | exact iB0 | exact iB1 | exact iBm | exact hB _ _ | exact hT _ (by omega) | exact ⟨by omega, by omega⟩) (by omega) ?_
        refine r_iinc rfl rfl ?_
        refine r_goto rfl ?_
        first
        | exact am_X_of (hn trivial) (by rw [rd_cnt_t (p := (p_chg z)) (o := o) (by simp [p_chg] <;> omega)]; rfl)
        | exact am_X_of (hn trivial) (by rw [rd_cnt_f (p := (p_chg z)) (o := o) (by simp [p_chg] <;> omega)]; rfl)
  · (try dsimp only at hi); (try dsimp only)
    refine r_iload rfl rfl ?_
    refine r_push rfl ?_
    refine r_c3 rfl (by first | exact iB0 | exact iB1 | exact iBm | exact hB _ _ | exact hT _ (by omega) | exact ⟨by omega, by omega⟩) (by first | exact iB0 | exact iB1 | exact iBm | exact hB _ _ | exact hT _ (by omega) | exact ⟨by omega, by omega⟩) (fun h7 => ?_) (fun h7 => ?_)
    · refine r_aload rfl rfl ?_
      refine q_getr rfl rfl rfl ?_
      refine r_push rfl ?_
      refine r_aload rfl rfl ?_
      refine q_getr rfl rfl rfl ?_
      refine r_push rfl ?_
      refine r_push rfl ?_
      refine q_copy rfl rfl rfl rfl ?_
      refine r_iload rfl rfl ?_
      refine q_iret rfl rfl rfl ?_
      exact dQ_ok rfl rfl (cR_acc hc) (mF_cp (mF_r Z) (by omega))
    · exfalso; omega

theorem s_24 {d : Nat} {Z : wZ} {Lg : Nat → Nat → Int64} {N : Nat} {X : Nat → Int32} {z : rd_Z} (hc : cR z Z) (hz : rd_ok z) (hB : zB z) {k : Int} (hk : iB k) : am_T am_tabs am_ar (d + 2) 24 [.ref 0, .int (iI k)] (mW Z Lg N X) (am_ret (iI (oI (rd_fst (p_kth z k) 7))) (mW Z Lg N X)) := by
  refine ⟨⟨rfl, rfl⟩, ?_⟩
  show am_X (am_tb op_24) _ _ _
  refine r_push rfl ?_
  refine r_istore rfl ?_
  refine r_push rfl ?_
  refine r_istore rfl ?_
  refine r_loop (fun o => (4, [some (.ref 0), some (.int (iI k)), some (.int (iI (rd_cnt (p_chg z) o))), some (.int (iI o))], [], mW Z Lg N X, 0, 0)) (fun o => ∀ j, j < o → p_kth z k j = false) 7 fst_no (fun o ho hi hn => ?_) (fun hi => ?_)
  · (try dsimp only at hi); (try dsimp only at hn); (try dsimp only)
    have l1 := rd_cnt_le (p_chg z) o
    have e1 : p_kth z k o = (decide (z 12 o ≠ z 11 o) && decide ((rd_cnt (p_chg z) o : Int) = k)) := rfl
    refine r_iload rfl rfl ?_
    refine r_push rfl ?_
    refine r_c3 rfl (by first | exact iB0 | exact iB1 | exact iBm | exact hB _ _ | exact hT _ (by omega) | exact ⟨by omega, by omega⟩) (by first | exact iB0 | exact iB1 | exact iBm | exact hB _ _ | exact hT _ (by omega) | exact ⟨by omega, by omega⟩) (fun h7 => ?_) (fun h7 => ?_)
    · exfalso; omega
    · refine r_aload rfl rfl ?_
      refine r_iload rfl rfl ?_
      refine r_kb1 rfl rfl rfl rfl rfl (s_23 hc hz hB ho) (fun h12 => ?_) (fun h12 => ?_)
      · refine r_f0 rfl (by first | exact iB0 | exact iB1 | exact iBm | exact hB _ _ | exact hT _ (by omega) | exact ⟨by omega, by omega⟩) (by omega) ?_
        refine r_iload rfl rfl ?_
        refine r_iload rfl rfl ?_
        refine r_c1 rfl ⟨by omega, by omega⟩ hk (fun h20 => ?_) (fun h20 => ?_)
        · refine r_iinc rfl rfl ?_
          refine r_iinc rfl rfl ?_
          refine r_goto rfl ?_
          first
          | exact am_X_of (hn (fst_next hi (by rw [e1]; simp; omega))) (by rw [rd_cnt_t (p := p_chg z) (o := o) (by simp [p_chg] <;> omega)]; rfl)
          | exact am_X_of (hn (fst_next hi (by rw [e1]; simp; omega))) (by rw [rd_cnt_f (p := p_chg z) (o := o) (by simp [p_chg] <;> omega)]; rfl)
        · refine r_iload rfl rfl ?_
          refine q_iret rfl rfl rfl ?_
          exact am_ret_of (by rw [rd_fst_stop ho hi (by rw [e1]; simp; omega)]; rfl)
      · refine r_t0 rfl (by first | exact iB0 | exact iB1 | exact iBm | exact hB _ _ | exact hT _ (by omega) | exact ⟨by omega, by omega⟩) (by omega) ?_
        refine r_iinc rfl rfl ?_
        refine r_goto rfl ?_
        first
        | exact am_X_of (hn (fst_next hi (by rw [e1]; simp; omega))) (by rw [rd_cnt_t (p := p_chg z) (o := o) (by simp [p_chg] <;> omega)]; rfl)
        | exact am_X_of (hn (fst_next hi (by rw [e1]; simp; omega))) (by rw [rd_cnt_f (p := p_chg z) (o := o) (by simp [p_chg] <;> omega)]; rfl)
  · (try dsimp only at hi); (try dsimp only)
    refine r_iload rfl rfl ?_
    refine r_push rfl ?_
    refine r_c3 rfl (by first | exact iB0 | exact iB1 | exact iBm | exact hB _ _ | exact hT _ (by omega) | exact ⟨by omega, by omega⟩) (by first | exact iB0 | exact iB1 | exact iBm | exact hB _ _ | exact hT _ (by omega) | exact ⟨by omega, by omega⟩) (fun h7 => ?_) (fun h7 => ?_)
    · refine r_push rfl ?_
      refine q_iret rfl rfl rfl ?_
      exact am_ret_of (by rw [rd_fst_all hi]; rfl)
    · exfalso; omega

theorem r_switch {tab : Nat → am_Sem} {C : am_C} {Q : am_Q} {pc dflt : Nat} {lo : Int} {tgs : List Nat} {ls : List (Option Value)} {st : List Value} {w : am_W} {uc us : Nat} {x : Int} (ht : tab pc = am_switch lo tgs dflt) (hx : iB x) (kd : x < lo ∨ lo + tgs.length ≤ x → am_X tab C Q (dflt, ls, st, w, uc, us)) (kk : ∀ (k tg : Nat), x = lo + k → tgs[k]? = some tg → am_X tab C Q (tg, ls, st, w, uc, us)) : am_X tab C Q (pc, ls, .int (iI x) :: st, w, uc, us) :=
  am_go ht ⟨iI x, st, rfl, fun h => kd (by rw [iI_to hx] at h; exact h), fun k tg h1 h2 => kk k tg (by rw [iI_to hx] at h1; exact h1) h2⟩

theorem s_20 {d : Nat} {Z : wZ} {Lg : Nat → Nat → Int64} {N : Nat} {X : Nat → Int32} {z : rd_Z} (hc : cR z Z) (hz : rd_ok z) (hB : zB z) {k : Int} (hk : iB k) {t : Int} (ht : iB t) : am_T am_tabs am_ar (d + 3) 20 [.ref 0, .int (iI k), .int (iI t)] (mW Z Lg N X) (dQ (f_cha z k t) [3, 0] Z Lg N X) := by
  refine ⟨⟨rfl, rfl⟩, ?_⟩
  show am_X (am_tb op_20) _ _ _
  cases hf : rd_fst (p_kth z k) 7 with
  | none =>
    have h24 : ∀ d, am_T am_tabs am_ar (d + 2) 24 [.ref 0, .int (iI k)] (mW Z Lg N X) (am_ret (iI (-1)) (mW Z Lg N X)) := fun d => by
      have h := s_24 (d := d) (Lg := Lg) (N := N) (X := X) hc hz hB hk
      rw [hf] at h
      exact h
    refine r_aload rfl rfl ?_
    refine r_iload rfl rfl ?_
    refine r_ki1 rfl rfl rfl rfl rfl (h24 _) ?_
    refine r_istore rfl ?_
    refine r_iload rfl rfl ?_
    refine r_push rfl ?_
    refine r_c1 rfl (by first | exact iB0 | exact iB1 | exact iBm | exact hB _ _ | exact hT _ (by omega) | exact ⟨by omega, by omega⟩) (by first | exact iB0 | exact iB1 | exact iBm | exact hB _ _ | exact hT _ (by omega) | exact ⟨by omega, by omega⟩) (fun h8 => ?_) (fun h8 => ?_)
    · exfalso; omega
    · refine q_throw rfl rfl rfl rfl ?_
      exact dQ_ex 0 (by rw [f_cha, hf]; rfl) rfl rfl hc
  | some m =>
    obtain ⟨hm, -, -⟩ := rd_fst_some hf
    have h24 : ∀ d, am_T am_tabs am_ar (d + 2) 24 [.ref 0, .int (iI k)] (mW Z Lg N X) (am_ret (iI (m : Int)) (mW Z Lg N X)) := fun d => by
      have h := s_24 (d := d) (Lg := Lg) (N := N) (X := X) hc hz hB hk
      rw [hf] at h
      exact h
    refine r_aload rfl rfl ?_
    refine r_iload rfl rfl ?_
    refine r_ki1 rfl rfl rfl rfl rfl (h24 _) ?_
    refine r_istore rfl ?_
    refine r_iload rfl rfl ?_
    refine r_push rfl ?_
    refine r_c1 rfl (by first | exact iB0 | exact iB1 | exact iBm | exact hB _ _ | exact hT _ (by omega) | exact ⟨by omega, by omega⟩) (by first | exact iB0 | exact iB1 | exact iBm | exact hB _ _ | exact hT _ (by omega) | exact ⟨by omega, by omega⟩) (fun h8 => ?_) (fun h8 => ?_)
    · refine r_iload rfl rfl ?_
      refine r_switch rfl ht (fun h => ?_) (fun k' tg hk' htg => ?_)
      · have h : t < 0 ∨ 0 + ((3 : Nat) : Int) ≤ t := h
        refine q_throw rfl rfl rfl rfl ?_
        exact dQ_ex 1 (by rw [f_cha, hf]; exact (if_neg (by omega)).trans ((if_neg (by omega)).trans (if_neg (by omega)))) rfl rfl hc
      · rcases k' with _ | _ | _ | k'
        · cases htg
          have hk' : t = 0 := by omega
          refine r_iload rfl rfl ?_
          refine q_iret rfl rfl rfl ?_
          exact dQ_ok (by rw [f_cha, hf]; exact if_pos hk') rfl hc (mF_r Z)
        · cases htg
          have hk' : t = 1 := by omega
          refine r_aload rfl rfl ?_
          refine q_getr rfl rfl rfl ?_
          refine r_iload rfl rfl ?_
          refine q_iald rfl rfl (by omega) (by omega) rfl (hc.2.2.2.2.2.2.2.2.2.2.2.2.2.2 m) ?_
          refine q_iret rfl rfl rfl ?_
          exact dQ_ok (by rw [f_cha, hf]; exact (if_neg (by omega)).trans (if_pos hk')) rfl hc (mF_r Z)
        · cases htg
          have hk' : t = 2 := by omega
          refine r_aload rfl rfl ?_
          refine q_getr rfl rfl rfl ?_
          refine r_iload rfl rfl ?_
          refine q_iald rfl rfl (by omega) (by omega) rfl (hc.2.2.2.2.2.2.2.2.2.2.2.2.2.1 m) ?_
          refine q_iret rfl rfl rfl ?_
          exact dQ_ok (by rw [f_cha, hf]; exact (if_neg (by omega)).trans ((if_neg (by omega)).trans (if_pos hk'))) rfl hc (mF_r Z)
        · cases htg
    · exfalso; omega

end OP2
