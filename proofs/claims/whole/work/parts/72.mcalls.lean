/-! the desk's state stays sound; the reference's other calls -/
section MCA
def okM (z : rd_Z) (m : Nat) : Prop := (z 0 m = 0 ∨ z 0 m = 1) ∧ 0 ≤ z 1 m ∧ z 1 m ≤ 5 ∧ 0 ≤ z 2 m ∧ z 2 m ≤ z 4 m ∧ z 4 m ≤ 3000 ∧ 0 ≤ z 3 m ∧ z 3 m ≤ 3000 ∧ 0 ≤ z 5 m ∧ z 5 m ≤ 100 ∧
    -1 ≤ z 6 m ∧ z 6 m ≤ 3000 ∧ -1 ≤ z 11 m ∧ z 11 m ≤ 3000 ∧ -1 ≤ z 12 m ∧ z 12 m ≤ 3000 ∧ (z 0 m = 0 → z 11 m = -1 ∧ z 12 m = -1)
theorem ok_M {z : rd_Z} (hz : rd_ok z) {m : Nat} (hm : m < 7) : okM z m := hz.1 m hm
theorem ok_of {z z' : rd_Z} (hz : rd_ok z) (h7 : z' 7 = z 7) (h8 : z' 8 = z 8) (h9 : z' 9 = z 9) (h10 : z' 10 = z 10) (hM : ∀ m, m < 7 → okM z' m) : rd_ok z' := by
  obtain ⟨-, b, c, d, e, f, g⟩ := hz
  refine ⟨hM, ?_, ?_, ?_, ?_, ?_, ?_⟩
  · rw [h7]; exact b
  · rw [h10]; exact c
  · rw [h10]; exact d
  · rw [h10]; exact e
  · rw [h10]; exact f
  · unfold rd_nc; rw [h8, h9, h10]; exact g
theorem okM_nj {z : rd_Z} {f n : Nat} {v : Int} {m : Nat} (h : okM z m) (e : m ≠ n) : okM (uZ z f n v) m := by
  unfold okM
  simp only [uZ_nj _ e]
  exact h
theorem ok_gap {z : rd_Z} (hz : rd_ok z) {k : Nat} {s : Int} (hs : 45 ≤ s ∧ s ≤ 300) : rd_ok (uZ z 7 k s) := by
  obtain ⟨a, b, c⟩ := hz
  refine ⟨a, fun i hi => ?_, c⟩
  by_cases e : i = k
  · subst e; rw [uZ_eq]; exact hs
  · rw [uZ_nj _ e]; exact b i hi
theorem ok_add {z : rd_Z} (hz : rd_ok z) {m : Nat} {t e g l w : Int} (hm : m < 7) (h0 : z 0 m = 0) (h : 0 ≤ t ∧ t ≤ 5 ∧ 0 ≤ e ∧ e ≤ g ∧ g ≤ l ∧ l ≤ 3000 ∧ 0 ≤ w ∧ w ≤ 100) : rd_ok (z_add z m t e g l w) := by
  refine ok_of hz rfl rfl rfl rfl (fun i hi => ?_)
  by_cases q : i = m
  · subst q
    have a := ok_no hz hi h0
    have e0 : z_add z i t e g l w 0 i = 1 := uZ_eq z 0 i 1
    have e1 : z_add z i t e g l w 1 i = t := uZ_eq _ 1 i t
    have e2 : z_add z i t e g l w 2 i = e := uZ_eq _ 2 i e
    have e3 : z_add z i t e g l w 3 i = g := uZ_eq _ 3 i g
    have e4 : z_add z i t e g l w 4 i = l := uZ_eq _ 4 i l
    have e5 : z_add z i t e g l w 5 i = w := uZ_eq _ 5 i w
    have e6 : z_add z i t e g l w 6 i = -1 := uZ_eq _ 6 i (-1)
    have e11 : z_add z i t e g l w 11 i = -1 := a.1
    have e12 : z_add z i t e g l w 12 i = -1 := a.2
    unfold okM
    rw [e0, e1, e2, e3, e4, e5, e6, e11, e12]
    omega
  · exact okM_nj (okM_nj (okM_nj (okM_nj (okM_nj (okM_nj (okM_nj (ok_M hz hi) q) q) q) q) q) q) q
theorem ok_rem {z : rd_Z} (hz : rd_ok z) {m : Nat} : rd_ok (z_rem z m) := by
  refine ok_of hz rfl rfl rfl rfl (fun i hi => ?_)
  by_cases q : i = m
  · subst q
    have a := ok_M hz hi
    have e0 : z_rem z i 0 i = 0 := uZ_eq z 0 i 0
    have e11 : z_rem z i 11 i = -1 := uZ_eq _ 11 i (-1)
    have e12 : z_rem z i 12 i = -1 := uZ_eq _ 12 i (-1)
    obtain ⟨-, a1, a2, a3, a4, a5, a6, a7, a8, a9, b1, b2, -⟩ := a
    exact ⟨Or.inl e0, a1, a2, a3, a4, a5, a6, a7, a8, a9, b1, b2, by rw [e11]; omega, by rw [e11]; omega, by rw [e12]; omega, by rw [e12]; omega, fun _ => ⟨e11, e12⟩⟩
  · exact okM_nj (okM_nj (okM_nj (ok_M hz hi) q) q) q
theorem ok_lim {z : rd_Z} (hz : rd_ok z) {p : Int} (h : 0 ≤ p ∧ p ≤ 6) : rd_ok (uZ z 10 1 p) := by
  obtain ⟨a, b, c, d, e, f, g⟩ := hz
  exact ⟨a, b, c, d, by rw [uZ_eq]; omega, by rw [uZ_eq]; omega, g⟩
theorem ok_reo {z : rd_Z} (hz : rd_ok z) : rd_ok (uZ z 10 0 0) := by
  obtain ⟨a, b, c, d, e, f, g⟩ := hz
  refine ⟨a, b, by rw [uZ_eq]; omega, by rw [uZ_eq]; omega, e, f, fun k hk => ?_⟩
  have hk : k < (uZ z 10 0 0 10 0).toNat := hk
  rw [uZ_eq] at hk
  omega
theorem ok_clo {z : rd_Z} (hz : rd_ok z) {x y : Int} (h : 0 ≤ x ∧ x ≤ y ∧ y ≤ 3000) (h4 : z 10 0 < 4) : rd_ok (uZ (uZ (uZ z 8 (rd_nc z) x) 9 (rd_nc z) y) 10 0 (z 10 0 + 1)) := by
  have hnc := ok_nc hz
  obtain ⟨a, b, c, d, e, f, g⟩ := hz
  refine ⟨a, b, by rw [uZ_eq]; omega, by rw [uZ_eq]; omega, e, f, fun k hk => ?_⟩
  have hk : k < (uZ (uZ (uZ z 8 (rd_nc z) x) 9 (rd_nc z) y) 10 0 (z 10 0 + 1) 10 0).toNat := hk
  rw [uZ_eq] at hk
  show 0 ≤ uZ z 8 (rd_nc z) x 8 k ∧ uZ z 8 (rd_nc z) x 8 k ≤ uZ (uZ z 8 (rd_nc z) x) 9 (rd_nc z) y 9 k ∧ uZ (uZ z 8 (rd_nc z) x) 9 (rd_nc z) y 9 k ≤ 3000
  by_cases q : k = rd_nc z
  · rw [q, uZ_eq, uZ_eq]; exact h
  · rw [uZ_nj _ q, uZ_nj _ q]
    exact g k (by omega)
theorem ok_u6 {z : rd_Z} (hz : rd_ok z) {n : Nat} {v : Int} (hv : -1 ≤ v ∧ v ≤ 3000) : rd_ok (uZ z 6 n v) := by
  refine ok_of hz rfl rfl rfl rfl (fun i hi => ?_)
  by_cases q : i = n
  · subst q
    obtain ⟨a0, a1, a2, a3, a4, a5, a6, a7, a8, a9, b1, b2, b3⟩ := ok_M hz hi
    exact ⟨a0, a1, a2, a3, a4, a5, a6, a7, a8, a9, by rw [uZ_eq]; omega, by rw [uZ_eq]; omega, b3⟩
  · exact okM_nj (ok_M hz hi) q
theorem ok_u11 {z : rd_Z} (hz : rd_ok z) {n : Nat} {v : Int} (hv : -1 ≤ v ∧ v ≤ 3000) (ht : z 0 n ≠ 0) : rd_ok (uZ z 11 n v) := by
  refine ok_of hz rfl rfl rfl rfl (fun i hi => ?_)
  by_cases q : i = n
  · subst q
    obtain ⟨a0, a1, a2, a3, a4, a5, a6, a7, a8, a9, b1, b2, b3, b4, b5, b6, b7⟩ := ok_M hz hi
    exact ⟨a0, a1, a2, a3, a4, a5, a6, a7, a8, a9, b1, b2, by rw [uZ_eq]; omega, by rw [uZ_eq]; omega, b5, b6, fun q => absurd q ht⟩
  · exact okM_nj (ok_M hz hi) q
theorem ok_pln {z : rd_Z} (hz : rd_ok z) {p : rd_P} (hg : rd_gd z p) : rd_ok (z_pln z p) := by
  refine ok_of hz rfl rfl rfl rfl (fun i hi => ?_)
  obtain ⟨a0, a1, a2, a3, a4, a5, a6, a7, a8, a9, b1, b2, b3, b4, b5, b6, b7⟩ := ok_M hz hi
  have e : z_pln z p 11 i = (rd_lk i p).getD (-1) := by
    show (if 11 = 11 then (if i < 7 then (rd_lk i p).getD (-1) else z 11 i) else _) = _
    rw [if_pos rfl, if_pos hi]
  have hb : -1 ≤ z_pln z p 11 i ∧ z_pln z p 11 i ≤ 3000 ∧ (z 0 i = 0 → z_pln z p 11 i = -1) := by
    rw [e]
    cases h : rd_lk i p with
    | none => exact ⟨by show (-1 : Int) ≤ -1; omega, by show (-1 : Int) ≤ 3000; omega, fun _ => rfl⟩
    | some s =>
      have h1 := hg.1 _ (rd_lk_mem h)
      have h2 : 0 ≤ s := h1.2.2.1
      have h3 : s ≤ 3000 := h1.2.2.2
      exact ⟨by show -1 ≤ s; omega, h3, fun q => absurd q (th_iff.mp h1.2.1)⟩
  exact ⟨a0, a1, a2, a3, a4, a5, a6, a7, a8, a9, b1, b2, hb.1, hb.2.1, b5, b6, fun q => ⟨hb.2.2 q, (b7 q).2⟩⟩
theorem ok_acc {z : rd_Z} (hz : rd_ok z) : rd_ok (z_acc z) := by
  refine ok_of hz rfl rfl rfl rfl (fun i hi => ?_)
  obtain ⟨a0, a1, a2, a3, a4, a5, a6, a7, a8, a9, b1, b2, b3, b4, b5, b6, b7⟩ := ok_M hz hi
  have e : z_acc z 12 i = z 11 i := by
    show (if 12 = 12 then (if i < 7 then z 11 i else z 12 i) else _) = _
    rw [if_pos rfl, if_pos hi]
  exact ⟨a0, a1, a2, a3, a4, a5, a6, a7, a8, a9, b1, b2, b3, b4, by rw [e]; exact b3, by rw [e]; exact b4, fun q => ⟨(b7 q).1, by rw [e]; exact (b7 q).1⟩⟩
theorem free_n {z : rd_Z} (h : rd_fst (fun m => !rd_th z m) 7 = none) : rd_n z = 7 := by
  have h1 := rd_fst_none h
  unfold rd_n
  rw [rd_cnt_congr (q := fun _ => true) (fun i hi => by simpa using h1 i hi), rd_cnt_true]
theorem free_s {z : rd_Z} {m : Nat} (h : rd_fst (fun m => !rd_th z m) 7 = some m) : rd_n z < 7 := by
  obtain ⟨h1, h2, -⟩ := rd_fst_some h
  have := rd_cnt_lt (p := rd_th z) (q := fun _ => true) (n := 7) (j := m) (fun _ _ _ => rfl) h1 rfl (by simpa using h2)
  rw [rd_cnt_true] at this
  exact this

theorem s_36 {d : Nat} {Z : wZ} {Lg : Nat → Nat → Int64} {N : Nat} {X : Nat → Int32} {z : rd_Z} (hd : mR z Z) (hz : rd_ok z) (hB : zB z) {a : Int} (ha : iB a) {b : Int} (hb : iB b) {s : Int} (hs : iB s) : am_T am_tabs am_ar (d + 1) 36 [.ref 34, .int (iI a), .int (iI b), .int (iI s)] (mW Z Lg N X) (mQ (f_gap z a b s) Z Lg N X) := by
  refine ⟨⟨rfl, rfl⟩, ?_⟩
  show am_X (am_tb op_36) _ _ _
  refine r_iload rfl rfl ?_
  refine r_z2 rfl ha (fun h1 => ?_) (fun h1 => ?_)
  · refine r_push rfl ?_
    refine r_istore rfl ?_
    refine r_aload rfl rfl ?_
    refine r_iload rfl rfl ?_
    refine r_t0 rfl (by first | exact iB0 | exact iB1 | exact iBm | exact hB _ _ | exact hT _ (by omega) | exact ⟨by omega, by omega⟩) (by omega) ?_
    refine r_push rfl ?_
    refine q_puti rfl rfl rfl ?_
    refine r_iload rfl rfl ?_
    refine r_f1 rfl (by first | exact iB0 | exact iB1 | exact iBm | exact hB _ _ | exact hT _ (by omega) | exact ⟨by omega, by omega⟩) (by omega) ?_
    refine r_push rfl ?_
    refine q_iret rfl rfl rfl ?_
    exact mQ_ok (if_neg (by omega)) rfl (mR_t hd 1) (uZ_eq _ _ _ _) (cF_u (cF_r Z) (by omega))
  · refine r_iload rfl rfl ?_
    refine r_push rfl ?_
    refine r_c4 rfl ha ⟨by omega, by omega⟩ (fun h6 => ?_) (fun h6 => ?_)
    · refine r_push rfl ?_
      refine r_istore rfl ?_
      refine r_aload rfl rfl ?_
      refine r_iload rfl rfl ?_
      refine r_t0 rfl (by first | exact iB0 | exact iB1 | exact iBm | exact hB _ _ | exact hT _ (by omega) | exact ⟨by omega, by omega⟩) (by omega) ?_
      refine r_push rfl ?_
      refine q_puti rfl rfl rfl ?_
      refine r_iload rfl rfl ?_
      refine r_f1 rfl (by first | exact iB0 | exact iB1 | exact iBm | exact hB _ _ | exact hT _ (by omega) | exact ⟨by omega, by omega⟩) (by omega) ?_
      refine r_push rfl ?_
      refine q_iret rfl rfl rfl ?_
      exact mQ_ok (if_neg (by omega)) rfl (mR_t hd 1) (uZ_eq _ _ _ _) (cF_u (cF_r Z) (by omega))
    · refine r_iload rfl rfl ?_
      refine r_z2 rfl hb (fun h10 => ?_) (fun h10 => ?_)
      · refine r_push rfl ?_
        refine r_istore rfl ?_
        refine r_aload rfl rfl ?_
        refine r_iload rfl rfl ?_
        refine r_t0 rfl (by first | exact iB0 | exact iB1 | exact iBm | exact hB _ _ | exact hT _ (by omega) | exact ⟨by omega, by omega⟩) (by omega) ?_
        refine r_push rfl ?_
        refine q_puti rfl rfl rfl ?_
        refine r_iload rfl rfl ?_
        refine r_f1 rfl (by first | exact iB0 | exact iB1 | exact iBm | exact hB _ _ | exact hT _ (by omega) | exact ⟨by omega, by omega⟩) (by omega) ?_
        refine r_push rfl ?_
        refine q_iret rfl rfl rfl ?_
        exact mQ_ok (if_neg (by omega)) rfl (mR_t hd 1) (uZ_eq _ _ _ _) (cF_u (cF_r Z) (by omega))
      · refine r_iload rfl rfl ?_
        refine r_push rfl ?_
        refine r_c4 rfl hb ⟨by omega, by omega⟩ (fun h15 => ?_) (fun h15 => ?_)
        · refine r_push rfl ?_
          refine r_istore rfl ?_
          refine r_aload rfl rfl ?_
          refine r_iload rfl rfl ?_
          refine r_t0 rfl (by first | exact iB0 | exact iB1 | exact iBm | exact hB _ _ | exact hT _ (by omega) | exact ⟨by omega, by omega⟩) (by omega) ?_
          refine r_push rfl ?_
          refine q_puti rfl rfl rfl ?_
          refine r_iload rfl rfl ?_
          refine r_f1 rfl (by first | exact iB0 | exact iB1 | exact iBm | exact hB _ _ | exact hT _ (by omega) | exact ⟨by omega, by omega⟩) (by omega) ?_
          refine r_push rfl ?_
          refine q_iret rfl rfl rfl ?_
          exact mQ_ok (if_neg (by omega)) rfl (mR_t hd 1) (uZ_eq _ _ _ _) (cF_u (cF_r Z) (by omega))
        · refine r_iload rfl rfl ?_
          refine r_push rfl ?_
          refine r_c2 rfl hs ⟨by omega, by omega⟩ (fun h21 => ?_) (fun h21 => ?_)
          · refine r_push rfl ?_
            refine r_istore rfl ?_
            refine r_aload rfl rfl ?_
            refine r_iload rfl rfl ?_
            refine r_t0 rfl (by first | exact iB0 | exact iB1 | exact iBm | exact hB _ _ | exact hT _ (by omega) | exact ⟨by omega, by omega⟩) (by omega) ?_
            refine r_push rfl ?_
            refine q_puti rfl rfl rfl ?_
            refine r_iload rfl rfl ?_
            refine r_f1 rfl (by first | exact iB0 | exact iB1 | exact iBm | exact hB _ _ | exact hT _ (by omega) | exact ⟨by omega, by omega⟩) (by omega) ?_
            refine r_push rfl ?_
            refine q_iret rfl rfl rfl ?_
            exact mQ_ok (if_neg (by omega)) rfl (mR_t hd 1) (uZ_eq _ _ _ _) (cF_u (cF_r Z) (by omega))
          · refine r_iload rfl rfl ?_
            refine r_push rfl ?_
            refine r_c4 rfl hs ⟨by omega, by omega⟩ (fun h28 => ?_) (fun h28 => ?_)
            · refine r_push rfl ?_
              refine r_istore rfl ?_
              refine r_aload rfl rfl ?_
              refine r_iload rfl rfl ?_
              refine r_t0 rfl (by first | exact iB0 | exact iB1 | exact iBm | exact hB _ _ | exact hT _ (by omega) | exact ⟨by omega, by omega⟩) (by omega) ?_
              refine r_push rfl ?_
              refine q_puti rfl rfl rfl ?_
              refine r_iload rfl rfl ?_
              refine r_f1 rfl (by first | exact iB0 | exact iB1 | exact iBm | exact hB _ _ | exact hT _ (by omega) | exact ⟨by omega, by omega⟩) (by omega) ?_
              refine r_push rfl ?_
              refine q_iret rfl rfl rfl ?_
              exact mQ_ok (if_neg (by omega)) rfl (mR_t hd 1) (uZ_eq _ _ _ _) (cF_u (cF_r Z) (by omega))
            · refine r_push rfl ?_
              refine r_goto rfl ?_
              refine r_istore rfl ?_
              refine r_aload rfl rfl ?_
              refine r_iload rfl rfl ?_
              refine r_f0 rfl (by first | exact iB0 | exact iB1 | exact iBm | exact hB _ _ | exact hT _ (by omega) | exact ⟨by omega, by omega⟩) (by omega) ?_
              refine r_push rfl ?_
              refine r_goto rfl ?_
              refine q_puti rfl rfl rfl ?_
              refine r_iload rfl rfl ?_
              refine r_t1 rfl (by first | exact iB0 | exact iB1 | exact iBm | exact hB _ _ | exact hT _ (by omega) | exact ⟨by omega, by omega⟩) (by omega) ?_
              refine r_aload rfl rfl ?_
              refine q_getr rfl rfl rfl ?_
              refine r_push rfl ?_
              refine r_iload rfl rfl ?_
              refine r_imul rfl ?_
              refine r_iload rfl rfl ?_
              refine r_iadd rfl ?_
              refine q_iald rfl rfl (by omega) (by omega) rfl (hd.2.2.2.2.2.2.2.1 _ (by omega)) ?_
              refine r_istore rfl ?_
              refine r_aload rfl rfl ?_
              refine q_getr rfl rfl rfl ?_
              refine r_push rfl ?_
              refine r_iload rfl rfl ?_
              refine r_imul rfl ?_
              refine r_iload rfl rfl ?_
              refine r_iadd rfl ?_
              refine r_iload rfl rfl ?_
              refine q_iast rfl rfl (by omega) (by omega) rfl ?_
              refine r_iload rfl rfl ?_
              refine q_iret rfl rfl rfl ?_
              have e : (6 * a + b).toNat = 6 * a.toNat + b.toNat := by omega
              exact mQ_ok (show f_gap z a b s = (0, z 7 (6 * a + b).toNat, uZ z 7 (6 * a + b).toNat s) from by rw [e]; exact if_pos (by omega)) rfl (mu_7 (mR_n (mR_t hd 0)) _ s) ((uZ_ne (by omega) _).trans (uZ_eq _ _ _ _)) (cF_u (cF_u (cF_r Z) (by omega)) (by omega))

theorem s_37 {d : Nat} {Z : wZ} {Lg : Nat → Nat → Int64} {N : Nat} {X : Nat → Int32} {z : rd_Z} (hd : mR z Z) (hz : rd_ok z) (hB : zB z) {t : Int} (ht : iB t) {e : Int} (he : iB e) {g : Int} (hg : iB g) {l : Int} (hl : iB l) {w : Int} (hw : iB w) : am_T am_tabs am_ar (d + 2) 37 [.ref 34, .int (iI t), .int (iI e), .int (iI g), .int (iI l), .int (iI w)] (mW Z Lg N X) (mQ (f_add z t e g l w) Z Lg N X) := by
  refine ⟨⟨rfl, rfl⟩, ?_⟩
  show am_X (am_tb op_37) _ _ _
  have hd0 := mR_t hd 0
  have hn7 := n_le z
  cases hf : rd_fst (fun m => !rd_th z m) 7 with
  | none =>
    have hn := free_n hf
    refine r_iload rfl rfl ?_
    refine r_z2 rfl he (fun h1 => ?_) (fun h1 => ?_)
    · refine r_push rfl ?_
      refine r_istore rfl ?_
      refine r_iload rfl rfl ?_
      refine r_z2 rfl ht (fun h31 => ?_) (fun h31 => ?_)
      · refine r_push rfl ?_
        refine r_istore rfl ?_
        refine r_aload rfl rfl ?_
        refine r_iload rfl rfl ?_
        refine r_f1 rfl (by first | exact iB0 | exact iB1 | exact iBm | exact hB _ _ | exact hT _ (by omega) | exact ⟨by omega, by omega⟩) (by omega) ?_
        refine r_push rfl ?_
        refine r_goto rfl ?_
        refine q_puti rfl rfl rfl ?_
        refine r_aload rfl rfl ?_
        refine q_geti rfl rfl rfl (uZ_eq _ _ _ _) ?_
        refine r_f5 rfl (by first | exact iB0 | exact iB1 | exact iBm | exact hB _ _ | exact hT _ (by omega) | exact ⟨by omega, by omega⟩) (by omega) ?_
        refine r_push rfl ?_
        refine q_iret rfl rfl rfl ?_
        first
        | exact mQ_ok (if_neg (by omega)) rfl (mR_t hd 1) (uZ_eq _ _ _ _) (cF_u (cF_r Z) (by omega))
        | exact mQ_ok ((if_pos (by omega)).trans (by rw [hf])) rfl (mR_t hd 2) (uZ_eq _ _ _ _) (cF_u (cF_r Z) (by omega))
      · refine r_iload rfl rfl ?_
        refine r_push rfl ?_
        refine r_c4 rfl ht ⟨by omega, by omega⟩ (fun h36 => ?_) (fun h36 => ?_)
        · refine r_push rfl ?_
          refine r_istore rfl ?_
          refine r_aload rfl rfl ?_
          refine r_iload rfl rfl ?_
          refine r_f1 rfl (by first | exact iB0 | exact iB1 | exact iBm | exact hB _ _ | exact hT _ (by omega) | exact ⟨by omega, by omega⟩) (by omega) ?_
          refine r_push rfl ?_
          refine r_goto rfl ?_
          refine q_puti rfl rfl rfl ?_
          refine r_aload rfl rfl ?_
          refine q_geti rfl rfl rfl (uZ_eq _ _ _ _) ?_
          refine r_f5 rfl (by first | exact iB0 | exact iB1 | exact iBm | exact hB _ _ | exact hT _ (by omega) | exact ⟨by omega, by omega⟩) (by omega) ?_
          refine r_push rfl ?_
          refine q_iret rfl rfl rfl ?_
          first
          | exact mQ_ok (if_neg (by omega)) rfl (mR_t hd 1) (uZ_eq _ _ _ _) (cF_u (cF_r Z) (by omega))
          | exact mQ_ok ((if_pos (by omega)).trans (by rw [hf])) rfl (mR_t hd 2) (uZ_eq _ _ _ _) (cF_u (cF_r Z) (by omega))
        · refine r_iload rfl rfl ?_
          refine r_t0 rfl (by first | exact iB0 | exact iB1 | exact iBm | exact hB _ _ | exact hT _ (by omega) | exact ⟨by omega, by omega⟩) (by omega) ?_
          refine r_push rfl ?_
          refine r_istore rfl ?_
          refine r_aload rfl rfl ?_
          refine r_iload rfl rfl ?_
          refine r_f1 rfl (by first | exact iB0 | exact iB1 | exact iBm | exact hB _ _ | exact hT _ (by omega) | exact ⟨by omega, by omega⟩) (by omega) ?_
          refine r_push rfl ?_
          refine r_goto rfl ?_
          refine q_puti rfl rfl rfl ?_
          refine r_aload rfl rfl ?_
          refine q_geti rfl rfl rfl (uZ_eq _ _ _ _) ?_
          refine r_f5 rfl (by first | exact iB0 | exact iB1 | exact iBm | exact hB _ _ | exact hT _ (by omega) | exact ⟨by omega, by omega⟩) (by omega) ?_
          refine r_push rfl ?_
          refine q_iret rfl rfl rfl ?_
          first
          | exact mQ_ok (if_neg (by omega)) rfl (mR_t hd 1) (uZ_eq _ _ _ _) (cF_u (cF_r Z) (by omega))
          | exact mQ_ok ((if_pos (by omega)).trans (by rw [hf])) rfl (mR_t hd 2) (uZ_eq _ _ _ _) (cF_u (cF_r Z) (by omega))
    · refine r_iload rfl rfl ?_
      refine r_iload rfl rfl ?_
      refine r_c4 rfl he hg (fun h6 => ?_) (fun h6 => ?_)
      · refine r_push rfl ?_
        refine r_istore rfl ?_
        refine r_iload rfl rfl ?_
        refine r_z2 rfl ht (fun h31 => ?_) (fun h31 => ?_)
        · refine r_push rfl ?_
          refine r_istore rfl ?_
          refine r_aload rfl rfl ?_
          refine r_iload rfl rfl ?_
          refine r_f1 rfl (by first | exact iB0 | exact iB1 | exact iBm | exact hB _ _ | exact hT _ (by omega) | exact ⟨by omega, by omega⟩) (by omega) ?_
          refine r_push rfl ?_
          refine r_goto rfl ?_
          refine q_puti rfl rfl rfl ?_
          refine r_aload rfl rfl ?_
          refine q_geti rfl rfl rfl (uZ_eq _ _ _ _) ?_
          refine r_f5 rfl (by first | exact iB0 | exact iB1 | exact iBm | exact hB _ _ | exact hT _ (by omega) | exact ⟨by omega, by omega⟩) (by omega) ?_
          refine r_push rfl ?_
          refine q_iret rfl rfl rfl ?_
          first
          | exact mQ_ok (if_neg (by omega)) rfl (mR_t hd 1) (uZ_eq _ _ _ _) (cF_u (cF_r Z) (by omega))
          | exact mQ_ok ((if_pos (by omega)).trans (by rw [hf])) rfl (mR_t hd 2) (uZ_eq _ _ _ _) (cF_u (cF_r Z) (by omega))
        · refine r_iload rfl rfl ?_
          refine r_push rfl ?_
          refine r_c4 rfl ht ⟨by omega, by omega⟩ (fun h36 => ?_) (fun h36 => ?_)
          · refine r_push rfl ?_
            refine r_istore rfl ?_
            refine r_aload rfl rfl ?_
            refine r_iload rfl rfl ?_
            refine r_f1 rfl (by first | exact iB0 | exact iB1 | exact iBm | exact hB _ _ | exact hT _ (by omega) | exact ⟨by omega, by omega⟩) (by omega) ?_
            refine r_push rfl ?_
            refine r_goto rfl ?_
            refine q_puti rfl rfl rfl ?_
            refine r_aload rfl rfl ?_
            refine q_geti rfl rfl rfl (uZ_eq _ _ _ _) ?_
            refine r_f5 rfl (by first | exact iB0 | exact iB1 | exact iBm | exact hB _ _ | exact hT _ (by omega) | exact ⟨by omega, by omega⟩) (by omega) ?_
            refine r_push rfl ?_
            refine q_iret rfl rfl rfl ?_
            first
            | exact mQ_ok (if_neg (by omega)) rfl (mR_t hd 1) (uZ_eq _ _ _ _) (cF_u (cF_r Z) (by omega))
            | exact mQ_ok ((if_pos (by omega)).trans (by rw [hf])) rfl (mR_t hd 2) (uZ_eq _ _ _ _) (cF_u (cF_r Z) (by omega))
          · refine r_iload rfl rfl ?_
            refine r_t0 rfl (by first | exact iB0 | exact iB1 | exact iBm | exact hB _ _ | exact hT _ (by omega) | exact ⟨by omega, by omega⟩) (by omega) ?_
            refine r_push rfl ?_
            refine r_istore rfl ?_
            refine r_aload rfl rfl ?_
            refine r_iload rfl rfl ?_
            refine r_f1 rfl (by first | exact iB0 | exact iB1 | exact iBm | exact hB _ _ | exact hT _ (by omega) | exact ⟨by omega, by omega⟩) (by omega) ?_
            refine r_push rfl ?_
            refine r_goto rfl ?_
            refine q_puti rfl rfl rfl ?_
            refine r_aload rfl rfl ?_
            refine q_geti rfl rfl rfl (uZ_eq _ _ _ _) ?_
            refine r_f5 rfl (by first | exact iB0 | exact iB1 | exact iBm | exact hB _ _ | exact hT _ (by omega) | exact ⟨by omega, by omega⟩) (by omega) ?_
            refine r_push rfl ?_
            refine q_iret rfl rfl rfl ?_
            first
            | exact mQ_ok (if_neg (by omega)) rfl (mR_t hd 1) (uZ_eq _ _ _ _) (cF_u (cF_r Z) (by omega))
            | exact mQ_ok ((if_pos (by omega)).trans (by rw [hf])) rfl (mR_t hd 2) (uZ_eq _ _ _ _) (cF_u (cF_r Z) (by omega))
      · refine r_iload rfl rfl ?_
        refine r_iload rfl rfl ?_
        refine r_c4 rfl hg hl (fun h12 => ?_) (fun h12 => ?_)
        · refine r_push rfl ?_
          refine r_istore rfl ?_
          refine r_iload rfl rfl ?_
          refine r_z2 rfl ht (fun h31 => ?_) (fun h31 => ?_)
          · refine r_push rfl ?_
            refine r_istore rfl ?_
            refine r_aload rfl rfl ?_
            refine r_iload rfl rfl ?_
            refine r_f1 rfl (by first | exact iB0 | exact iB1 | exact iBm | exact hB _ _ | exact hT _ (by omega) | exact ⟨by omega, by omega⟩) (by omega) ?_
            refine r_push rfl ?_
            refine r_goto rfl ?_
            refine q_puti rfl rfl rfl ?_
            refine r_aload rfl rfl ?_
            refine q_geti rfl rfl rfl (uZ_eq _ _ _ _) ?_
            refine r_f5 rfl (by first | exact iB0 | exact iB1 | exact iBm | exact hB _ _ | exact hT _ (by omega) | exact ⟨by omega, by omega⟩) (by omega) ?_
            refine r_push rfl ?_
            refine q_iret rfl rfl rfl ?_
            first
            | exact mQ_ok (if_neg (by omega)) rfl (mR_t hd 1) (uZ_eq _ _ _ _) (cF_u (cF_r Z) (by omega))
            | exact mQ_ok ((if_pos (by omega)).trans (by rw [hf])) rfl (mR_t hd 2) (uZ_eq _ _ _ _) (cF_u (cF_r Z) (by omega))
          · refine r_iload rfl rfl ?_
            refine r_push rfl ?_
            refine r_c4 rfl ht ⟨by omega, by omega⟩ (fun h36 => ?_) (fun h36 => ?_)
            · refine r_push rfl ?_
              refine r_istore rfl ?_
              refine r_aload rfl rfl ?_
              refine r_iload rfl rfl ?_
              refine r_f1 rfl (by first | exact iB0 | exact iB1 | exact iBm | exact hB _ _ | exact hT _ (by omega) | exact ⟨by omega, by omega⟩) (by omega) ?_
              refine r_push rfl ?_
              refine r_goto rfl ?_
              refine q_puti rfl rfl rfl ?_
              refine r_aload rfl rfl ?_
              refine q_geti rfl rfl rfl (uZ_eq _ _ _ _) ?_
              refine r_f5 rfl (by first | exact iB0 | exact iB1 | exact iBm | exact hB _ _ | exact hT _ (by omega) | exact ⟨by omega, by omega⟩) (by omega) ?_
              refine r_push rfl ?_
              refine q_iret rfl rfl rfl ?_
              first
              | exact mQ_ok (if_neg (by omega)) rfl (mR_t hd 1) (uZ_eq _ _ _ _) (cF_u (cF_r Z) (by omega))
              | exact mQ_ok ((if_pos (by omega)).trans (by rw [hf])) rfl (mR_t hd 2) (uZ_eq _ _ _ _) (cF_u (cF_r Z) (by omega))
            · refine r_iload rfl rfl ?_
              refine r_t0 rfl (by first | exact iB0 | exact iB1 | exact iBm | exact hB _ _ | exact hT _ (by omega) | exact ⟨by omega, by omega⟩) (by omega) ?_
              refine r_push rfl ?_
              refine r_istore rfl ?_
              refine r_aload rfl rfl ?_
              refine r_iload rfl rfl ?_
              refine r_f1 rfl (by first | exact iB0 | exact iB1 | exact iBm | exact hB _ _ | exact hT _ (by omega) | exact ⟨by omega, by omega⟩) (by omega) ?_
              refine r_push rfl ?_
              refine r_goto rfl ?_
              refine q_puti rfl rfl rfl ?_
              refine r_aload rfl rfl ?_
              refine q_geti rfl rfl rfl (uZ_eq _ _ _ _) ?_
              refine r_f5 rfl (by first | exact iB0 | exact iB1 | exact iBm | exact hB _ _ | exact hT _ (by omega) | exact ⟨by omega, by omega⟩) (by omega) ?_
              refine r_push rfl ?_
              refine q_iret rfl rfl rfl ?_
              first
              | exact mQ_ok (if_neg (by omega)) rfl (mR_t hd 1) (uZ_eq _ _ _ _) (cF_u (cF_r Z) (by omega))
              | exact mQ_ok ((if_pos (by omega)).trans (by rw [hf])) rfl (mR_t hd 2) (uZ_eq _ _ _ _) (cF_u (cF_r Z) (by omega))
        · refine r_iload rfl rfl ?_
          refine r_push rfl ?_
          refine r_c4 rfl hl ⟨by omega, by omega⟩ (fun h20 => ?_) (fun h20 => ?_)
          · refine r_push rfl ?_
            refine r_istore rfl ?_
            refine r_iload rfl rfl ?_
            refine r_z2 rfl ht (fun h31 => ?_) (fun h31 => ?_)
            · refine r_push rfl ?_
              refine r_istore rfl ?_
              refine r_aload rfl rfl ?_
              refine r_iload rfl rfl ?_
              refine r_f1 rfl (by first | exact iB0 | exact iB1 | exact iBm | exact hB _ _ | exact hT _ (by omega) | exact ⟨by omega, by omega⟩) (by omega) ?_
              refine r_push rfl ?_
              refine r_goto rfl ?_
              refine q_puti rfl rfl rfl ?_
              refine r_aload rfl rfl ?_
              refine q_geti rfl rfl rfl (uZ_eq _ _ _ _) ?_
              refine r_f5 rfl (by first | exact iB0 | exact iB1 | exact iBm | exact hB _ _ | exact hT _ (by omega) | exact ⟨by omega, by omega⟩) (by omega) ?_
              refine r_push rfl ?_
              refine q_iret rfl rfl rfl ?_
              first
              | exact mQ_ok (if_neg (by omega)) rfl (mR_t hd 1) (uZ_eq _ _ _ _) (cF_u (cF_r Z) (by omega))
              | exact mQ_ok ((if_pos (by omega)).trans (by rw [hf])) rfl (mR_t hd 2) (uZ_eq _ _ _ _) (cF_u (cF_r Z) (by omega))
            · refine r_iload rfl rfl ?_
              refine r_push rfl ?_
              refine r_c4 rfl ht ⟨by omega, by omega⟩ (fun h36 => ?_) (fun h36 => ?_)
              · refine r_push rfl ?_
                refine r_istore rfl ?_
                refine r_aload rfl rfl ?_
                refine r_iload rfl rfl ?_
                refine r_f1 rfl (by first | exact iB0 | exact iB1 | exact iBm | exact hB _ _ | exact hT _ (by omega) | exact ⟨by omega, by omega⟩) (by omega) ?_
                refine r_push rfl ?_
                refine r_goto rfl ?_
                refine q_puti rfl rfl rfl ?_
                refine r_aload rfl rfl ?_
                refine q_geti rfl rfl rfl (uZ_eq _ _ _ _) ?_
                refine r_f5 rfl (by first | exact iB0 | exact iB1 | exact iBm | exact hB _ _ | exact hT _ (by omega) | exact ⟨by omega, by omega⟩) (by omega) ?_
                refine r_push rfl ?_
                refine q_iret rfl rfl rfl ?_
                first
                | exact mQ_ok (if_neg (by omega)) rfl (mR_t hd 1) (uZ_eq _ _ _ _) (cF_u (cF_r Z) (by omega))
                | exact mQ_ok ((if_pos (by omega)).trans (by rw [hf])) rfl (mR_t hd 2) (uZ_eq _ _ _ _) (cF_u (cF_r Z) (by omega))
              · refine r_iload rfl rfl ?_
                refine r_t0 rfl (by first | exact iB0 | exact iB1 | exact iBm | exact hB _ _ | exact hT _ (by omega) | exact ⟨by omega, by omega⟩) (by omega) ?_
                refine r_push rfl ?_
                refine r_istore rfl ?_
                refine r_aload rfl rfl ?_
                refine r_iload rfl rfl ?_
                refine r_f1 rfl (by first | exact iB0 | exact iB1 | exact iBm | exact hB _ _ | exact hT _ (by omega) | exact ⟨by omega, by omega⟩) (by omega) ?_
                refine r_push rfl ?_
                refine r_goto rfl ?_
                refine q_puti rfl rfl rfl ?_
                refine r_aload rfl rfl ?_
                refine q_geti rfl rfl rfl (uZ_eq _ _ _ _) ?_
                refine r_f5 rfl (by first | exact iB0 | exact iB1 | exact iBm | exact hB _ _ | exact hT _ (by omega) | exact ⟨by omega, by omega⟩) (by omega) ?_
                refine r_push rfl ?_
                refine q_iret rfl rfl rfl ?_
                first
                | exact mQ_ok (if_neg (by omega)) rfl (mR_t hd 1) (uZ_eq _ _ _ _) (cF_u (cF_r Z) (by omega))
                | exact mQ_ok ((if_pos (by omega)).trans (by rw [hf])) rfl (mR_t hd 2) (uZ_eq _ _ _ _) (cF_u (cF_r Z) (by omega))
          · refine r_push rfl ?_
            refine r_goto rfl ?_
            refine r_istore rfl ?_
            refine r_iload rfl rfl ?_
            refine r_z2 rfl ht (fun h31 => ?_) (fun h31 => ?_)
            · refine r_push rfl ?_
              refine r_istore rfl ?_
              refine r_aload rfl rfl ?_
              refine r_iload rfl rfl ?_
              refine r_f1 rfl (by first | exact iB0 | exact iB1 | exact iBm | exact hB _ _ | exact hT _ (by omega) | exact ⟨by omega, by omega⟩) (by omega) ?_
              refine r_push rfl ?_
              refine r_goto rfl ?_
              refine q_puti rfl rfl rfl ?_
              refine r_aload rfl rfl ?_
              refine q_geti rfl rfl rfl (uZ_eq _ _ _ _) ?_
              refine r_f5 rfl (by first | exact iB0 | exact iB1 | exact iBm | exact hB _ _ | exact hT _ (by omega) | exact ⟨by omega, by omega⟩) (by omega) ?_
              refine r_push rfl ?_
              refine q_iret rfl rfl rfl ?_
              first
              | exact mQ_ok (if_neg (by omega)) rfl (mR_t hd 1) (uZ_eq _ _ _ _) (cF_u (cF_r Z) (by omega))
              | exact mQ_ok ((if_pos (by omega)).trans (by rw [hf])) rfl (mR_t hd 2) (uZ_eq _ _ _ _) (cF_u (cF_r Z) (by omega))
            · refine r_iload rfl rfl ?_
              refine r_push rfl ?_
              refine r_c4 rfl ht ⟨by omega, by omega⟩ (fun h36 => ?_) (fun h36 => ?_)
              · refine r_push rfl ?_
                refine r_istore rfl ?_
                refine r_aload rfl rfl ?_
                refine r_iload rfl rfl ?_
                refine r_f1 rfl (by first | exact iB0 | exact iB1 | exact iBm | exact hB _ _ | exact hT _ (by omega) | exact ⟨by omega, by omega⟩) (by omega) ?_
                refine r_push rfl ?_
                refine r_goto rfl ?_
                refine q_puti rfl rfl rfl ?_
                refine r_aload rfl rfl ?_
                refine q_geti rfl rfl rfl (uZ_eq _ _ _ _) ?_
                refine r_f5 rfl (by first | exact iB0 | exact iB1 | exact iBm | exact hB _ _ | exact hT _ (by omega) | exact ⟨by omega, by omega⟩) (by omega) ?_
                refine r_push rfl ?_
                refine q_iret rfl rfl rfl ?_
                first
                | exact mQ_ok (if_neg (by omega)) rfl (mR_t hd 1) (uZ_eq _ _ _ _) (cF_u (cF_r Z) (by omega))
                | exact mQ_ok ((if_pos (by omega)).trans (by rw [hf])) rfl (mR_t hd 2) (uZ_eq _ _ _ _) (cF_u (cF_r Z) (by omega))
              · refine r_iload rfl rfl ?_
                refine r_f0 rfl (by first | exact iB0 | exact iB1 | exact iBm | exact hB _ _ | exact hT _ (by omega) | exact ⟨by omega, by omega⟩) (by omega) ?_
                refine r_iload rfl rfl ?_
                refine r_z2 rfl hw (fun h46 => ?_) (fun h46 => ?_)
                · refine r_push rfl ?_
                  refine r_istore rfl ?_
                  refine r_aload rfl rfl ?_
                  refine r_iload rfl rfl ?_
                  refine r_f1 rfl (by first | exact iB0 | exact iB1 | exact iBm | exact hB _ _ | exact hT _ (by omega) | exact ⟨by omega, by omega⟩) (by omega) ?_
                  refine r_push rfl ?_
                  refine r_goto rfl ?_
                  refine q_puti rfl rfl rfl ?_
                  refine r_aload rfl rfl ?_
                  refine q_geti rfl rfl rfl (uZ_eq _ _ _ _) ?_
                  refine r_f5 rfl (by first | exact iB0 | exact iB1 | exact iBm | exact hB _ _ | exact hT _ (by omega) | exact ⟨by omega, by omega⟩) (by omega) ?_
                  refine r_push rfl ?_
                  refine q_iret rfl rfl rfl ?_
                  first
                  | exact mQ_ok (if_neg (by omega)) rfl (mR_t hd 1) (uZ_eq _ _ _ _) (cF_u (cF_r Z) (by omega))
                  | exact mQ_ok ((if_pos (by omega)).trans (by rw [hf])) rfl (mR_t hd 2) (uZ_eq _ _ _ _) (cF_u (cF_r Z) (by omega))
                · refine r_iload rfl rfl ?_
                  refine r_push rfl ?_
                  refine r_c4 rfl hw ⟨by omega, by omega⟩ (fun h53 => ?_) (fun h53 => ?_)
                  · refine r_push rfl ?_
                    refine r_istore rfl ?_
                    refine r_aload rfl rfl ?_
                    refine r_iload rfl rfl ?_
                    refine r_f1 rfl (by first | exact iB0 | exact iB1 | exact iBm | exact hB _ _ | exact hT _ (by omega) | exact ⟨by omega, by omega⟩) (by omega) ?_
                    refine r_push rfl ?_
                    refine r_goto rfl ?_
                    refine q_puti rfl rfl rfl ?_
                    refine r_aload rfl rfl ?_
                    refine q_geti rfl rfl rfl (uZ_eq _ _ _ _) ?_
                    refine r_f5 rfl (by first | exact iB0 | exact iB1 | exact iBm | exact hB _ _ | exact hT _ (by omega) | exact ⟨by omega, by omega⟩) (by omega) ?_
                    refine r_push rfl ?_
                    refine q_iret rfl rfl rfl ?_
                    first
                    | exact mQ_ok (if_neg (by omega)) rfl (mR_t hd 1) (uZ_eq _ _ _ _) (cF_u (cF_r Z) (by omega))
                    | exact mQ_ok ((if_pos (by omega)).trans (by rw [hf])) rfl (mR_t hd 2) (uZ_eq _ _ _ _) (cF_u (cF_r Z) (by omega))
                  · refine r_push rfl ?_
                    refine r_goto rfl ?_
                    refine r_istore rfl ?_
                    refine r_aload rfl rfl ?_
                    refine r_iload rfl rfl ?_
                    refine r_t1 rfl (by first | exact iB0 | exact iB1 | exact iBm | exact hB _ _ | exact hT _ (by omega) | exact ⟨by omega, by omega⟩) (by omega) ?_
                    refine r_aload rfl rfl ?_
                    refine r_ki0 rfl rfl rfl rfl rfl (s_35 hd hz hB) ?_
                    refine r_push rfl ?_
                    refine r_c1 rfl (by first | exact iB0 | exact iB1 | exact iBm | exact hB _ _ | exact hT _ (by omega) | exact ⟨by omega, by omega⟩) (by first | exact iB0 | exact iB1 | exact iBm | exact hB _ _ | exact hT _ (by omega) | exact ⟨by omega, by omega⟩) (fun h79 => ?_) (fun h79 => ?_)
                    · exfalso; omega
                    · refine r_push rfl ?_
                      refine r_goto rfl ?_
                      refine q_puti rfl rfl rfl ?_
                      refine r_aload rfl rfl ?_
                      refine q_geti rfl rfl rfl (uZ_eq _ _ _ _) ?_
                      refine r_f5 rfl (by first | exact iB0 | exact iB1 | exact iBm | exact hB _ _ | exact hT _ (by omega) | exact ⟨by omega, by omega⟩) (by omega) ?_
                      refine r_push rfl ?_
                      refine q_iret rfl rfl rfl ?_
                      first
                      | exact mQ_ok (if_neg (by omega)) rfl (mR_t hd 1) (uZ_eq _ _ _ _) (cF_u (cF_r Z) (by omega))
                      | exact mQ_ok ((if_pos (by omega)).trans (by rw [hf])) rfl (mR_t hd 2) (uZ_eq _ _ _ _) (cF_u (cF_r Z) (by omega))
  | some m =>
    have hn := free_s hf
    obtain ⟨hm, hm2, hm4⟩ := rd_fst_some hf
    have hm3 : rd_th z m = false := by simpa using hm2
    have hmz : z 0 m = 0 := Decidable.byContradiction (fun q => absurd (th_iff.mpr q) (by rw [hm3]; simp))
    have hmm : ∀ j, j < 7 → z_add z m t e g l w 0 j ≠ 0 → (z 0 j ≠ 0 ∨ j = m) := fun j hj q => by
      by_cases ej : j = m
      · exact Or.inr ej
      · exact Or.inl (fun q0 => q (show uZ z 0 m 1 0 j = 0 from (uZ_nj 0 ej).trans q0))
    refine r_iload rfl rfl ?_
    refine r_z2 rfl he (fun h1 => ?_) (fun h1 => ?_)
    · refine r_push rfl ?_
      refine r_istore rfl ?_
      refine r_iload rfl rfl ?_
      refine r_z2 rfl ht (fun h31 => ?_) (fun h31 => ?_)
      · refine r_push rfl ?_
        refine r_istore rfl ?_
        refine r_aload rfl rfl ?_
        refine r_iload rfl rfl ?_
        refine r_f1 rfl (by first | exact iB0 | exact iB1 | exact iBm | exact hB _ _ | exact hT _ (by omega) | exact ⟨by omega, by omega⟩) (by omega) ?_
        refine r_push rfl ?_
        refine r_goto rfl ?_
        refine q_puti rfl rfl rfl ?_
        refine r_aload rfl rfl ?_
        refine q_geti rfl rfl rfl (uZ_eq _ _ _ _) ?_
        refine r_f5 rfl (by first | exact iB0 | exact iB1 | exact iBm | exact hB _ _ | exact hT _ (by omega) | exact ⟨by omega, by omega⟩) (by omega) ?_
        refine r_push rfl ?_
        refine q_iret rfl rfl rfl ?_
        exact mQ_ok (if_neg (by omega)) rfl (mR_t hd 1) (uZ_eq _ _ _ _) (cF_u (cF_r Z) (by omega))
      · refine r_iload rfl rfl ?_
        refine r_push rfl ?_
        refine r_c4 rfl ht ⟨by omega, by omega⟩ (fun h36 => ?_) (fun h36 => ?_)
        · refine r_push rfl ?_
          refine r_istore rfl ?_
          refine r_aload rfl rfl ?_
          refine r_iload rfl rfl ?_
          refine r_f1 rfl (by first | exact iB0 | exact iB1 | exact iBm | exact hB _ _ | exact hT _ (by omega) | exact ⟨by omega, by omega⟩) (by omega) ?_
          refine r_push rfl ?_
          refine r_goto rfl ?_
          refine q_puti rfl rfl rfl ?_
          refine r_aload rfl rfl ?_
          refine q_geti rfl rfl rfl (uZ_eq _ _ _ _) ?_
          refine r_f5 rfl (by first | exact iB0 | exact iB1 | exact iBm | exact hB _ _ | exact hT _ (by omega) | exact ⟨by omega, by omega⟩) (by omega) ?_
          refine r_push rfl ?_
          refine q_iret rfl rfl rfl ?_
          exact mQ_ok (if_neg (by omega)) rfl (mR_t hd 1) (uZ_eq _ _ _ _) (cF_u (cF_r Z) (by omega))
        · refine r_iload rfl rfl ?_
          refine r_t0 rfl (by first | exact iB0 | exact iB1 | exact iBm | exact hB _ _ | exact hT _ (by omega) | exact ⟨by omega, by omega⟩) (by omega) ?_
          refine r_push rfl ?_
          refine r_istore rfl ?_
          refine r_aload rfl rfl ?_
          refine r_iload rfl rfl ?_
          refine r_f1 rfl (by first | exact iB0 | exact iB1 | exact iBm | exact hB _ _ | exact hT _ (by omega) | exact ⟨by omega, by omega⟩) (by omega) ?_
          refine r_push rfl ?_
          refine r_goto rfl ?_
          refine q_puti rfl rfl rfl ?_
          refine r_aload rfl rfl ?_
          refine q_geti rfl rfl rfl (uZ_eq _ _ _ _) ?_
          refine r_f5 rfl (by first | exact iB0 | exact iB1 | exact iBm | exact hB _ _ | exact hT _ (by omega) | exact ⟨by omega, by omega⟩) (by omega) ?_
          refine r_push rfl ?_
          refine q_iret rfl rfl rfl ?_
          exact mQ_ok (if_neg (by omega)) rfl (mR_t hd 1) (uZ_eq _ _ _ _) (cF_u (cF_r Z) (by omega))
    · refine r_iload rfl rfl ?_
      refine r_iload rfl rfl ?_
      refine r_c4 rfl he hg (fun h6 => ?_) (fun h6 => ?_)
      · refine r_push rfl ?_
        refine r_istore rfl ?_
        refine r_iload rfl rfl ?_
        refine r_z2 rfl ht (fun h31 => ?_) (fun h31 => ?_)
        · refine r_push rfl ?_
          refine r_istore rfl ?_
          refine r_aload rfl rfl ?_
          refine r_iload rfl rfl ?_
          refine r_f1 rfl (by first | exact iB0 | exact iB1 | exact iBm | exact hB _ _ | exact hT _ (by omega) | exact ⟨by omega, by omega⟩) (by omega) ?_
          refine r_push rfl ?_
          refine r_goto rfl ?_
          refine q_puti rfl rfl rfl ?_
          refine r_aload rfl rfl ?_
          refine q_geti rfl rfl rfl (uZ_eq _ _ _ _) ?_
          refine r_f5 rfl (by first | exact iB0 | exact iB1 | exact iBm | exact hB _ _ | exact hT _ (by omega) | exact ⟨by omega, by omega⟩) (by omega) ?_
          refine r_push rfl ?_
          refine q_iret rfl rfl rfl ?_
          exact mQ_ok (if_neg (by omega)) rfl (mR_t hd 1) (uZ_eq _ _ _ _) (cF_u (cF_r Z) (by omega))
        · refine r_iload rfl rfl ?_
          refine r_push rfl ?_
          refine r_c4 rfl ht ⟨by omega, by omega⟩ (fun h36 => ?_) (fun h36 => ?_)
          · refine r_push rfl ?_
            refine r_istore rfl ?_
            refine r_aload rfl rfl ?_
            refine r_iload rfl rfl ?_
            refine r_f1 rfl (by first | exact iB0 | exact iB1 | exact iBm | exact hB _ _ | exact hT _ (by omega) | exact ⟨by omega, by omega⟩) (by omega) ?_
            refine r_push rfl ?_
            refine r_goto rfl ?_
            refine q_puti rfl rfl rfl ?_
            refine r_aload rfl rfl ?_
            refine q_geti rfl rfl rfl (uZ_eq _ _ _ _) ?_
            refine r_f5 rfl (by first | exact iB0 | exact iB1 | exact iBm | exact hB _ _ | exact hT _ (by omega) | exact ⟨by omega, by omega⟩) (by omega) ?_
            refine r_push rfl ?_
            refine q_iret rfl rfl rfl ?_
            exact mQ_ok (if_neg (by omega)) rfl (mR_t hd 1) (uZ_eq _ _ _ _) (cF_u (cF_r Z) (by omega))
          · refine r_iload rfl rfl ?_
            refine r_t0 rfl (by first | exact iB0 | exact iB1 | exact iBm | exact hB _ _ | exact hT _ (by omega) | exact ⟨by omega, by omega⟩) (by omega) ?_
            refine r_push rfl ?_
            refine r_istore rfl ?_
            refine r_aload rfl rfl ?_
            refine r_iload rfl rfl ?_
            refine r_f1 rfl (by first | exact iB0 | exact iB1 | exact iBm | exact hB _ _ | exact hT _ (by omega) | exact ⟨by omega, by omega⟩) (by omega) ?_
            refine r_push rfl ?_
            refine r_goto rfl ?_
            refine q_puti rfl rfl rfl ?_
            refine r_aload rfl rfl ?_
            refine q_geti rfl rfl rfl (uZ_eq _ _ _ _) ?_
            refine r_f5 rfl (by first | exact iB0 | exact iB1 | exact iBm | exact hB _ _ | exact hT _ (by omega) | exact ⟨by omega, by omega⟩) (by omega) ?_
            refine r_push rfl ?_
            refine q_iret rfl rfl rfl ?_
            exact mQ_ok (if_neg (by omega)) rfl (mR_t hd 1) (uZ_eq _ _ _ _) (cF_u (cF_r Z) (by omega))
      · refine r_iload rfl rfl ?_
        refine r_iload rfl rfl ?_
        refine r_c4 rfl hg hl (fun h12 => ?_) (fun h12 => ?_)
        · refine r_push rfl ?_
          refine r_istore rfl ?_
          refine r_iload rfl rfl ?_
          refine r_z2 rfl ht (fun h31 => ?_) (fun h31 => ?_)
          · refine r_push rfl ?_
            refine r_istore rfl ?_
            refine r_aload rfl rfl ?_
            refine r_iload rfl rfl ?_
            refine r_f1 rfl (by first | exact iB0 | exact iB1 | exact iBm | exact hB _ _ | exact hT _ (by omega) | exact ⟨by omega, by omega⟩) (by omega) ?_
            refine r_push rfl ?_
            refine r_goto rfl ?_
            refine q_puti rfl rfl rfl ?_
            refine r_aload rfl rfl ?_
            refine q_geti rfl rfl rfl (uZ_eq _ _ _ _) ?_
            refine r_f5 rfl (by first | exact iB0 | exact iB1 | exact iBm | exact hB _ _ | exact hT _ (by omega) | exact ⟨by omega, by omega⟩) (by omega) ?_
            refine r_push rfl ?_
            refine q_iret rfl rfl rfl ?_
            exact mQ_ok (if_neg (by omega)) rfl (mR_t hd 1) (uZ_eq _ _ _ _) (cF_u (cF_r Z) (by omega))
          · refine r_iload rfl rfl ?_
            refine r_push rfl ?_
            refine r_c4 rfl ht ⟨by omega, by omega⟩ (fun h36 => ?_) (fun h36 => ?_)
            · refine r_push rfl ?_
              refine r_istore rfl ?_
              refine r_aload rfl rfl ?_
              refine r_iload rfl rfl ?_
              refine r_f1 rfl (by first | exact iB0 | exact iB1 | exact iBm | exact hB _ _ | exact hT _ (by omega) | exact ⟨by omega, by omega⟩) (by omega) ?_
              refine r_push rfl ?_
              refine r_goto rfl ?_
              refine q_puti rfl rfl rfl ?_
              refine r_aload rfl rfl ?_
              refine q_geti rfl rfl rfl (uZ_eq _ _ _ _) ?_
              refine r_f5 rfl (by first | exact iB0 | exact iB1 | exact iBm | exact hB _ _ | exact hT _ (by omega) | exact ⟨by omega, by omega⟩) (by omega) ?_
              refine r_push rfl ?_
              refine q_iret rfl rfl rfl ?_
              exact mQ_ok (if_neg (by omega)) rfl (mR_t hd 1) (uZ_eq _ _ _ _) (cF_u (cF_r Z) (by omega))
            · refine r_iload rfl rfl ?_
              refine r_t0 rfl (by first | exact iB0 | exact iB1 | exact iBm | exact hB _ _ | exact hT _ (by omega) | exact ⟨by omega, by omega⟩) (by omega) ?_
              refine r_push rfl ?_
              refine r_istore rfl ?_
              refine r_aload rfl rfl ?_
              refine r_iload rfl rfl ?_
              refine r_f1 rfl (by first | exact iB0 | exact iB1 | exact iBm | exact hB _ _ | exact hT _ (by omega) | exact ⟨by omega, by omega⟩) (by omega) ?_
              refine r_push rfl ?_
              refine r_goto rfl ?_
              refine q_puti rfl rfl rfl ?_
              refine r_aload rfl rfl ?_
              refine q_geti rfl rfl rfl (uZ_eq _ _ _ _) ?_
              refine r_f5 rfl (by first | exact iB0 | exact iB1 | exact iBm | exact hB _ _ | exact hT _ (by omega) | exact ⟨by omega, by omega⟩) (by omega) ?_
              refine r_push rfl ?_
              refine q_iret rfl rfl rfl ?_
              exact mQ_ok (if_neg (by omega)) rfl (mR_t hd 1) (uZ_eq _ _ _ _) (cF_u (cF_r Z) (by omega))
        · refine r_iload rfl rfl ?_
          refine r_push rfl ?_
          refine r_c4 rfl hl ⟨by omega, by omega⟩ (fun h20 => ?_) (fun h20 => ?_)
          · refine r_push rfl ?_
            refine r_istore rfl ?_
            refine r_iload rfl rfl ?_
            refine r_z2 rfl ht (fun h31 => ?_) (fun h31 => ?_)
            · refine r_push rfl ?_
              refine r_istore rfl ?_
              refine r_aload rfl rfl ?_
              refine r_iload rfl rfl ?_
              refine r_f1 rfl (by first | exact iB0 | exact iB1 | exact iBm | exact hB _ _ | exact hT _ (by omega) | exact ⟨by omega, by omega⟩) (by omega) ?_
              refine r_push rfl ?_
              refine r_goto rfl ?_
              refine q_puti rfl rfl rfl ?_
              refine r_aload rfl rfl ?_
              refine q_geti rfl rfl rfl (uZ_eq _ _ _ _) ?_
              refine r_f5 rfl (by first | exact iB0 | exact iB1 | exact iBm | exact hB _ _ | exact hT _ (by omega) | exact ⟨by omega, by omega⟩) (by omega) ?_
              refine r_push rfl ?_
              refine q_iret rfl rfl rfl ?_
              exact mQ_ok (if_neg (by omega)) rfl (mR_t hd 1) (uZ_eq _ _ _ _) (cF_u (cF_r Z) (by omega))
            · refine r_iload rfl rfl ?_
              refine r_push rfl ?_
              refine r_c4 rfl ht ⟨by omega, by omega⟩ (fun h36 => ?_) (fun h36 => ?_)
              · refine r_push rfl ?_
                refine r_istore rfl ?_
                refine r_aload rfl rfl ?_
                refine r_iload rfl rfl ?_
                refine r_f1 rfl (by first | exact iB0 | exact iB1 | exact iBm | exact hB _ _ | exact hT _ (by omega) | exact ⟨by omega, by omega⟩) (by omega) ?_
                refine r_push rfl ?_
                refine r_goto rfl ?_
                refine q_puti rfl rfl rfl ?_
                refine r_aload rfl rfl ?_
                refine q_geti rfl rfl rfl (uZ_eq _ _ _ _) ?_
                refine r_f5 rfl (by first | exact iB0 | exact iB1 | exact iBm | exact hB _ _ | exact hT _ (by omega) | exact ⟨by omega, by omega⟩) (by omega) ?_
                refine r_push rfl ?_
                refine q_iret rfl rfl rfl ?_
                exact mQ_ok (if_neg (by omega)) rfl (mR_t hd 1) (uZ_eq _ _ _ _) (cF_u (cF_r Z) (by omega))
              · refine r_iload rfl rfl ?_
                refine r_t0 rfl (by first | exact iB0 | exact iB1 | exact iBm | exact hB _ _ | exact hT _ (by omega) | exact ⟨by omega, by omega⟩) (by omega) ?_
                refine r_push rfl ?_
                refine r_istore rfl ?_
                refine r_aload rfl rfl ?_
                refine r_iload rfl rfl ?_
                refine r_f1 rfl (by first | exact iB0 | exact iB1 | exact iBm | exact hB _ _ | exact hT _ (by omega) | exact ⟨by omega, by omega⟩) (by omega) ?_
                refine r_push rfl ?_
                refine r_goto rfl ?_
                refine q_puti rfl rfl rfl ?_
                refine r_aload rfl rfl ?_
                refine q_geti rfl rfl rfl (uZ_eq _ _ _ _) ?_
                refine r_f5 rfl (by first | exact iB0 | exact iB1 | exact iBm | exact hB _ _ | exact hT _ (by omega) | exact ⟨by omega, by omega⟩) (by omega) ?_
                refine r_push rfl ?_
                refine q_iret rfl rfl rfl ?_
                exact mQ_ok (if_neg (by omega)) rfl (mR_t hd 1) (uZ_eq _ _ _ _) (cF_u (cF_r Z) (by omega))
          · refine r_push rfl ?_
            refine r_goto rfl ?_
            refine r_istore rfl ?_
            refine r_iload rfl rfl ?_
            refine r_z2 rfl ht (fun h31 => ?_) (fun h31 => ?_)
            · refine r_push rfl ?_
              refine r_istore rfl ?_
              refine r_aload rfl rfl ?_
              refine r_iload rfl rfl ?_
              refine r_f1 rfl (by first | exact iB0 | exact iB1 | exact iBm | exact hB _ _ | exact hT _ (by omega) | exact ⟨by omega, by omega⟩) (by omega) ?_
              refine r_push rfl ?_
              refine r_goto rfl ?_
              refine q_puti rfl rfl rfl ?_
              refine r_aload rfl rfl ?_
              refine q_geti rfl rfl rfl (uZ_eq _ _ _ _) ?_
              refine r_f5 rfl (by first | exact iB0 | exact iB1 | exact iBm | exact hB _ _ | exact hT _ (by omega) | exact ⟨by omega, by omega⟩) (by omega) ?_
              refine r_push rfl ?_
              refine q_iret rfl rfl rfl ?_
              exact mQ_ok (if_neg (by omega)) rfl (mR_t hd 1) (uZ_eq _ _ _ _) (cF_u (cF_r Z) (by omega))
            · refine r_iload rfl rfl ?_
              refine r_push rfl ?_
              refine r_c4 rfl ht ⟨by omega, by omega⟩ (fun h36 => ?_) (fun h36 => ?_)
              · refine r_push rfl ?_
                refine r_istore rfl ?_
                refine r_aload rfl rfl ?_
                refine r_iload rfl rfl ?_
                refine r_f1 rfl (by first | exact iB0 | exact iB1 | exact iBm | exact hB _ _ | exact hT _ (by omega) | exact ⟨by omega, by omega⟩) (by omega) ?_
                refine r_push rfl ?_
                refine r_goto rfl ?_
                refine q_puti rfl rfl rfl ?_
                refine r_aload rfl rfl ?_
                refine q_geti rfl rfl rfl (uZ_eq _ _ _ _) ?_
                refine r_f5 rfl (by first | exact iB0 | exact iB1 | exact iBm | exact hB _ _ | exact hT _ (by omega) | exact ⟨by omega, by omega⟩) (by omega) ?_
                refine r_push rfl ?_
                refine q_iret rfl rfl rfl ?_
                exact mQ_ok (if_neg (by omega)) rfl (mR_t hd 1) (uZ_eq _ _ _ _) (cF_u (cF_r Z) (by omega))
              · refine r_iload rfl rfl ?_
                refine r_f0 rfl (by first | exact iB0 | exact iB1 | exact iBm | exact hB _ _ | exact hT _ (by omega) | exact ⟨by omega, by omega⟩) (by omega) ?_
                refine r_iload rfl rfl ?_
                refine r_z2 rfl hw (fun h46 => ?_) (fun h46 => ?_)
                · refine r_push rfl ?_
                  refine r_istore rfl ?_
                  refine r_aload rfl rfl ?_
                  refine r_iload rfl rfl ?_
                  refine r_f1 rfl (by first | exact iB0 | exact iB1 | exact iBm | exact hB _ _ | exact hT _ (by omega) | exact ⟨by omega, by omega⟩) (by omega) ?_
                  refine r_push rfl ?_
                  refine r_goto rfl ?_
                  refine q_puti rfl rfl rfl ?_
                  refine r_aload rfl rfl ?_
                  refine q_geti rfl rfl rfl (uZ_eq _ _ _ _) ?_
                  refine r_f5 rfl (by first | exact iB0 | exact iB1 | exact iBm | exact hB _ _ | exact hT _ (by omega) | exact ⟨by omega, by omega⟩) (by omega) ?_
                  refine r_push rfl ?_
                  refine q_iret rfl rfl rfl ?_
                  exact mQ_ok (if_neg (by omega)) rfl (mR_t hd 1) (uZ_eq _ _ _ _) (cF_u (cF_r Z) (by omega))
                · refine r_iload rfl rfl ?_
                  refine r_push rfl ?_
                  refine r_c4 rfl hw ⟨by omega, by omega⟩ (fun h53 => ?_) (fun h53 => ?_)
                  · refine r_push rfl ?_
                    refine r_istore rfl ?_
                    refine r_aload rfl rfl ?_
                    refine r_iload rfl rfl ?_
                    refine r_f1 rfl (by first | exact iB0 | exact iB1 | exact iBm | exact hB _ _ | exact hT _ (by omega) | exact ⟨by omega, by omega⟩) (by omega) ?_
                    refine r_push rfl ?_
                    refine r_goto rfl ?_
                    refine q_puti rfl rfl rfl ?_
                    refine r_aload rfl rfl ?_
                    refine q_geti rfl rfl rfl (uZ_eq _ _ _ _) ?_
                    refine r_f5 rfl (by first | exact iB0 | exact iB1 | exact iBm | exact hB _ _ | exact hT _ (by omega) | exact ⟨by omega, by omega⟩) (by omega) ?_
                    refine r_push rfl ?_
                    refine q_iret rfl rfl rfl ?_
                    exact mQ_ok (if_neg (by omega)) rfl (mR_t hd 1) (uZ_eq _ _ _ _) (cF_u (cF_r Z) (by omega))
                  · refine r_push rfl ?_
                    refine r_goto rfl ?_
                    refine r_istore rfl ?_
                    refine r_aload rfl rfl ?_
                    refine r_iload rfl rfl ?_
                    refine r_t1 rfl (by first | exact iB0 | exact iB1 | exact iBm | exact hB _ _ | exact hT _ (by omega) | exact ⟨by omega, by omega⟩) (by omega) ?_
                    refine r_aload rfl rfl ?_
                    refine r_ki0 rfl rfl rfl rfl rfl (s_35 hd hz hB) ?_
                    refine r_push rfl ?_
                    refine r_c1 rfl (by first | exact iB0 | exact iB1 | exact iBm | exact hB _ _ | exact hT _ (by omega) | exact ⟨by omega, by omega⟩) (by first | exact iB0 | exact iB1 | exact iBm | exact hB _ _ | exact hT _ (by omega) | exact ⟨by omega, by omega⟩) (fun h79 => ?_) (fun h79 => ?_)
                    · refine r_push rfl ?_
                      refine q_puti rfl rfl rfl ?_
                      refine r_aload rfl rfl ?_
                      refine q_geti rfl rfl rfl (uZ_eq _ _ _ _) ?_
                      refine r_t5 rfl (by first | exact iB0 | exact iB1 | exact iBm | exact hB _ _ | exact hT _ (by omega) | exact ⟨by omega, by omega⟩) (by omega) ?_
                      refine r_push rfl ?_
                      refine r_istore rfl ?_
                      refine r_loop (fun o => (102, [some (.ref 34), some (.int (iI t)), some (.int (iI e)), some (.int (iI g)), some (.int (iI l)), some (.int (iI w)), some (.int (iI 1)), some (.int (iI 1)), some (.int (iI o))], [], mW (uZ Z 34 0 0) Lg N X, 0, 0)) (fun o => True) m trivial (fun o ho hi hn => ?_) (fun hi => ?_)
                      · (try dsimp only at hi); (try dsimp only at hn); (try dsimp only)
                        have hto : z 0 o ≠ 0 := th_iff.mp (by simpa using hm4 o ho)
                        refine r_aload rfl rfl ?_
                        refine q_getr rfl rfl rfl ?_
                        refine r_iload rfl rfl ?_
                        refine q_zald rfl rfl (by omega) (by omega) rfl (hd0.1 o) ?_
                        refine r_z0 rfl (by first | exact iB0 | exact iB1 | exact iBm | exact hB _ _ | exact hT _ (by omega) | exact ⟨by omega, by omega⟩) (fun h109 => ?_) (fun h109 => ?_)
                        · exfalso; omega
                        · refine r_iinc rfl rfl ?_
                          refine r_goto rfl ?_
                          exact hn trivial
                      · (try dsimp only at hi); (try dsimp only)
                        refine r_aload rfl rfl ?_
                        refine q_getr rfl rfl rfl ?_
                        refine r_iload rfl rfl ?_
                        refine q_zald rfl rfl (by omega) (by omega) rfl (hd0.1 m) ?_
                        refine r_z0 rfl (by first | exact iB0 | exact iB1 | exact iBm | exact hB _ _ | exact hT _ (by omega) | exact ⟨by omega, by omega⟩) (fun h109 => ?_) (fun h109 => ?_)
                        · refine r_aload rfl rfl ?_
                          refine q_getr rfl rfl rfl ?_
                          refine r_iload rfl rfl ?_
                          refine r_push rfl ?_
                          refine q_zast rfl rfl (by omega) (by omega) rfl (by omega) ?_
                          refine r_aload rfl rfl ?_
                          refine q_getr rfl rfl rfl ?_
                          refine r_iload rfl rfl ?_
                          refine r_iload rfl rfl ?_
                          refine q_iast rfl rfl (by omega) (by omega) rfl ?_
                          refine r_aload rfl rfl ?_
                          refine q_getr rfl rfl rfl ?_
                          refine r_iload rfl rfl ?_
                          refine r_iload rfl rfl ?_
                          refine q_iast rfl rfl (by omega) (by omega) rfl ?_
                          refine r_aload rfl rfl ?_
                          refine q_getr rfl rfl rfl ?_
                          refine r_iload rfl rfl ?_
                          refine r_iload rfl rfl ?_
                          refine q_iast rfl rfl (by omega) (by omega) rfl ?_
                          refine r_aload rfl rfl ?_
                          refine q_getr rfl rfl rfl ?_
                          refine r_iload rfl rfl ?_
                          refine r_iload rfl rfl ?_
                          refine q_iast rfl rfl (by omega) (by omega) rfl ?_
                          refine r_aload rfl rfl ?_
                          refine q_getr rfl rfl rfl ?_
                          refine r_iload rfl rfl ?_
                          refine r_iload rfl rfl ?_
                          refine q_iast rfl rfl (by omega) (by omega) rfl ?_
                          refine r_aload rfl rfl ?_
                          refine q_getr rfl rfl rfl ?_
                          refine r_iload rfl rfl ?_
                          refine r_push rfl ?_
                          refine q_iast rfl rfl (by omega) (by omega) rfl ?_
                          refine r_iload rfl rfl ?_
                          refine q_iret rfl rfl rfl ?_
                          exact mQ_ok ((if_pos (by omega)).trans (by rw [hf]; rfl)) rfl (mR_m (mu_6 (mu_5 (mu_4 (mu_3 (mu_2 (mu_1 (mu_0 (mR_n hd0) m 1) m t) m e) m g) m l) m w) m (-1)) hmm) ((uZ_ne (by omega) _).trans ((uZ_ne (by omega) _).trans ((uZ_ne (by omega) _).trans ((uZ_ne (by omega) _).trans ((uZ_ne (by omega) _).trans ((uZ_ne (by omega) _).trans ((uZ_ne (by omega) _).trans (uZ_eq _ _ _ _)))))))) (cF_u (cF_u (cF_u (cF_u (cF_u (cF_u (cF_u (cF_u (cF_r Z) (by omega)) (by omega)) (by omega)) (by omega)) (by omega)) (by omega)) (by omega)) (by omega))
                        · exfalso; omega
                    · exfalso; omega

theorem s_38 {d : Nat} {Z : wZ} {Lg : Nat → Nat → Int64} {N : Nat} {X : Nat → Int32} {z : rd_Z} (hd : mR z Z) (hz : rd_ok z) (hB : zB z) {m : Int} (hm : iB m) : am_T am_tabs am_ar (d + 2) 38 [.ref 34, .int (iI m)] (mW Z Lg N X) (mQ (f_rem z m) Z Lg N X) := by
  refine ⟨⟨rfl, rfl⟩, ?_⟩
  show am_X (am_tb op_38) _ _ _
  by_cases h : 0 ≤ m ∧ m < 7 ∧ rd_th z m.toNat = true
  · obtain ⟨n, rfl⟩ : ∃ n : Nat, m = n := ⟨m.toNat, by omega⟩
    have hn : n < 7 := by omega
    have ht : rd_th z n = true := h.2.2
    have h0n : z 0 n ≠ 0 := th_iff.mp ht
    have hrg := ok_rg hz hn
    have hfr := ok_fr hz hn
    have hrs := ok_rs hz hn
    have hdr : mR (z_rem z n) (uZ (uZ (uZ (uZ Z 34 0 0) 35 n 0) 45 n (-1)) 46 n (-1)) := mR_m (mu_12 (mu_11 (mu_0 (mR_n (mR_t hd 0)) n 0) n (-1)) n (-1)) (fun j hj q q0 => q (by
      by_cases ej : j = n
      · subst ej; exact uZ_eq z 0 j 0
      · exact (show uZ z 0 n 0 0 j = 0 from (uZ_nj 0 ej).trans q0)))
    refine r_aload rfl rfl ?_
    refine r_aload rfl rfl ?_
    refine r_iload rfl rfl ?_
    refine r_kb1 rfl rfl rfl rfl rfl (s_33 hd hz hB hm) (fun h3 => ?_) (fun h3 => ?_)
    · refine r_f0 rfl (by first | exact iB0 | exact iB1 | exact iBm | exact hB _ _ | exact hT _ (by omega) | exact ⟨by omega, by omega⟩) (by omega) ?_
      refine r_push rfl ?_
      refine r_goto rfl ?_
      refine q_puti rfl rfl rfl ?_
      refine r_aload rfl rfl ?_
      refine q_geti rfl rfl rfl (uZ_eq _ _ _ _) ?_
      refine r_t5 rfl (by first | exact iB0 | exact iB1 | exact iBm | exact hB _ _ | exact hT _ (by omega) | exact ⟨by omega, by omega⟩) (by omega) ?_
      refine r_aload rfl rfl ?_
      refine q_getr rfl rfl rfl ?_
      refine r_iload rfl rfl ?_
      refine r_push rfl ?_
      refine q_zast rfl rfl (by omega) (by omega) rfl (by omega) ?_
      refine r_aload rfl rfl ?_
      refine q_getr rfl rfl rfl ?_
      refine r_iload rfl rfl ?_
      refine r_push rfl ?_
      refine q_iast rfl rfl (by omega) (by omega) rfl ?_
      refine r_aload rfl rfl ?_
      refine q_getr rfl rfl rfl ?_
      refine r_iload rfl rfl ?_
      refine r_push rfl ?_
      refine q_iast rfl rfl (by omega) (by omega) rfl ?_
      refine r_aload rfl rfl ?_
      refine r_ki0 rfl rfl rfl rfl rfl (s_35 hdr (ok_rem hz) (zB_u (zB_u (zB_u hB iB0) iBm) iBm)) ?_
      refine q_iret rfl rfl rfl ?_
      exact mQ_ok (if_pos h) rfl hdr ((uZ_ne (by omega) _).trans ((uZ_ne (by omega) _).trans ((uZ_ne (by omega) _).trans (uZ_eq _ _ _ _)))) (cF_u (cF_u (cF_u (cF_u (cF_r Z) (by omega)) (by omega)) (by omega)) (by omega))
    · exact absurd h h3
  ·
    refine r_aload rfl rfl ?_
    refine r_aload rfl rfl ?_
    refine r_iload rfl rfl ?_
    refine r_kb1 rfl rfl rfl rfl rfl (s_33 hd hz hB hm) (fun h3 => ?_) (fun h3 => ?_)
    · exact absurd h3 h
    · refine r_t0 rfl (by first | exact iB0 | exact iB1 | exact iBm | exact hB _ _ | exact hT _ (by omega) | exact ⟨by omega, by omega⟩) (by omega) ?_
      refine r_push rfl ?_
      refine q_puti rfl rfl rfl ?_
      refine r_aload rfl rfl ?_
      refine q_geti rfl rfl rfl (uZ_eq _ _ _ _) ?_
      refine r_f5 rfl (by first | exact iB0 | exact iB1 | exact iBm | exact hB _ _ | exact hT _ (by omega) | exact ⟨by omega, by omega⟩) (by omega) ?_
      refine r_push rfl ?_
      refine q_iret rfl rfl rfl ?_
      exact mQ_ok (if_neg h) rfl (mR_t hd 1) (uZ_eq _ _ _ _) (cF_u (cF_r Z) (by omega))

theorem s_39 {d : Nat} {Z : wZ} {Lg : Nat → Nat → Int64} {N : Nat} {X : Nat → Int32} {z : rd_Z} (hd : mR z Z) (hz : rd_ok z) (hB : zB z) {m : Int} (hm : iB m){t : Int} (ht_ : iB t) : am_T am_tabs am_ar (d + 2) 39 [.ref 34, .int (iI m), .int (iI t)] (mW Z Lg N X) (mQ (f_ret z m t) Z Lg N X) := by
  refine ⟨⟨rfl, rfl⟩, ?_⟩
  show am_X (am_tb op_39) _ _ _
  by_cases h : 0 ≤ m ∧ m < 7 ∧ rd_th z m.toNat = true
  · obtain ⟨n, rfl⟩ : ∃ n : Nat, m = n := ⟨m.toNat, by omega⟩
    have hn : n < 7 := by omega
    have ht : rd_th z n = true := h.2.2
    have h0n : z 0 n ≠ 0 := th_iff.mp ht
    have hrg := ok_rg hz hn
    have hfr := ok_fr hz hn
    have hrs := ok_rs hz hn
    refine r_aload rfl rfl ?_
    refine r_aload rfl rfl ?_
    refine r_iload rfl rfl ?_
    refine r_kb1 rfl rfl rfl rfl rfl (s_33 hd hz hB hm) (fun h3 => ?_) (fun h3 => ?_)
    · refine r_t1 rfl (by first | exact iB0 | exact iB1 | exact iBm | exact hB _ _ | exact hT _ (by omega) | exact ⟨by omega, by omega⟩) (by omega) ?_
      refine r_iload rfl rfl ?_
      refine r_aload rfl rfl ?_
      refine q_getr rfl rfl rfl ?_
      refine r_iload rfl rfl ?_
      refine q_iald rfl rfl (by omega) (by omega) rfl (hd.2.2.1 n) ?_
      refine r_c2 rfl ht_ (hB _ _) (fun h20 => ?_) (fun h20 => ?_)
      · refine r_push rfl ?_
        refine r_goto rfl ?_
        refine q_puti rfl rfl rfl ?_
        refine r_aload rfl rfl ?_
        refine q_geti rfl rfl rfl (uZ_eq _ _ _ _) ?_
        refine r_f5 rfl (by first | exact iB0 | exact iB1 | exact iBm | exact hB _ _ | exact hT _ (by omega) | exact ⟨by omega, by omega⟩) (by omega) ?_
        refine r_push rfl ?_
        refine q_iret rfl rfl rfl ?_
        exact mQ_ok ((if_pos h).trans (if_neg (show ¬ (z 2 n ≤ t ∧ t ≤ z 4 n) by omega))) rfl (mR_t hd 2) (uZ_eq _ _ _ _) (cF_u (cF_r Z) (by omega))
      · refine r_iload rfl rfl ?_
        refine r_aload rfl rfl ?_
        refine q_getr rfl rfl rfl ?_
        refine r_iload rfl rfl ?_
        refine q_iald rfl rfl (by omega) (by omega) rfl (hd.2.2.2.2.1 n) ?_
        refine r_c5 rfl ht_ (hB _ _) (fun h30 => ?_) (fun h30 => ?_)
        · refine r_push rfl ?_
          refine q_puti rfl rfl rfl ?_
          refine r_aload rfl rfl ?_
          refine q_geti rfl rfl rfl (uZ_eq _ _ _ _) ?_
          refine r_t5 rfl (by first | exact iB0 | exact iB1 | exact iBm | exact hB _ _ | exact hT _ (by omega) | exact ⟨by omega, by omega⟩) (by omega) ?_
          refine r_aload rfl rfl ?_
          refine q_getr rfl rfl rfl ?_
          refine r_iload rfl rfl ?_
          refine q_iald rfl rfl (by omega) (by omega) rfl (hd.2.2.2.1 n) ?_
          refine r_istore rfl ?_
          refine r_aload rfl rfl ?_
          refine q_getr rfl rfl rfl ?_
          refine r_iload rfl rfl ?_
          refine r_iload rfl rfl ?_
          refine q_iast rfl rfl (by omega) (by omega) rfl ?_
          refine r_iload rfl rfl ?_
          refine q_iret rfl rfl rfl ?_
          exact mQ_ok ((if_pos h).trans (if_pos (show z 2 n ≤ t ∧ t ≤ z 4 n by omega))) rfl (mu_3 (mR_n (mR_t hd 0)) n t) ((uZ_ne (by omega) _).trans (uZ_eq _ _ _ _)) (cF_u (cF_u (cF_r Z) (by omega)) (by omega))
        · refine r_push rfl ?_
          refine r_goto rfl ?_
          refine q_puti rfl rfl rfl ?_
          refine r_aload rfl rfl ?_
          refine q_geti rfl rfl rfl (uZ_eq _ _ _ _) ?_
          refine r_f5 rfl (by first | exact iB0 | exact iB1 | exact iBm | exact hB _ _ | exact hT _ (by omega) | exact ⟨by omega, by omega⟩) (by omega) ?_
          refine r_push rfl ?_
          refine q_iret rfl rfl rfl ?_
          exact mQ_ok ((if_pos h).trans (if_neg (show ¬ (z 2 n ≤ t ∧ t ≤ z 4 n) by omega))) rfl (mR_t hd 2) (uZ_eq _ _ _ _) (cF_u (cF_r Z) (by omega))
    · exact absurd h h3
  ·
    refine r_aload rfl rfl ?_
    refine r_aload rfl rfl ?_
    refine r_iload rfl rfl ?_
    refine r_kb1 rfl rfl rfl rfl rfl (s_33 hd hz hB hm) (fun h3 => ?_) (fun h3 => ?_)
    · exact absurd h3 h
    · refine r_f1 rfl (by first | exact iB0 | exact iB1 | exact iBm | exact hB _ _ | exact hT _ (by omega) | exact ⟨by omega, by omega⟩) (by omega) ?_
      refine r_push rfl ?_
      refine r_goto rfl ?_
      refine q_puti rfl rfl rfl ?_
      refine r_aload rfl rfl ?_
      refine q_geti rfl rfl rfl (uZ_eq _ _ _ _) ?_
      refine r_f5 rfl (by first | exact iB0 | exact iB1 | exact iBm | exact hB _ _ | exact hT _ (by omega) | exact ⟨by omega, by omega⟩) (by omega) ?_
      refine r_push rfl ?_
      refine q_iret rfl rfl rfl ?_
      exact mQ_ok (if_neg h) rfl (mR_t hd 1) (uZ_eq _ _ _ _) (cF_u (cF_r Z) (by omega))

theorem s_40 {d : Nat} {Z : wZ} {Lg : Nat → Nat → Int64} {N : Nat} {X : Nat → Int32} {z : rd_Z} (hd : mR z Z) (hz : rd_ok z) (hB : zB z) {p : Int} (hp : iB p) : am_T am_tabs am_ar (d + 1) 40 [.ref 34, .int (iI p)] (mW Z Lg N X) (mQ (f_lim z p) Z Lg N X) := by
  refine ⟨⟨rfl, rfl⟩, ?_⟩
  show am_X (am_tb op_40) _ _ _
  refine r_aload rfl rfl ?_
  refine r_iload rfl rfl ?_
  refine r_z2 rfl hp (fun h2 => ?_) (fun h2 => ?_)
  · refine r_push rfl ?_
    refine q_puti rfl rfl rfl ?_
    refine r_aload rfl rfl ?_
    refine q_geti rfl rfl rfl (uZ_eq _ _ _ _) ?_
    refine r_f5 rfl (by first | exact iB0 | exact iB1 | exact iBm | exact hB _ _ | exact hT _ (by omega) | exact ⟨by omega, by omega⟩) (by omega) ?_
    refine r_push rfl ?_
    refine q_iret rfl rfl rfl ?_
    exact mQ_ok (if_neg (by omega)) rfl (mR_t hd 1) (uZ_eq _ _ _ _) (cF_u (cF_r Z) (by omega))
  · refine r_iload rfl rfl ?_
    refine r_push rfl ?_
    refine r_c4 rfl hp ⟨by omega, by omega⟩ (fun h8 => ?_) (fun h8 => ?_)
    · refine r_push rfl ?_
      refine q_puti rfl rfl rfl ?_
      refine r_aload rfl rfl ?_
      refine q_geti rfl rfl rfl (uZ_eq _ _ _ _) ?_
      refine r_f5 rfl (by first | exact iB0 | exact iB1 | exact iBm | exact hB _ _ | exact hT _ (by omega) | exact ⟨by omega, by omega⟩) (by omega) ?_
      refine r_push rfl ?_
      refine q_iret rfl rfl rfl ?_
      exact mQ_ok (if_neg (by omega)) rfl (mR_t hd 1) (uZ_eq _ _ _ _) (cF_u (cF_r Z) (by omega))
    · refine r_push rfl ?_
      refine r_goto rfl ?_
      refine q_puti rfl rfl rfl ?_
      refine r_aload rfl rfl ?_
      refine q_geti rfl rfl rfl (uZ_eq _ _ _ _) ?_
      refine r_t5 rfl (by first | exact iB0 | exact iB1 | exact iBm | exact hB _ _ | exact hT _ (by omega) | exact ⟨by omega, by omega⟩) (by omega) ?_
      refine r_aload rfl rfl ?_
      refine q_geti rfl rfl rfl hd.2.2.2.2.2.2.2.2.2.2.2.1 ?_
      refine r_istore rfl ?_
      refine r_aload rfl rfl ?_
      refine r_iload rfl rfl ?_
      refine q_puti rfl rfl rfl ?_
      refine r_iload rfl rfl ?_
      refine q_iret rfl rfl rfl ?_
      exact mQ_ok (if_pos (by omega)) rfl (mu_l (mR_n (mR_t hd 0)) p) ((uZ_nj _ (by omega)).trans (uZ_eq _ _ _ _)) (cF_u (cF_u (cF_r Z) (by omega)) (by omega))

theorem s_41 {d : Nat} {Z : wZ} {Lg : Nat → Nat → Int64} {N : Nat} {X : Nat → Int32} {z : rd_Z} (hd : mR z Z) (hz : rd_ok z) (hB : zB z) {a : Int} (ha : iB a) {b : Int} (hb : iB b) : am_T am_tabs am_ar (d + 2) 41 [.ref 34, .int (iI a), .int (iI b)] (mW Z Lg N X) (mQ (f_clo z a b) Z Lg N X) := by
  refine ⟨⟨rfl, rfl⟩, ?_⟩
  show am_X (am_tb op_41) _ _ _
  have hnc := ok_nc hz
  refine r_aload rfl rfl ?_
  refine r_iload rfl rfl ?_
  refine r_sb1 rfl rfl rfl rfl (s_34 ha) (fun h2 => ?_) (fun h2 => ?_)
  · refine r_f0 rfl (by first | exact iB0 | exact iB1 | exact iBm | exact hB _ _ | exact hT _ (by omega) | exact ⟨by omega, by omega⟩) (by omega) ?_
    refine r_iload rfl rfl ?_
    refine r_sb1 rfl rfl rfl rfl (s_34 hb) (fun h9 => ?_) (fun h9 => ?_)
    · refine r_f0 rfl (by first | exact iB0 | exact iB1 | exact iBm | exact hB _ _ | exact hT _ (by omega) | exact ⟨by omega, by omega⟩) (by omega) ?_
      refine r_iload rfl rfl ?_
      refine r_iload rfl rfl ?_
      refine r_c5 rfl ha hb (fun h17 => ?_) (fun h17 => ?_)
      · refine r_aload rfl rfl ?_
        refine q_geti rfl rfl rfl hd.2.2.2.2.2.2.2.2.2.2.1 ?_
        refine r_push rfl ?_
        refine r_c1 rfl (by first | exact iB0 | exact iB1 | exact iBm | exact hB _ _ | exact hT _ (by omega) | exact ⟨by omega, by omega⟩) (by first | exact iB0 | exact iB1 | exact iBm | exact hB _ _ | exact hT _ (by omega) | exact ⟨by omega, by omega⟩) (fun h29 => ?_) (fun h29 => ?_)
        · refine r_push rfl ?_
          refine q_puti rfl rfl rfl ?_
          refine r_aload rfl rfl ?_
          refine q_geti rfl rfl rfl (uZ_eq _ _ _ _) ?_
          refine r_t5 rfl (by first | exact iB0 | exact iB1 | exact iBm | exact hB _ _ | exact hT _ (by omega) | exact ⟨by omega, by omega⟩) (by omega) ?_
          refine r_aload rfl rfl ?_
          refine q_getr rfl rfl rfl ?_
          refine r_aload rfl rfl ?_
          refine q_geti rfl rfl rfl hd.2.2.2.2.2.2.2.2.2.2.1 ?_
          refine r_iload rfl rfl ?_
          refine q_iast rfl rfl (by omega) (by omega) rfl ?_
          refine r_aload rfl rfl ?_
          refine q_getr rfl rfl rfl ?_
          refine r_aload rfl rfl ?_
          refine q_geti rfl rfl rfl hd.2.2.2.2.2.2.2.2.2.2.1 ?_
          refine r_iload rfl rfl ?_
          refine q_iast rfl rfl (by omega) (by omega) rfl ?_
          refine r_aload rfl rfl ?_
          refine r_dupr rfl ?_
          refine q_geti rfl rfl rfl hd.2.2.2.2.2.2.2.2.2.2.1 ?_
          refine r_push rfl ?_
          refine r_iadd rfl ?_
          refine q_puti rfl rfl rfl ?_
          refine r_aload rfl rfl ?_
          refine q_geti rfl rfl rfl (uZ_eq _ _ _ _) ?_
          refine q_iret rfl rfl rfl ?_
          exact mQ_ok ((if_pos (by omega)).trans (if_pos (by omega))) rfl (mu_c (mu_9 (mu_8 (mR_n (mR_t hd 0)) _ a) _ b) _) ((uZ_nj _ (by omega)).trans ((uZ_ne (by omega) _).trans ((uZ_ne (by omega) _).trans (uZ_eq _ _ _ _)))) (cF_u (cF_u (cF_u (cF_u (cF_r Z) (by omega)) (by omega)) (by omega)) (by omega))
        · refine r_push rfl ?_
          refine r_goto rfl ?_
          refine q_puti rfl rfl rfl ?_
          refine r_aload rfl rfl ?_
          refine q_geti rfl rfl rfl (uZ_eq _ _ _ _) ?_
          refine r_f5 rfl (by first | exact iB0 | exact iB1 | exact iBm | exact hB _ _ | exact hT _ (by omega) | exact ⟨by omega, by omega⟩) (by omega) ?_
          refine r_push rfl ?_
          refine q_iret rfl rfl rfl ?_
          first
          | exact mQ_ok (if_neg (by omega)) rfl (mR_t hd 1) (uZ_eq _ _ _ _) (cF_u (cF_r Z) (by omega))
          | exact mQ_ok ((if_pos (by omega)).trans (if_neg (by omega))) rfl (mR_t hd 2) (uZ_eq _ _ _ _) (cF_u (cF_r Z) (by omega))
      · refine r_push rfl ?_
        refine r_goto rfl ?_
        refine q_puti rfl rfl rfl ?_
        refine r_aload rfl rfl ?_
        refine q_geti rfl rfl rfl (uZ_eq _ _ _ _) ?_
        refine r_f5 rfl (by first | exact iB0 | exact iB1 | exact iBm | exact hB _ _ | exact hT _ (by omega) | exact ⟨by omega, by omega⟩) (by omega) ?_
        refine r_push rfl ?_
        refine q_iret rfl rfl rfl ?_
        first
        | exact mQ_ok (if_neg (by omega)) rfl (mR_t hd 1) (uZ_eq _ _ _ _) (cF_u (cF_r Z) (by omega))
        | exact mQ_ok ((if_pos (by omega)).trans (if_neg (by omega))) rfl (mR_t hd 2) (uZ_eq _ _ _ _) (cF_u (cF_r Z) (by omega))
    · refine r_t0 rfl (by first | exact iB0 | exact iB1 | exact iBm | exact hB _ _ | exact hT _ (by omega) | exact ⟨by omega, by omega⟩) (by omega) ?_
      refine r_push rfl ?_
      refine r_goto rfl ?_
      refine q_puti rfl rfl rfl ?_
      refine r_aload rfl rfl ?_
      refine q_geti rfl rfl rfl (uZ_eq _ _ _ _) ?_
      refine r_f5 rfl (by first | exact iB0 | exact iB1 | exact iBm | exact hB _ _ | exact hT _ (by omega) | exact ⟨by omega, by omega⟩) (by omega) ?_
      refine r_push rfl ?_
      refine q_iret rfl rfl rfl ?_
      first
      | exact mQ_ok (if_neg (by omega)) rfl (mR_t hd 1) (uZ_eq _ _ _ _) (cF_u (cF_r Z) (by omega))
      | exact mQ_ok ((if_pos (by omega)).trans (if_neg (by omega))) rfl (mR_t hd 2) (uZ_eq _ _ _ _) (cF_u (cF_r Z) (by omega))
  · refine r_t0 rfl (by first | exact iB0 | exact iB1 | exact iBm | exact hB _ _ | exact hT _ (by omega) | exact ⟨by omega, by omega⟩) (by omega) ?_
    refine r_push rfl ?_
    refine r_goto rfl ?_
    refine q_puti rfl rfl rfl ?_
    refine r_aload rfl rfl ?_
    refine q_geti rfl rfl rfl (uZ_eq _ _ _ _) ?_
    refine r_f5 rfl (by first | exact iB0 | exact iB1 | exact iBm | exact hB _ _ | exact hT _ (by omega) | exact ⟨by omega, by omega⟩) (by omega) ?_
    refine r_push rfl ?_
    refine q_iret rfl rfl rfl ?_
    first
    | exact mQ_ok (if_neg (by omega)) rfl (mR_t hd 1) (uZ_eq _ _ _ _) (cF_u (cF_r Z) (by omega))
    | exact mQ_ok ((if_pos (by omega)).trans (if_neg (by omega))) rfl (mR_t hd 2) (uZ_eq _ _ _ _) (cF_u (cF_r Z) (by omega))

theorem s_42 {d : Nat} {Z : wZ} {Lg : Nat → Nat → Int64} {N : Nat} {X : Nat → Int32} {z : rd_Z} (hd : mR z Z) (hz : rd_ok z) (hB : zB z)  : am_T am_tabs am_ar (d + 1) 42 [.ref 34] (mW Z Lg N X) (mQ (f_reo z) Z Lg N X) := by
  refine ⟨⟨rfl, rfl⟩, ?_⟩
  show am_X (am_tb op_42) _ _ _
  refine r_aload rfl rfl ?_
  refine r_push rfl ?_
  refine q_puti rfl rfl rfl ?_
  refine r_aload rfl rfl ?_
  refine q_geti rfl rfl rfl hd.2.2.2.2.2.2.2.2.2.2.1 ?_
  refine r_istore rfl ?_
  refine r_aload rfl rfl ?_
  refine r_push rfl ?_
  refine q_puti rfl rfl rfl ?_
  refine r_iload rfl rfl ?_
  refine q_iret rfl rfl rfl ?_
  exact mQ_ok rfl rfl (mu_c (mR_n (mR_t hd 0)) 0) ((uZ_nj _ (by omega)).trans (uZ_eq _ _ _ _)) (cF_u (cF_u (cF_r Z) (by omega)) (by omega))

theorem s_46 {d : Nat} {Z : wZ} {Lg : Nat → Nat → Int64} {N : Nat} {X : Nat → Int32} {z : rd_Z} (hd : mR z Z) (hz : rd_ok z) (hB : zB z) {m : Int} (hm : iB m) : am_T am_tabs am_ar (d + 2) 46 [.ref 34, .int (iI m)] (mW Z Lg N X) (mQ (f_tha z m) Z Lg N X) := by
  refine ⟨⟨rfl, rfl⟩, ?_⟩
  show am_X (am_tb op_46) _ _ _
  by_cases h : 0 ≤ m ∧ m < 7 ∧ rd_th z m.toNat = true
  · obtain ⟨n, rfl⟩ : ∃ n : Nat, m = n := ⟨m.toNat, by omega⟩
    have hn : n < 7 := by omega
    have ht : rd_th z n = true := h.2.2
    have h0n : z 0 n ≠ 0 := th_iff.mp ht
    have hrg := ok_rg hz hn
    have hfr := ok_fr hz hn
    have hrs := ok_rs hz hn
    refine r_aload rfl rfl ?_
    refine r_aload rfl rfl ?_
    refine r_iload rfl rfl ?_
    refine r_kb1 rfl rfl rfl rfl rfl (s_33 hd hz hB hm) (fun h3 => ?_) (fun h3 => ?_)
    · refine r_f0 rfl (by first | exact iB0 | exact iB1 | exact iBm | exact hB _ _ | exact hT _ (by omega) | exact ⟨by omega, by omega⟩) (by omega) ?_
      refine r_push rfl ?_
      refine r_goto rfl ?_
      refine q_puti rfl rfl rfl ?_
      refine r_aload rfl rfl ?_
      refine q_geti rfl rfl rfl (uZ_eq _ _ _ _) ?_
      refine r_t5 rfl (by first | exact iB0 | exact iB1 | exact iBm | exact hB _ _ | exact hT _ (by omega) | exact ⟨by omega, by omega⟩) (by omega) ?_
      refine r_aload rfl rfl ?_
      refine q_getr rfl rfl rfl ?_
      refine r_iload rfl rfl ?_
      refine q_iald rfl rfl (by omega) (by omega) rfl (hd.2.2.2.2.2.2.1 n hn h0n) ?_
      refine r_z2 rfl (by first | exact iB0 | exact iB1 | exact iBm | exact hB _ _ | exact hT _ (by omega) | exact ⟨by omega, by omega⟩) (fun h32 => ?_) (fun h32 => ?_)
      · refine r_push rfl ?_
        refine r_istore rfl ?_
        refine r_aload rfl rfl ?_
        refine q_getr rfl rfl rfl ?_
        refine r_iload rfl rfl ?_
        refine r_push rfl ?_
        refine q_iast rfl rfl (by omega) (by omega) rfl ?_
        refine r_iload rfl rfl ?_
        refine q_zret rfl rfl rfl (by omega) ?_
        first
        | exact mQ_ok (if_pos h) (if_pos (show z 6 n ≠ -1 by omega)).symm (mR_m (mu_6 (mR_n (mR_t hd 0)) n (-1)) (fun j hj q => Or.inl q)) ((uZ_ne (by omega) _).trans (uZ_eq _ _ _ _)) (cF_u (cF_u (cF_r Z) (by omega)) (by omega))
        | exact mQ_ok (if_pos h) (if_neg (show ¬ z 6 n ≠ -1 by omega)).symm (mR_m (mu_6 (mR_n (mR_t hd 0)) n (-1)) (fun j hj q => Or.inl q)) ((uZ_ne (by omega) _).trans (uZ_eq _ _ _ _)) (cF_u (cF_u (cF_r Z) (by omega)) (by omega))
      · refine r_push rfl ?_
        refine r_goto rfl ?_
        refine r_istore rfl ?_
        refine r_aload rfl rfl ?_
        refine q_getr rfl rfl rfl ?_
        refine r_iload rfl rfl ?_
        refine r_push rfl ?_
        refine q_iast rfl rfl (by omega) (by omega) rfl ?_
        refine r_iload rfl rfl ?_
        refine q_zret rfl rfl rfl (by omega) ?_
        first
        | exact mQ_ok (if_pos h) (if_pos (show z 6 n ≠ -1 by omega)).symm (mR_m (mu_6 (mR_n (mR_t hd 0)) n (-1)) (fun j hj q => Or.inl q)) ((uZ_ne (by omega) _).trans (uZ_eq _ _ _ _)) (cF_u (cF_u (cF_r Z) (by omega)) (by omega))
        | exact mQ_ok (if_pos h) (if_neg (show ¬ z 6 n ≠ -1 by omega)).symm (mR_m (mu_6 (mR_n (mR_t hd 0)) n (-1)) (fun j hj q => Or.inl q)) ((uZ_ne (by omega) _).trans (uZ_eq _ _ _ _)) (cF_u (cF_u (cF_r Z) (by omega)) (by omega))
    · exact absurd h h3
  ·
    refine r_aload rfl rfl ?_
    refine r_aload rfl rfl ?_
    refine r_iload rfl rfl ?_
    refine r_kb1 rfl rfl rfl rfl rfl (s_33 hd hz hB hm) (fun h3 => ?_) (fun h3 => ?_)
    · exact absurd h3 h
    · refine r_t0 rfl (by first | exact iB0 | exact iB1 | exact iBm | exact hB _ _ | exact hT _ (by omega) | exact ⟨by omega, by omega⟩) (by omega) ?_
      refine r_push rfl ?_
      refine q_puti rfl rfl rfl ?_
      refine r_aload rfl rfl ?_
      refine q_geti rfl rfl rfl (uZ_eq _ _ _ _) ?_
      refine r_f5 rfl (by first | exact iB0 | exact iB1 | exact iBm | exact hB _ _ | exact hT _ (by omega) | exact ⟨by omega, by omega⟩) (by omega) ?_
      refine r_push rfl ?_
      refine q_zret rfl rfl rfl (by omega) ?_
      exact mQ_ok (if_neg h) rfl (mR_t hd 1) (uZ_eq _ _ _ _) (cF_u (cF_r Z) (by omega))

theorem s_59 {d : Nat} {Z : wZ} {Lg : Nat → Nat → Int64} {N : Nat} {X : Nat → Int32} {z : rd_Z} (hd : mR z Z) (hz : rd_ok z) (hB : zB z) {m : Int} (hm : iB m) : am_T am_tabs am_ar (d + 2) 59 [.ref 34, .int (iI m)] (mW Z Lg N X) (mQ (f_sec z m) Z Lg N X) := by
  refine ⟨⟨rfl, rfl⟩, ?_⟩
  show am_X (am_tb op_59) _ _ _
  by_cases h : 0 ≤ m ∧ m < 7 ∧ rd_th z m.toNat = true
  · obtain ⟨n, rfl⟩ : ∃ n : Nat, m = n := ⟨m.toNat, by omega⟩
    have hn : n < 7 := by omega
    have ht : rd_th z n = true := h.2.2
    have h0n : z 0 n ≠ 0 := th_iff.mp ht
    have hrg := ok_rg hz hn
    have hfr := ok_fr hz hn
    have hrs := ok_rs hz hn
    refine r_aload rfl rfl ?_
    refine r_aload rfl rfl ?_
    refine r_iload rfl rfl ?_
    refine r_kb1 rfl rfl rfl rfl rfl (s_33 hd hz hB hm) (fun h3 => ?_) (fun h3 => ?_)
    · refine r_t1 rfl (by first | exact iB0 | exact iB1 | exact iBm | exact hB _ _ | exact hT _ (by omega) | exact ⟨by omega, by omega⟩) (by omega) ?_
      refine r_aload rfl rfl ?_
      refine q_getr rfl rfl rfl ?_
      refine r_iload rfl rfl ?_
      refine q_iald rfl rfl (by omega) (by omega) rfl (hd.2.2.2.2.2.2.2.2.2.2.2.2.1 n) ?_
      refine r_z3 rfl (by first | exact iB0 | exact iB1 | exact iBm | exact hB _ _ | exact hT _ (by omega) | exact ⟨by omega, by omega⟩) (fun h19 => ?_) (fun h19 => ?_)
      · refine r_push rfl ?_
        refine q_puti rfl rfl rfl ?_
        refine r_aload rfl rfl ?_
        refine q_geti rfl rfl rfl (uZ_eq _ _ _ _) ?_
        refine r_t5 rfl (by first | exact iB0 | exact iB1 | exact iBm | exact hB _ _ | exact hT _ (by omega) | exact ⟨by omega, by omega⟩) (by omega) ?_
        refine r_aload rfl rfl ?_
        refine q_getr rfl rfl rfl ?_
        refine r_iload rfl rfl ?_
        refine q_iald rfl rfl (by omega) (by omega) rfl (hd.2.2.2.2.2.2.2.2.2.2.2.2.1 n) ?_
        refine q_iret rfl rfl rfl ?_
        first
        | exact mQ_ok ((if_pos h).trans (if_pos (show z 11 n = -1 by omega))) rfl (mR_t hd 2) (uZ_eq _ _ _ _) (cF_u (cF_r Z) (by omega))
        | exact mQ_ok ((if_pos h).trans (if_neg (show ¬ z 11 n = -1 by omega))) rfl (mR_t hd 0) (uZ_eq _ _ _ _) (cF_u (cF_r Z) (by omega))
      · refine r_push rfl ?_
        refine r_goto rfl ?_
        refine q_puti rfl rfl rfl ?_
        refine r_aload rfl rfl ?_
        refine q_geti rfl rfl rfl (uZ_eq _ _ _ _) ?_
        refine r_f5 rfl (by first | exact iB0 | exact iB1 | exact iBm | exact hB _ _ | exact hT _ (by omega) | exact ⟨by omega, by omega⟩) (by omega) ?_
        refine r_push rfl ?_
        refine r_goto rfl ?_
        refine q_iret rfl rfl rfl ?_
        first
        | exact mQ_ok ((if_pos h).trans (if_pos (show z 11 n = -1 by omega))) rfl (mR_t hd 2) (uZ_eq _ _ _ _) (cF_u (cF_r Z) (by omega))
        | exact mQ_ok ((if_pos h).trans (if_neg (show ¬ z 11 n = -1 by omega))) rfl (mR_t hd 0) (uZ_eq _ _ _ _) (cF_u (cF_r Z) (by omega))
    · exact absurd h h3
  ·
    refine r_aload rfl rfl ?_
    refine r_aload rfl rfl ?_
    refine r_iload rfl rfl ?_
    refine r_kb1 rfl rfl rfl rfl rfl (s_33 hd hz hB hm) (fun h3 => ?_) (fun h3 => ?_)
    · exact absurd h3 h
    · refine r_f1 rfl (by first | exact iB0 | exact iB1 | exact iBm | exact hB _ _ | exact hT _ (by omega) | exact ⟨by omega, by omega⟩) (by omega) ?_
      refine r_push rfl ?_
      refine r_goto rfl ?_
      refine q_puti rfl rfl rfl ?_
      refine r_aload rfl rfl ?_
      refine q_geti rfl rfl rfl (uZ_eq _ _ _ _) ?_
      refine r_f5 rfl (by first | exact iB0 | exact iB1 | exact iBm | exact hB _ _ | exact hT _ (by omega) | exact ⟨by omega, by omega⟩) (by omega) ?_
      refine r_push rfl ?_
      refine r_goto rfl ?_
      refine q_iret rfl rfl rfl ?_
      exact mQ_ok (if_neg h) rfl (mR_t hd 1) (uZ_eq _ _ _ _) (cF_u (cF_r Z) (by omega))

theorem s_62 {d : Nat} {Z : wZ} {Lg : Nat → Nat → Int64} {N : Nat} {X : Nat → Int32} {z : rd_Z} (hd : mR z Z) (hz : rd_ok z) (hB : zB z) {m : Int} (hm : iB m) : am_T am_tabs am_ar (d + 2) 62 [.ref 34, .int (iI m)] (mW Z Lg N X) (mQ (f_pla z m) Z Lg N X) := by
  refine ⟨⟨rfl, rfl⟩, ?_⟩
  show am_X (am_tb op_62) _ _ _
  by_cases h : 0 ≤ m ∧ m < 7 ∧ rd_th z m.toNat = true
  · obtain ⟨n, rfl⟩ : ∃ n : Nat, m = n := ⟨m.toNat, by omega⟩
    have hn : n < 7 := by omega
    have ht : rd_th z n = true := h.2.2
    have h0n : z 0 n ≠ 0 := th_iff.mp ht
    have hrg := ok_rg hz hn
    have hfr := ok_fr hz hn
    have hrs := ok_rs hz hn
    refine r_aload rfl rfl ?_
    refine r_aload rfl rfl ?_
    refine r_iload rfl rfl ?_
    refine r_kb1 rfl rfl rfl rfl rfl (s_33 hd hz hB hm) (fun h3 => ?_) (fun h3 => ?_)
    · refine r_f0 rfl (by first | exact iB0 | exact iB1 | exact iBm | exact hB _ _ | exact hT _ (by omega) | exact ⟨by omega, by omega⟩) (by omega) ?_
      refine r_push rfl ?_
      refine r_goto rfl ?_
      refine q_puti rfl rfl rfl ?_
      refine r_aload rfl rfl ?_
      refine q_geti rfl rfl rfl (uZ_eq _ _ _ _) ?_
      refine r_t5 rfl (by first | exact iB0 | exact iB1 | exact iBm | exact hB _ _ | exact hT _ (by omega) | exact ⟨by omega, by omega⟩) (by omega) ?_
      refine r_aload rfl rfl ?_
      refine r_iload rfl rfl ?_
      refine r_ki1 rfl rfl rfl rfl rfl (s_47 (mR_t hd 0) hz hB hn) ?_
      refine q_iret rfl rfl rfl ?_
      exact mQ_ok (if_pos h) rfl (mR_t hd 0) (uZ_eq _ _ _ _) (cF_u (cF_r Z) (by omega))
    · exact absurd h h3
  ·
    refine r_aload rfl rfl ?_
    refine r_aload rfl rfl ?_
    refine r_iload rfl rfl ?_
    refine r_kb1 rfl rfl rfl rfl rfl (s_33 hd hz hB hm) (fun h3 => ?_) (fun h3 => ?_)
    · exact absurd h3 h
    · refine r_t0 rfl (by first | exact iB0 | exact iB1 | exact iBm | exact hB _ _ | exact hT _ (by omega) | exact ⟨by omega, by omega⟩) (by omega) ?_
      refine r_push rfl ?_
      refine q_puti rfl rfl rfl ?_
      refine r_aload rfl rfl ?_
      refine q_geti rfl rfl rfl (uZ_eq _ _ _ _) ?_
      refine r_f5 rfl (by first | exact iB0 | exact iB1 | exact iBm | exact hB _ _ | exact hT _ (by omega) | exact ⟨by omega, by omega⟩) (by omega) ?_
      refine r_push rfl ?_
      refine r_goto rfl ?_
      refine q_iret rfl rfl rfl ?_
      exact mQ_ok (if_neg h) rfl (mR_t hd 1) (uZ_eq _ _ _ _) (cF_u (cF_r Z) (by omega))

end MCA
