/-! the class's search: its answers -/
section CSR
/-- the least delay, -1 for none -/
def bI (z : rd_Z) : Int := match rd_best z with
  | none => -1
  | some a => a.1
theorem bg_tp {z : rd_Z} {Z : wZ} (h : bgP z Z) : tpI z [] Z := ⟨h.2.2.2, fun m hm => h.2.1 m hm, fun m hm => h.2.2.1 m hm⟩
theorem gd_nil (z : rd_Z) : rd_gd z [] := ⟨fun q hq => absurd hq (by simp), List.nodup_nil⟩
theorem accR_v {z : rd_Z} {Z : wZ} (h : accR z (rd_best z) Z) : Z 18 4 = bI z := by
  unfold bI
  cases e : rd_best z with
  | none => rw [e] at h; exact h
  | some a => rw [e] at h; exact h.1

theorem s_70 {d : Nat} {Z : wZ} {Lg : Nat → Nat → Int64} {N : Nat} {X : Nat → Int32} {z : rd_Z} (hc : cR z Z) (hz : rd_ok z) (hB : zB z)  : am_T am_tabs am_ar (d + 13) 70 [.ref 18, .ref 1] (mW Z Lg N X) (am_iw (fun v w1 => v = bI z ∧ ∃ Z1, w1 = mW Z1 Lg N X ∧ sF Z Z1 ∧ accR z (rd_best z) Z1)) := by
  refine ⟨⟨rfl, rfl⟩, ?_⟩
  show am_X (am_tb op_70) _ _ _
  refine r_aload rfl rfl ?_
  refine r_aload rfl rfl ?_
  refine r_kv1 rfl rfl rfl rfl rfl (s_74 hc hz hB) (fun w1 h2 => ?_)
  obtain ⟨Z1, rfl, g0, g1⟩ := h2
  have hc1 := sF_cR hc g0
  have hI := bg_tp g1
  have hP := tpI_B hz (gd_nil z) hI
  have hx := tpI_rdl hI
  have hxB := rdl_B hz (r := Z1 (20 + 0)) (fun j hj _ => (hP j hj).2)
  refine r_aload rfl rfl ?_
  refine r_aload rfl rfl ?_
  refine r_push rfl ?_
  refine r_ki2 rfl rfl rfl rfl rfl (s_78 hc1 hz hB (e := 0) (by omega) hP) ?_
  refine r_push rfl ?_
  refine r_c0 rfl ⟨by omega, by omega⟩ iBm (fun h12 => ?_) (fun h12 => ?_)
  · refine r_aload rfl rfl ?_
    refine q_geti rfl rfl rfl rfl ?_
    refine q_iret rfl rfl rfl ?_
    have hb : rd_best z = none := rd_skip hz (gd_nil z) (by simp) (Or.inl (hx.symm.trans h12))
    have hA : accR z (rd_best z) Z1 := by rw [hb]; exact g1.1
    exact ⟨_, rfl, accR_v hA, Z1, rfl, g0, hA⟩
  · refine r_aload rfl rfl ?_
    refine r_aload rfl rfl ?_
    refine r_push rfl ?_
    refine r_kv2 rfl rfl rfl rfl rfl ((show d + (7 - rd_n z) + rd_n z + 5 = d + 12 by have := n_le z; omega) ▸ s_75 (rd_n z) (d := d + (7 - rd_n z)) (acc := none) hc1 hz hB (gd_nil z) (by simp) hI g1.1 (fun q => h12 (hx.trans q)) (fun a q => by cases q)) (fun w1 h18 => ?_)
    obtain ⟨Z2, rfl, r1, r2, r3⟩ := h18
    refine r_aload rfl rfl ?_
    refine q_geti rfl rfl rfl rfl ?_
    refine q_iret rfl rfl rfl ?_
    have hA : accR z (rd_best z) Z2 := r1
    exact ⟨_, rfl, accR_v hA, Z2, rfl, fun k j q => (r2 k j (by omega)).trans (g0 k j q), hA⟩

theorem s_72 {d : Nat} {Z : wZ} {Lg : Nat → Nat → Int64} {N : Nat} {X : Nat → Int32} {z : rd_Z} (hc : cR z Z) (hz : rd_ok z) (hB : zB z)  : am_T am_tabs am_ar (d + 6) 72 [.ref 18, .ref 1] (mW Z Lg N X) (am_iw (fun v w1 => v = rd_rdl z (rd_row z []) ∧ ∃ Z1, w1 = mW Z1 Lg N X ∧ sF Z Z1)) := by
  refine ⟨⟨rfl, rfl⟩, ?_⟩
  show am_X (am_tb op_72) _ _ _
  refine r_aload rfl rfl ?_
  refine r_aload rfl rfl ?_
  refine r_kv1 rfl rfl rfl rfl rfl (s_74 hc hz hB) (fun w1 h2 => ?_)
  obtain ⟨Z1, rfl, g0, g1⟩ := h2
  have hc1 := sF_cR hc g0
  have hI := bg_tp g1
  have hP := tpI_B hz (gd_nil z) hI
  have hx := tpI_rdl hI
  have hxB := rdl_B hz (r := Z1 (20 + 0)) (fun j hj _ => (hP j hj).2)
  refine r_aload rfl rfl ?_
  refine r_aload rfl rfl ?_
  refine r_push rfl ?_
  refine r_ki2 rfl rfl rfl rfl rfl (s_78 hc1 hz hB (e := 0) (by omega) hP) ?_
  refine q_iret rfl rfl rfl ?_
  exact ⟨_, rfl, hx, Z1, rfl, g0⟩

theorem s_71 {d : Nat} {Z : wZ} {Lg : Nat → Nat → Int64} {N : Nat} {X : Nat → Int32} {z : rd_Z} (hc : cR z Z) (hz : rd_ok z) (hB : zB z)  : am_T am_tabs am_ar (d + 6) 71 [.ref 18, .ref 1] (mW Z Lg N X) (am_iw (fun v w1 => v = rd_fcv z ∧ ∃ Z1, w1 = mW Z1 Lg N X ∧ sF Z Z1)) := by
  refine ⟨⟨rfl, rfl⟩, ?_⟩
  show am_X (am_tb op_71) _ _ _
  refine r_aload rfl rfl ?_
  refine r_aload rfl rfl ?_
  refine r_kv1 rfl rfl rfl rfl rfl (s_74 hc hz hB) (fun w1 h2 => ?_)
  obtain ⟨Z1, rfl, g0, g1⟩ := h2
  have hc1 := sF_cR hc g0
  have hI := bg_tp g1
  have hP := tpI_B hz (gd_nil z) hI
  have hx := tpI_rdl hI
  have hxB := rdl_B hz (r := Z1 (20 + 0)) (fun j hj _ => (hP j hj).2)
  refine r_aload rfl rfl ?_
  refine r_aload rfl rfl ?_
  refine r_push rfl ?_
  refine r_ki2 rfl rfl rfl rfl rfl (s_78 hc1 hz hB (e := 0) (by omega) hP) ?_
  refine r_istore rfl ?_
  refine r_push rfl ?_
  refine r_istore rfl ?_
  refine r_loopS (fun o σ => ∃ (Z1 : wZ) (pre : rd_P), sF Z Z1 ∧ rd_fc z o = some pre ∧ tpI z pre Z1 ∧ σ = (14, [some (.ref 18), some (.ref 1), some (.int (iI (rd_rdl z (rd_row z pre)))), some (.int (iI o))], [], mW Z1 Lg N X, 0, 0)) (rd_n z) (fun o σ ho hS1 hn => ?_) (fun σ hS1 => ?_) ⟨Z1, [], g0, rfl, hI, by rw [show rd_rdl z (rd_row z []) = rd_rdl z (Z1 (20 + 0)) from hx.symm]; rfl⟩
  · obtain ⟨Z1, pre, h0, h1, h2, rfl⟩ := hS1
    have hlen := (rd_fc_len h1).1
    subst hlen
    have hc1 := sF_cR hc h0
    have hn7 := n_le z
    have hg : rd_gd z pre := rd_fc_gd hz (by omega) h1
    have hrB := rdl_B hz (r := rd_row z pre) (fun m hm _ => (row_B hz hg hm).2)
    obtain ⟨l1, l2, l3⟩ := rd_ln_ok ho
    have hlk := rd_fc_lk h1 (Nat.le_refl _) ho
    have hP1 := tpI_B hz hg h2
    have hS01 : ∀ j, j < 7 → Z1 29 j = 0 ∨ Z1 29 j = 1 := fun j hj => by rw [h2.2.1 j hj]; split <;> omega
    have el : (pre ++ [(rd_ln z pre.length, rd_row z pre (rd_ln z pre.length))]).length = pre.length + 1 := by simp
    refine r_iload rfl rfl ?_
    refine r_aload rfl rfl ?_
    refine q_geti rfl rfl rfl hc1.2.2.2.2.2.2.2.2.2.2.1 ?_
    refine r_c3 rfl (by first | exact iB0 | exact iB1 | exact iBm | exact hB _ _ | exact hT _ (by omega) | exact ⟨by omega, by omega⟩) (by first | exact iB0 | exact iB1 | exact iBm | exact hB _ _ | exact hT _ (by omega) | exact ⟨by omega, by omega⟩) (fun h19 => ?_) (fun h19 => ?_)
    · exfalso; omega
    · refine r_iload rfl rfl ?_
      refine r_push rfl ?_
      refine r_c0 rfl ⟨by omega, by omega⟩ iBm (fun h24 => ?_) (fun h24 => ?_)
      · refine r_iload rfl rfl ?_
        refine q_iret rfl rfl rfl ?_
        exact ⟨_, rfl, by rw [rd_fcv, rd_fc_stop hz h1 (by omega) h24]; exact h24, Z1, rfl, h0⟩
      · refine r_aload rfl rfl ?_
        refine r_aload rfl rfl ?_
        refine r_iload rfl rfl ?_
        refine r_aload rfl rfl ?_
        refine q_getr rfl rfl rfl ?_
        refine r_iload rfl rfl ?_
        refine q_iald rfl rfl (by omega) (by omega) rfl (h2.1 _ ho) ?_
        refine r_kv3 rfl rfl rfl rfl rfl (s_77 hc1 hz hB l1 (e := pre.length) (by omega) hP1 hS01) (fun w1 h36 => ?_)
        obtain ⟨Z2, rfl, q1, q2⟩ := h36
        have hc2 : cR z Z2 := cR_of hc1 (fun k j q => (q1 _ _ (by omega)).trans (uZ_ne (by omega) j))
        have hg2 : rd_gd z (pre ++ [(rd_ln z pre.length, rd_row z pre (rd_ln z pre.length))]) := rd_fc_gd hz (k := pre.length + 1) (by omega) (rd_fc_next hz h1 ho h24)
        have hI2 := tp_next hz hg h2 l1 l2 hlk h24 q1 q2 (by omega)
        have hP2 := tpI_B hz hg2 hI2
        have hx2 := tpI_rdl hI2
        rw [el] at hP2 hx2
        refine r_aload rfl rfl ?_
        refine r_aload rfl rfl ?_
        refine r_iload rfl rfl ?_
        refine r_push rfl ?_
        refine r_iadd rfl ?_
        refine r_ki2 rfl rfl rfl rfl rfl (s_78 hc2 hz hB (e := pre.length + 1) (by omega) hP2) ?_
        refine r_istore rfl ?_
        refine r_iinc rfl rfl ?_
        refine r_goto rfl ?_
        refine hn _ ⟨Z2, _, fun k j q => (q1 _ _ (by omega)).trans ((uZ_ne (by omega) j).trans (h0 k j q)), rd_fc_next hz h1 ho h24, hI2, by rw [← hx2]; rfl⟩
  · obtain ⟨Z1, pre, h0, h1, h2, rfl⟩ := hS1
    have hlen := (rd_fc_len h1).1
    have hc1 := sF_cR hc h0
    have hn7 := n_le z
    have hg : rd_gd z pre := rd_fc_gd hz (by omega) h1
    have hcst := rd_full_cost hz hg hlen
    refine r_iload rfl rfl ?_
    refine r_aload rfl rfl ?_
    refine q_geti rfl rfl rfl hc1.2.2.2.2.2.2.2.2.2.2.1 ?_
    refine r_c3 rfl (by first | exact iB0 | exact iB1 | exact iBm | exact hB _ _ | exact hT _ (by omega) | exact ⟨by omega, by omega⟩) (by first | exact iB0 | exact iB1 | exact iBm | exact hB _ _ | exact hT _ (by omega) | exact ⟨by omega, by omega⟩) (fun h19 => ?_) (fun h19 => ?_)
    · refine r_iload rfl rfl ?_
      refine q_iret rfl rfl rfl ?_
      exact ⟨_, rfl, by rw [rd_fcv, h1]; exact hcst.2, Z1, rfl, h0⟩
    · exfalso; omega

end CSR
