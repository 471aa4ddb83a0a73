/-! the reference's search: its answers -/
section MSR
theorem m_lv {d : Nat} {Lg : Nat → Nat → Int64} {N : Nat} {X : Nat → Int32} {z : rd_Z} (hz : rd_ok z) (hB : zB z) {Q : am_Q} : ∀ (k : Nat) (pre : rd_P) (acc : Option (Int × rd_P)) (Z : wZ) (tl : List (Option Value)), rd_gd z pre → pre.length + k = rd_n z → mR z Z → mO z Z → mS z pre Z → mC z pre Z → mU z pre Z → Z 48 pre.length = -1 → accM z acc Z → (k = 0 → ∀ a, acc = some a → rd_cost z pre < a.1) →
      (∀ (Z' : wZ) (tl' : List (Option Value)), hF Z Z' → mS z pre Z' → mC z pre Z' → mU z pre Z' → accM z ((rd_lvs z k pre).foldl rd_up acc) Z' → am_X (am_tb op_54) (am_T am_tabs am_ar (d + 3)) Q (43, some (.ref 34) :: some (.int (iI (accI ((rd_lvs z k pre).foldl rd_up acc)))) :: some (.int (iI ((pre.length : Int) - 1))) :: tl', [], mW Z' Lg N X, 0, 0)) → am_X (am_tb op_54) (am_T am_tabs am_ar (d + 3)) Q (43, some (.ref 34) :: some (.int (iI (accI (acc)))) :: some (.int (iI (pre.length : Int))) :: tl, [], mW Z Lg N X, 0, 0) := by
  have hn7 := n_le z
  intro k
  induction k with
  | zero =>
    intro pre acc Z tl hg hl hd hO hS hC hU h48 hA hw hK
    have hCl := hC pre.length (Nat.le_refl _)
    rw [List.take_length] at hCl
    have hcb := cost_B hz hg
    have hab := accM_B hA
    have e : (rd_lvs z 0 pre).foldl rd_up acc = some (rd_cost z pre, pre) := by
      cases acc with
      | none => rfl
      | some a =>
        have := hw rfl a rfl
        show rd_up (some a) (rd_cost z pre, pre) = _
        unfold rd_up
        exact if_pos this
    refine r_iload rfl rfl ?_
    refine r_z2 rfl (by first | exact iB0 | exact iB1 | exact iBm | exact hB _ _ | exact hT _ (by omega) | exact ⟨by omega, by omega⟩) (fun h44 => ?_) (fun h44 => ?_)
    · exfalso; omega
    · refine r_iload rfl rfl ?_
      refine r_aload rfl rfl ?_
      refine q_geti rfl rfl rfl hO.1 ?_
      refine r_c1 rfl (by first | exact iB0 | exact iB1 | exact iBm | exact hB _ _ | exact hT _ (by omega) | exact ⟨by omega, by omega⟩) (by first | exact iB0 | exact iB1 | exact iBm | exact hB _ _ | exact hT _ (by omega) | exact ⟨by omega, by omega⟩) (fun h52 => ?_) (fun h52 => ?_)
      · exfalso; omega
      · refine r_aload rfl rfl ?_
        refine q_getr rfl rfl rfl ?_
        refine r_iload rfl rfl ?_
        refine q_iald rfl rfl (by omega) (by omega) rfl hCl ?_
        refine r_istore rfl ?_
        refine r_aload rfl rfl ?_
        refine r_kv0 rfl rfl rfl rfl rfl (s_53 hd hz hB hg (by omega) hO hS) (fun w1 h63 => ?_)
        obtain ⟨Z1, rfl, g0, g1⟩ := h63
        refine r_iinc rfl rfl ?_
        refine r_goto rfl ?_
        refine am_X_of (hK Z1 tl (fun a b q => g0 a b (by omega)) (mS_of hS (fun b _ => g0 _ _ (by omega)) (fun b _ => g0 _ _ (by omega))) (mC_of hC (fun b _ => g0 _ _ (by omega))) (mU_of hU (fun b => g0 _ _ (by omega))) (by rw [e]; exact ⟨hcb.1, hcb.2, hg, g1⟩)) ?_
        rw [e]
        rfl
  | succ k ih =>
    intro pre acc Z tl hg hl hd hO hS hC hU h48 hA hw hK
    have hab := accM_B hA
    refine r_iload rfl rfl ?_
    refine r_z2 rfl (by first | exact iB0 | exact iB1 | exact iBm | exact hB _ _ | exact hT _ (by omega) | exact ⟨by omega, by omega⟩) (fun h44 => ?_) (fun h44 => ?_)
    · exfalso; omega
    · refine r_iload rfl rfl ?_
      refine r_aload rfl rfl ?_
      refine q_geti rfl rfl rfl hO.1 ?_
      refine r_c1 rfl (by first | exact iB0 | exact iB1 | exact iBm | exact hB _ _ | exact hT _ (by omega) | exact ⟨by omega, by omega⟩) (by first | exact iB0 | exact iB1 | exact iBm | exact hB _ _ | exact hT _ (by omega) | exact ⟨by omega, by omega⟩) (fun h52 => ?_) (fun h52 => ?_)
      · refine r_aload rfl rfl ?_
        refine q_getr rfl rfl rfl ?_
        refine r_iload rfl rfl ?_
        refine q_iald rfl rfl (by omega) (by omega) rfl h48 ?_
        refine r_istore rfl ?_
        refine r_iload rfl set_get ?_
        refine r_z2 rfl (by first | exact iB0 | exact iB1 | exact iBm | exact hB _ _ | exact hT _ (by omega) | exact ⟨by omega, by omega⟩) (fun h80 => ?_) (fun h80 => ?_)
        · refine r_iinc rfl set_get ?_
          refine am_X_of (m_pl hz hB hg hl ih (rd_n z) 0 Z tl.tail (by omega) hd hO hS hC hU hA hK) ?_
          cases tl <;> rfl
        · exfalso; omega
      · exfalso; omega

theorem accI_b {z : rd_Z} : accI (rd_best z) = bI z := by
  unfold accI bI
  cases rd_best z <;> rfl

theorem s_54 {d : Nat} {Z : wZ} {Lg : Nat → Nat → Int64} {N : Nat} {X : Nat → Int32} {z : rd_Z} (hd : mR z Z) (hz : rd_ok z) (hB : zB z)  : am_T am_tabs am_ar (d + 4) 54 [.ref 34] (mW Z Lg N X) (am_iw (fun v w1 => v = bI z ∧ ∃ Z1, w1 = mW Z1 Lg N X ∧ gF Z Z1 ∧ accM z (rd_best z) Z1)) := by
  refine ⟨⟨rfl, rfl⟩, ?_⟩
  show am_X (am_tb op_54) _ _ _
  refine r_aload rfl rfl ?_
  refine r_kv0 rfl rfl rfl rfl rfl (s_48 hd hz hB) (fun w1 h1 => ?_)
  obtain ⟨Z1, rfl, g0, g1⟩ := h1
  refine r_push rfl ?_
  refine r_istore rfl ?_
  refine r_loopS (fun o σ => ∃ Z2 : wZ, gF Z Z2 ∧ mO z Z2 ∧ (∀ m, m < o → Z2 49 m = 0) ∧ σ = (6, [some (.ref 34), some (.int (iI o))], [], mW Z2 Lg N X, 0, 0)) 7 (fun o σ ho hs hn => ?_) (fun σ hs => ?_) ⟨Z1, g0, g1, fun m hm => absurd hm (by omega), rfl⟩
  · obtain ⟨Z2, g0, g1, g2, rfl⟩ := hs
    refine r_iload rfl rfl ?_
    refine r_push rfl ?_
    refine r_c3 rfl (by first | exact iB0 | exact iB1 | exact iBm | exact hB _ _ | exact hT _ (by omega) | exact ⟨by omega, by omega⟩) (by first | exact iB0 | exact iB1 | exact iBm | exact hB _ _ | exact hT _ (by omega) | exact ⟨by omega, by omega⟩) (fun h9 => ?_) (fun h9 => ?_)
    · exfalso; omega
    · refine r_aload rfl rfl ?_
      refine q_getr rfl rfl rfl ?_
      refine r_iload rfl rfl ?_
      refine r_push rfl ?_
      refine q_zast rfl rfl (by omega) (by omega) rfl (by omega) ?_
      refine r_iinc rfl rfl ?_
      refine r_goto rfl ?_
      refine hn _ ⟨uZ Z2 49 o 0, fun k j q1 q2 => (uZ_ne (by omega) j).trans (g0 k j q1 q2), ⟨g1.1, g1.2⟩, fun m hm => ?_, rfl⟩
      by_cases e : m = o
      · subst e; exact uZ_eq _ _ _ _
      · exact (uZ_nj _ e).trans (g2 m (by omega))
  · obtain ⟨Z2, g0, g1, g2, rfl⟩ := hs
    have hg2 : gF Z (uZ (uZ Z2 51 0 0) 48 0 (-1)) := fun a b q1 q2 => (uZ_ne (by omega) b).trans ((uZ_ne (by omega) b).trans (g0 a b q1 q2))
    refine r_iload rfl rfl ?_
    refine r_push rfl ?_
    refine r_c3 rfl (by first | exact iB0 | exact iB1 | exact iBm | exact hB _ _ | exact hT _ (by omega) | exact ⟨by omega, by omega⟩) (by first | exact iB0 | exact iB1 | exact iBm | exact hB _ _ | exact hT _ (by omega) | exact ⟨by omega, by omega⟩) (fun h9 => ?_) (fun h9 => ?_)
    · refine r_aload rfl rfl ?_
      refine q_getr rfl rfl rfl ?_
      refine r_push rfl ?_
      refine r_push rfl ?_
      refine q_iast rfl rfl (by omega) (by omega) rfl ?_
      refine r_push rfl ?_
      refine r_istore rfl ?_
      refine r_push rfl ?_
      refine r_istore rfl ?_
      refine r_aload rfl rfl ?_
      refine q_getr rfl rfl rfl ?_
      refine r_push rfl ?_
      refine r_push rfl ?_
      refine q_iast rfl rfl (by omega) (by omega) rfl ?_
      refine am_X_of (m_lv hz hB (rd_n z) [] none (uZ (uZ Z2 51 0 0) 48 0 (-1)) [] (gd_nil z) (by simp) (gF_mR hd hg2) ⟨g1.1, g1.2⟩ (fun k q hq => by simp at hq) (fun k hk => ?_) (fun t ht => ?_) (uZ_eq _ _ _ _) trivial (fun _ a e => by cases e) ?_) rfl
      · have hk : k = 0 := by simpa using hk
        subst hk
        exact (uZ_ne (by omega) _).trans (uZ_eq _ _ _ _)
      · exact (g2 t (by have := n_le z; omega))
      · intro Z' tl' f1 f2 f3 f4 f5
        have hgZ : gF Z Z' := fun a b q1 q2 => (f1 a b (by omega)).trans (hg2 a b q1 q2)
        refine r_iload rfl rfl ?_
        refine r_z2 rfl ⟨by show _ ≤ (0 : Int) - 1; omega, by show (0 : Int) - 1 ≤ _; omega⟩ (fun h44 => ?_) (fun h44 => ?_)
        · refine r_iload rfl rfl ?_
          refine q_iret rfl rfl rfl ?_
          exact ⟨_, rfl, accI_b, Z', rfl, hgZ, f5⟩
        · exfalso; have h44 : 0 ≤ (0 : Int) - 1 := h44; omega
    · exfalso; omega

theorem gF_t {Z Z' : wZ} {v : Int} (h : gF (uZ Z 34 0 v) Z') : Z' 34 0 = v := (h 34 0 (by omega) (fun _ => by omega)).trans (uZ_eq _ _ _ _)
theorem gF_c {Z Z' : wZ} {v : Int} (h : gF (uZ Z 34 0 v) Z') : cF Z Z' := fun a b q => (h a b (by omega) (fun e => by omega)).trans (uZ_ne (by omega) b)

theorem s_57 {d : Nat} {Z : wZ} {Lg : Nat → Nat → Int64} {N : Nat} {X : Nat → Int32} {z : rd_Z} (hd : mR z Z) (hz : rd_ok z) (hB : zB z)  : am_T am_tabs am_ar (d + 4) 57 [.ref 34] (mW Z Lg N X) (mQ (f_fir z) Z Lg N X) := by
  refine ⟨⟨rfl, rfl⟩, ?_⟩
  show am_X (am_tb op_57) _ _ _
  refine r_aload rfl rfl ?_
  refine r_push rfl ?_
  refine q_puti rfl rfl rfl ?_
  refine r_aload rfl rfl ?_
  refine r_kv0 rfl rfl rfl rfl rfl (s_48 (mR_t hd 0) hz hB) (fun w1 h6 => ?_)
  obtain ⟨Z1, rfl, g0, g1⟩ := h6
  refine r_aload rfl rfl ?_
  refine q_getr rfl rfl rfl ?_
  refine r_push rfl ?_
  refine r_push rfl ?_
  refine q_iast rfl rfl (by omega) (by omega) rfl ?_
  refine r_push rfl ?_
  refine r_istore rfl ?_
  refine r_loopS (fun o σ => ∃ (Z2 : wZ) (pre : rd_P), gF (uZ Z 34 0 0) Z2 ∧ mO z Z2 ∧ rd_fc z o = some pre ∧ mS z pre Z2 ∧ mC z pre Z2 ∧ σ = (18, [some (.ref 34), some (.int (iI o))], [], mW Z2 Lg N X, 0, 0)) (rd_n z) (fun o σ ho hs hn => ?_) (fun σ hs => ?_) ⟨uZ Z1 51 0 0, [], fun a b q1 q2 => (uZ_ne (by omega) b).trans (g0 a b q1 q2), ⟨g1.1, g1.2⟩, rfl, fun k q hq => by simp at hq, fun k hk => ?_, rfl⟩
  · obtain ⟨Z2, pre, g0, g1, h1, hS, hC, rfl⟩ := hs
    have hlen := (rd_fc_len h1).1
    subst hlen
    have hn7 := n_le z
    have hg : rd_gd z pre := rd_fc_gd hz (by omega) h1
    have hd2 : mR z Z2 := gF_mR (mR_t hd 0) g0
    have hd3 : mR z (uZ Z2 48 pre.length pre.length) := mR_s hd2 (by omega)
    have hO3 : mO z (uZ Z2 48 pre.length pre.length) := ⟨g1.1, g1.2⟩
    have hS3 : mS z pre (uZ Z2 48 pre.length pre.length) := mS_of hS (fun b hb => uZ_nj _ (by omega)) (fun b hb => uZ_ne (by omega) b)
    have hC3 : mC z pre (uZ Z2 48 pre.length pre.length) := mC_of hC (fun b hb => uZ_ne (by omega) b)
    refine r_iload rfl rfl ?_
    refine r_aload rfl rfl ?_
    refine q_geti rfl rfl rfl g1.1 ?_
    refine r_c3 rfl (by first | exact iB0 | exact iB1 | exact iBm | exact hB _ _ | exact hT _ (by omega) | exact ⟨by omega, by omega⟩) (by first | exact iB0 | exact iB1 | exact iBm | exact hB _ _ | exact hT _ (by omega) | exact ⟨by omega, by omega⟩) (fun h23 => ?_) (fun h23 => ?_)
    · exfalso; omega
    · refine r_aload rfl rfl ?_
      refine q_getr rfl rfl rfl ?_
      refine r_iload rfl rfl ?_
      refine r_iload rfl rfl ?_
      refine q_iast rfl rfl (by omega) (by omega) rfl ?_
      refine r_aload rfl rfl ?_
      refine r_iload rfl rfl ?_
      refine r_iload rfl rfl ?_
      refine r_push rfl ?_
      refine r_kB3 rfl rfl rfl rfl rfl (s_52 hd3 hz hB hg (by omega) hO3 hS3 hC3 ho rfl (lim := 6) ⟨by omega, by omega⟩) (fun h38 => ?_) (fun h38 => ?_)
      · refine r_t1 rfl (by first | exact iB0 | exact iB1 | exact iBm | exact hB _ _ | exact hT _ (by omega) | exact ⟨by omega, by omega⟩) (by omega) ?_
        refine r_iinc rfl rfl ?_
        refine r_goto rfl ?_
        have hfc : rd_fc z (pre.length + 1) = some (pre ++ [(rd_ln z pre.length, rd_sec z (rd_ln z pre.length) (rd_need z pre (rd_ln z pre.length)))]) := by
          simp only [rd_fc, h1]
          exact if_neg h38.2
        refine hn _ ⟨layZ z pre (rd_ln z pre.length) (uZ Z2 48 pre.length pre.length), _, fun a b q1 q2 => (uZ_ne (by omega) b).trans ((uZ_ne (by omega) b).trans ((uZ_ne (by omega) b).trans (g0 a b q1 q2))), ⟨g1.1, g1.2⟩, hfc, ?_, ?_, rfl⟩
        · refine mS_app (mS_of hS3 (fun b _ => (uZ_ne (by omega) b).trans (uZ_ne (by omega) b)) (fun b hb => (uZ_ne (by omega) b).trans (uZ_nj _ (by omega)))) ho ?_ ?_
          · exact (uZ_ne (by omega) _).trans ((uZ_ne (by omega) _).trans (uZ_eq _ _ _ _))
          · exact (uZ_ne (by omega) _).trans (uZ_eq _ _ _ _)
        · refine mC_app (mC_of hC3 (fun b hb => (uZ_nj _ (by omega)).trans (uZ_ne (by omega) b))) ?_
          rw [rd_cost_app]
          exact uZ_eq _ _ _ _
      · refine r_f1 rfl (by first | exact iB0 | exact iB1 | exact iBm | exact hB _ _ | exact hT _ (by omega) | exact ⟨by omega, by omega⟩) (by omega) ?_
        refine r_push rfl ?_
        refine q_iret rfl rfl rfl ?_
        have hfc : rd_fc z (pre.length + 1) = none := by
          simp only [rd_fc, h1]
          refine if_pos (Decidable.byContradiction (fun q => h38 ⟨Or.inr (by omega), q⟩))
        have hfn := rd_fc_none hfc (rd_n z - (pre.length + 1))
        rw [show pre.length + 1 + (rd_n z - (pre.length + 1)) = rd_n z by omega] at hfn
        exact mQ_ok rfl (by rw [rd_fcv, hfn]) hd3 ((uZ_ne (by omega) _).trans (gF_t g0)) (fun a b q => (uZ_ne (by omega) b).trans (gF_c g0 a b q))
  · obtain ⟨Z2, pre, g0, g1, h1, hS, hC, rfl⟩ := hs
    have hlen := (rd_fc_len h1).1
    have hn7 := n_le z
    have hCl := hC pre.length (Nat.le_refl _)
    rw [List.take_length, hlen] at hCl
    refine r_iload rfl rfl ?_
    refine r_aload rfl rfl ?_
    refine q_geti rfl rfl rfl g1.1 ?_
    refine r_c3 rfl (by first | exact iB0 | exact iB1 | exact iBm | exact hB _ _ | exact hT _ (by omega) | exact ⟨by omega, by omega⟩) (by first | exact iB0 | exact iB1 | exact iBm | exact hB _ _ | exact hT _ (by omega) | exact ⟨by omega, by omega⟩) (fun h23 => ?_) (fun h23 => ?_)
    · refine r_aload rfl rfl ?_
      refine q_getr rfl rfl rfl ?_
      refine r_aload rfl rfl ?_
      refine q_geti rfl rfl rfl g1.1 ?_
      refine q_iald rfl rfl (by omega) (by omega) rfl hCl ?_
      refine q_iret rfl rfl rfl ?_
      exact mQ_ok rfl (by rw [rd_fcv, h1]) (gF_mR (mR_t hd 0) g0) (gF_t g0) (gF_c g0)
    · exfalso; omega
  · have hk : k = 0 := by simpa using hk
    subst hk
    exact uZ_eq _ _ _ _

theorem s_58 {d : Nat} {Z : wZ} {Lg : Nat → Nat → Int64} {N : Nat} {X : Nat → Int32} {z : rd_Z} (hd : mR z Z) (hz : rd_ok z) (hB : zB z)  : am_T am_tabs am_ar (d + 3) 58 [.ref 34] (mW Z Lg N X) (mQ (f_bou z) Z Lg N X) := by
  refine ⟨⟨rfl, rfl⟩, ?_⟩
  show am_X (am_tb op_58) _ _ _
  have hd0 := mR_t hd 0
  refine r_aload rfl rfl ?_
  refine r_push rfl ?_
  refine q_puti rfl rfl rfl ?_
  refine r_push rfl ?_
  refine r_istore rfl ?_
  refine r_push rfl ?_
  refine r_istore rfl ?_
  refine r_loopS (fun o σ => ∃ tl : List (Option Value), (∀ j, j < o → (fun m => rd_th z m && decide (rd_row z [] m = -1)) j = false) ∧ σ = (9, some (.ref 34) :: some (.int (iI (rd_sum (fun m => if rd_th z m = true then rd_dl z m (rd_row z [] m) else 0) o))) :: some (.int (iI o)) :: tl, [], mW (uZ Z 34 0 0) Lg N X, 0, 0)) 7 (fun o σ ho hs hn => ?_) (fun σ hs => ?_) ⟨[], fst_no, rfl⟩
  · obtain ⟨tl, hi, rfl⟩ := hs
    by_cases ht : rd_th z o = true
    · have hto := th_iff.mp ht
      have hsb : rd_sec z o 0 = -1 ∨ 0 ≤ rd_sec z o 0 ∧ rd_sec z o 0 ≤ 3000 := by
        by_cases e : rd_sec z o 0 = -1
        · exact Or.inl e
        · exact Or.inr (rd_sec_ge hz ho e).2
      refine r_iload rfl rfl ?_
      refine r_push rfl ?_
      refine r_c3 rfl (by first | exact iB0 | exact iB1 | exact iBm | exact hB _ _ | exact hT _ (by omega) | exact ⟨by omega, by omega⟩) (by first | exact iB0 | exact iB1 | exact iBm | exact hB _ _ | exact hT _ (by omega) | exact ⟨by omega, by omega⟩) (fun h12 => ?_) (fun h12 => ?_)
      · exfalso; omega
      · refine r_aload rfl rfl ?_
        refine q_getr rfl rfl rfl ?_
        refine r_iload rfl rfl ?_
        refine q_zald rfl rfl (by omega) (by omega) rfl (hd0.1 o) ?_
        refine r_z0 rfl (by first | exact iB0 | exact iB1 | exact iBm | exact hB _ _ | exact hT _ (by omega) | exact ⟨by omega, by omega⟩) (fun h21 => ?_) (fun h21 => ?_)
        · exfalso; omega
        · refine r_aload rfl rfl ?_
          refine r_iload rfl rfl ?_
          refine r_push rfl ?_
          refine r_ki2 rfl rfl rfl rfl rfl (s_50 hd0 hz hB ho ht ⟨by omega, by omega⟩) ?_
          refine r_goto rfl ?_
          refine r_istore rfl ?_
          refine r_iload rfl set_get ?_
          refine r_z3 rfl ⟨by omega, by omega⟩ (fun h36 => ?_) (fun h36 => ?_)
          · refine r_aload rfl rfl ?_
            refine q_getr rfl rfl rfl ?_
            refine r_iload rfl rfl ?_
            refine q_zald rfl rfl (by omega) (by omega) rfl (hd0.1 o) ?_
            refine r_z0 rfl (by first | exact iB0 | exact iB1 | exact iBm | exact hB _ _ | exact hT _ (by omega) | exact ⟨by omega, by omega⟩) (fun h47 => ?_) (fun h47 => ?_)
            · exfalso; omega
            · refine r_iload rfl rfl ?_
              refine r_aload rfl rfl ?_
              refine r_iload rfl rfl ?_
              refine r_iload rfl set_get ?_
              refine r_ki2 rfl rfl rfl rfl rfl (s_51 hd0 hz hB ho ⟨by omega, by omega⟩) ?_
              refine r_iadd rfl ?_
              refine r_goto rfl ?_
              refine r_istore rfl ?_
              refine r_iinc rfl rfl ?_
              refine r_goto rfl ?_
              refine hn _ ⟨_, fst_next hi (by rw [row_nil]; simp; omega), by rw [sum_t (f := (fun m => if rd_th z m = true then rd_dl z m (rd_row z [] m) else 0)) (o := o) (if_pos ht)]; rfl⟩
          · refine r_push rfl ?_
            refine q_iret rfl rfl rfl ?_
            exact mQ_ok rfl (by rw [rd_rdl, if_pos (rd_any_iff.mpr ⟨o, ho, by rw [row_nil]; simp [ht]; omega⟩)]) hd0 (uZ_eq _ _ _ _) (cF_u (cF_r Z) (by omega))
    · have hto : z 0 o = 0 := Decidable.byContradiction (fun q => ht (th_iff.mpr q))
      refine r_iload rfl rfl ?_
      refine r_push rfl ?_
      refine r_c3 rfl (by first | exact iB0 | exact iB1 | exact iBm | exact hB _ _ | exact hT _ (by omega) | exact ⟨by omega, by omega⟩) (by first | exact iB0 | exact iB1 | exact iBm | exact hB _ _ | exact hT _ (by omega) | exact ⟨by omega, by omega⟩) (fun h12 => ?_) (fun h12 => ?_)
      · exfalso; omega
      · refine r_aload rfl rfl ?_
        refine q_getr rfl rfl rfl ?_
        refine r_iload rfl rfl ?_
        refine q_zald rfl rfl (by omega) (by omega) rfl (hd0.1 o) ?_
        refine r_z0 rfl (by first | exact iB0 | exact iB1 | exact iBm | exact hB _ _ | exact hT _ (by omega) | exact ⟨by omega, by omega⟩) (fun h21 => ?_) (fun h21 => ?_)
        · refine r_push rfl ?_
          refine r_istore rfl ?_
          refine r_iload rfl set_get ?_
          refine r_t3 rfl (by first | exact iB0 | exact iB1 | exact iBm | exact hB _ _ | exact hT _ (by omega) | exact ⟨by omega, by omega⟩) (by omega) ?_
          refine r_aload rfl rfl ?_
          refine q_getr rfl rfl rfl ?_
          refine r_iload rfl rfl ?_
          refine q_zald rfl rfl (by omega) (by omega) rfl (hd0.1 o) ?_
          refine r_z0 rfl (by first | exact iB0 | exact iB1 | exact iBm | exact hB _ _ | exact hT _ (by omega) | exact ⟨by omega, by omega⟩) (fun h47 => ?_) (fun h47 => ?_)
          · refine r_iload rfl rfl ?_
            refine r_istore rfl ?_
            refine r_iinc rfl rfl ?_
            refine r_goto rfl ?_
            refine hn _ ⟨_, fst_next hi (by simp [ht]), by rw [sum_f (f := (fun m => if rd_th z m = true then rd_dl z m (rd_row z [] m) else 0)) (o := o) (if_neg ht)]; rfl⟩
          · exfalso; omega
        · exfalso; omega
  · obtain ⟨tl, hi, rfl⟩ := hs
    refine r_iload rfl rfl ?_
    refine r_push rfl ?_
    refine r_c3 rfl (by first | exact iB0 | exact iB1 | exact iBm | exact hB _ _ | exact hT _ (by omega) | exact ⟨by omega, by omega⟩) (by first | exact iB0 | exact iB1 | exact iBm | exact hB _ _ | exact hT _ (by omega) | exact ⟨by omega, by omega⟩) (fun h12 => ?_) (fun h12 => ?_)
    · refine r_iload rfl rfl ?_
      refine q_iret rfl rfl rfl ?_
      exact mQ_ok rfl (by rw [rd_rdl, if_neg (by rw [rd_any_false.mpr hi]; simp)]) hd0 (uZ_eq _ _ _ _) (cF_u (cF_r Z) (by omega))
    · exfalso; omega

end MSR
