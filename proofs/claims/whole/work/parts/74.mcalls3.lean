/-! the reference's change, verify and slack -/
section MC3

theorem s_68 {d : Nat} {Z : wZ} {Lg : Nat → Nat → Int64} {N : Nat} {X : Nat → Int32} {z : rd_Z} (hd : mR z Z) (hz : rd_ok z) (hB : zB z) {k : Int} (hk : iB k) {t : Int} (ht : iB t) : am_T am_tabs am_ar (d + 1) 68 [.ref 34, .int (iI k), .int (iI t)] (mW Z Lg N X) (mQ (f_cha z k t) Z Lg N X) := by
  refine ⟨⟨rfl, rfl⟩, ?_⟩
  show am_X (am_tb op_68) _ _ _
  refine r_push rfl ?_
  refine r_istore rfl ?_
  refine r_push rfl ?_
  refine r_istore rfl ?_
  refine r_push rfl ?_
  refine r_istore rfl ?_
  refine r_loopS (fun o σ => ∃ v : Int, lastP (p_kth z k) o v ∧ σ = (8, [some (.ref 34), some (.int (iI k)), some (.int (iI t)), some (.int (iI v)), some (.int (iI (rd_cnt (p_chg z) o))), some (.int (iI o))], [], mW Z Lg N X, 0, 0)) 7 (fun o σ ho hs hn => ?_) (fun σ hs => ?_) ⟨-1, last_0 _, rfl⟩
  · obtain ⟨v, hv, rfl⟩ := hs
    have l1 := rd_cnt_le (p_chg z) o
    have e1 : p_kth z k o = (decide (z 12 o ≠ z 11 o) && decide ((rd_cnt (p_chg z) o : Int) = k)) := rfl
    refine r_iload rfl rfl ?_
    refine r_push rfl ?_
    refine r_c3 rfl (by first | exact iB0 | exact iB1 | exact iBm | exact hB _ _ | exact hT _ (by omega) | exact ⟨by omega, by omega⟩) (by first | exact iB0 | exact iB1 | exact iBm | exact hB _ _ | exact hT _ (by omega) | exact ⟨by omega, by omega⟩) (fun h12 => ?_) (fun h12 => ?_)
    · exfalso; omega
    · refine r_aload rfl rfl ?_
      refine q_getr rfl rfl rfl ?_
      refine r_iload rfl rfl ?_
      refine q_iald rfl rfl (by omega) (by omega) rfl (hd.2.2.2.2.2.2.2.2.2.2.2.2.1 o) ?_
      refine r_aload rfl rfl ?_
      refine q_getr rfl rfl rfl ?_
      refine r_iload rfl rfl ?_
      refine q_iald rfl rfl (by omega) (by omega) rfl (hd.2.2.2.2.2.2.2.2.2.2.2.2.2 o) ?_
      refine r_c0 rfl (by first | exact iB0 | exact iB1 | exact iBm | exact hB _ _ | exact hT _ (by omega) | exact ⟨by omega, by omega⟩) (by first | exact iB0 | exact iB1 | exact iBm | exact hB _ _ | exact hT _ (by omega) | exact ⟨by omega, by omega⟩) (fun h29 => ?_) (fun h29 => ?_)
      · refine r_iload rfl rfl ?_
        refine r_istore rfl ?_
        refine r_aload rfl rfl ?_
        refine q_getr rfl rfl rfl ?_
        refine r_iload rfl rfl ?_
        refine q_iald rfl rfl (by omega) (by omega) rfl (hd.2.2.2.2.2.2.2.2.2.2.2.2.1 o) ?_
        refine r_aload rfl rfl ?_
        refine q_getr rfl rfl rfl ?_
        refine r_iload rfl rfl ?_
        refine q_iald rfl rfl (by omega) (by omega) rfl (hd.2.2.2.2.2.2.2.2.2.2.2.2.2 o) ?_
        refine r_c0 rfl (by first | exact iB0 | exact iB1 | exact iBm | exact hB _ _ | exact hT _ (by omega) | exact ⟨by omega, by omega⟩) (by first | exact iB0 | exact iB1 | exact iBm | exact hB _ _ | exact hT _ (by omega) | exact ⟨by omega, by omega⟩) (fun h59 => ?_) (fun h59 => ?_)
        · refine r_iload rfl rfl ?_
          refine r_istore rfl ?_
          refine r_iinc rfl rfl ?_
          refine r_goto rfl ?_
          exact hn _ ⟨v, last_f hv (by rw [e1]; simp; omega), by rw [rd_cnt_f (p := p_chg z) (o := o) (by simp [p_chg]; omega)]; rfl⟩
        · exfalso; omega
      · refine r_iload rfl rfl ?_
        refine r_iload rfl rfl ?_
        refine r_c1 rfl ⟨by omega, by omega⟩ hk (fun h35 => ?_) (fun h35 => ?_)
        · refine r_iload rfl rfl ?_
          refine r_istore rfl ?_
          refine r_aload rfl rfl ?_
          refine q_getr rfl rfl rfl ?_
          refine r_iload rfl rfl ?_
          refine q_iald rfl rfl (by omega) (by omega) rfl (hd.2.2.2.2.2.2.2.2.2.2.2.2.1 o) ?_
          refine r_aload rfl rfl ?_
          refine q_getr rfl rfl rfl ?_
          refine r_iload rfl rfl ?_
          refine q_iald rfl rfl (by omega) (by omega) rfl (hd.2.2.2.2.2.2.2.2.2.2.2.2.2 o) ?_
          refine r_c0 rfl (by first | exact iB0 | exact iB1 | exact iBm | exact hB _ _ | exact hT _ (by omega) | exact ⟨by omega, by omega⟩) (by first | exact iB0 | exact iB1 | exact iBm | exact hB _ _ | exact hT _ (by omega) | exact ⟨by omega, by omega⟩) (fun h59 => ?_) (fun h59 => ?_)
          · exfalso; omega
          · refine r_iload rfl rfl ?_
            refine r_push rfl ?_
            refine r_iadd rfl ?_
            refine r_goto rfl ?_
            refine r_istore rfl ?_
            refine r_iinc rfl rfl ?_
            refine r_goto rfl ?_
            exact hn _ ⟨v, last_f hv (by rw [e1]; simp; omega), by rw [rd_cnt_t (p := p_chg z) (o := o) (by simp [p_chg]; omega)]; rfl⟩
        · refine r_iload rfl rfl ?_
          refine r_goto rfl ?_
          refine r_istore rfl ?_
          refine r_aload rfl rfl ?_
          refine q_getr rfl rfl rfl ?_
          refine r_iload rfl rfl ?_
          refine q_iald rfl rfl (by omega) (by omega) rfl (hd.2.2.2.2.2.2.2.2.2.2.2.2.1 o) ?_
          refine r_aload rfl rfl ?_
          refine q_getr rfl rfl rfl ?_
          refine r_iload rfl rfl ?_
          refine q_iald rfl rfl (by omega) (by omega) rfl (hd.2.2.2.2.2.2.2.2.2.2.2.2.2 o) ?_
          refine r_c0 rfl (by first | exact iB0 | exact iB1 | exact iBm | exact hB _ _ | exact hT _ (by omega) | exact ⟨by omega, by omega⟩) (by first | exact iB0 | exact iB1 | exact iBm | exact hB _ _ | exact hT _ (by omega) | exact ⟨by omega, by omega⟩) (fun h59 => ?_) (fun h59 => ?_)
          · exfalso; omega
          · refine r_iload rfl rfl ?_
            refine r_push rfl ?_
            refine r_iadd rfl ?_
            refine r_goto rfl ?_
            refine r_istore rfl ?_
            refine r_iinc rfl rfl ?_
            refine r_goto rfl ?_
            exact hn _ ⟨(o : Int), last_t hv (by rw [e1]; simp; omega) (fun a b _ _ => kth_u a b), by rw [rd_cnt_t (p := p_chg z) (o := o) (by simp [p_chg]; omega)]; rfl⟩
  · obtain ⟨v, hv, rfl⟩ := hs
    have hvb := last_B hv (Nat.le_refl _)
    by_cases hv0 : v < 0
    ·
      refine r_iload rfl rfl ?_
      refine r_push rfl ?_
      refine r_c3 rfl (by first | exact iB0 | exact iB1 | exact iBm | exact hB _ _ | exact hT _ (by omega) | exact ⟨by omega, by omega⟩) (by first | exact iB0 | exact iB1 | exact iBm | exact hB _ _ | exact hT _ (by omega) | exact ⟨by omega, by omega⟩) (fun h12 => ?_) (fun h12 => ?_)
      · refine r_aload rfl rfl ?_
        refine r_iload rfl rfl ?_
        refine r_z3 rfl ⟨by omega, by omega⟩ (fun h81 => ?_) (fun h81 => ?_)
        · exfalso; omega
        · refine r_push rfl ?_
          refine r_goto rfl ?_
          refine q_puti rfl rfl rfl ?_
          refine r_aload rfl rfl ?_
          refine q_geti rfl rfl rfl (uZ_eq _ _ _ _) ?_
          refine r_f5 rfl (by first | exact iB0 | exact iB1 | exact iBm | exact hB _ _ | exact hT _ (by omega) | exact ⟨by omega, by omega⟩) (by omega) ?_
          refine r_push rfl ?_
          refine q_iret rfl rfl rfl ?_
          exact mQ_ok (by rw [f_cha, last_none hv (by omega)]) rfl (mR_t hd 1) (uZ_eq _ _ _ _) (cF_u (cF_r Z) (by omega))
      · exfalso; omega
    · obtain ⟨i, rfl, i2, i3⟩ := last_some hv (by omega)
      refine r_iload rfl rfl ?_
      refine r_push rfl ?_
      refine r_c3 rfl (by first | exact iB0 | exact iB1 | exact iBm | exact hB _ _ | exact hT _ (by omega) | exact ⟨by omega, by omega⟩) (by first | exact iB0 | exact iB1 | exact iBm | exact hB _ _ | exact hT _ (by omega) | exact ⟨by omega, by omega⟩) (fun h12 => ?_) (fun h12 => ?_)
      · refine r_aload rfl rfl ?_
        refine r_iload rfl rfl ?_
        refine r_z3 rfl (by first | exact iB0 | exact iB1 | exact iBm | exact hB _ _ | exact hT _ (by omega) | exact ⟨by omega, by omega⟩) (fun h81 => ?_) (fun h81 => ?_)
        · refine r_iload rfl rfl ?_
          refine r_z2 rfl ht (fun h89 => ?_) (fun h89 => ?_)
          · refine r_push rfl ?_
            refine r_goto rfl ?_
            refine q_puti rfl rfl rfl ?_
            refine r_aload rfl rfl ?_
            refine q_geti rfl rfl rfl (uZ_eq _ _ _ _) ?_
            refine r_f5 rfl (by first | exact iB0 | exact iB1 | exact iBm | exact hB _ _ | exact hT _ (by omega) | exact ⟨by omega, by omega⟩) (by omega) ?_
            refine r_push rfl ?_
            refine q_iret rfl rfl rfl ?_
            exact mQ_ok (by rw [f_cha, i3]; exact (if_neg (by omega)).trans ((if_neg (by omega)).trans (if_neg (by omega)))) rfl (mR_t hd 2) (uZ_eq _ _ _ _) (cF_u (cF_r Z) (by omega))
          · refine r_iload rfl rfl ?_
            refine r_push rfl ?_
            refine r_c5 rfl ht ⟨by omega, by omega⟩ (fun h94 => ?_) (fun h94 => ?_)
            · refine r_push rfl ?_
              refine q_puti rfl rfl rfl ?_
              refine r_aload rfl rfl ?_
              refine q_geti rfl rfl rfl (uZ_eq _ _ _ _) ?_
              refine r_t5 rfl (by first | exact iB0 | exact iB1 | exact iBm | exact hB _ _ | exact hT _ (by omega) | exact ⟨by omega, by omega⟩) (by omega) ?_
              refine r_iload rfl rfl ?_
              refine r_z1 rfl ht (fun h115 => ?_) (fun h115 => ?_)
              · refine r_iload rfl rfl ?_
                refine r_push rfl ?_
                refine r_c1 rfl ht iB1 (fun h124 => ?_) (fun h124 => ?_)
                · refine r_aload rfl rfl ?_
                  refine q_getr rfl rfl rfl ?_
                  refine r_iload rfl rfl ?_
                  refine q_iald rfl rfl (by omega) (by omega) rfl (hd.2.2.2.2.2.2.2.2.2.2.2.2.1 i) ?_
                  refine q_iret rfl rfl rfl ?_
                  exact mQ_ok (by rw [f_cha, i3]; exact (if_neg (by omega)).trans ((if_neg (by omega)).trans (if_pos (by omega)))) rfl (mR_t hd 0) (uZ_eq _ _ _ _) (cF_u (cF_r Z) (by omega))
                · refine r_aload rfl rfl ?_
                  refine q_getr rfl rfl rfl ?_
                  refine r_iload rfl rfl ?_
                  refine q_iald rfl rfl (by omega) (by omega) rfl (hd.2.2.2.2.2.2.2.2.2.2.2.2.2 i) ?_
                  refine r_goto rfl ?_
                  refine q_iret rfl rfl rfl ?_
                  exact mQ_ok (by rw [f_cha, i3]; exact (if_neg (by omega)).trans (if_pos (by omega))) rfl (mR_t hd 0) (uZ_eq _ _ _ _) (cF_u (cF_r Z) (by omega))
              · refine r_iload rfl rfl ?_
                refine r_goto rfl ?_
                refine q_iret rfl rfl rfl ?_
                exact mQ_ok (by rw [f_cha, i3]; exact if_pos (by omega)) rfl (mR_t hd 0) (uZ_eq _ _ _ _) (cF_u (cF_r Z) (by omega))
            · refine r_push rfl ?_
              refine r_goto rfl ?_
              refine q_puti rfl rfl rfl ?_
              refine r_aload rfl rfl ?_
              refine q_geti rfl rfl rfl (uZ_eq _ _ _ _) ?_
              refine r_f5 rfl (by first | exact iB0 | exact iB1 | exact iBm | exact hB _ _ | exact hT _ (by omega) | exact ⟨by omega, by omega⟩) (by omega) ?_
              refine r_push rfl ?_
              refine q_iret rfl rfl rfl ?_
              exact mQ_ok (by rw [f_cha, i3]; exact (if_neg (by omega)).trans ((if_neg (by omega)).trans (if_neg (by omega)))) rfl (mR_t hd 2) (uZ_eq _ _ _ _) (cF_u (cF_r Z) (by omega))
        · exfalso; omega
      · exfalso; omega

theorem an_t {p : Nat → Bool} {o : Nat} (h : p o = true) : (if rd_any p (o + 1) = true then (0 : Int) else 1) = 0 := if_pos (by simp [rd_any, h])
theorem an_o {p : Nat → Bool} {o : Nat} (h : rd_any p o = true) : (if rd_any p (o + 1) = true then (0 : Int) else 1) = 0 := if_pos (by simp [rd_any, h])
theorem an_n {p : Nat → Bool} {o : Nat} (h : p o = false) (h2 : rd_any p o = false) : (if rd_any p (o + 1) = true then (0 : Int) else 1) = 1 := if_neg (by simp [rd_any, h, h2])

theorem snd_l {d : Nat} {Z : wZ} {Lg : Nat → Nat → Int64} {N : Nat} {X : Nat → Int32} {z : rd_Z} (hd : mR z Z) (hz : rd_ok z) (hB : zB z) {m : Nat} (hm : m < 7) (hmain : rd_nr z (z 11) m = false → rd_sf z (z 11) m = true) (off : Int) : am_X (am_tb op_63) (am_T am_tabs am_ar (d + 1)) (am_bl (rd_sf z (z 11) m = true) (mW Z Lg N X)) (102, [some (.ref 34), some (.int (iI m)), some (.int (iI (z 11 m))), some (.int (iI off)), some (.int (iI 1)), some (.int (iI 0))], [], mW Z Lg N X, 0, 0) := by
  have hrm := ok_rs hz hm
  have tm := ok_ty hz hm
  refine r_loopS (fun o σ => ∃ tl : List (Option Value), σ = (102, some (.ref 34) :: some (.int (iI m)) :: some (.int (iI (z 11 m))) :: some (.int (iI off)) :: some (.int (iI (if rd_any (fun o => decide (z 11 o ≠ -1) && rd_bf (z 11) o m && decide (z 11 m - z 11 o < rd_gap z o m)) o = true then 0 else 1))) :: some (.int (iI o)) :: tl, [], mW Z Lg N X, 0, 0)) 7 (fun o σ ho hs hn => ?_) (fun σ hs => ?_) ⟨[], rfl⟩
  · obtain ⟨tl, rfl⟩ := hs
    have hro := ok_rs hz ho
    have to := ok_ty hz ho
    have gg := rd_gap_ge hz ho hm
    by_cases ha : rd_any (fun o => decide (z 11 o ≠ -1) && rd_bf (z 11) o m && decide (z 11 m - z 11 o < rd_gap z o m)) o = true
    · rw [if_pos ha]
      refine r_iload rfl rfl ?_
      refine r_push rfl ?_
      refine r_c3 rfl (by first | exact iB0 | exact iB1 | exact iBm | exact hB _ _ | exact hT _ (by omega) | exact ⟨by omega, by omega⟩) (by first | exact iB0 | exact iB1 | exact iBm | exact hB _ _ | exact hT _ (by omega) | exact ⟨by omega, by omega⟩) (fun h106 => ?_) (fun h106 => ?_)
      · exfalso; omega
      · refine r_aload rfl rfl ?_
        refine q_getr rfl rfl rfl ?_
        refine r_iload rfl rfl ?_
        refine q_iald rfl rfl (by omega) (by omega) rfl (hd.2.2.2.2.2.2.2.2.2.2.2.2.1 o) ?_
        refine r_z2 rfl (by first | exact iB0 | exact iB1 | exact iBm | exact hB _ _ | exact hT _ (by omega) | exact ⟨by omega, by omega⟩) (fun h116 => ?_) (fun h116 => ?_)
        · refine r_push rfl ?_
          refine r_istore rfl ?_
          refine r_iload rfl rfl ?_
          refine r_t0 rfl (by first | exact iB0 | exact iB1 | exact iBm | exact hB _ _ | exact hT _ (by omega) | exact ⟨by omega, by omega⟩) (by omega) ?_
          refine r_push rfl ?_
          refine r_istore rfl ?_
          refine r_iinc rfl rfl ?_
          refine r_goto rfl ?_
          exact hn _ ⟨_, by rw [an_o ha]; rfl⟩
        · refine r_aload rfl rfl ?_
          refine q_getr rfl rfl rfl ?_
          refine r_iload rfl rfl ?_
          refine q_iald rfl rfl (by omega) (by omega) rfl (hd.2.2.2.2.2.2.2.2.2.2.2.2.1 o) ?_
          refine r_iload rfl rfl ?_
          refine r_c2 rfl (by first | exact iB0 | exact iB1 | exact iBm | exact hB _ _ | exact hT _ (by omega) | exact ⟨by omega, by omega⟩) (by first | exact iB0 | exact iB1 | exact iBm | exact hB _ _ | exact hT _ (by omega) | exact ⟨by omega, by omega⟩) (fun h127 => ?_) (fun h127 => ?_)
          · refine r_push rfl ?_
            refine r_goto rfl ?_
            refine r_istore rfl ?_
            refine r_iload rfl rfl ?_
            refine r_t0 rfl (by first | exact iB0 | exact iB1 | exact iBm | exact hB _ _ | exact hT _ (by omega) | exact ⟨by omega, by omega⟩) (by omega) ?_
            refine r_push rfl ?_
            refine r_istore rfl ?_
            refine r_iinc rfl rfl ?_
            refine r_goto rfl ?_
            exact hn _ ⟨_, by rw [an_o ha]; rfl⟩
          · refine r_aload rfl rfl ?_
            refine q_getr rfl rfl rfl ?_
            refine r_iload rfl rfl ?_
            refine q_iald rfl rfl (by omega) (by omega) rfl (hd.2.2.2.2.2.2.2.2.2.2.2.2.1 o) ?_
            refine r_iload rfl rfl ?_
            refine r_c1 rfl (by first | exact iB0 | exact iB1 | exact iBm | exact hB _ _ | exact hT _ (by omega) | exact ⟨by omega, by omega⟩) (by first | exact iB0 | exact iB1 | exact iBm | exact hB _ _ | exact hT _ (by omega) | exact ⟨by omega, by omega⟩) (fun h138 => ?_) (fun h138 => ?_)
            · refine r_push rfl ?_
              refine r_istore rfl ?_
              refine r_iload rfl rfl ?_
              refine r_t0 rfl (by first | exact iB0 | exact iB1 | exact iBm | exact hB _ _ | exact hT _ (by omega) | exact ⟨by omega, by omega⟩) (by omega) ?_
              refine r_push rfl ?_
              refine r_istore rfl ?_
              refine r_iinc rfl rfl ?_
              refine r_goto rfl ?_
              exact hn _ ⟨_, by rw [an_o ha]; rfl⟩
            · refine r_iload rfl rfl ?_
              refine r_iload rfl rfl ?_
              refine r_c3 rfl (by first | exact iB0 | exact iB1 | exact iBm | exact hB _ _ | exact hT _ (by omega) | exact ⟨by omega, by omega⟩) (by first | exact iB0 | exact iB1 | exact iBm | exact hB _ _ | exact hT _ (by omega) | exact ⟨by omega, by omega⟩) (fun h144 => ?_) (fun h144 => ?_)
              · refine r_push rfl ?_
                refine r_istore rfl ?_
                refine r_iload rfl rfl ?_
                refine r_t0 rfl (by first | exact iB0 | exact iB1 | exact iBm | exact hB _ _ | exact hT _ (by omega) | exact ⟨by omega, by omega⟩) (by omega) ?_
                refine r_push rfl ?_
                refine r_istore rfl ?_
                refine r_iinc rfl rfl ?_
                refine r_goto rfl ?_
                exact hn _ ⟨_, by rw [an_o ha]; rfl⟩
              · refine r_push rfl ?_
                refine r_goto rfl ?_
                refine r_istore rfl ?_
                refine r_iload rfl rfl ?_
                refine r_t0 rfl (by first | exact iB0 | exact iB1 | exact iBm | exact hB _ _ | exact hT _ (by omega) | exact ⟨by omega, by omega⟩) (by omega) ?_
                refine r_push rfl ?_
                refine r_istore rfl ?_
                refine r_iinc rfl rfl ?_
                refine r_goto rfl ?_
                exact hn _ ⟨_, by rw [an_o ha]; rfl⟩
    · rw [if_neg ha]
      have ha := Bool.eq_false_iff.mpr ha
      refine r_iload rfl rfl ?_
      refine r_push rfl ?_
      refine r_c3 rfl (by first | exact iB0 | exact iB1 | exact iBm | exact hB _ _ | exact hT _ (by omega) | exact ⟨by omega, by omega⟩) (by first | exact iB0 | exact iB1 | exact iBm | exact hB _ _ | exact hT _ (by omega) | exact ⟨by omega, by omega⟩) (fun h106 => ?_) (fun h106 => ?_)
      · exfalso; omega
      · refine r_aload rfl rfl ?_
        refine q_getr rfl rfl rfl ?_
        refine r_iload rfl rfl ?_
        refine q_iald rfl rfl (by omega) (by omega) rfl (hd.2.2.2.2.2.2.2.2.2.2.2.2.1 o) ?_
        refine r_z2 rfl (by first | exact iB0 | exact iB1 | exact iBm | exact hB _ _ | exact hT _ (by omega) | exact ⟨by omega, by omega⟩) (fun h116 => ?_) (fun h116 => ?_)
        · refine r_push rfl ?_
          refine r_istore rfl ?_
          refine r_iload rfl rfl ?_
          refine r_f0 rfl (by first | exact iB0 | exact iB1 | exact iBm | exact hB _ _ | exact hT _ (by omega) | exact ⟨by omega, by omega⟩) (by omega) ?_
          refine r_iload rfl set_get ?_
          refine r_t0 rfl (by first | exact iB0 | exact iB1 | exact iBm | exact hB _ _ | exact hT _ (by omega) | exact ⟨by omega, by omega⟩) (by omega) ?_
          refine r_push rfl ?_
          refine r_goto rfl ?_
          refine r_istore rfl ?_
          refine r_iinc rfl rfl ?_
          refine r_goto rfl ?_
          first
          | exact hn _ ⟨_, by rw [an_t (p := (fun o => decide (z 11 o ≠ -1) && rd_bf (z 11) o m && decide (z 11 m - z 11 o < rd_gap z o m))) (o := o) (by simp [rd_bf] <;> omega)]; rfl⟩
          | exact hn _ ⟨_, by rw [an_n (p := (fun o => decide (z 11 o ≠ -1) && rd_bf (z 11) o m && decide (z 11 m - z 11 o < rd_gap z o m))) (o := o) (by simp [rd_bf] <;> omega) ha]; rfl⟩
        · refine r_aload rfl rfl ?_
          refine q_getr rfl rfl rfl ?_
          refine r_iload rfl rfl ?_
          refine q_iald rfl rfl (by omega) (by omega) rfl (hd.2.2.2.2.2.2.2.2.2.2.2.2.1 o) ?_
          refine r_iload rfl rfl ?_
          refine r_c2 rfl (by first | exact iB0 | exact iB1 | exact iBm | exact hB _ _ | exact hT _ (by omega) | exact ⟨by omega, by omega⟩) (by first | exact iB0 | exact iB1 | exact iBm | exact hB _ _ | exact hT _ (by omega) | exact ⟨by omega, by omega⟩) (fun h127 => ?_) (fun h127 => ?_)
          · refine r_push rfl ?_
            refine r_goto rfl ?_
            refine r_istore rfl ?_
            refine r_iload rfl rfl ?_
            refine r_f0 rfl (by first | exact iB0 | exact iB1 | exact iBm | exact hB _ _ | exact hT _ (by omega) | exact ⟨by omega, by omega⟩) (by omega) ?_
            refine r_iload rfl set_get ?_
            refine r_f0 rfl (by first | exact iB0 | exact iB1 | exact iBm | exact hB _ _ | exact hT _ (by omega) | exact ⟨by omega, by omega⟩) (by omega) ?_
            refine r_iload rfl rfl ?_
            refine r_aload rfl rfl ?_
            refine q_getr rfl rfl rfl ?_
            refine r_iload rfl rfl ?_
            refine q_iald rfl rfl (by omega) (by omega) rfl (hd.2.2.2.2.2.2.2.2.2.2.2.2.1 o) ?_
            refine r_isub rfl ?_
            refine r_aload rfl rfl ?_
            refine q_getr rfl rfl rfl ?_
            refine r_push rfl ?_
            refine r_aload rfl rfl ?_
            refine q_getr rfl rfl rfl ?_
            refine r_iload rfl rfl ?_
            refine q_iald rfl rfl (by omega) (by omega) rfl (hd.2.1 o) ?_
            refine r_imul rfl ?_
            refine r_aload rfl rfl ?_
            refine q_getr rfl rfl rfl ?_
            refine r_iload rfl rfl ?_
            refine q_iald rfl rfl (by omega) (by omega) rfl (hd.2.1 m) ?_
            refine r_iadd rfl ?_
            refine q_iald rfl rfl (by omega) (by omega) rfl (gapm hd hz ho hm) ?_
            refine r_c2 rfl (by first | exact iB0 | exact iB1 | exact iBm | exact hB _ _ | exact hT _ (by omega) | exact ⟨by omega, by omega⟩) (by first | exact iB0 | exact iB1 | exact iBm | exact hB _ _ | exact hT _ (by omega) | exact ⟨by omega, by omega⟩) (fun h195 => ?_) (fun h195 => ?_)
            · refine r_push rfl ?_
              refine r_istore rfl ?_
              refine r_iinc rfl rfl ?_
              refine r_goto rfl ?_
              first
              | exact hn _ ⟨_, by rw [an_t (p := (fun o => decide (z 11 o ≠ -1) && rd_bf (z 11) o m && decide (z 11 m - z 11 o < rd_gap z o m))) (o := o) (by simp [rd_bf] <;> omega)]; rfl⟩
              | exact hn _ ⟨_, by rw [an_n (p := (fun o => decide (z 11 o ≠ -1) && rd_bf (z 11) o m && decide (z 11 m - z 11 o < rd_gap z o m))) (o := o) (by simp [rd_bf] <;> omega) ha]; rfl⟩
            · refine r_push rfl ?_
              refine r_goto rfl ?_
              refine r_istore rfl ?_
              refine r_iinc rfl rfl ?_
              refine r_goto rfl ?_
              first
              | exact hn _ ⟨_, by rw [an_t (p := (fun o => decide (z 11 o ≠ -1) && rd_bf (z 11) o m && decide (z 11 m - z 11 o < rd_gap z o m))) (o := o) (by simp [rd_bf] <;> omega)]; rfl⟩
              | exact hn _ ⟨_, by rw [an_n (p := (fun o => decide (z 11 o ≠ -1) && rd_bf (z 11) o m && decide (z 11 m - z 11 o < rd_gap z o m))) (o := o) (by simp [rd_bf] <;> omega) ha]; rfl⟩
          · refine r_aload rfl rfl ?_
            refine q_getr rfl rfl rfl ?_
            refine r_iload rfl rfl ?_
            refine q_iald rfl rfl (by omega) (by omega) rfl (hd.2.2.2.2.2.2.2.2.2.2.2.2.1 o) ?_
            refine r_iload rfl rfl ?_
            refine r_c1 rfl (by first | exact iB0 | exact iB1 | exact iBm | exact hB _ _ | exact hT _ (by omega) | exact ⟨by omega, by omega⟩) (by first | exact iB0 | exact iB1 | exact iBm | exact hB _ _ | exact hT _ (by omega) | exact ⟨by omega, by omega⟩) (fun h138 => ?_) (fun h138 => ?_)
            · refine r_push rfl ?_
              refine r_istore rfl ?_
              refine r_iload rfl rfl ?_
              refine r_f0 rfl (by first | exact iB0 | exact iB1 | exact iBm | exact hB _ _ | exact hT _ (by omega) | exact ⟨by omega, by omega⟩) (by omega) ?_
              refine r_iload rfl set_get ?_
              refine r_t0 rfl (by first | exact iB0 | exact iB1 | exact iBm | exact hB _ _ | exact hT _ (by omega) | exact ⟨by omega, by omega⟩) (by omega) ?_
              refine r_push rfl ?_
              refine r_goto rfl ?_
              refine r_istore rfl ?_
              refine r_iinc rfl rfl ?_
              refine r_goto rfl ?_
              first
              | exact hn _ ⟨_, by rw [an_t (p := (fun o => decide (z 11 o ≠ -1) && rd_bf (z 11) o m && decide (z 11 m - z 11 o < rd_gap z o m))) (o := o) (by simp [rd_bf] <;> omega)]; rfl⟩
              | exact hn _ ⟨_, by rw [an_n (p := (fun o => decide (z 11 o ≠ -1) && rd_bf (z 11) o m && decide (z 11 m - z 11 o < rd_gap z o m))) (o := o) (by simp [rd_bf] <;> omega) ha]; rfl⟩
            · refine r_iload rfl rfl ?_
              refine r_iload rfl rfl ?_
              refine r_c3 rfl (by first | exact iB0 | exact iB1 | exact iBm | exact hB _ _ | exact hT _ (by omega) | exact ⟨by omega, by omega⟩) (by first | exact iB0 | exact iB1 | exact iBm | exact hB _ _ | exact hT _ (by omega) | exact ⟨by omega, by omega⟩) (fun h144 => ?_) (fun h144 => ?_)
              · refine r_push rfl ?_
                refine r_istore rfl ?_
                refine r_iload rfl rfl ?_
                refine r_f0 rfl (by first | exact iB0 | exact iB1 | exact iBm | exact hB _ _ | exact hT _ (by omega) | exact ⟨by omega, by omega⟩) (by omega) ?_
                refine r_iload rfl set_get ?_
                refine r_t0 rfl (by first | exact iB0 | exact iB1 | exact iBm | exact hB _ _ | exact hT _ (by omega) | exact ⟨by omega, by omega⟩) (by omega) ?_
                refine r_push rfl ?_
                refine r_goto rfl ?_
                refine r_istore rfl ?_
                refine r_iinc rfl rfl ?_
                refine r_goto rfl ?_
                first
                | exact hn _ ⟨_, by rw [an_t (p := (fun o => decide (z 11 o ≠ -1) && rd_bf (z 11) o m && decide (z 11 m - z 11 o < rd_gap z o m))) (o := o) (by simp [rd_bf] <;> omega)]; rfl⟩
                | exact hn _ ⟨_, by rw [an_n (p := (fun o => decide (z 11 o ≠ -1) && rd_bf (z 11) o m && decide (z 11 m - z 11 o < rd_gap z o m))) (o := o) (by simp [rd_bf] <;> omega) ha]; rfl⟩
              · refine r_push rfl ?_
                refine r_goto rfl ?_
                refine r_istore rfl ?_
                refine r_iload rfl rfl ?_
                refine r_f0 rfl (by first | exact iB0 | exact iB1 | exact iBm | exact hB _ _ | exact hT _ (by omega) | exact ⟨by omega, by omega⟩) (by omega) ?_
                refine r_iload rfl set_get ?_
                refine r_f0 rfl (by first | exact iB0 | exact iB1 | exact iBm | exact hB _ _ | exact hT _ (by omega) | exact ⟨by omega, by omega⟩) (by omega) ?_
                refine r_iload rfl rfl ?_
                refine r_aload rfl rfl ?_
                refine q_getr rfl rfl rfl ?_
                refine r_iload rfl rfl ?_
                refine q_iald rfl rfl (by omega) (by omega) rfl (hd.2.2.2.2.2.2.2.2.2.2.2.2.1 o) ?_
                refine r_isub rfl ?_
                refine r_aload rfl rfl ?_
                refine q_getr rfl rfl rfl ?_
                refine r_push rfl ?_
                refine r_aload rfl rfl ?_
                refine q_getr rfl rfl rfl ?_
                refine r_iload rfl rfl ?_
                refine q_iald rfl rfl (by omega) (by omega) rfl (hd.2.1 o) ?_
                refine r_imul rfl ?_
                refine r_aload rfl rfl ?_
                refine q_getr rfl rfl rfl ?_
                refine r_iload rfl rfl ?_
                refine q_iald rfl rfl (by omega) (by omega) rfl (hd.2.1 m) ?_
                refine r_iadd rfl ?_
                refine q_iald rfl rfl (by omega) (by omega) rfl (gapm hd hz ho hm) ?_
                refine r_c2 rfl (by first | exact iB0 | exact iB1 | exact iBm | exact hB _ _ | exact hT _ (by omega) | exact ⟨by omega, by omega⟩) (by first | exact iB0 | exact iB1 | exact iBm | exact hB _ _ | exact hT _ (by omega) | exact ⟨by omega, by omega⟩) (fun h195 => ?_) (fun h195 => ?_)
                · refine r_push rfl ?_
                  refine r_istore rfl ?_
                  refine r_iinc rfl rfl ?_
                  refine r_goto rfl ?_
                  first
                  | exact hn _ ⟨_, by rw [an_t (p := (fun o => decide (z 11 o ≠ -1) && rd_bf (z 11) o m && decide (z 11 m - z 11 o < rd_gap z o m))) (o := o) (by simp [rd_bf] <;> omega)]; rfl⟩
                  | exact hn _ ⟨_, by rw [an_n (p := (fun o => decide (z 11 o ≠ -1) && rd_bf (z 11) o m && decide (z 11 m - z 11 o < rd_gap z o m))) (o := o) (by simp [rd_bf] <;> omega) ha]; rfl⟩
                · refine r_push rfl ?_
                  refine r_goto rfl ?_
                  refine r_istore rfl ?_
                  refine r_iinc rfl rfl ?_
                  refine r_goto rfl ?_
                  first
                  | exact hn _ ⟨_, by rw [an_t (p := (fun o => decide (z 11 o ≠ -1) && rd_bf (z 11) o m && decide (z 11 m - z 11 o < rd_gap z o m))) (o := o) (by simp [rd_bf] <;> omega)]; rfl⟩
                  | exact hn _ ⟨_, by rw [an_n (p := (fun o => decide (z 11 o ≠ -1) && rd_bf (z 11) o m && decide (z 11 m - z 11 o < rd_gap z o m))) (o := o) (by simp [rd_bf] <;> omega) ha]; rfl⟩
  · obtain ⟨tl, rfl⟩ := hs
    by_cases ha : rd_any (fun o => decide (z 11 o ≠ -1) && rd_bf (z 11) o m && decide (z 11 m - z 11 o < rd_gap z o m)) 7 = true
    · rw [if_pos ha]
      refine r_iload rfl rfl ?_
      refine r_push rfl ?_
      refine r_c3 rfl (by first | exact iB0 | exact iB1 | exact iBm | exact hB _ _ | exact hT _ (by omega) | exact ⟨by omega, by omega⟩) (by first | exact iB0 | exact iB1 | exact iBm | exact hB _ _ | exact hT _ (by omega) | exact ⟨by omega, by omega⟩) (fun h106 => ?_) (fun h106 => ?_)
      · refine r_iload rfl rfl ?_
        refine q_zret rfl rfl rfl (by omega) ?_
        exact ⟨rfl, _, rfl, Or.inr ⟨rfl, fun q => by have := (rd_sf_iff.mp q).2.2.2.2.1; rw [show rd_nr z (z 11) m = true from ha] at this; cases this⟩⟩
      · exfalso; omega
    · rw [if_neg ha]
      refine r_iload rfl rfl ?_
      refine r_push rfl ?_
      refine r_c3 rfl (by first | exact iB0 | exact iB1 | exact iBm | exact hB _ _ | exact hT _ (by omega) | exact ⟨by omega, by omega⟩) (by first | exact iB0 | exact iB1 | exact iBm | exact hB _ _ | exact hT _ (by omega) | exact ⟨by omega, by omega⟩) (fun h106 => ?_) (fun h106 => ?_)
      · refine r_iload rfl rfl ?_
        refine q_zret rfl rfl rfl (by omega) ?_
        exact ⟨rfl, _, rfl, Or.inl ⟨rfl, hmain (Bool.eq_false_iff.mpr ha)⟩⟩
      · exfalso; omega

theorem s_63 {d : Nat} {Z : wZ} {Lg : Nat → Nat → Int64} {N : Nat} {X : Nat → Int32} {z : rd_Z} (hd : mR z Z) (hz : rd_ok z) (hB : zB z) {m : Nat} (hm : m < 7) (ht : rd_th z m = true) (h11 : z 11 m ≠ -1) : am_T am_tabs am_ar (d + 2) 63 [.ref 34, .int (iI m)] (mW Z Lg N X) (am_bl (rd_sf z (z 11) m = true) (mW Z Lg N X)) := by
  refine ⟨⟨rfl, rfl⟩, ?_⟩
  show am_X (am_tb op_63) _ _ _
  have hrm := ok_rs hz hm
  have hfr := ok_fr hz hm
  have hlm := ok_lm hz
  have l1 : rd_pi (z 11) m ≤ 7 := rd_cnt_le _ _
  have l2 : rd_pl z m ≤ 7 := rd_cnt_le _ _
  refine r_aload rfl rfl ?_
  refine q_getr rfl rfl rfl ?_
  refine r_iload rfl rfl ?_
  refine q_iald rfl rfl (by omega) (by omega) rfl (hd.2.2.2.2.2.2.2.2.2.2.2.2.1 m) ?_
  refine r_istore rfl ?_
  refine r_iload rfl rfl ?_
  refine r_aload rfl rfl ?_
  refine q_getr rfl rfl rfl ?_
  refine r_iload rfl rfl ?_
  refine q_iald rfl rfl (by omega) (by omega) rfl (hd.2.2.1 m) ?_
  refine r_c2 rfl (by first | exact iB0 | exact iB1 | exact iBm | exact hB _ _ | exact hT _ (by omega) | exact ⟨by omega, by omega⟩) (by first | exact iB0 | exact iB1 | exact iBm | exact hB _ _ | exact hT _ (by omega) | exact ⟨by omega, by omega⟩) (fun h14 => ?_) (fun h14 => ?_)
  · refine r_push rfl ?_
    refine q_zret rfl rfl rfl (by omega) ?_
    first
    | exact ⟨rfl, _, rfl, Or.inr ⟨rfl, fun q => by obtain ⟨q1, q2, q3, q4, q5, q6⟩ := rd_sf_iff.mp q; omega⟩⟩
    | exact ⟨rfl, _, rfl, Or.inr ⟨rfl, fun q => by obtain ⟨q1, q2, q3, q4, q5, q6⟩ := rd_sf_iff.mp q; (rw [h29] at q3; cases q3)⟩⟩
  · refine r_iload rfl rfl ?_
    refine r_aload rfl rfl ?_
    refine q_getr rfl rfl rfl ?_
    refine r_iload rfl rfl ?_
    refine q_iald rfl rfl (by omega) (by omega) rfl (hd.2.2.2.2.1 m) ?_
    refine r_c4 rfl (by first | exact iB0 | exact iB1 | exact iBm | exact hB _ _ | exact hT _ (by omega) | exact ⟨by omega, by omega⟩) (by first | exact iB0 | exact iB1 | exact iBm | exact hB _ _ | exact hT _ (by omega) | exact ⟨by omega, by omega⟩) (fun h24 => ?_) (fun h24 => ?_)
    · refine r_push rfl ?_
      refine q_zret rfl rfl rfl (by omega) ?_
      first
      | exact ⟨rfl, _, rfl, Or.inr ⟨rfl, fun q => by obtain ⟨q1, q2, q3, q4, q5, q6⟩ := rd_sf_iff.mp q; omega⟩⟩
      | exact ⟨rfl, _, rfl, Or.inr ⟨rfl, fun q => by obtain ⟨q1, q2, q3, q4, q5, q6⟩ := rd_sf_iff.mp q; (rw [h29] at q3; cases q3)⟩⟩
    · refine r_aload rfl rfl ?_
      refine r_iload rfl rfl ?_
      refine r_kb1 rfl rfl rfl rfl rfl (s_43 hd hz hB (hB _ _)) (fun h29 => ?_) (fun h29 => ?_)
      · refine r_t1 rfl (by first | exact iB0 | exact iB1 | exact iBm | exact hB _ _ | exact hT _ (by omega) | exact ⟨by omega, by omega⟩) (by omega) ?_
        refine r_push rfl ?_
        refine q_zret rfl rfl rfl (by omega) ?_
        first
        | exact ⟨rfl, _, rfl, Or.inr ⟨rfl, fun q => by obtain ⟨q1, q2, q3, q4, q5, q6⟩ := rd_sf_iff.mp q; omega⟩⟩
        | exact ⟨rfl, _, rfl, Or.inr ⟨rfl, fun q => by obtain ⟨q1, q2, q3, q4, q5, q6⟩ := rd_sf_iff.mp q; (rw [h29] at q3; cases q3)⟩⟩
      · refine r_f1 rfl (by first | exact iB0 | exact iB1 | exact iBm | exact hB _ _ | exact hT _ (by omega) | exact ⟨by omega, by omega⟩) (by omega) ?_
        refine r_aload rfl rfl ?_
        refine q_getr rfl rfl rfl ?_
        refine r_iload rfl rfl ?_
        refine q_iald rfl rfl (by omega) (by omega) rfl (hd.2.2.2.2.2.2.1 m hm (th_iff.mp ht)) ?_
        refine r_z2 rfl (by first | exact iB0 | exact iB1 | exact iBm | exact hB _ _ | exact hT _ (by omega) | exact ⟨by omega, by omega⟩) (fun h41 => ?_) (fun h41 => ?_)
        · refine r_aload rfl rfl ?_
          refine r_iload rfl rfl ?_
          refine r_ki1 rfl rfl rfl rfl rfl (s_60 hd hz hB hm) ?_
          refine r_aload rfl rfl ?_
          refine r_iload rfl rfl ?_
          refine r_ki1 rfl rfl rfl rfl rfl (s_47 hd hz hB hm) ?_
          refine r_isub rfl ?_
          refine r_istore rfl ?_
          refine r_aload rfl rfl ?_
          refine q_getr rfl rfl rfl ?_
          refine r_iload rfl rfl ?_
          refine q_iald rfl rfl (by omega) (by omega) rfl (hd.2.2.2.2.2.2.1 m hm (th_iff.mp ht)) ?_
          refine r_z3 rfl (by first | exact iB0 | exact iB1 | exact iBm | exact hB _ _ | exact hT _ (by omega) | exact ⟨by omega, by omega⟩) (fun h74 => ?_) (fun h74 => ?_)
          · refine r_push rfl ?_
            refine r_istore rfl ?_
            refine r_push rfl ?_
            refine r_istore rfl ?_
            exact snd_l hd hz hB hm (fun hnr => rd_sf_iff.mpr ⟨h11, ⟨by omega, by omega⟩, Bool.eq_false_iff.mpr h29, by omega, hnr, may_iff.mpr (by omega)⟩) _
          · refine r_iload rfl rfl ?_
            refine r_aload rfl rfl ?_
            refine q_geti rfl rfl rfl hd.2.2.2.2.2.2.2.2.2.2.2.1 ?_
            refine r_c4 rfl (by first | exact iB0 | exact iB1 | exact iBm | exact hB _ _ | exact hT _ (by omega) | exact ⟨by omega, by omega⟩) (by first | exact iB0 | exact iB1 | exact iBm | exact hB _ _ | exact hT _ (by omega) | exact ⟨by omega, by omega⟩) (fun h82 => ?_) (fun h82 => ?_)
            · refine r_push rfl ?_
              refine q_zret rfl rfl rfl (by omega) ?_
              exact ⟨rfl, _, rfl, Or.inr ⟨rfl, fun q => by obtain ⟨q1, q2, q3, q4, q5, q6⟩ := rd_sf_iff.mp q; (have := may_iff.mp q6; omega)⟩⟩
            · refine r_iload rfl rfl ?_
              refine r_ineg rfl ?_
              refine r_aload rfl rfl ?_
              refine q_geti rfl rfl rfl hd.2.2.2.2.2.2.2.2.2.2.2.1 ?_
              refine r_c5 rfl (by first | exact iB0 | exact iB1 | exact iBm | exact hB _ _ | exact hT _ (by omega) | exact ⟨by omega, by omega⟩) (by first | exact iB0 | exact iB1 | exact iBm | exact hB _ _ | exact hT _ (by omega) | exact ⟨by omega, by omega⟩) (fun h91 => ?_) (fun h91 => ?_)
              · refine r_push rfl ?_
                refine r_istore rfl ?_
                refine r_push rfl ?_
                refine r_istore rfl ?_
                exact snd_l hd hz hB hm (fun hnr => rd_sf_iff.mpr ⟨h11, ⟨by omega, by omega⟩, Bool.eq_false_iff.mpr h29, by omega, hnr, may_iff.mpr (by omega)⟩) _
              · refine r_push rfl ?_
                refine q_zret rfl rfl rfl (by omega) ?_
                exact ⟨rfl, _, rfl, Or.inr ⟨rfl, fun q => by obtain ⟨q1, q2, q3, q4, q5, q6⟩ := rd_sf_iff.mp q; (have := may_iff.mp q6; omega)⟩⟩
        · refine r_aload rfl rfl ?_
          refine q_getr rfl rfl rfl ?_
          refine r_iload rfl rfl ?_
          refine q_iald rfl rfl (by omega) (by omega) rfl (hd.2.2.2.2.2.2.1 m hm (th_iff.mp ht)) ?_
          refine r_iload rfl rfl ?_
          refine r_c0 rfl (by first | exact iB0 | exact iB1 | exact iBm | exact hB _ _ | exact hT _ (by omega) | exact ⟨by omega, by omega⟩) (by first | exact iB0 | exact iB1 | exact iBm | exact hB _ _ | exact hT _ (by omega) | exact ⟨by omega, by omega⟩) (fun h51 => ?_) (fun h51 => ?_)
          · refine r_aload rfl rfl ?_
            refine r_iload rfl rfl ?_
            refine r_ki1 rfl rfl rfl rfl rfl (s_60 hd hz hB hm) ?_
            refine r_aload rfl rfl ?_
            refine r_iload rfl rfl ?_
            refine r_ki1 rfl rfl rfl rfl rfl (s_47 hd hz hB hm) ?_
            refine r_isub rfl ?_
            refine r_istore rfl ?_
            refine r_aload rfl rfl ?_
            refine q_getr rfl rfl rfl ?_
            refine r_iload rfl rfl ?_
            refine q_iald rfl rfl (by omega) (by omega) rfl (hd.2.2.2.2.2.2.1 m hm (th_iff.mp ht)) ?_
            refine r_z3 rfl (by first | exact iB0 | exact iB1 | exact iBm | exact hB _ _ | exact hT _ (by omega) | exact ⟨by omega, by omega⟩) (fun h74 => ?_) (fun h74 => ?_)
            · refine r_push rfl ?_
              refine r_istore rfl ?_
              refine r_push rfl ?_
              refine r_istore rfl ?_
              exact snd_l hd hz hB hm (fun hnr => rd_sf_iff.mpr ⟨h11, ⟨by omega, by omega⟩, Bool.eq_false_iff.mpr h29, by omega, hnr, may_iff.mpr (by omega)⟩) _
            · refine r_iload rfl rfl ?_
              refine r_aload rfl rfl ?_
              refine q_geti rfl rfl rfl hd.2.2.2.2.2.2.2.2.2.2.2.1 ?_
              refine r_c4 rfl (by first | exact iB0 | exact iB1 | exact iBm | exact hB _ _ | exact hT _ (by omega) | exact ⟨by omega, by omega⟩) (by first | exact iB0 | exact iB1 | exact iBm | exact hB _ _ | exact hT _ (by omega) | exact ⟨by omega, by omega⟩) (fun h82 => ?_) (fun h82 => ?_)
              · refine r_push rfl ?_
                refine q_zret rfl rfl rfl (by omega) ?_
                exact ⟨rfl, _, rfl, Or.inr ⟨rfl, fun q => by obtain ⟨q1, q2, q3, q4, q5, q6⟩ := rd_sf_iff.mp q; (have := may_iff.mp q6; omega)⟩⟩
              · refine r_iload rfl rfl ?_
                refine r_ineg rfl ?_
                refine r_aload rfl rfl ?_
                refine q_geti rfl rfl rfl hd.2.2.2.2.2.2.2.2.2.2.2.1 ?_
                refine r_c5 rfl (by first | exact iB0 | exact iB1 | exact iBm | exact hB _ _ | exact hT _ (by omega) | exact ⟨by omega, by omega⟩) (by first | exact iB0 | exact iB1 | exact iBm | exact hB _ _ | exact hT _ (by omega) | exact ⟨by omega, by omega⟩) (fun h91 => ?_) (fun h91 => ?_)
                · refine r_push rfl ?_
                  refine r_istore rfl ?_
                  refine r_push rfl ?_
                  refine r_istore rfl ?_
                  exact snd_l hd hz hB hm (fun hnr => rd_sf_iff.mpr ⟨h11, ⟨by omega, by omega⟩, Bool.eq_false_iff.mpr h29, by omega, hnr, may_iff.mpr (by omega)⟩) _
                · refine r_push rfl ?_
                  refine q_zret rfl rfl rfl (by omega) ?_
                  exact ⟨rfl, _, rfl, Or.inr ⟨rfl, fun q => by obtain ⟨q1, q2, q3, q4, q5, q6⟩ := rd_sf_iff.mp q; (have := may_iff.mp q6; omega)⟩⟩
          · refine r_push rfl ?_
            refine q_zret rfl rfl rfl (by omega) ?_
            first
            | exact ⟨rfl, _, rfl, Or.inr ⟨rfl, fun q => by obtain ⟨q1, q2, q3, q4, q5, q6⟩ := rd_sf_iff.mp q; omega⟩⟩
            | exact ⟨rfl, _, rfl, Or.inr ⟨rfl, fun q => by obtain ⟨q1, q2, q3, q4, q5, q6⟩ := rd_sf_iff.mp q; (rw [h29] at q3; cases q3)⟩⟩

theorem s_64 {d : Nat} {Z : wZ} {Lg : Nat → Nat → Int64} {N : Nat} {X : Nat → Int32} {z : rd_Z} (hd : mR z Z) (hz : rd_ok z) (hB : zB z)  : am_T am_tabs am_ar (d + 3) 64 [.ref 34] (mW Z Lg N X) (am_ret (iI (oI (rd_lu z (z 11)))) (mW Z Lg N X)) := by
  refine ⟨⟨rfl, rfl⟩, ?_⟩
  show am_X (am_tb op_64) _ _ _
  refine r_push rfl ?_
  refine r_istore rfl ?_
  refine r_loop (fun o => (2, [some (.ref 34), some (.int (iI o))], [], mW Z Lg N X, 0, 0)) (fun o => ∀ j, j < o → (fun m => rd_th z m && !rd_sf z (z 11) m) j = false) 7 fst_no (fun o ho hi hn => ?_) (fun hi => ?_)
  · (try dsimp only at hi); (try dsimp only at hn); (try dsimp only)
    have hro := ok_rs hz ho
    have hsf : z 11 o = -1 → rd_sf z (z 11) o = false := fun q => by simp [rd_sf, q]
    refine r_iload rfl rfl ?_
    refine r_push rfl ?_
    refine r_c3 rfl (by first | exact iB0 | exact iB1 | exact iBm | exact hB _ _ | exact hT _ (by omega) | exact ⟨by omega, by omega⟩) (by first | exact iB0 | exact iB1 | exact iBm | exact hB _ _ | exact hT _ (by omega) | exact ⟨by omega, by omega⟩) (fun h5 => ?_) (fun h5 => ?_)
    · exfalso; omega
    · refine r_aload rfl rfl ?_
      refine q_getr rfl rfl rfl ?_
      refine r_iload rfl rfl ?_
      refine q_zald rfl rfl (by omega) (by omega) rfl (hd.1 o) ?_
      refine r_z0 rfl (by first | exact iB0 | exact iB1 | exact iBm | exact hB _ _ | exact hT _ (by omega) | exact ⟨by omega, by omega⟩) (fun h14 => ?_) (fun h14 => ?_)
      · refine r_iinc rfl rfl ?_
        refine r_goto rfl ?_
        exact hn (fst_next hi (by simp [rd_th, h14]))
      · refine r_aload rfl rfl ?_
        refine q_getr rfl rfl rfl ?_
        refine r_iload rfl rfl ?_
        refine q_iald rfl rfl (by omega) (by omega) rfl (hd.2.2.2.2.2.2.2.2.2.2.2.2.1 o) ?_
        refine r_z2 rfl (by first | exact iB0 | exact iB1 | exact iBm | exact hB _ _ | exact hT _ (by omega) | exact ⟨by omega, by omega⟩) (fun h23 => ?_) (fun h23 => ?_)
        · refine r_iload rfl rfl ?_
          refine q_iret rfl rfl rfl ?_
          exact am_ret_of (by rw [show rd_lu z (z 11) = some o from rd_fst_stop ho hi (by rw [th_iff.mpr h14, hsf (by omega)]; rfl)]; rfl)
        · refine r_aload rfl rfl ?_
          refine r_iload rfl rfl ?_
          refine r_kb1 rfl rfl rfl rfl rfl (s_63 hd hz hB ho (th_iff.mpr h14) (by omega)) (fun h28 => ?_) (fun h28 => ?_)
          · refine r_t1 rfl (by first | exact iB0 | exact iB1 | exact iBm | exact hB _ _ | exact hT _ (by omega) | exact ⟨by omega, by omega⟩) (by omega) ?_
            refine r_iinc rfl rfl ?_
            refine r_goto rfl ?_
            exact hn (fst_next hi (by rw [h28]; simp))
          · refine r_f1 rfl (by first | exact iB0 | exact iB1 | exact iBm | exact hB _ _ | exact hT _ (by omega) | exact ⟨by omega, by omega⟩) (by omega) ?_
            refine r_iload rfl rfl ?_
            refine q_iret rfl rfl rfl ?_
            exact am_ret_of (by rw [show rd_lu z (z 11) = some o from rd_fst_stop ho hi (by rw [th_iff.mpr h14, Bool.eq_false_iff.mpr h28]; rfl)]; rfl)
  · (try dsimp only at hi); (try dsimp only)
    refine r_iload rfl rfl ?_
    refine r_push rfl ?_
    refine r_c3 rfl (by first | exact iB0 | exact iB1 | exact iBm | exact hB _ _ | exact hT _ (by omega) | exact ⟨by omega, by omega⟩) (by first | exact iB0 | exact iB1 | exact iBm | exact hB _ _ | exact hT _ (by omega) | exact ⟨by omega, by omega⟩) (fun h5 => ?_) (fun h5 => ?_)
    · refine r_push rfl ?_
      refine q_iret rfl rfl rfl ?_
      exact am_ret_of (by rw [show rd_lu z (z 11) = none from rd_fst_all hi]; rfl)
    · exfalso; omega

theorem s_65 {d : Nat} {Z : wZ} {Lg : Nat → Nat → Int64} {N : Nat} {X : Nat → Int32} {z : rd_Z} (hd : mR z Z) (hz : rd_ok z) (hB : zB z)  : am_T am_tabs am_ar (d + 4) 65 [.ref 34] (mW Z Lg N X) (mQ (f_ver z) Z Lg N X) := by
  refine ⟨⟨rfl, rfl⟩, ?_⟩
  show am_X (am_tb op_65) _ _ _
  refine r_aload rfl rfl ?_
  refine r_push rfl ?_
  refine q_puti rfl rfl rfl ?_
  refine r_aload rfl rfl ?_
  refine r_ki0 rfl rfl rfl rfl rfl (s_64 (mR_t hd 0) hz hB) ?_
  refine q_iret rfl rfl rfl ?_
  exact mQ_ok rfl rfl (mR_t hd 0) (uZ_eq _ _ _ _) (cF_u (cF_r Z) (by omega))

theorem lu_11 {z : rd_Z} {m : Nat} {s : Int} : rd_lu (uZ z 11 m s) (uZ z 11 m s 11) = rd_lu z (rd_at (z 11) m s) := by
  have e : uZ z 11 m s 11 = rd_at (z 11) m s := by
    funext j
    by_cases q : j = m
    · subst q; rw [uZ_eq, rd_at_self]
    · rw [uZ_nj _ q, rd_at_ne q]
  rw [e]
  rfl
theorem oI_lt {x : Option Nat} : oI x < 0 ↔ x = none := by
  cases x with
  | none => exact ⟨fun _ => rfl, fun _ => by show (-1 : Int) < 0; omega⟩
  | some i => exact ⟨fun h => by have h : (i : Int) < 0 := h; omega, fun h => by cases h⟩
theorem lu_B {z : rd_Z} {r : Nat → Int} : iB (oI (rd_lu z r)) := oI_B (by omega)

theorem s_66 {d : Nat} {Z : wZ} {Lg : Nat → Nat → Int64} {N : Nat} {X : Nat → Int32} {z : rd_Z} (hd : mR z Z) (hz : rd_ok z) (hB : zB z) {m : Int} (hm : iB m) : am_T am_tabs am_ar (d + 4) 66 [.ref 34, .int (iI m)] (mW Z Lg N X) (mQ (f_sla z m) Z Lg N X) := by
  refine ⟨⟨rfl, rfl⟩, ?_⟩
  show am_X (am_tb op_66) _ _ _
  by_cases h : 0 ≤ m ∧ m < 7 ∧ rd_th z m.toNat = true
  · obtain ⟨n, rfl⟩ : ∃ n : Nat, m = n := ⟨m.toNat, by omega⟩
    have hn : n < 7 := by omega
    have ht : rd_th z n = true := h.2.2
    have h0n : z 0 n ≠ 0 := th_iff.mp ht
    have hrg := ok_rg hz hn
    have hfr := ok_fr hz hn
    have hrs := ok_rs hz hn
    refine r_aload rfl rfl ?_
    refine r_aload rfl rfl ?_
    refine r_iload rfl rfl ?_
    refine r_kb1 rfl rfl rfl rfl rfl (s_33 hd hz hB hm) (fun h3 => ?_) (fun h3 => ?_)
    · refine r_t1 rfl (by first | exact iB0 | exact iB1 | exact iBm | exact hB _ _ | exact hT _ (by omega) | exact ⟨by omega, by omega⟩) (by omega) ?_
      refine r_aload rfl rfl ?_
      refine r_ki0 rfl rfl rfl rfl rfl (s_64 hd hz hB) ?_
      refine r_z2 rfl lu_B (fun h17 => ?_) (fun h17 => ?_)
      · refine r_push rfl ?_
        refine q_puti rfl rfl rfl ?_
        refine r_aload rfl rfl ?_
        refine q_geti rfl rfl rfl (uZ_eq _ _ _ _) ?_
        refine r_t5 rfl (by first | exact iB0 | exact iB1 | exact iBm | exact hB _ _ | exact hT _ (by omega) | exact ⟨by omega, by omega⟩) (by omega) ?_
        refine r_aload rfl rfl ?_
        refine q_getr rfl rfl rfl ?_
        refine r_iload rfl rfl ?_
        refine q_iald rfl rfl (by omega) (by omega) rfl (hd.2.2.2.2.2.2.2.2.2.2.2.2.1 n) ?_
        refine r_istore rfl ?_
        refine r_push rfl ?_
        refine r_istore rfl ?_
        refine r_iload rfl rfl ?_
        refine r_push rfl ?_
        refine r_iadd rfl ?_
        refine r_istore rfl ?_
        have hlu := oI_lt.mp h17
        have hsf := rd_sf_iff.mp (rd_lu_none.mp hlu n hn ht)
        have h11 := hsf.1
        have h12 := hsf.2.1
        refine r_loopS (fun o σ => ∃ Z1 : wZ, (∀ k j, (k ≠ 45 ∨ j ≠ n) → Z1 k j = uZ Z 34 0 0 k j) ∧ σ = (51, [some (.ref 34), some (.int (iI n)), some (.int (iI (z 11 n))), some (.int (iI ((rd_gr z (z 11) n o : Nat) : Int))), some (.int (iI (z 11 n + 1 + o)))], [], mW Z1 Lg N X, 0, 0)) (z 4 n - z 11 n).toNat (fun o σ ho hs hn_ => ?_) (fun σ hs => ?_) ⟨_, fun _ _ _ => rfl, by rw [show z 11 n + 1 + ((0 : Nat) : Int) = z 11 n + 1 by omega]; rfl⟩
        · obtain ⟨Z1, q0, rfl⟩ := hs
          have hZ : uZ Z1 45 n (z 11 n + 1 + o) = uZ (uZ Z 34 0 0) 45 n (z 11 n + 1 + o) := by
            funext a b
            by_cases ea : a = 45 ∧ b = n
            · rw [ea.1, ea.2, uZ_eq, uZ_eq]
            · rw [uZ_fr a b (by omega), uZ_fr a b (by omega)]; exact q0 a b (by omega)
          have hd1 : mR (uZ z 11 n (z 11 n + 1 + o)) (uZ Z1 45 n (z 11 n + 1 + o)) := by rw [hZ]; exact mu_11 (mR_n (mR_t hd 0)) n _
          have h64 : ∀ d, am_T am_tabs am_ar (d + 3) 64 [.ref 34] (mW (uZ Z1 45 n (z 11 n + 1 + o)) Lg N X) (am_ret (iI (oI (rd_lu z (rd_at (z 11) n (z 11 n + 1 + o))))) (mW (uZ Z1 45 n (z 11 n + 1 + o)) Lg N X)) := fun d => by
            have := s_64 (d := d) (Lg := Lg) (N := N) (X := X) hd1 (ok_u11 hz (by omega) h0n) (zB_u hB ⟨by omega, by omega⟩)
            rw [lu_11] at this
            exact this
          have ea : z 11 n + ((o + 1 : Nat) : Int) = z 11 n + 1 + o := by omega
          have hgl := rd_gr_le z (z 11) n o
          refine r_iload rfl rfl ?_
          refine r_aload rfl rfl ?_
          refine q_getr rfl rfl rfl ?_
          refine r_iload rfl rfl ?_
          refine q_iald rfl rfl (by omega) (by omega) rfl ((q0 39 n (by omega)).trans (hd.2.2.2.2.1 n)) ?_
          refine r_c4 rfl (by first | exact iB0 | exact iB1 | exact iBm | exact hB _ _ | exact hT _ (by omega) | exact ⟨by omega, by omega⟩) (by first | exact iB0 | exact iB1 | exact iBm | exact hB _ _ | exact hT _ (by omega) | exact ⟨by omega, by omega⟩) (fun h59 => ?_) (fun h59 => ?_)
          · exfalso; omega
          · refine r_aload rfl rfl ?_
            refine q_getr rfl rfl rfl ?_
            refine r_iload rfl rfl ?_
            refine r_iload rfl rfl ?_
            refine q_iast rfl rfl (by omega) (by omega) rfl ?_
            refine r_aload rfl rfl ?_
            refine r_ki0 rfl rfl rfl rfl rfl (h64 _) ?_
            refine r_z3 rfl lu_B (fun h74 => ?_) (fun h74 => ?_)
            · refine r_iload rfl rfl ?_
              refine r_istore rfl ?_
              refine r_iinc rfl rfl ?_
              refine r_goto rfl ?_
              refine hn_ _ ⟨uZ Z1 45 n (z 11 n + 1 + o), fun k j q => (uZ_fr k j q).trans (q0 k j q), ?_⟩
              rw [show rd_gr z (z 11) n (o + 1) = rd_gr z (z 11) n o from if_neg (by rw [ea]; exact fun q => by have := oI_lt.mpr q; omega), show z 11 n + 1 + ((o + 1 : Nat) : Int) = z 11 n + 1 + o + 1 by omega]
              rfl
            · refine r_iload rfl rfl ?_
              refine r_iload rfl rfl ?_
              refine r_isub rfl ?_
              refine r_goto rfl ?_
              refine r_istore rfl ?_
              refine r_iinc rfl rfl ?_
              refine r_goto rfl ?_
              refine hn_ _ ⟨uZ Z1 45 n (z 11 n + 1 + o), fun k j q => (uZ_fr k j q).trans (q0 k j q), ?_⟩
              rw [show rd_gr z (z 11) n (o + 1) = o + 1 from if_pos (by rw [ea]; exact oI_lt.mp h74), show z 11 n + 1 + ((o + 1 : Nat) : Int) = z 11 n + 1 + o + 1 by omega, show z 11 n + 1 + (o : Int) - z 11 n = ((o + 1 : Nat) : Int) by omega]
              rfl
        · obtain ⟨Z1, q0, rfl⟩ := hs
          have hd2 : mR z (uZ Z1 45 n (z 11 n)) := by
            have e2 : uZ Z1 45 n (z 11 n) = uZ Z 34 0 0 := by
              funext a b
              by_cases ea : a = 45 ∧ b = n
              · rw [ea.1, ea.2, uZ_eq]; exact ((hd.2.2.2.2.2.2.2.2.2.2.2.2.1 n)).symm
              · rw [uZ_fr a b (by omega)]; exact q0 a b (by omega)
            rw [e2]
            exact mR_t hd 0
          refine r_iload rfl rfl ?_
          refine r_aload rfl rfl ?_
          refine q_getr rfl rfl rfl ?_
          refine r_iload rfl rfl ?_
          refine q_iald rfl rfl (by omega) (by omega) rfl ((q0 39 n (by omega)).trans (hd.2.2.2.2.1 n)) ?_
          refine r_c4 rfl (by first | exact iB0 | exact iB1 | exact iBm | exact hB _ _ | exact hT _ (by omega) | exact ⟨by omega, by omega⟩) (by first | exact iB0 | exact iB1 | exact iBm | exact hB _ _ | exact hT _ (by omega) | exact ⟨by omega, by omega⟩) (fun h59 => ?_) (fun h59 => ?_)
          · refine r_aload rfl rfl ?_
            refine q_getr rfl rfl rfl ?_
            refine r_iload rfl rfl ?_
            refine r_iload rfl rfl ?_
            refine q_iast rfl rfl (by omega) (by omega) rfl ?_
            refine r_iload rfl rfl ?_
            refine q_iret rfl rfl rfl ?_
            exact mQ_ok ((if_pos h).trans (if_pos hlu)) rfl hd2 ((uZ_ne (by omega) _).trans ((q0 34 0 (by omega)).trans (uZ_eq _ _ _ _))) (fun a b q => (uZ_ne (by omega) b).trans ((q0 a b (by omega)).trans (uZ_ne (by omega) b)))
          · exfalso; omega
      · refine r_push rfl ?_
        refine r_goto rfl ?_
        refine q_puti rfl rfl rfl ?_
        refine r_aload rfl rfl ?_
        refine q_geti rfl rfl rfl (uZ_eq _ _ _ _) ?_
        refine r_f5 rfl (by first | exact iB0 | exact iB1 | exact iBm | exact hB _ _ | exact hT _ (by omega) | exact ⟨by omega, by omega⟩) (by omega) ?_
        refine r_push rfl ?_
        refine q_iret rfl rfl rfl ?_
        exact mQ_ok ((if_pos h).trans (if_neg (fun q => by have := oI_lt.mpr q; omega))) rfl (mR_t hd 2) (uZ_eq _ _ _ _) (cF_u (cF_r Z) (by omega))
    · exact absurd h h3
  ·
    refine r_aload rfl rfl ?_
    refine r_aload rfl rfl ?_
    refine r_iload rfl rfl ?_
    refine r_kb1 rfl rfl rfl rfl rfl (s_33 hd hz hB hm) (fun h3 => ?_) (fun h3 => ?_)
    · exact absurd h3 h
    · refine r_f1 rfl (by first | exact iB0 | exact iB1 | exact iBm | exact hB _ _ | exact hT _ (by omega) | exact ⟨by omega, by omega⟩) (by omega) ?_
      refine r_push rfl ?_
      refine r_goto rfl ?_
      refine q_puti rfl rfl rfl ?_
      refine r_aload rfl rfl ?_
      refine q_geti rfl rfl rfl (uZ_eq _ _ _ _) ?_
      refine r_f5 rfl (by first | exact iB0 | exact iB1 | exact iBm | exact hB _ _ | exact hT _ (by omega) | exact ⟨by omega, by omega⟩) (by omega) ?_
      refine r_push rfl ?_
      refine q_iret rfl rfl rfl ?_
      exact mQ_ok (if_neg h) rfl (mR_t hd 1) (uZ_eq _ _ _ _) (cF_u (cF_r Z) (by omega))

end MC3
