/-! the reference's other calls -/
section MC2
theorem pln_mR {z : rd_Z} {Z Z' : wZ} {p : rd_P} (hd : mR z Z) (e : ∀ k j, k ≠ 45 → Z' k j = Z k j) (h1 : ∀ m, m < 7 → Z' 45 m = (rd_lk m p).getD (-1)) (h2 : ∀ m, 7 ≤ m → Z' 45 m = Z 45 m) : mR (z_pln z p) Z' := by
  obtain ⟨a0, a1, a2, a3, a4, a5, a6, a7, a8, a9, b0, b1, b2, b3⟩ := hd
  refine ⟨fun j => ?_, fun j => ?_, fun j => ?_, fun j => ?_, fun j => ?_, fun j => ?_, fun j hj q => ?_, fun j hj => ?_, fun j => ?_, fun j => ?_, ?_, ?_, fun j => ?_, fun j => ?_⟩
  · rw [e _ _ (by omega)]; exact a0 j
  · rw [e _ _ (by omega)]; exact a1 j
  · rw [e _ _ (by omega)]; exact a2 j
  · rw [e _ _ (by omega)]; exact a3 j
  · rw [e _ _ (by omega)]; exact a4 j
  · rw [e _ _ (by omega)]; exact a5 j
  · rw [e _ _ (by omega)]; exact a6 j hj q
  · rw [e _ _ (by omega)]; exact a7 j hj
  · rw [e _ _ (by omega)]; exact a8 j
  · rw [e _ _ (by omega)]; exact a9 j
  · rw [e _ _ (by omega)]; exact b0
  · rw [e _ _ (by omega)]; exact b1
  · show Z' 45 j = (if 11 = 11 then (if j < 7 then (rd_lk j p).getD (-1) else z 11 j) else _)
    rw [if_pos rfl]
    by_cases q : j < 7
    · rw [if_pos q, h1 j q]
    · rw [if_neg q, h2 j (by omega), b2 j]
  · rw [e _ _ (by omega)]; exact b3 j
theorem acc_mR {z : rd_Z} {Z Z' : wZ} (hd : mR z Z) (e : ∀ k j, k ≠ 46 → Z' k j = Z k j) (h1 : ∀ m, m < 7 → Z' 46 m = z 11 m) (h2 : ∀ m, 7 ≤ m → Z' 46 m = Z 46 m) : mR (z_acc z) Z' := by
  obtain ⟨a0, a1, a2, a3, a4, a5, a6, a7, a8, a9, b0, b1, b2, b3⟩ := hd
  refine ⟨fun j => ?_, fun j => ?_, fun j => ?_, fun j => ?_, fun j => ?_, fun j => ?_, fun j hj q => ?_, fun j hj => ?_, fun j => ?_, fun j => ?_, ?_, ?_, fun j => ?_, fun j => ?_⟩
  · rw [e _ _ (by omega)]; exact a0 j
  · rw [e _ _ (by omega)]; exact a1 j
  · rw [e _ _ (by omega)]; exact a2 j
  · rw [e _ _ (by omega)]; exact a3 j
  · rw [e _ _ (by omega)]; exact a4 j
  · rw [e _ _ (by omega)]; exact a5 j
  · rw [e _ _ (by omega)]; exact a6 j hj q
  · rw [e _ _ (by omega)]; exact a7 j hj
  · rw [e _ _ (by omega)]; exact a8 j
  · rw [e _ _ (by omega)]; exact a9 j
  · rw [e _ _ (by omega)]; exact b0
  · rw [e _ _ (by omega)]; exact b1
  · rw [e _ _ (by omega)]; exact b2 j
  · show Z' 46 j = (if 12 = 12 then (if j < 7 then z 11 j else z 12 j) else _)
    rw [if_pos rfl]
    by_cases q : j < 7
    · rw [if_pos q, h1 j q]
    · rw [if_neg q, h2 j (by omega), b3 j]

theorem s_45 {d : Nat} {Z : wZ} {Lg : Nat → Nat → Int64} {N : Nat} {X : Nat → Int32} {z : rd_Z} (hd : mR z Z) (hz : rd_ok z) (hB : zB z) {m : Int} (hm : iB m){s : Int} (hs : iB s) : am_T am_tabs am_ar (d + 2) 45 [.ref 34, .int (iI m), .int (iI s)] (mW Z Lg N X) (mV (f_fre z m s) Z Lg N X) := by
  refine ⟨⟨rfl, rfl⟩, ?_⟩
  show am_X (am_tb op_45) _ _ _
  by_cases h : 0 ≤ m ∧ m < 7 ∧ rd_th z m.toNat = true
  · obtain ⟨n, rfl⟩ : ∃ n : Nat, m = n := ⟨m.toNat, by omega⟩
    have hn : n < 7 := by omega
    have ht : rd_th z n = true := h.2.2
    have h0n : z 0 n ≠ 0 := th_iff.mp ht
    have hrg := ok_rg hz hn
    have hfr := ok_fr hz hn
    have hrs := ok_rs hz hn
    refine r_aload rfl rfl ?_
    refine r_aload rfl rfl ?_
    refine r_iload rfl rfl ?_
    refine r_kb1 rfl rfl rfl rfl rfl (s_33 hd hz hB hm) (fun h3 => ?_) (fun h3 => ?_)
    · refine r_t1 rfl (by first | exact iB0 | exact iB1 | exact iBm | exact hB _ _ | exact hT _ (by omega) | exact ⟨by omega, by omega⟩) (by omega) ?_
      refine r_iload rfl rfl ?_
      refine r_aload rfl rfl ?_
      refine q_getr rfl rfl rfl ?_
      refine r_iload rfl rfl ?_
      refine q_iald rfl rfl (by omega) (by omega) rfl (hd.2.2.1 n) ?_
      refine r_c2 rfl hs (hB _ _) (fun h20 => ?_) (fun h20 => ?_)
      · refine r_push rfl ?_
        refine r_goto rfl ?_
        refine q_puti rfl rfl rfl ?_
        refine r_push rfl ?_
        refine r_istore rfl ?_
        refine r_iload rfl rfl ?_
        refine r_push rfl ?_
        refine r_c3 rfl (by first | exact iB0 | exact iB1 | exact iBm | exact hB _ _ | exact hT _ (by omega) | exact ⟨by omega, by omega⟩) (by first | exact iB0 | exact iB1 | exact iBm | exact hB _ _ | exact hT _ (by omega) | exact ⟨by omega, by omega⟩) (fun h58 => ?_) (fun h58 => ?_)
        · exfalso; omega
        · refine r_aload rfl rfl ?_
          refine q_geti rfl rfl rfl (uZ_eq _ _ _ _) ?_
          refine r_t1 rfl (by first | exact iB0 | exact iB1 | exact iBm | exact hB _ _ | exact hT _ (by omega) | exact ⟨by omega, by omega⟩) (by omega) ?_
          refine r_aload rfl rfl ?_
          refine q_geti rfl rfl rfl (uZ_eq _ _ _ _) ?_
          refine r_t1 rfl (by first | exact iB0 | exact iB1 | exact iBm | exact hB _ _ | exact hT _ (by omega) | exact ⟨by omega, by omega⟩) (by omega) ?_
          refine q_vret rfl rfl rfl ?_
          first
          | exact mV_ok ((if_pos h).trans (if_neg (show ¬ (z 2 n ≤ s ∧ s ≤ z 4 n) by omega))) (mR_t hd 2) (uZ_eq _ _ _ _) (cF_u (cF_r Z) (by omega))
          | exact mV_ok ((if_pos h).trans ((if_pos (show z 2 n ≤ s ∧ s ≤ z 4 n by omega)).trans (if_pos h39))) (mR_t hd 3) (uZ_eq _ _ _ _) (cF_u (cF_r Z) (by omega))
      · refine r_iload rfl rfl ?_
        refine r_aload rfl rfl ?_
        refine q_getr rfl rfl rfl ?_
        refine r_iload rfl rfl ?_
        refine q_iald rfl rfl (by omega) (by omega) rfl (hd.2.2.2.2.1 n) ?_
        refine r_c5 rfl hs (hB _ _) (fun h30 => ?_) (fun h30 => ?_)
        · refine r_aload rfl rfl ?_
          refine r_iload rfl rfl ?_
          refine r_kb1 rfl rfl rfl rfl rfl (s_43 hd hz hB hs) (fun h39 => ?_) (fun h39 => ?_)
          · refine r_f0 rfl (by first | exact iB0 | exact iB1 | exact iBm | exact hB _ _ | exact hT _ (by omega) | exact ⟨by omega, by omega⟩) (by omega) ?_
            refine r_push rfl ?_
            refine r_goto rfl ?_
            refine q_puti rfl rfl rfl ?_
            refine r_push rfl ?_
            refine r_istore rfl ?_
            refine r_iload rfl rfl ?_
            refine r_push rfl ?_
            refine r_c3 rfl (by first | exact iB0 | exact iB1 | exact iBm | exact hB _ _ | exact hT _ (by omega) | exact ⟨by omega, by omega⟩) (by first | exact iB0 | exact iB1 | exact iBm | exact hB _ _ | exact hT _ (by omega) | exact ⟨by omega, by omega⟩) (fun h58 => ?_) (fun h58 => ?_)
            · exfalso; omega
            · refine r_aload rfl rfl ?_
              refine q_geti rfl rfl rfl (uZ_eq _ _ _ _) ?_
              refine r_t1 rfl (by first | exact iB0 | exact iB1 | exact iBm | exact hB _ _ | exact hT _ (by omega) | exact ⟨by omega, by omega⟩) (by omega) ?_
              refine r_aload rfl rfl ?_
              refine q_geti rfl rfl rfl (uZ_eq _ _ _ _) ?_
              refine r_t1 rfl (by first | exact iB0 | exact iB1 | exact iBm | exact hB _ _ | exact hT _ (by omega) | exact ⟨by omega, by omega⟩) (by omega) ?_
              refine q_vret rfl rfl rfl ?_
              first
              | exact mV_ok ((if_pos h).trans (if_neg (show ¬ (z 2 n ≤ s ∧ s ≤ z 4 n) by omega))) (mR_t hd 2) (uZ_eq _ _ _ _) (cF_u (cF_r Z) (by omega))
              | exact mV_ok ((if_pos h).trans ((if_pos (show z 2 n ≤ s ∧ s ≤ z 4 n by omega)).trans (if_pos h39))) (mR_t hd 3) (uZ_eq _ _ _ _) (cF_u (cF_r Z) (by omega))
          · refine r_t0 rfl (by first | exact iB0 | exact iB1 | exact iBm | exact hB _ _ | exact hT _ (by omega) | exact ⟨by omega, by omega⟩) (by omega) ?_
            refine r_push rfl ?_
            refine q_puti rfl rfl rfl ?_
            refine r_push rfl ?_
            refine r_istore rfl ?_
            refine r_loop (fun o => (55, [some (.ref 34), some (.int (iI n)), some (.int (iI s)), some (.int (iI o))], [], mW (uZ Z 34 0 0) Lg N X, 0, 0)) (fun o => ∀ j, j < o → ¬ rd_nf z n s j) 7 (fun j hj => absurd hj (by omega)) (fun o ho hi hn_ => ?_) (fun hi => ?_)
            · (try dsimp only at hi); (try dsimp only at hn_); (try dsimp only)
              have hfo := ok_fr hz ho
              refine r_iload rfl rfl ?_
              refine r_push rfl ?_
              refine r_c3 rfl (by first | exact iB0 | exact iB1 | exact iBm | exact hB _ _ | exact hT _ (by omega) | exact ⟨by omega, by omega⟩) (by first | exact iB0 | exact iB1 | exact iBm | exact hB _ _ | exact hT _ (by omega) | exact ⟨by omega, by omega⟩) (fun h58 => ?_) (fun h58 => ?_)
              · exfalso; omega
              · refine r_aload rfl rfl ?_
                refine q_geti rfl rfl rfl (uZ_eq _ _ _ _) ?_
                refine r_f1 rfl (by first | exact iB0 | exact iB1 | exact iBm | exact hB _ _ | exact hT _ (by omega) | exact ⟨by omega, by omega⟩) (by omega) ?_
                refine r_iload rfl rfl ?_
                refine r_iload rfl rfl ?_
                refine r_c0 rfl (by first | exact iB0 | exact iB1 | exact iBm | exact hB _ _ | exact hT _ (by omega) | exact ⟨by omega, by omega⟩) (by first | exact iB0 | exact iB1 | exact iBm | exact hB _ _ | exact hT _ (by omega) | exact ⟨by omega, by omega⟩) (fun h70 => ?_) (fun h70 => ?_)
                · refine r_iinc rfl rfl ?_
                  refine r_goto rfl ?_
                  refine hn_ (fun j hj => ?_)
                  by_cases e : j = o
                  · subst e
                    first
                    | exact fun q => q.1 (by omega)
                    | exact fun q => q.2.1 (by omega)
                    | exact fun q => q.2.2.1 (by omega)
                    | exact fun q => h101 q.2.2.2
                  · exact hi j (by omega)
                · refine r_aload rfl rfl ?_
                  refine q_getr rfl rfl rfl ?_
                  refine r_iload rfl rfl ?_
                  refine q_zald rfl rfl (by omega) (by omega) rfl (hd.1 o) ?_
                  refine r_z0 rfl (by first | exact iB0 | exact iB1 | exact iBm | exact hB _ _ | exact hT _ (by omega) | exact ⟨by omega, by omega⟩) (fun h79 => ?_) (fun h79 => ?_)
                  · refine r_iinc rfl rfl ?_
                    refine r_goto rfl ?_
                    refine hn_ (fun j hj => ?_)
                    by_cases e : j = o
                    · subst e
                      first
                      | exact fun q => q.1 (by omega)
                      | exact fun q => q.2.1 (by omega)
                      | exact fun q => q.2.2.1 (by omega)
                      | exact fun q => h101 q.2.2.2
                    · exact hi j (by omega)
                  · refine r_aload rfl rfl ?_
                    refine q_getr rfl rfl rfl ?_
                    refine r_iload rfl rfl ?_
                    refine q_iald rfl rfl (by omega) (by omega) rfl (hd.2.2.2.2.2.2.1 o ho h79) ?_
                    refine r_z2 rfl (by first | exact iB0 | exact iB1 | exact iBm | exact hB _ _ | exact hT _ (by omega) | exact ⟨by omega, by omega⟩) (fun h88 => ?_) (fun h88 => ?_)
                    · refine r_iinc rfl rfl ?_
                      refine r_goto rfl ?_
                      refine hn_ (fun j hj => ?_)
                      by_cases e : j = o
                      · subst e
                        first
                        | exact fun q => q.1 (by omega)
                        | exact fun q => q.2.1 (by omega)
                        | exact fun q => q.2.2.1 (by omega)
                        | exact fun q => h101 q.2.2.2
                      · exact hi j (by omega)
                    · refine r_aload rfl rfl ?_
                      refine r_iload rfl rfl ?_
                      refine r_iload rfl rfl ?_
                      refine r_iload rfl rfl ?_
                      refine r_aload rfl rfl ?_
                      refine q_getr rfl rfl rfl ?_
                      refine r_iload rfl rfl ?_
                      refine q_iald rfl rfl (by omega) (by omega) rfl (hd.2.2.2.2.2.2.1 o ho h79) ?_
                      refine r_kb4 rfl rfl rfl rfl rfl (s_44 (mR_t hd 0) hz hB hn ⟨by omega, by omega⟩ ho ⟨by omega, by omega⟩) (fun h101 => ?_) (fun h101 => ?_)
                      · refine r_f0 rfl (by first | exact iB0 | exact iB1 | exact iBm | exact hB _ _ | exact hT _ (by omega) | exact ⟨by omega, by omega⟩) (by omega) ?_
                        refine r_aload rfl rfl ?_
                        refine r_push rfl ?_
                        refine q_puti rfl rfl rfl ?_
                        refine r_iinc rfl rfl ?_
                        refine r_goto rfl ?_
                        refine r_iload rfl rfl ?_
                        refine r_push rfl ?_
                        refine r_c3 rfl (by first | exact iB0 | exact iB1 | exact iBm | exact hB _ _ | exact hT _ (by omega) | exact ⟨by omega, by omega⟩) (by first | exact iB0 | exact iB1 | exact iBm | exact hB _ _ | exact hT _ (by omega) | exact ⟨by omega, by omega⟩) (fun h58 => ?_) (fun h58 => ?_)
                        · refine r_aload rfl rfl ?_
                          refine q_geti rfl rfl rfl (uZ_eq _ _ _ _) ?_
                          refine r_t1 rfl (by first | exact iB0 | exact iB1 | exact iBm | exact hB _ _ | exact hT _ (by omega) | exact ⟨by omega, by omega⟩) (by omega) ?_
                          refine q_vret rfl rfl rfl ?_
                          exact mV_ok ((if_pos h).trans ((if_pos (show z 2 n ≤ s ∧ s ≤ z 4 n by omega)).trans ((if_neg h39).trans (if_pos ⟨o, ho, by omega, h79, by omega, h101⟩)))) (mR_t (mR_t hd 0) 3) (uZ_eq _ _ _ _) (cF_u (cF_u (cF_r Z) (by omega)) (by omega))
                        · refine r_aload rfl rfl ?_
                          refine q_geti rfl rfl rfl (uZ_eq _ _ _ _) ?_
                          refine r_t1 rfl (by first | exact iB0 | exact iB1 | exact iBm | exact hB _ _ | exact hT _ (by omega) | exact ⟨by omega, by omega⟩) (by omega) ?_
                          refine r_aload rfl rfl ?_
                          refine q_geti rfl rfl rfl (uZ_eq _ _ _ _) ?_
                          refine r_t1 rfl (by first | exact iB0 | exact iB1 | exact iBm | exact hB _ _ | exact hT _ (by omega) | exact ⟨by omega, by omega⟩) (by omega) ?_
                          refine q_vret rfl rfl rfl ?_
                          exact mV_ok ((if_pos h).trans ((if_pos (show z 2 n ≤ s ∧ s ≤ z 4 n by omega)).trans ((if_neg h39).trans (if_pos ⟨o, ho, by omega, h79, by omega, h101⟩)))) (mR_t (mR_t hd 0) 3) (uZ_eq _ _ _ _) (cF_u (cF_u (cF_r Z) (by omega)) (by omega))
                      · refine r_t0 rfl (by first | exact iB0 | exact iB1 | exact iBm | exact hB _ _ | exact hT _ (by omega) | exact ⟨by omega, by omega⟩) (by omega) ?_
                        refine r_iinc rfl rfl ?_
                        refine r_goto rfl ?_
                        refine hn_ (fun j hj => ?_)
                        by_cases e : j = o
                        · subst e
                          first
                          | exact fun q => q.1 (by omega)
                          | exact fun q => q.2.1 (by omega)
                          | exact fun q => q.2.2.1 (by omega)
                          | exact fun q => h101 q.2.2.2
                        · exact hi j (by omega)
            · (try dsimp only at hi); (try dsimp only)
              refine r_iload rfl rfl ?_
              refine r_push rfl ?_
              refine r_c3 rfl (by first | exact iB0 | exact iB1 | exact iBm | exact hB _ _ | exact hT _ (by omega) | exact ⟨by omega, by omega⟩) (by first | exact iB0 | exact iB1 | exact iBm | exact hB _ _ | exact hT _ (by omega) | exact ⟨by omega, by omega⟩) (fun h58 => ?_) (fun h58 => ?_)
              · refine r_aload rfl rfl ?_
                refine q_geti rfl rfl rfl (uZ_eq _ _ _ _) ?_
                refine r_f1 rfl (by first | exact iB0 | exact iB1 | exact iBm | exact hB _ _ | exact hT _ (by omega) | exact ⟨by omega, by omega⟩) (by omega) ?_
                refine r_aload rfl rfl ?_
                refine q_getr rfl rfl rfl ?_
                refine r_iload rfl rfl ?_
                refine r_iload rfl rfl ?_
                refine q_iast rfl rfl (by omega) (by omega) rfl ?_
                refine q_vret rfl rfl rfl ?_
                exact mV_ok ((if_pos h).trans ((if_pos (show z 2 n ≤ s ∧ s ≤ z 4 n by omega)).trans ((if_neg h39).trans (if_neg (fun ⟨j, hj, q⟩ => hi j hj q))))) (mR_m (mu_6 (mR_n (mR_t hd 0)) n s) (fun j hj q => Or.inl q)) ((uZ_ne (by omega) _).trans (uZ_eq _ _ _ _)) (cF_u (cF_u (cF_r Z) (by omega)) (by omega))
              · exfalso; omega
        · refine r_push rfl ?_
          refine r_goto rfl ?_
          refine q_puti rfl rfl rfl ?_
          refine r_push rfl ?_
          refine r_istore rfl ?_
          refine r_iload rfl rfl ?_
          refine r_push rfl ?_
          refine r_c3 rfl (by first | exact iB0 | exact iB1 | exact iBm | exact hB _ _ | exact hT _ (by omega) | exact ⟨by omega, by omega⟩) (by first | exact iB0 | exact iB1 | exact iBm | exact hB _ _ | exact hT _ (by omega) | exact ⟨by omega, by omega⟩) (fun h58 => ?_) (fun h58 => ?_)
          · exfalso; omega
          · refine r_aload rfl rfl ?_
            refine q_geti rfl rfl rfl (uZ_eq _ _ _ _) ?_
            refine r_t1 rfl (by first | exact iB0 | exact iB1 | exact iBm | exact hB _ _ | exact hT _ (by omega) | exact ⟨by omega, by omega⟩) (by omega) ?_
            refine r_aload rfl rfl ?_
            refine q_geti rfl rfl rfl (uZ_eq _ _ _ _) ?_
            refine r_t1 rfl (by first | exact iB0 | exact iB1 | exact iBm | exact hB _ _ | exact hT _ (by omega) | exact ⟨by omega, by omega⟩) (by omega) ?_
            refine q_vret rfl rfl rfl ?_
            first
            | exact mV_ok ((if_pos h).trans (if_neg (show ¬ (z 2 n ≤ s ∧ s ≤ z 4 n) by omega))) (mR_t hd 2) (uZ_eq _ _ _ _) (cF_u (cF_r Z) (by omega))
            | exact mV_ok ((if_pos h).trans ((if_pos (show z 2 n ≤ s ∧ s ≤ z 4 n by omega)).trans (if_pos h39))) (mR_t hd 3) (uZ_eq _ _ _ _) (cF_u (cF_r Z) (by omega))
    · exact absurd h h3
  ·
    refine r_aload rfl rfl ?_
    refine r_aload rfl rfl ?_
    refine r_iload rfl rfl ?_
    refine r_kb1 rfl rfl rfl rfl rfl (s_33 hd hz hB hm) (fun h3 => ?_) (fun h3 => ?_)
    · exact absurd h3 h
    · refine r_f1 rfl (by first | exact iB0 | exact iB1 | exact iBm | exact hB _ _ | exact hT _ (by omega) | exact ⟨by omega, by omega⟩) (by omega) ?_
      refine r_push rfl ?_
      refine r_goto rfl ?_
      refine q_puti rfl rfl rfl ?_
      refine r_push rfl ?_
      refine r_istore rfl ?_
      refine r_iload rfl rfl ?_
      refine r_push rfl ?_
      refine r_c3 rfl (by first | exact iB0 | exact iB1 | exact iBm | exact hB _ _ | exact hT _ (by omega) | exact ⟨by omega, by omega⟩) (by first | exact iB0 | exact iB1 | exact iBm | exact hB _ _ | exact hT _ (by omega) | exact ⟨by omega, by omega⟩) (fun h58 => ?_) (fun h58 => ?_)
      · exfalso; omega
      · refine r_aload rfl rfl ?_
        refine q_geti rfl rfl rfl (uZ_eq _ _ _ _) ?_
        refine r_t1 rfl (by first | exact iB0 | exact iB1 | exact iBm | exact hB _ _ | exact hT _ (by omega) | exact ⟨by omega, by omega⟩) (by omega) ?_
        refine r_aload rfl rfl ?_
        refine q_geti rfl rfl rfl (uZ_eq _ _ _ _) ?_
        refine r_t1 rfl (by first | exact iB0 | exact iB1 | exact iBm | exact hB _ _ | exact hT _ (by omega) | exact ⟨by omega, by omega⟩) (by omega) ?_
        refine q_vret rfl rfl rfl ?_
        exact mV_ok (if_neg h) (mR_t hd 1) (uZ_eq _ _ _ _) (cF_u (cF_r Z) (by omega))

theorem s_55 {d : Nat} {Z : wZ} {Lg : Nat → Nat → Int64} {N : Nat} {X : Nat → Int32} {z : rd_Z} (hd : mR z Z) (hz : rd_ok z) (hB : zB z)  : am_T am_tabs am_ar (d + 5) 55 [.ref 34] (mW Z Lg N X) (mQ (f_sol z) Z Lg N X) := by
  refine ⟨⟨rfl, rfl⟩, ?_⟩
  show am_X (am_tb op_55) _ _ _
  refine r_aload rfl rfl ?_
  refine r_push rfl ?_
  refine q_puti rfl rfl rfl ?_
  refine r_aload rfl rfl ?_
  refine r_kw0 rfl rfl rfl rfl rfl (s_54 (mR_t hd 0) hz hB) (fun x6 w1 h6 => ?_)
  obtain ⟨e6, Z1, rfl, g0, g1⟩ := h6
  have hd1 := gF_mR (mR_t hd 0) g0
  refine r_istore rfl ?_
  refine r_push rfl ?_
  refine r_istore rfl ?_
  cases hb : rd_best z with
  | none =>
    have e9 := bI_none hb
    refine r_iload rfl rfl ?_
    refine r_push rfl ?_
    refine r_c3 rfl (by first | exact iB0 | exact iB1 | exact iBm | exact hB _ _ | exact hT _ (by omega) | exact ⟨by omega, by omega⟩) (by first | exact iB0 | exact iB1 | exact iBm | exact hB _ _ | exact hT _ (by omega) | exact ⟨by omega, by omega⟩) (fun h15 => ?_) (fun h15 => ?_)
    · exfalso; omega
    · refine r_iload rfl rfl ?_
      refine r_z2 rfl ⟨by omega, by omega⟩ (fun h19 => ?_) (fun h19 => ?_)
      · refine r_iload rfl rfl ?_
        refine q_iret rfl rfl rfl ?_
        exact mQ_ok (by rw [f_sol, hb]) (e6.trans e9) hd1 (gF_t g0) (gF_c g0)
      · exfalso; omega
  | some a =>
    rw [hb] at g1
    have e9 := bI_some hb
    have h8 := g1.1
    have h9 := g1.2.1
    refine am_X_of (σ := (12, [some (.ref 34), some (.int (iI x6)), some (.int (iI 0))], [], mW Z1 Lg N X, 0, 0)) ?_ rfl
    refine r_loopS (fun o σ => ∃ Z2 : wZ, (∀ k j, k ≠ 45 → Z2 k j = Z1 k j) ∧ (∀ m, m < o → Z2 45 m = Z1 52 m) ∧ (∀ m, o ≤ m → Z2 45 m = Z1 45 m) ∧ σ = (12, [some (.ref 34), some (.int (iI x6)), some (.int (iI o))], [], mW Z2 Lg N X, 0, 0)) 7 (fun o σ ho hs hn => ?_) (fun σ hs => ?_) ⟨Z1, fun _ _ _ => rfl, fun m hm => absurd hm (by omega), fun _ _ => rfl, rfl⟩
    · obtain ⟨Z2, q0, q1, q2, rfl⟩ := hs
      refine r_iload rfl rfl ?_
      refine r_push rfl ?_
      refine r_c3 rfl (by first | exact iB0 | exact iB1 | exact iBm | exact hB _ _ | exact hT _ (by omega) | exact ⟨by omega, by omega⟩) (by first | exact iB0 | exact iB1 | exact iBm | exact hB _ _ | exact hT _ (by omega) | exact ⟨by omega, by omega⟩) (fun h15 => ?_) (fun h15 => ?_)
      · exfalso; omega
      · refine r_iload rfl rfl ?_
        refine r_z2 rfl ⟨by omega, by omega⟩ (fun h19 => ?_) (fun h19 => ?_)
        · exfalso; omega
        · refine r_aload rfl rfl ?_
          refine q_getr rfl rfl rfl ?_
          refine r_iload rfl rfl ?_
          refine r_aload rfl rfl ?_
          refine q_getr rfl rfl rfl ?_
          refine r_iload rfl rfl ?_
          refine q_iald rfl rfl (by omega) (by omega) rfl (q0 52 o (by omega)) ?_
          refine q_iast rfl rfl (by omega) (by omega) rfl ?_
          refine r_iinc rfl rfl ?_
          refine r_goto rfl ?_
          refine hn _ ⟨_, fun k j q => (uZ_ne q j).trans (q0 k j q), fun m hm => ?_, fun m hm => (uZ_nj _ (by omega)).trans (q2 m (by omega)), rfl⟩
          by_cases e : m = o
          · subst e; exact uZ_eq _ _ _ _
          · exact (uZ_nj _ e).trans (q1 m (by omega))
    · obtain ⟨Z2, q0, q1, q2, rfl⟩ := hs
      refine r_iload rfl rfl ?_
      refine r_push rfl ?_
      refine r_c3 rfl (by first | exact iB0 | exact iB1 | exact iBm | exact hB _ _ | exact hT _ (by omega) | exact ⟨by omega, by omega⟩) (by first | exact iB0 | exact iB1 | exact iBm | exact hB _ _ | exact hT _ (by omega) | exact ⟨by omega, by omega⟩) (fun h15 => ?_) (fun h15 => ?_)
      · refine r_iload rfl rfl ?_
        refine q_iret rfl rfl rfl ?_
        exact mQ_ok (by rw [f_sol, hb]) (e6.trans e9) (pln_mR hd1 q0 (fun m hm => (q1 m hm).trans (g1.2.2.2 m hm)) q2) ((q0 _ _ (by omega)).trans (gF_t g0)) (fun a b q => (q0 a b (by omega)).trans (gF_c g0 a b q))
      · exfalso; omega

theorem s_56 {d : Nat} {Z : wZ} {Lg : Nat → Nat → Int64} {N : Nat} {X : Nat → Int32} {z : rd_Z} (hd : mR z Z) (hz : rd_ok z) (hB : zB z) {m : Int} (hm : iB m){t : Int} (ht_ : iB t) : am_T am_tabs am_ar (d + 5) 56 [.ref 34, .int (iI m), .int (iI t)] (mW Z Lg N X) (mQ (f_wha z m t) Z Lg N X) := by
  refine ⟨⟨rfl, rfl⟩, ?_⟩
  show am_X (am_tb op_56) _ _ _
  by_cases h : 0 ≤ m ∧ m < 7 ∧ rd_th z m.toNat = true
  · obtain ⟨n, rfl⟩ : ∃ n : Nat, m = n := ⟨m.toNat, by omega⟩
    have hn : n < 7 := by omega
    have ht : rd_th z n = true := h.2.2
    have h0n : z 0 n ≠ 0 := th_iff.mp ht
    have hrg := ok_rg hz hn
    have hfr := ok_fr hz hn
    have hrs := ok_rs hz hn
    have hd0 : mR (uZ z 3 n t) (uZ (uZ Z 34 0 0) 38 n t) := mu_3 (mR_n (mR_t hd 0)) n t
    refine r_aload rfl rfl ?_
    refine r_aload rfl rfl ?_
    refine r_iload rfl rfl ?_
    refine r_kb1 rfl rfl rfl rfl rfl (s_33 hd hz hB hm) (fun h3 => ?_) (fun h3 => ?_)
    · refine r_t1 rfl (by first | exact iB0 | exact iB1 | exact iBm | exact hB _ _ | exact hT _ (by omega) | exact ⟨by omega, by omega⟩) (by omega) ?_
      refine r_iload rfl rfl ?_
      refine r_aload rfl rfl ?_
      refine q_getr rfl rfl rfl ?_
      refine r_iload rfl rfl ?_
      refine q_iald rfl rfl (by omega) (by omega) rfl (hd.2.2.1 n) ?_
      refine r_c2 rfl ht_ (hB _ _) (fun h20 => ?_) (fun h20 => ?_)
      · refine r_push rfl ?_
        refine r_goto rfl ?_
        refine q_puti rfl rfl rfl ?_
        refine r_aload rfl rfl ?_
        refine q_geti rfl rfl rfl (uZ_eq _ _ _ _) ?_
        refine r_f5 rfl (by first | exact iB0 | exact iB1 | exact iBm | exact hB _ _ | exact hT _ (by omega) | exact ⟨by omega, by omega⟩) (by omega) ?_
        refine r_push rfl ?_
        refine q_iret rfl rfl rfl ?_
        exact mQ_ok ((if_pos h).trans (if_neg (show ¬ (z 2 n ≤ t ∧ t ≤ z 4 n) by omega))) rfl (mR_t hd 2) (uZ_eq _ _ _ _) (cF_u (cF_r Z) (by omega))
      · refine r_iload rfl rfl ?_
        refine r_aload rfl rfl ?_
        refine q_getr rfl rfl rfl ?_
        refine r_iload rfl rfl ?_
        refine q_iald rfl rfl (by omega) (by omega) rfl (hd.2.2.2.2.1 n) ?_
        refine r_c5 rfl ht_ (hB _ _) (fun h30 => ?_) (fun h30 => ?_)
        · refine r_push rfl ?_
          refine q_puti rfl rfl rfl ?_
          refine r_aload rfl rfl ?_
          refine q_geti rfl rfl rfl (uZ_eq _ _ _ _) ?_
          refine r_t5 rfl (by first | exact iB0 | exact iB1 | exact iBm | exact hB _ _ | exact hT _ (by omega) | exact ⟨by omega, by omega⟩) (by omega) ?_
          refine r_aload rfl rfl ?_
          refine q_getr rfl rfl rfl ?_
          refine r_iload rfl rfl ?_
          refine q_iald rfl rfl (by omega) (by omega) rfl (hd.2.2.2.1 n) ?_
          refine r_istore rfl ?_
          refine r_aload rfl rfl ?_
          refine q_getr rfl rfl rfl ?_
          refine r_iload rfl rfl ?_
          refine r_iload rfl rfl ?_
          refine q_iast rfl rfl (by omega) (by omega) rfl ?_
          refine r_aload rfl rfl ?_
          refine r_kw0 rfl rfl rfl rfl rfl (s_54 hd0 (ok_u3 hz hn (by omega)) (zB_u hB ht_)) (fun x65 w1 h65 => ?_)
          obtain ⟨e65, Z1, rfl, g0, g1⟩ := h65
          have hd1 := gF_mR hd0 g0
          refine r_istore rfl ?_
          refine r_aload rfl rfl ?_
          refine q_getr rfl rfl rfl ?_
          refine r_iload rfl rfl ?_
          refine r_iload rfl rfl ?_
          refine q_iast rfl rfl (by omega) (by omega) rfl ?_
          refine r_iload rfl rfl ?_
          refine q_iret rfl rfl rfl ?_
          have hd2 : mR (uZ (uZ z 3 n t) 3 n (z 3 n)) (uZ Z1 38 n (z 3 n)) := mu_3 (mR_n hd1) n (z 3 n)
          rw [uZ_back] at hd2
          exact mQ_ok ((if_pos h).trans (if_pos (show z 2 n ≤ t ∧ t ≤ z 4 n by omega))) e65 hd2 ((uZ_ne (by omega) _).trans ((g0 _ _ (by omega) (by omega)).trans ((uZ_ne (by omega) _).trans (uZ_eq _ _ _ _)))) (fun a b q => (uZ_ne (by omega) b).trans ((g0 a b (by omega) (by omega)).trans ((uZ_ne (by omega) b).trans (uZ_ne (by omega) b))))
        · refine r_push rfl ?_
          refine r_goto rfl ?_
          refine q_puti rfl rfl rfl ?_
          refine r_aload rfl rfl ?_
          refine q_geti rfl rfl rfl (uZ_eq _ _ _ _) ?_
          refine r_f5 rfl (by first | exact iB0 | exact iB1 | exact iBm | exact hB _ _ | exact hT _ (by omega) | exact ⟨by omega, by omega⟩) (by omega) ?_
          refine r_push rfl ?_
          refine q_iret rfl rfl rfl ?_
          exact mQ_ok ((if_pos h).trans (if_neg (show ¬ (z 2 n ≤ t ∧ t ≤ z 4 n) by omega))) rfl (mR_t hd 2) (uZ_eq _ _ _ _) (cF_u (cF_r Z) (by omega))
    · exact absurd h h3
  ·
    refine r_aload rfl rfl ?_
    refine r_aload rfl rfl ?_
    refine r_iload rfl rfl ?_
    refine r_kb1 rfl rfl rfl rfl rfl (s_33 hd hz hB hm) (fun h3 => ?_) (fun h3 => ?_)
    · exact absurd h3 h
    · refine r_f1 rfl (by first | exact iB0 | exact iB1 | exact iBm | exact hB _ _ | exact hT _ (by omega) | exact ⟨by omega, by omega⟩) (by omega) ?_
      refine r_push rfl ?_
      refine r_goto rfl ?_
      refine q_puti rfl rfl rfl ?_
      refine r_aload rfl rfl ?_
      refine q_geti rfl rfl rfl (uZ_eq _ _ _ _) ?_
      refine r_f5 rfl (by first | exact iB0 | exact iB1 | exact iBm | exact hB _ _ | exact hT _ (by omega) | exact ⟨by omega, by omega⟩) (by omega) ?_
      refine r_push rfl ?_
      refine q_iret rfl rfl rfl ?_
      exact mQ_ok (if_neg h) rfl (mR_t hd 1) (uZ_eq _ _ _ _) (cF_u (cF_r Z) (by omega))

theorem s_67 {d : Nat} {Z : wZ} {Lg : Nat → Nat → Int64} {N : Nat} {X : Nat → Int32} {z : rd_Z} (hd : mR z Z) (hz : rd_ok z) (hB : zB z)  : am_T am_tabs am_ar (d + 1) 67 [.ref 34] (mW Z Lg N X) (mQ (f_acc z) Z Lg N X) := by
  refine ⟨⟨rfl, rfl⟩, ?_⟩
  show am_X (am_tb op_67) _ _ _
  refine r_aload rfl rfl ?_
  refine r_push rfl ?_
  refine q_puti rfl rfl rfl ?_
  refine r_push rfl ?_
  refine r_istore rfl ?_
  refine r_push rfl ?_
  refine r_istore rfl ?_
  refine r_loopS (fun o σ => ∃ Z2 : wZ, (∀ k j, k ≠ 46 → Z2 k j = uZ Z 34 0 0 k j) ∧ (∀ m, m < o → Z2 46 m = z 11 m) ∧ (∀ m, o ≤ m → Z2 46 m = Z 46 m) ∧ σ = (9, [some (.ref 34), some (.int (iI (rd_cnt (p_chg z) o))), some (.int (iI o))], [], mW Z2 Lg N X, 0, 0)) 7 (fun o σ ho hs hn => ?_) (fun σ hs => ?_) ⟨_, fun _ _ _ => rfl, fun m hm => absurd hm (by omega), fun _ _ => rfl, rfl⟩
  · obtain ⟨Z2, q0, q1, q2, rfl⟩ := hs
    refine r_iload rfl rfl ?_
    refine r_push rfl ?_
    refine r_c3 rfl (by first | exact iB0 | exact iB1 | exact iBm | exact hB _ _ | exact hT _ (by omega) | exact ⟨by omega, by omega⟩) (by first | exact iB0 | exact iB1 | exact iBm | exact hB _ _ | exact hT _ (by omega) | exact ⟨by omega, by omega⟩) (fun h12 => ?_) (fun h12 => ?_)
    · exfalso; omega
    · refine r_aload rfl rfl ?_
      refine q_getr rfl rfl rfl ?_
      refine r_iload rfl rfl ?_
      refine q_iald rfl rfl (by omega) (by omega) rfl ((q0 45 o (by omega)).trans (hd.2.2.2.2.2.2.2.2.2.2.2.2.1 o)) ?_
      refine r_aload rfl rfl ?_
      refine q_getr rfl rfl rfl ?_
      refine r_iload rfl rfl ?_
      refine q_iald rfl rfl (by omega) (by omega) rfl ((q2 o (Nat.le_refl _)).trans (hd.2.2.2.2.2.2.2.2.2.2.2.2.2 o)) ?_
      refine r_c0 rfl (by first | exact iB0 | exact iB1 | exact iBm | exact hB _ _ | exact hT _ (by omega) | exact ⟨by omega, by omega⟩) (by first | exact iB0 | exact iB1 | exact iBm | exact hB _ _ | exact hT _ (by omega) | exact ⟨by omega, by omega⟩) (fun h27 => ?_) (fun h27 => ?_)
      · refine r_iload rfl rfl ?_
        refine r_istore rfl ?_
        refine r_aload rfl rfl ?_
        refine q_getr rfl rfl rfl ?_
        refine r_iload rfl rfl ?_
        refine r_aload rfl rfl ?_
        refine q_getr rfl rfl rfl ?_
        refine r_iload rfl rfl ?_
        refine q_iald rfl rfl (by omega) (by omega) rfl ((q0 45 o (by omega)).trans (hd.2.2.2.2.2.2.2.2.2.2.2.2.1 o)) ?_
        refine q_iast rfl rfl (by omega) (by omega) rfl ?_
        refine r_iinc rfl rfl ?_
        refine r_goto rfl ?_
        refine hn _ ⟨uZ Z2 46 o (z 11 o), fun k j q => (uZ_ne q j).trans (q0 k j q), fun m hm => ?_, fun m hm => (uZ_nj _ (by omega)).trans (q2 m (by omega)), by rw [rd_cnt_f (p := p_chg z) (o := o) (by simp [p_chg]; omega)]; rfl⟩
        by_cases e : m = o
        · subst e; exact uZ_eq _ _ _ _
        · exact (uZ_nj _ e).trans (q1 m (by omega))
      · refine r_iload rfl rfl ?_
        refine r_push rfl ?_
        refine r_iadd rfl ?_
        refine r_goto rfl ?_
        refine r_istore rfl ?_
        refine r_aload rfl rfl ?_
        refine q_getr rfl rfl rfl ?_
        refine r_iload rfl rfl ?_
        refine r_aload rfl rfl ?_
        refine q_getr rfl rfl rfl ?_
        refine r_iload rfl rfl ?_
        refine q_iald rfl rfl (by omega) (by omega) rfl ((q0 45 o (by omega)).trans (hd.2.2.2.2.2.2.2.2.2.2.2.2.1 o)) ?_
        refine q_iast rfl rfl (by omega) (by omega) rfl ?_
        refine r_iinc rfl rfl ?_
        refine r_goto rfl ?_
        refine hn _ ⟨uZ Z2 46 o (z 11 o), fun k j q => (uZ_ne q j).trans (q0 k j q), fun m hm => ?_, fun m hm => (uZ_nj _ (by omega)).trans (q2 m (by omega)), by rw [rd_cnt_t (p := p_chg z) (o := o) (by simp [p_chg]; omega)]; rfl⟩
        by_cases e : m = o
        · subst e; exact uZ_eq _ _ _ _
        · exact (uZ_nj _ e).trans (q1 m (by omega))
  · obtain ⟨Z2, q0, q1, q2, rfl⟩ := hs
    refine r_iload rfl rfl ?_
    refine r_push rfl ?_
    refine r_c3 rfl (by first | exact iB0 | exact iB1 | exact iBm | exact hB _ _ | exact hT _ (by omega) | exact ⟨by omega, by omega⟩) (by first | exact iB0 | exact iB1 | exact iBm | exact hB _ _ | exact hT _ (by omega) | exact ⟨by omega, by omega⟩) (fun h12 => ?_) (fun h12 => ?_)
    · refine r_iload rfl rfl ?_
      refine q_iret rfl rfl rfl ?_
      exact mQ_ok rfl rfl (acc_mR (mR_t hd 0) q0 q1 q2) ((q0 _ _ (by omega)).trans (uZ_eq _ _ _ _)) (fun a b q => (q0 a b (by omega)).trans (uZ_ne (by omega) b))
    · exfalso; omega

/-- v is the only place below o that has p, or -1 -/
def lastP (p : Nat → Bool) (o : Nat) (v : Int) : Prop := (v = -1 ∧ ∀ j, j < o → p j = false) ∨ ∃ i : Nat, v = i ∧ i < o ∧ p i = true ∧ ∀ j, j < o → p j = true → j = i
theorem last_0 (p : Nat → Bool) : lastP p 0 (-1) := Or.inl ⟨rfl, fun j hj => absurd hj (by omega)⟩
theorem last_f {p : Nat → Bool} {o : Nat} {v : Int} (h : lastP p o v) (hp : p o = false) : lastP p (o + 1) v := by
  rcases h with ⟨h1, h2⟩ | ⟨i, h1, h2, h3, h4⟩
  · exact Or.inl ⟨h1, fst_next h2 hp⟩
  · refine Or.inr ⟨i, h1, by omega, h3, fun j hj q => ?_⟩
    by_cases e : j = o
    · subst e; rw [hp] at q; cases q
    · exact h4 j (by omega) q
theorem last_t {p : Nat → Bool} {o : Nat} {v : Int} (h : lastP p o v) (hp : p o = true) (hu : ∀ i j, i < o + 1 → j < o + 1 → p i = true → p j = true → i = j) : lastP p (o + 1) o :=
  Or.inr ⟨o, rfl, by omega, hp, fun j hj q => hu j o hj (by omega) q hp⟩
theorem last_B {p : Nat → Bool} {o : Nat} {v : Int} (h : lastP p o v) (ho : o ≤ 7) : -1 ≤ v ∧ v < 7 := by
  rcases h with ⟨h1, -⟩ | ⟨i, h1, h2, -⟩ <;> omega
theorem last_none {p : Nat → Bool} {o : Nat} {v : Int} (h : lastP p o v) (hv : v < 0) : rd_fst p o = none := by
  rcases h with ⟨h1, h2⟩ | ⟨i, h1, h2, -⟩
  · exact rd_fst_all h2
  · omega
theorem last_some {p : Nat → Bool} {o : Nat} {v : Int} (h : lastP p o v) (hv : 0 ≤ v) : ∃ i : Nat, v = i ∧ i < o ∧ rd_fst p o = some i := by
  rcases h with ⟨h1, h2⟩ | ⟨i, h1, h2, h3, h4⟩
  · omega
  · refine ⟨i, h1, h2, rd_fst_stop h2 (fun j hj => ?_) h3⟩
    cases e : p j with
    | false => rfl
    | true => have := h4 j (by omega) e; omega
theorem at_u {z : rd_Z} {x : Int} (i j : Nat) (hi : i < 7) (hj : j < 7) (h1 : p_at z x i = true) (h2 : p_at z x j = true) : i = j := by
  simp [p_at] at h1 h2
  exact rd_plc_inj (p := fun o => decide (z 11 o ≠ -1)) (t := z 11) hi hj (by simpa using h1.1) (by simpa using h2.1) (by have := h1.2; have := h2.2; show rd_pi (z 11) i = rd_pi (z 11) j; omega)
theorem cnt_step {p : Nat → Bool} {i : Nat} (h : p i = true) : ∀ k, rd_cnt p i + 1 ≤ rd_cnt p (i + 1 + k)
  | 0 => by rw [show i + 1 + 0 = i + 1 from rfl, rd_cnt_t h]; exact Nat.le_refl _
  | k + 1 => by
    have := cnt_step h k
    have e : rd_cnt p (i + 1 + k) ≤ rd_cnt p (i + 1 + k + 1) := by simp [rd_cnt]
    exact Nat.le_trans this e
theorem kth_u {z : rd_Z} {x : Int} (i j : Nat) (h1 : p_kth z x i = true) (h2 : p_kth z x j = true) : i = j := by
  simp [p_kth] at h1 h2
  by_cases e : i < j
  · have := cnt_step h1.1 (j - (i + 1))
    rw [show i + 1 + (j - (i + 1)) = j by omega] at this
    have := h1.2; have := h2.2
    omega
  · by_cases e2 : j < i
    · have := cnt_step h2.1 (i - (j + 1))
      rw [show j + 1 + (i - (j + 1)) = i by omega] at this
      have := h1.2; have := h2.2
      omega
    · omega

theorem s_61 {d : Nat} {Z : wZ} {Lg : Nat → Nat → Int64} {N : Nat} {X : Nat → Int32} {z : rd_Z} (hd : mR z Z) (hz : rd_ok z) (hB : zB z) {i : Int} (hi : iB i) : am_T am_tabs am_ar (d + 2) 61 [.ref 34, .int (iI i)] (mW Z Lg N X) (mQ (f_at z i) Z Lg N X) := by
  refine ⟨⟨rfl, rfl⟩, ?_⟩
  show am_X (am_tb op_61) _ _ _
  refine r_push rfl ?_
  refine r_istore rfl ?_
  refine r_push rfl ?_
  refine r_istore rfl ?_
  refine r_loopS (fun o σ => ∃ v : Int, lastP (p_at z i) o v ∧ σ = (4, [some (.ref 34), some (.int (iI i)), some (.int (iI v)), some (.int (iI o))], [], mW Z Lg N X, 0, 0)) 7 (fun o σ ho hs hn => ?_) (fun σ hs => ?_) ⟨-1, last_0 _, rfl⟩
  · obtain ⟨v, hv, rfl⟩ := hs
    have hrs := ok_rs hz ho
    have l1 : rd_pi (z 11) o ≤ 7 := rd_cnt_le _ _
    refine r_iload rfl rfl ?_
    refine r_push rfl ?_
    refine r_c3 rfl (by first | exact iB0 | exact iB1 | exact iBm | exact hB _ _ | exact hT _ (by omega) | exact ⟨by omega, by omega⟩) (by first | exact iB0 | exact iB1 | exact iBm | exact hB _ _ | exact hT _ (by omega) | exact ⟨by omega, by omega⟩) (fun h7 => ?_) (fun h7 => ?_)
    · exfalso; omega
    · refine r_aload rfl rfl ?_
      refine q_getr rfl rfl rfl ?_
      refine r_iload rfl rfl ?_
      refine q_iald rfl rfl (by omega) (by omega) rfl (hd.2.2.2.2.2.2.2.2.2.2.2.2.1 o) ?_
      refine r_z2 rfl (by first | exact iB0 | exact iB1 | exact iBm | exact hB _ _ | exact hT _ (by omega) | exact ⟨by omega, by omega⟩) (fun h16 => ?_) (fun h16 => ?_)
      · refine r_iload rfl rfl ?_
        refine r_istore rfl ?_
        refine r_iinc rfl rfl ?_
        refine r_goto rfl ?_
        exact hn _ ⟨v, last_f hv (by simp [p_at]; omega), rfl⟩
      · refine r_aload rfl rfl ?_
        refine r_iload rfl rfl ?_
        refine r_ki1 rfl rfl rfl rfl rfl (s_60 hd hz hB ho) ?_
        refine r_iload rfl rfl ?_
        refine r_c1 rfl ⟨by omega, by omega⟩ hi (fun h25 => ?_) (fun h25 => ?_)
        · refine r_iload rfl rfl ?_
          refine r_istore rfl ?_
          refine r_iinc rfl rfl ?_
          refine r_goto rfl ?_
          exact hn _ ⟨v, last_f hv (by simp [p_at]; omega), rfl⟩
        · refine r_iload rfl rfl ?_
          refine r_goto rfl ?_
          refine r_istore rfl ?_
          refine r_iinc rfl rfl ?_
          refine r_goto rfl ?_
          exact hn _ ⟨(o : Int), last_t hv (by simp [p_at]; omega) (fun a b ha hb => at_u a b (by omega) (by omega)), rfl⟩
  · obtain ⟨v, hv, rfl⟩ := hs
    have hvb := last_B hv (Nat.le_refl _)
    refine r_iload rfl rfl ?_
    refine r_push rfl ?_
    refine r_c3 rfl (by first | exact iB0 | exact iB1 | exact iBm | exact hB _ _ | exact hT _ (by omega) | exact ⟨by omega, by omega⟩) (by first | exact iB0 | exact iB1 | exact iBm | exact hB _ _ | exact hT _ (by omega) | exact ⟨by omega, by omega⟩) (fun h7 => ?_) (fun h7 => ?_)
    · refine r_aload rfl rfl ?_
      refine r_iload rfl rfl ?_
      refine r_z3 rfl ⟨by omega, by omega⟩ (fun h42 => ?_) (fun h42 => ?_)
      · refine r_push rfl ?_
        refine q_puti rfl rfl rfl ?_
        refine r_iload rfl rfl ?_
        refine r_z3 rfl ⟨by omega, by omega⟩ (fun h54 => ?_) (fun h54 => ?_)
        · refine r_iload rfl rfl ?_
          refine q_iret rfl rfl rfl ?_
          obtain ⟨k, k1, k2, k3⟩ := last_some hv h42
          exact mQ_ok (by rw [f_at, k3]) k1 (mR_t hd 0) (uZ_eq _ _ _ _) (cF_u (cF_r Z) (by omega))
        · exfalso; omega
      · refine r_push rfl ?_
        refine r_goto rfl ?_
        refine q_puti rfl rfl rfl ?_
        refine r_iload rfl rfl ?_
        refine r_z3 rfl ⟨by omega, by omega⟩ (fun h54 => ?_) (fun h54 => ?_)
        · exfalso; omega
        · refine r_push rfl ?_
          refine r_goto rfl ?_
          refine q_iret rfl rfl rfl ?_
          exact mQ_ok (by rw [f_at, last_none hv h42]) rfl (mR_t hd 1) (uZ_eq _ _ _ _) (cF_u (cF_r Z) (by omega))
    · exfalso; omega

end MC2
