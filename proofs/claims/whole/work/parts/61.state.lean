/-! the class's methods: comparisons, State -/
section CST
theorem rd_cnt_t {p : Nat → Bool} {o : Nat} (h : p o = true) : rd_cnt p (o + 1) = rd_cnt p o + 1 := by simp [rd_cnt, h]
theorem rd_cnt_f {p : Nat → Bool} {o : Nat} (h : p o = false) : rd_cnt p (o + 1) = rd_cnt p o := by simp [rd_cnt, h]
theorem bf_iff {t : Nat → Int} {a b : Nat} : rd_bf t a b = true ↔ (t a < t b ∨ t a = t b ∧ a < b) := by simp [rd_bf]
theorem th_iff {z : rd_Z} {m : Nat} : rd_th z m = true ↔ z 0 m ≠ 0 := by simp [rd_th]
theorem bf_no {t : Nat → Int} {a b : Nat} (h : ¬ (t a < t b ∨ t a = t b ∧ a < b)) : rd_bf t a b = false := by
  cases hh : rd_bf t a b with
  | false => rfl
  | true => exact absurd (bf_iff.mp hh) h
theorem iB_nat {n m : Nat} (h : n ≤ m) (hm : m ≤ 1000) : iB (n : Int) := ⟨by omega, by omega⟩
/-- one list's state is another's, so its walk is -/
theorem am_X_of {tab : Nat → am_Sem} {C : am_C} {Q : am_Q} {σ τ : am_S} (h : am_X tab C Q σ) (e : σ = τ) : am_X tab C Q τ := e ▸ h

theorem s_27 {d : Nat} {Z : wZ} {Lg : Nat → Nat → Int64} {N : Nat} {X : Nat → Int32} {v a b : Int} (hv : iB v) (ha : iB a) (hb : iB b) : am_T am_tabs am_ar (d + 1) 27 [.int (iI v), .int (iI a), .int (iI b)] (mW Z Lg N X) (am_bl (a ≤ v ∧ v ≤ b) (mW Z Lg N X)) := by
  refine ⟨⟨rfl, rfl⟩, ?_⟩
  show am_X (am_tb op_27) _ _ _
  refine r_iload rfl rfl ?_
  refine r_iload rfl rfl ?_
  refine r_c4 rfl ha hv (fun h2 => ?_) (fun h2 => ?_)
  · refine r_push rfl ?_
    refine q_zret rfl rfl rfl (by omega) ?_
    exact ⟨rfl, _, rfl, by omega⟩
  · refine r_iload rfl rfl ?_
    refine r_iload rfl rfl ?_
    refine r_c4 rfl hv hb (fun h7 => ?_) (fun h7 => ?_)
    · refine r_push rfl ?_
      refine q_zret rfl rfl rfl (by omega) ?_
      exact ⟨rfl, _, rfl, by omega⟩
    · refine r_push rfl ?_
      refine r_goto rfl ?_
      refine q_zret rfl rfl rfl (by omega) ?_
      exact ⟨rfl, _, rfl, by omega⟩

theorem s_28 {d : Nat} {Z : wZ} {Lg : Nat → Nat → Int64} {N : Nat} {X : Nat → Int32} {v : Int} (hv : iB v) : am_T am_tabs am_ar (d + 2) 28 [.int (iI v)] (mW Z Lg N X) (am_bl (0 ≤ v ∧ v ≤ 5) (mW Z Lg N X)) := by
  refine ⟨⟨rfl, rfl⟩, ?_⟩
  show am_X (am_tb op_28) _ _ _
  refine r_iload rfl rfl ?_
  refine r_push rfl ?_
  refine r_push rfl ?_
  refine r_sb3 rfl rfl rfl rfl (s_27 hv iB0 ⟨by omega, by omega⟩) (fun h3 => ?_) (fun h3 => ?_)
  · refine q_zret rfl rfl rfl (by omega) ?_
    exact ⟨rfl, _, rfl, by omega⟩
  · refine q_zret rfl rfl rfl (by omega) ?_
    exact ⟨rfl, _, rfl, by omega⟩

theorem s_29 {d : Nat} {Z : wZ} {Lg : Nat → Nat → Int64} {N : Nat} {X : Nat → Int32} {k : Nat} (hk : SH[k]? = some (0, 7, [])) (hT : ∀ j, j < 7 → iB (Z k j)) {a b : Nat} (ha : a < 7) (hb : b < 7) : am_T am_tabs am_ar (d + 1) 29 [.ref k, .int (iI a), .int (iI b)] (mW Z Lg N X) (am_bl (Z k a < Z k b ∨ Z k a = Z k b ∧ a < b) (mW Z Lg N X)) := by
  refine ⟨⟨rfl, rfl⟩, ?_⟩
  show am_X (am_tb op_29) _ _ _
  refine r_aload rfl rfl ?_
  refine r_iload rfl rfl ?_
  refine q_iald rfl hk (by omega) (by omega) rfl (rfl : _ = Z k a) ?_
  refine r_aload rfl rfl ?_
  refine r_iload rfl rfl ?_
  refine q_iald rfl hk (by omega) (by omega) rfl (rfl : _ = Z k b) ?_
  refine r_c2 rfl (by first | exact iB0 | exact iB1 | exact iBm | exact hB _ _ | exact hT _ (by omega) | exact ⟨by omega, by omega⟩) (by first | exact iB0 | exact iB1 | exact iBm | exact hB _ _ | exact hT _ (by omega) | exact ⟨by omega, by omega⟩) (fun h6 => ?_) (fun h6 => ?_)
  · refine r_push rfl ?_
    refine r_goto rfl ?_
    refine q_zret rfl rfl rfl (by omega) ?_
    exact ⟨rfl, _, rfl, by omega⟩
  · refine r_aload rfl rfl ?_
    refine r_iload rfl rfl ?_
    refine q_iald rfl hk (by omega) (by omega) rfl (rfl : _ = Z k a) ?_
    refine r_aload rfl rfl ?_
    refine r_iload rfl rfl ?_
    refine q_iald rfl hk (by omega) (by omega) rfl (rfl : _ = Z k b) ?_
    refine r_c1 rfl (by first | exact iB0 | exact iB1 | exact iBm | exact hB _ _ | exact hT _ (by omega) | exact ⟨by omega, by omega⟩) (by first | exact iB0 | exact iB1 | exact iBm | exact hB _ _ | exact hT _ (by omega) | exact ⟨by omega, by omega⟩) (fun h15 => ?_) (fun h15 => ?_)
    · refine r_push rfl ?_
      refine q_zret rfl rfl rfl (by omega) ?_
      exact ⟨rfl, _, rfl, by omega⟩
    · refine r_iload rfl rfl ?_
      refine r_iload rfl rfl ?_
      refine r_c3 rfl (by first | exact iB0 | exact iB1 | exact iBm | exact hB _ _ | exact hT _ (by omega) | exact ⟨by omega, by omega⟩) (by first | exact iB0 | exact iB1 | exact iBm | exact hB _ _ | exact hT _ (by omega) | exact ⟨by omega, by omega⟩) (fun h20 => ?_) (fun h20 => ?_)
      · refine r_push rfl ?_
        refine q_zret rfl rfl rfl (by omega) ?_
        exact ⟨rfl, _, rfl, by omega⟩
      · refine r_push rfl ?_
        refine r_goto rfl ?_
        refine q_zret rfl rfl rfl (by omega) ?_
        exact ⟨rfl, _, rfl, by omega⟩

theorem s_30 {d : Nat} {Z : wZ} {Lg : Nat → Nat → Int64} {N : Nat} {X : Nat → Int32} {k : Nat} (hk : SH[k]? = some (0, 7, [])) (hT : ∀ j, j < 7 → iB (Z k j)) {m : Nat} (hm : m < 7) : am_T am_tabs am_ar (d + 2) 30 [.ref k, .int (iI m)] (mW Z Lg N X) (am_ret (iI (rd_pi (Z k) m)) (mW Z Lg N X)) := by
  refine ⟨⟨rfl, rfl⟩, ?_⟩
  show am_X (am_tb op_30) _ _ _
  refine r_push rfl ?_
  refine r_istore rfl ?_
  refine r_push rfl ?_
  refine r_istore rfl ?_
  refine r_loop (fun o => (4, [some (.ref k), some (.int (iI m)), some (.int (iI (rd_cnt (fun o => (fun o => decide (Z k o ≠ -1)) o && rd_bf (Z k) o m) o))), some (.int (iI o))], [], mW Z Lg N X, 0, 0)) (fun o => True) 7 trivial (fun o ho hi hn => ?_) (fun hi => ?_)
  · dsimp only at hi hn ⊢
    refine r_iload rfl rfl ?_
    refine r_push rfl ?_
    refine r_c3 rfl (by first | exact iB0 | exact iB1 | exact iBm | exact hB _ _ | exact hT _ (by omega) | exact ⟨by omega, by omega⟩) (by first | exact iB0 | exact iB1 | exact iBm | exact hB _ _ | exact hT _ (by omega) | exact ⟨by omega, by omega⟩) (fun h7 => ?_) (fun h7 => ?_)
    · exfalso; omega
    · refine r_aload rfl rfl ?_
      refine r_iload rfl rfl ?_
      refine q_iald rfl hk (by omega) (by omega) rfl (rfl : _ = Z k o) ?_
      refine r_push rfl ?_
      refine r_c0 rfl (by first | exact iB0 | exact iB1 | exact iBm | exact hB _ _ | exact hT _ (by omega) | exact ⟨by omega, by omega⟩) (by first | exact iB0 | exact iB1 | exact iBm | exact hB _ _ | exact hT _ (by omega) | exact ⟨by omega, by omega⟩) (fun h14 => ?_) (fun h14 => ?_)
      · refine r_iinc rfl rfl ?_
        refine r_goto rfl ?_
        first
        | exact am_X_of (hn trivial) (by rw [rd_cnt_t (p := (fun o => (fun o => decide (Z k o ≠ -1)) o && rd_bf (Z k) o m)) (o := o) (by simp [rd_bf] <;> omega)]; rfl)
        | exact am_X_of (hn trivial) (by rw [rd_cnt_f (p := (fun o => (fun o => decide (Z k o ≠ -1)) o && rd_bf (Z k) o m)) (o := o) (by simp [rd_bf] <;> omega)]; rfl)
      · refine r_aload rfl rfl ?_
        refine r_iload rfl rfl ?_
        refine r_iload rfl rfl ?_
        refine r_sb3 rfl rfl rfl rfl (s_29 hk hT ho hm) (fun h20 => ?_) (fun h20 => ?_)
        · refine r_f0 rfl (by first | exact iB0 | exact iB1 | exact iBm | exact hB _ _ | exact hT _ (by omega) | exact ⟨by omega, by omega⟩) (by omega) ?_
          refine r_iinc rfl rfl ?_
          refine r_iinc rfl rfl ?_
          refine r_goto rfl ?_
          first
          | exact am_X_of (hn trivial) (by rw [rd_cnt_t (p := (fun o => (fun o => decide (Z k o ≠ -1)) o && rd_bf (Z k) o m)) (o := o) (by simp [rd_bf] <;> omega)]; rfl)
          | exact am_X_of (hn trivial) (by rw [rd_cnt_f (p := (fun o => (fun o => decide (Z k o ≠ -1)) o && rd_bf (Z k) o m)) (o := o) (by simp [rd_bf] <;> omega)]; rfl)
        · refine r_t0 rfl (by first | exact iB0 | exact iB1 | exact iBm | exact hB _ _ | exact hT _ (by omega) | exact ⟨by omega, by omega⟩) (by omega) ?_
          refine r_iinc rfl rfl ?_
          refine r_goto rfl ?_
          first
          | exact am_X_of (hn trivial) (by rw [rd_cnt_t (p := (fun o => (fun o => decide (Z k o ≠ -1)) o && rd_bf (Z k) o m)) (o := o) (by simp [rd_bf] <;> omega)]; rfl)
          | exact am_X_of (hn trivial) (by rw [rd_cnt_f (p := (fun o => (fun o => decide (Z k o ≠ -1)) o && rd_bf (Z k) o m)) (o := o) (by simp [rd_bf] <;> omega)]; rfl)
  · dsimp only at hi ⊢
    refine r_iload rfl rfl ?_
    refine r_push rfl ?_
    refine r_c3 rfl (by first | exact iB0 | exact iB1 | exact iBm | exact hB _ _ | exact hT _ (by omega) | exact ⟨by omega, by omega⟩) (by first | exact iB0 | exact iB1 | exact iBm | exact hB _ _ | exact hT _ (by omega) | exact ⟨by omega, by omega⟩) (fun h7 => ?_) (fun h7 => ?_)
    · refine r_iload rfl rfl ?_
      refine q_iret rfl rfl rfl ?_
      exact am_ret_of rfl
    · exfalso; omega

end CST
