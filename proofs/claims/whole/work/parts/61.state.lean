/-! the class's methods: comparisons, State -/
section CST
theorem rd_cnt_t {p : Nat → Bool} {o : Nat} (h : p o = true) : rd_cnt p (o + 1) = rd_cnt p o + 1 := by simp [rd_cnt, h]
theorem rd_cnt_f {p : Nat → Bool} {o : Nat} (h : p o = false) : rd_cnt p (o + 1) = rd_cnt p o := by simp [rd_cnt, h]
theorem bf_iff {t : Nat → Int} {a b : Nat} : rd_bf t a b = true ↔ (t a < t b ∨ t a = t b ∧ a < b) := by simp [rd_bf]
theorem may_iff {z : rd_Z} {m e p : Nat} : rd_may z m e p = true ↔ (z 6 m ≠ -1 ∨ (e : Int) - p ≤ z 10 1 ∧ (p : Int) - e ≤ z 10 1) := by simp [rd_may]
theorem th_iff {z : rd_Z} {m : Nat} : rd_th z m = true ↔ z 0 m ≠ 0 := by simp [rd_th]
theorem bf_no {t : Nat → Int} {a b : Nat} (h : ¬ (t a < t b ∨ t a = t b ∧ a < b)) : rd_bf t a b = false := by
  cases hh : rd_bf t a b with
  | false => rfl
  | true => exact absurd (bf_iff.mp hh) h
theorem iB_nat {n m : Nat} (h : n ≤ m) (hm : m ≤ 1000) : iB (n : Int) := ⟨by omega, by omega⟩
/-- one list's state is another's, so its walk is -/
theorem am_X_of {tab : Nat → am_Sem} {C : am_C} {Q : am_Q} {σ τ : am_S} (h : am_X tab C Q σ) (e : σ = τ) : am_X tab C Q τ := e ▸ h

theorem s_27 {d : Nat} {Z : wZ} {Lg : Nat → Nat → Int64} {N : Nat} {X : Nat → Int32} {v a b : Int} (hv : iB v) (ha : iB a) (hb : iB b) : am_T am_tabs am_ar (d + 1) 27 [.int (iI v), .int (iI a), .int (iI b)] (mW Z Lg N X) (am_bl (a ≤ v ∧ v ≤ b) (mW Z Lg N X)) := by
  refine ⟨⟨rfl, rfl⟩, ?_⟩
  show am_X (am_tb op_27) _ _ _
  refine r_iload rfl rfl ?_
  refine r_iload rfl rfl ?_
  refine r_c4 rfl ha hv (fun h2 => ?_) (fun h2 => ?_)
  · refine r_push rfl ?_
    refine q_zret rfl rfl rfl (by omega) ?_
    exact ⟨rfl, _, rfl, by omega⟩
  · refine r_iload rfl rfl ?_
    refine r_iload rfl rfl ?_
    refine r_c4 rfl hv hb (fun h7 => ?_) (fun h7 => ?_)
    · refine r_push rfl ?_
      refine q_zret rfl rfl rfl (by omega) ?_
      exact ⟨rfl, _, rfl, by omega⟩
    · refine r_push rfl ?_
      refine r_goto rfl ?_
      refine q_zret rfl rfl rfl (by omega) ?_
      exact ⟨rfl, _, rfl, by omega⟩

theorem s_28 {d : Nat} {Z : wZ} {Lg : Nat → Nat → Int64} {N : Nat} {X : Nat → Int32} {v : Int} (hv : iB v) : am_T am_tabs am_ar (d + 2) 28 [.int (iI v)] (mW Z Lg N X) (am_bl (0 ≤ v ∧ v ≤ 5) (mW Z Lg N X)) := by
  refine ⟨⟨rfl, rfl⟩, ?_⟩
  show am_X (am_tb op_28) _ _ _
  refine r_iload rfl rfl ?_
  refine r_push rfl ?_
  refine r_push rfl ?_
  refine r_sb3 rfl rfl rfl rfl (s_27 hv iB0 ⟨by omega, by omega⟩) (fun h3 => ?_) (fun h3 => ?_)
  · refine q_zret rfl rfl rfl (by omega) ?_
    exact ⟨rfl, _, rfl, by omega⟩
  · refine q_zret rfl rfl rfl (by omega) ?_
    exact ⟨rfl, _, rfl, by omega⟩

theorem s_29 {d : Nat} {Z : wZ} {Lg : Nat → Nat → Int64} {N : Nat} {X : Nat → Int32} {k : Nat} (hk : SH[k]? = some (0, 7, [])) (hT : ∀ j, j < 7 → iB (Z k j)) {a b : Nat} (ha : a < 7) (hb : b < 7) : am_T am_tabs am_ar (d + 1) 29 [.ref k, .int (iI a), .int (iI b)] (mW Z Lg N X) (am_bl (Z k a < Z k b ∨ Z k a = Z k b ∧ a < b) (mW Z Lg N X)) := by
  refine ⟨⟨rfl, rfl⟩, ?_⟩
  show am_X (am_tb op_29) _ _ _
  refine r_aload rfl rfl ?_
  refine r_iload rfl rfl ?_
  refine q_iald rfl hk (by omega) (by omega) rfl (rfl : _ = Z k a) ?_
  refine r_aload rfl rfl ?_
  refine r_iload rfl rfl ?_
  refine q_iald rfl hk (by omega) (by omega) rfl (rfl : _ = Z k b) ?_
  refine r_c2 rfl (by first | exact iB0 | exact iB1 | exact iBm | exact hB _ _ | exact hT _ (by omega) | exact ⟨by omega, by omega⟩) (by first | exact iB0 | exact iB1 | exact iBm | exact hB _ _ | exact hT _ (by omega) | exact ⟨by omega, by omega⟩) (fun h6 => ?_) (fun h6 => ?_)
  · refine r_push rfl ?_
    refine r_goto rfl ?_
    refine q_zret rfl rfl rfl (by omega) ?_
    exact ⟨rfl, _, rfl, by omega⟩
  · refine r_aload rfl rfl ?_
    refine r_iload rfl rfl ?_
    refine q_iald rfl hk (by omega) (by omega) rfl (rfl : _ = Z k a) ?_
    refine r_aload rfl rfl ?_
    refine r_iload rfl rfl ?_
    refine q_iald rfl hk (by omega) (by omega) rfl (rfl : _ = Z k b) ?_
    refine r_c1 rfl (by first | exact iB0 | exact iB1 | exact iBm | exact hB _ _ | exact hT _ (by omega) | exact ⟨by omega, by omega⟩) (by first | exact iB0 | exact iB1 | exact iBm | exact hB _ _ | exact hT _ (by omega) | exact ⟨by omega, by omega⟩) (fun h15 => ?_) (fun h15 => ?_)
    · refine r_push rfl ?_
      refine q_zret rfl rfl rfl (by omega) ?_
      exact ⟨rfl, _, rfl, by omega⟩
    · refine r_iload rfl rfl ?_
      refine r_iload rfl rfl ?_
      refine r_c3 rfl (by first | exact iB0 | exact iB1 | exact iBm | exact hB _ _ | exact hT _ (by omega) | exact ⟨by omega, by omega⟩) (by first | exact iB0 | exact iB1 | exact iBm | exact hB _ _ | exact hT _ (by omega) | exact ⟨by omega, by omega⟩) (fun h20 => ?_) (fun h20 => ?_)
      · refine r_push rfl ?_
        refine q_zret rfl rfl rfl (by omega) ?_
        exact ⟨rfl, _, rfl, by omega⟩
      · refine r_push rfl ?_
        refine r_goto rfl ?_
        refine q_zret rfl rfl rfl (by omega) ?_
        exact ⟨rfl, _, rfl, by omega⟩

theorem s_30 {d : Nat} {Z : wZ} {Lg : Nat → Nat → Int64} {N : Nat} {X : Nat → Int32} {k : Nat} (hk : SH[k]? = some (0, 7, [])) (hT : ∀ j, j < 7 → iB (Z k j)) {m : Nat} (hm : m < 7) : am_T am_tabs am_ar (d + 2) 30 [.ref k, .int (iI m)] (mW Z Lg N X) (am_ret (iI (rd_pi (Z k) m)) (mW Z Lg N X)) := by
  refine ⟨⟨rfl, rfl⟩, ?_⟩
  show am_X (am_tb op_30) _ _ _
  refine r_push rfl ?_
  refine r_istore rfl ?_
  refine r_push rfl ?_
  refine r_istore rfl ?_
  refine r_loop (fun o => (4, [some (.ref k), some (.int (iI m)), some (.int (iI (rd_cnt (fun o => (fun o => decide (Z k o ≠ -1)) o && rd_bf (Z k) o m) o))), some (.int (iI o))], [], mW Z Lg N X, 0, 0)) (fun o => True) 7 trivial (fun o ho hi hn => ?_) (fun hi => ?_)
  · (try dsimp only at hi); (try dsimp only at hn); (try dsimp only)
    refine r_iload rfl rfl ?_
    refine r_push rfl ?_
    refine r_c3 rfl (by first | exact iB0 | exact iB1 | exact iBm | exact hB _ _ | exact hT _ (by omega) | exact ⟨by omega, by omega⟩) (by first | exact iB0 | exact iB1 | exact iBm | exact hB _ _ | exact hT _ (by omega) | exact ⟨by omega, by omega⟩) (fun h7 => ?_) (fun h7 => ?_)
    · exfalso; omega
    · refine r_aload rfl rfl ?_
      refine r_iload rfl rfl ?_
      refine q_iald rfl hk (by omega) (by omega) rfl (rfl : _ = Z k o) ?_
      refine r_push rfl ?_
      refine r_c0 rfl (by first | exact iB0 | exact iB1 | exact iBm | exact hB _ _ | exact hT _ (by omega) | exact ⟨by omega, by omega⟩) (by first | exact iB0 | exact iB1 | exact iBm | exact hB _ _ | exact hT _ (by omega) | exact ⟨by omega, by omega⟩) (fun h14 => ?_) (fun h14 => ?_)
      · refine r_iinc rfl rfl ?_
        refine r_goto rfl ?_
        first
        | exact am_X_of (hn trivial) (by rw [rd_cnt_t (p := (fun o => (fun o => decide (Z k o ≠ -1)) o && rd_bf (Z k) o m)) (o := o) (by simp [rd_bf] <;> omega)]; rfl)
        | exact am_X_of (hn trivial) (by rw [rd_cnt_f (p := (fun o => (fun o => decide (Z k o ≠ -1)) o && rd_bf (Z k) o m)) (o := o) (by simp [rd_bf] <;> omega)]; rfl)
      · refine r_aload rfl rfl ?_
        refine r_iload rfl rfl ?_
        refine r_iload rfl rfl ?_
        refine r_sb3 rfl rfl rfl rfl (s_29 hk hT ho hm) (fun h20 => ?_) (fun h20 => ?_)
        · refine r_f0 rfl (by first | exact iB0 | exact iB1 | exact iBm | exact hB _ _ | exact hT _ (by omega) | exact ⟨by omega, by omega⟩) (by omega) ?_
          refine r_iinc rfl rfl ?_
          refine r_iinc rfl rfl ?_
          refine r_goto rfl ?_
          first
          | exact am_X_of (hn trivial) (by rw [rd_cnt_t (p := (fun o => (fun o => decide (Z k o ≠ -1)) o && rd_bf (Z k) o m)) (o := o) (by simp [rd_bf] <;> omega)]; rfl)
          | exact am_X_of (hn trivial) (by rw [rd_cnt_f (p := (fun o => (fun o => decide (Z k o ≠ -1)) o && rd_bf (Z k) o m)) (o := o) (by simp [rd_bf] <;> omega)]; rfl)
        · refine r_t0 rfl (by first | exact iB0 | exact iB1 | exact iBm | exact hB _ _ | exact hT _ (by omega) | exact ⟨by omega, by omega⟩) (by omega) ?_
          refine r_iinc rfl rfl ?_
          refine r_goto rfl ?_
          first
          | exact am_X_of (hn trivial) (by rw [rd_cnt_t (p := (fun o => (fun o => decide (Z k o ≠ -1)) o && rd_bf (Z k) o m)) (o := o) (by simp [rd_bf] <;> omega)]; rfl)
          | exact am_X_of (hn trivial) (by rw [rd_cnt_f (p := (fun o => (fun o => decide (Z k o ≠ -1)) o && rd_bf (Z k) o m)) (o := o) (by simp [rd_bf] <;> omega)]; rfl)
  · (try dsimp only at hi); (try dsimp only)
    refine r_iload rfl rfl ?_
    refine r_push rfl ?_
    refine r_c3 rfl (by first | exact iB0 | exact iB1 | exact iBm | exact hB _ _ | exact hT _ (by omega) | exact ⟨by omega, by omega⟩) (by first | exact iB0 | exact iB1 | exact iBm | exact hB _ _ | exact hT _ (by omega) | exact ⟨by omega, by omega⟩) (fun h7 => ?_) (fun h7 => ?_)
    · refine r_iload rfl rfl ?_
      refine q_iret rfl rfl rfl ?_
      exact am_ret_of rfl
    · exfalso; omega

/-- a place, -1 for none -/
def oI : Option Nat → Int
  | none => -1
  | some i => i
theorem fst_next {p : Nat → Bool} {o : Nat} (hi : ∀ j, j < o → p j = false) (h : p o = false) : ∀ j, j < o + 1 → p j = false := fun j hj => by
  by_cases e : j = o
  · rw [e]; exact h
  · exact hi j (by omega)
theorem fst_no {p : Nat → Bool} (j : Nat) (hj : j < 0) : p j = false := absurd hj (by omega)
theorem oI_B {p : Nat → Bool} {n : Nat} (hn : n ≤ 1000) : iB (oI (rd_fst p n)) := by
  cases h : rd_fst p n with
  | none => exact iBm
  | some i => have := (rd_fst_some h).1; exact ⟨by show _ ≤ (i : Int); omega, by show (i : Int) ≤ _; omega⟩
theorem fst_any {p : Nat → Bool} {n : Nat} : oI (rd_fst p n) = -1 ↔ rd_any p n = false := by
  rw [rd_any_false]
  cases h : rd_fst p n with
  | none => exact ⟨fun _ => rd_fst_none h, fun _ => rfl⟩
  | some i =>
    have := rd_fst_some h
    refine ⟨fun q => ?_, fun q => ?_⟩
    · have q : (i : Int) = -1 := q
      omega
    · rw [q i this.1] at this
      simp at this
theorem ok_ty {z : rd_Z} (hz : rd_ok z) {m : Nat} (hm : m < 7) : 0 ≤ z 1 m ∧ z 1 m ≤ 5 := by
  obtain ⟨-, h1, h2, -⟩ := hz.1 m hm; exact ⟨h1, h2⟩
theorem ok_rg {z : rd_Z} (hz : rd_ok z) {m : Nat} (hm : m < 7) : 0 ≤ z 2 m ∧ z 2 m ≤ z 4 m ∧ z 4 m ≤ 3000 ∧ 0 ≤ z 3 m ∧ z 3 m ≤ 3000 := by
  obtain ⟨-, -, -, h1, h2, h3, h4, h5, -⟩ := hz.1 m hm; exact ⟨h1, h2, h3, h4, h5⟩
theorem ok_wt {z : rd_Z} (hz : rd_ok z) {m : Nat} (hm : m < 7) : 0 ≤ z 5 m ∧ z 5 m ≤ 100 := by
  obtain ⟨-, -, -, -, -, -, -, -, h1, h2, -⟩ := hz.1 m hm; exact ⟨h1, h2⟩
theorem ok_fr {z : rd_Z} (hz : rd_ok z) {m : Nat} (hm : m < 7) : -1 ≤ z 6 m ∧ z 6 m ≤ 3000 := by
  obtain ⟨-, -, -, -, -, -, -, -, -, -, h1, h2, -⟩ := hz.1 m hm; exact ⟨h1, h2⟩
theorem ok_rs {z : rd_Z} (hz : rd_ok z) {m : Nat} (hm : m < 7) : -1 ≤ z 11 m ∧ z 11 m ≤ 3000 := by
  obtain ⟨-, -, -, -, -, -, -, -, -, -, -, -, h1, h2, -⟩ := hz.1 m hm; exact ⟨h1, h2⟩
theorem ok_ac {z : rd_Z} (hz : rd_ok z) {m : Nat} (hm : m < 7) : -1 ≤ z 12 m ∧ z 12 m ≤ 3000 := by
  obtain ⟨-, -, -, -, -, -, -, -, -, -, -, -, -, -, h1, h2, -⟩ := hz.1 m hm; exact ⟨h1, h2⟩
theorem ok_th {z : rd_Z} (hz : rd_ok z) {m : Nat} (hm : m < 7) : z 0 m = 0 ∨ z 0 m = 1 := (hz.1 m hm).1
theorem ok_no {z : rd_Z} (hz : rd_ok z) {m : Nat} (hm : m < 7) (h : z 0 m = 0) : z 11 m = -1 ∧ z 12 m = -1 := by
  obtain ⟨-, -, -, -, -, -, -, -, -, -, -, -, -, -, -, -, h1⟩ := hz.1 m hm; exact h1 h
theorem ok_nc {z : rd_Z} (hz : rd_ok z) : z 10 0 = (rd_nc z : Int) ∧ rd_nc z ≤ 4 := by
  obtain ⟨-, -, h1, h2, -⟩ := hz
  unfold rd_nc; omega
theorem ok_lm {z : rd_Z} (hz : rd_ok z) : 0 ≤ z 10 1 ∧ z 10 1 ≤ 6 := by
  obtain ⟨-, -, -, -, h1, h2, -⟩ := hz; exact ⟨h1, h2⟩
theorem ok_cl {z : rd_Z} (hz : rd_ok z) {k : Nat} (hk : k < rd_nc z) : 0 ≤ z 8 k ∧ z 8 k ≤ z 9 k ∧ z 9 k ≤ 3000 := by
  obtain ⟨-, -, -, -, -, -, h⟩ := hz; exact h k hk
theorem gq {n : Nat} (h : n < 6) : ([10, 11, 12, 13, 14, 15] : List Nat)[n]? = some (10 + n) := by
  rcases n with _ | _ | _ | _ | _ | _ | n <;> first | rfl | omega
theorem gs {n : Nat} (h : n < 6) : SH[10 + n]? = some (0, 6, []) := by
  rcases n with _ | _ | _ | _ | _ | _ | n <;> first | rfl | omega
/-- are two movements too near -/
def rd_near (z : rd_Z) (m : Nat) (s : Int) (o : Nat) (t : Int) : Prop := if s < t then t - s < rd_gap z m o else s - t < rd_gap z o m
theorem sec_f1 {z : rd_Z} {m : Nat} {f : Int} (h6 : z 6 m ≠ -1) (h : f ≤ z 6 m) (hc : rd_cl z (z 6 m) = false) : rd_sec z m f = z 6 m := by
  unfold rd_sec; rw [if_pos h6, if_pos ⟨h, hc⟩]
theorem sec_f2 {z : rd_Z} {m : Nat} {f : Int} (h6 : z 6 m ≠ -1) (h : ¬ (f ≤ z 6 m ∧ rd_cl z (z 6 m) = false)) : rd_sec z m f = -1 := by
  unfold rd_sec; rw [if_pos h6, if_neg h]
theorem sec_n1 {z : rd_Z} {m : Nat} {f : Int} (h6 : z 6 m = -1) (h : rd_fo z (max f (z 2 m)) ≤ z 4 m) : rd_sec z m f = rd_fo z (max f (z 2 m)) := by
  unfold rd_sec; rw [if_neg (by omega), if_pos h]
theorem sec_n2 {z : rd_Z} {m : Nat} {f : Int} (h6 : z 6 m = -1) (h : ¬ rd_fo z (max f (z 2 m)) ≤ z 4 m) : rd_sec z m f = -1 := by
  unfold rd_sec; rw [if_neg (by omega), if_neg h]
/-- a plan's seconds -/
def pB (Z : wZ) (k : Nat) : Prop := ∀ j, j < 7 → -1 ≤ Z k j ∧ Z k j ≤ 3000
theorem pB_iB {Z : wZ} {k : Nat} (h : pB Z k) : ∀ j, j < 7 → iB (Z k j) := fun j hj => by have := h j hj; exact ⟨by omega, by omega⟩
theorem fo_B {z : rd_Z} (hz : rd_ok z) {s : Int} (h1 : s ≤ 10000) : s ≤ rd_fo z s ∧ rd_fo z s ≤ 10000 := by
  have hf := rd_fo_ok z s (ok_nc hz).2
  refine ⟨hf.1, ?_⟩
  by_cases e : rd_fo z s ≤ 10000
  · exact e
  · have := hf.2.2 10000 h1 (by omega)
    unfold rd_cl at this
    obtain ⟨i, hi, q⟩ := rd_any_iff.mp this
    have := ok_cl hz hi
    simp [rd_in] at q
    omega

theorem s_80 {d : Nat} {Z : wZ} {Lg : Nat → Nat → Int64} {N : Nat} {X : Nat → Int32} {z : rd_Z} (hc : cR z Z) (hz : rd_ok z) (hB : zB z) {m : Int} (hm : iB m) : am_T am_tabs am_ar (d + 2) 80 [.ref 1, .int (iI m)] (mW Z Lg N X) (am_bl (0 ≤ m ∧ m < 7 ∧ rd_th z m.toNat = true) (mW Z Lg N X)) := by
  refine ⟨⟨rfl, rfl⟩, ?_⟩
  show am_X (am_tb op_80) _ _ _
  refine r_iload rfl rfl ?_
  refine r_push rfl ?_
  refine r_push rfl ?_
  refine r_sb3 rfl rfl rfl rfl (s_27 hm iB0 ⟨by omega, by omega⟩) (fun h4 => ?_) (fun h4 => ?_)
  · refine r_f0 rfl (by first | exact iB0 | exact iB1 | exact iBm | exact hB _ _ | exact hT _ (by omega) | exact ⟨by omega, by omega⟩) (by omega) ?_
    refine r_aload rfl rfl ?_
    refine q_getr rfl rfl rfl ?_
    refine r_iload rfl rfl ?_
    refine q_zald rfl rfl (by omega) (by omega) rfl (hc.1 m.toNat) ?_
    refine r_z0 rfl (by first | exact iB0 | exact iB1 | exact iBm | exact hB _ _ | exact hT _ (by omega) | exact ⟨by omega, by omega⟩) (fun h16 => ?_) (fun h16 => ?_)
    · refine r_push rfl ?_
      refine q_zret rfl rfl rfl (by omega) ?_
      first
      | exact ⟨rfl, _, rfl, by rw [th_iff]; omega⟩
    · refine r_push rfl ?_
      refine r_goto rfl ?_
      refine q_zret rfl rfl rfl (by omega) ?_
      first
      | exact ⟨rfl, _, rfl, by rw [th_iff]; omega⟩
  · refine r_t0 rfl (by first | exact iB0 | exact iB1 | exact iBm | exact hB _ _ | exact hT _ (by omega) | exact ⟨by omega, by omega⟩) (by omega) ?_
    refine r_push rfl ?_
    refine q_zret rfl rfl rfl (by omega) ?_
    first
    | exact ⟨rfl, _, rfl, by rw [th_iff]; omega⟩

theorem s_81 {d : Nat} {Z : wZ} {Lg : Nat → Nat → Int64} {N : Nat} {X : Nat → Int32} {z : rd_Z} (hc : cR z Z) (hz : rd_ok z) (hB : zB z)  : am_T am_tabs am_ar (d + 1) 81 [.ref 1] (mW Z Lg N X) (am_ret (iI (oI (rd_fst (fun m => !rd_th z m) 7))) (mW Z Lg N X)) := by
  refine ⟨⟨rfl, rfl⟩, ?_⟩
  show am_X (am_tb op_81) _ _ _
  refine r_push rfl ?_
  refine r_istore rfl ?_
  refine r_loop (fun o => (2, [some (.ref 1), some (.int (iI o))], [], mW Z Lg N X, 0, 0)) (fun o => ∀ j, j < o → (fun m => !rd_th z m) j = false) 7 fst_no (fun o ho hi hn => ?_) (fun hi => ?_)
  · (try dsimp only at hi); (try dsimp only at hn); (try dsimp only)
    refine r_iload rfl rfl ?_
    refine r_push rfl ?_
    refine r_c3 rfl (by first | exact iB0 | exact iB1 | exact iBm | exact hB _ _ | exact hT _ (by omega) | exact ⟨by omega, by omega⟩) (by first | exact iB0 | exact iB1 | exact iBm | exact hB _ _ | exact hT _ (by omega) | exact ⟨by omega, by omega⟩) (fun h5 => ?_) (fun h5 => ?_)
    · exfalso; omega
    · refine r_aload rfl rfl ?_
      refine q_getr rfl rfl rfl ?_
      refine r_iload rfl rfl ?_
      refine q_zald rfl rfl (by omega) (by omega) rfl (hc.1 o) ?_
      refine r_z1 rfl (by first | exact iB0 | exact iB1 | exact iBm | exact hB _ _ | exact hT _ (by omega) | exact ⟨by omega, by omega⟩) (fun h14 => ?_) (fun h14 => ?_)
      · refine r_iinc rfl rfl ?_
        refine r_goto rfl ?_
        exact hn (fst_next hi (by simp [rd_th] <;> omega))
      · refine r_iload rfl rfl ?_
        refine q_iret rfl rfl rfl ?_
        exact am_ret_of (by rw [rd_fst_stop ho hi (by simp [rd_th] <;> omega)]; rfl)
  · (try dsimp only at hi); (try dsimp only)
    refine r_iload rfl rfl ?_
    refine r_push rfl ?_
    refine r_c3 rfl (by first | exact iB0 | exact iB1 | exact iBm | exact hB _ _ | exact hT _ (by omega) | exact ⟨by omega, by omega⟩) (by first | exact iB0 | exact iB1 | exact iBm | exact hB _ _ | exact hT _ (by omega) | exact ⟨by omega, by omega⟩) (fun h5 => ?_) (fun h5 => ?_)
    · refine r_push rfl ?_
      refine q_iret rfl rfl rfl ?_
      exact am_ret_of (by rw [rd_fst_all hi]; rfl)
    · exfalso; omega

theorem s_82 {d : Nat} {Z : wZ} {Lg : Nat → Nat → Int64} {N : Nat} {X : Nat → Int32} {z : rd_Z} (hc : cR z Z) (hz : rd_ok z) (hB : zB z) {m : Nat} (hm : m < 7) {s : Int} (hs : iB s) : am_T am_tabs am_ar (d + 2) 82 [.ref 1, .int (iI m), .int (iI s)] (mW Z Lg N X) (am_bl (z 2 m ≤ s ∧ s ≤ z 4 m) (mW Z Lg N X)) := by
  refine ⟨⟨rfl, rfl⟩, ?_⟩
  show am_X (am_tb op_82) _ _ _
  refine r_iload rfl rfl ?_
  refine r_aload rfl rfl ?_
  refine q_getr rfl rfl rfl ?_
  refine r_iload rfl rfl ?_
  refine q_iald rfl rfl (by omega) (by omega) rfl (hc.2.2.1 m) ?_
  refine r_aload rfl rfl ?_
  refine q_getr rfl rfl rfl ?_
  refine r_iload rfl rfl ?_
  refine q_iald rfl rfl (by omega) (by omega) rfl (hc.2.2.2.2.1 m) ?_
  refine r_sb3 rfl rfl rfl rfl (s_27 hs (hB _ _) (hB _ _)) (fun h13 => ?_) (fun h13 => ?_)
  · refine q_zret rfl rfl rfl (by omega) ?_
    exact ⟨rfl, _, rfl, by omega⟩
  · refine q_zret rfl rfl rfl (by omega) ?_
    exact ⟨rfl, _, rfl, by omega⟩

theorem s_83 {d : Nat} {Z : wZ} {Lg : Nat → Nat → Int64} {N : Nat} {X : Nat → Int32} {z : rd_Z} (hc : cR z Z) (hz : rd_ok z) (hB : zB z) {m : Nat} (hm : m < 7)  : am_T am_tabs am_ar (d + 1) 83 [.ref 1, .int (iI m)] (mW Z Lg N X) (am_bl (z 6 m ≠ -1) (mW Z Lg N X)) := by
  refine ⟨⟨rfl, rfl⟩, ?_⟩
  show am_X (am_tb op_83) _ _ _
  refine r_aload rfl rfl ?_
  refine q_getr rfl rfl rfl ?_
  refine r_iload rfl rfl ?_
  refine q_iald rfl rfl (by omega) (by omega) rfl (hc.2.2.2.2.2.2.1 m) ?_
  refine r_push rfl ?_
  refine r_c0 rfl (by first | exact iB0 | exact iB1 | exact iBm | exact hB _ _ | exact hT _ (by omega) | exact ⟨by omega, by omega⟩) (by first | exact iB0 | exact iB1 | exact iBm | exact hB _ _ | exact hT _ (by omega) | exact ⟨by omega, by omega⟩) (fun h7 => ?_) (fun h7 => ?_)
  · refine r_push rfl ?_
    refine q_zret rfl rfl rfl (by omega) ?_
    exact ⟨rfl, _, rfl, by omega⟩
  · refine r_push rfl ?_
    refine r_goto rfl ?_
    refine q_zret rfl rfl rfl (by omega) ?_
    exact ⟨rfl, _, rfl, by omega⟩

theorem s_84 {d : Nat} {Z : wZ} {Lg : Nat → Nat → Int64} {N : Nat} {X : Nat → Int32} {z : rd_Z} (hc : cR z Z) (hz : rd_ok z) (hB : zB z) {a b : Nat} (ha : a < 7) (hb : b < 7) : am_T am_tabs am_ar (d + 1) 84 [.ref 1, .int (iI a), .int (iI b)] (mW Z Lg N X) (am_ret (iI (rd_gap z a b)) (mW Z Lg N X)) := by
  refine ⟨⟨rfl, rfl⟩, ?_⟩
  show am_X (am_tb op_84) _ _ _
  have ta := ok_ty hz ha
  have tb := ok_ty hz hb
  refine r_aload rfl rfl ?_
  refine q_getr rfl rfl rfl ?_
  refine r_aload rfl rfl ?_
  refine q_getr rfl rfl rfl ?_
  refine r_iload rfl rfl ?_
  refine q_iald rfl rfl (by omega) (by omega) rfl (hc.2.1 a) ?_
  refine q_aald rfl rfl (by omega) (by omega) rfl (gq (by omega)) ?_
  refine r_aload rfl rfl ?_
  refine q_getr rfl rfl rfl ?_
  refine r_iload rfl rfl ?_
  refine q_iald rfl rfl (by omega) (by omega) rfl (hc.2.1 b) ?_
  refine q_iald rfl (gs (by omega)) (by omega) (by omega) rfl (hc.2.2.2.2.2.2.2.1 _ _ (by omega) (by omega)) ?_
  refine q_iret rfl rfl rfl ?_
  exact am_ret_of rfl

theorem s_85 {d : Nat} {Z : wZ} {Lg : Nat → Nat → Int64} {N : Nat} {X : Nat → Int32} {z : rd_Z} (hc : cR z Z) (hz : rd_ok z) (hB : zB z) {m : Nat} (hm : m < 7) {s : Int} (hs : 0 ≤ s ∧ s ≤ 3000) : am_T am_tabs am_ar (d + 1) 85 [.ref 1, .int (iI m), .int (iI s)] (mW Z Lg N X) (am_ret (iI (rd_dl z m s)) (mW Z Lg N X)) := by
  refine ⟨⟨rfl, rfl⟩, ?_⟩
  show am_X (am_tb op_85) _ _ _
  have tr := ok_rg hz hm
  refine r_aload rfl rfl ?_
  refine q_getr rfl rfl rfl ?_
  refine r_iload rfl rfl ?_
  refine q_iald rfl rfl (by omega) (by omega) rfl (hc.2.2.2.2.2.1 m) ?_
  refine r_push rfl ?_
  refine r_iload rfl rfl ?_
  refine r_aload rfl rfl ?_
  refine q_getr rfl rfl rfl ?_
  refine r_iload rfl rfl ?_
  refine q_iald rfl rfl (by omega) (by omega) rfl (hc.2.2.2.1 m) ?_
  refine r_isub rfl ?_
  refine q_max rfl rfl rfl rfl (by first | exact iB0 | exact iB1 | exact iBm | exact hB _ _ | exact hT _ (by omega) | exact ⟨by omega, by omega⟩) (by first | exact iB0 | exact iB1 | exact iBm | exact hB _ _ | exact hT _ (by omega) | exact ⟨by omega, by omega⟩) ?_
  refine r_imul rfl ?_
  refine q_iret rfl rfl rfl ?_
  exact am_ret_of rfl

theorem s_86 {d : Nat} {Z : wZ} {Lg : Nat → Nat → Int64} {N : Nat} {X : Nat → Int32} {z : rd_Z} (hc : cR z Z) (hz : rd_ok z) (hB : zB z) {m : Nat} (hm : m < 7)  : am_T am_tabs am_ar (d + 2) 86 [.ref 1, .int (iI m)] (mW Z Lg N X) (am_ret (iI (rd_pl z m)) (mW Z Lg N X)) := by
  refine ⟨⟨rfl, rfl⟩, ?_⟩
  show am_X (am_tb op_86) _ _ _
  have e3 : Z 5 = z 3 := funext hc.2.2.2.1
  have hT : ∀ j, j < 7 → iB (Z 5 j) := fun j _ => e3 ▸ hB 3 j
  refine r_push rfl ?_
  refine r_istore rfl ?_
  refine r_push rfl ?_
  refine r_istore rfl ?_
  refine r_loop (fun o => (4, [some (.ref 1), some (.int (iI m)), some (.int (iI (rd_cnt (fun o => rd_th z o && rd_bf (z 3) o m) o))), some (.int (iI o))], [], mW Z Lg N X, 0, 0)) (fun o => True) 7 trivial (fun o ho hi hn => ?_) (fun hi => ?_)
  · (try dsimp only at hi); (try dsimp only at hn); (try dsimp only)
    refine r_iload rfl rfl ?_
    refine r_push rfl ?_
    refine r_c3 rfl (by first | exact iB0 | exact iB1 | exact iBm | exact hB _ _ | exact hT _ (by omega) | exact ⟨by omega, by omega⟩) (by first | exact iB0 | exact iB1 | exact iBm | exact hB _ _ | exact hT _ (by omega) | exact ⟨by omega, by omega⟩) (fun h7 => ?_) (fun h7 => ?_)
    · exfalso; omega
    · refine r_aload rfl rfl ?_
      refine q_getr rfl rfl rfl ?_
      refine r_iload rfl rfl ?_
      refine q_zald rfl rfl (by omega) (by omega) rfl (hc.1 o) ?_
      refine r_z0 rfl (by first | exact iB0 | exact iB1 | exact iBm | exact hB _ _ | exact hT _ (by omega) | exact ⟨by omega, by omega⟩) (fun h16 => ?_) (fun h16 => ?_)
      · refine r_iinc rfl rfl ?_
        refine r_goto rfl ?_
        first
        | exact am_X_of (hn trivial) (by rw [rd_cnt_t (p := (fun o => rd_th z o && rd_bf (z 3) o m)) (o := o) (by simp [rd_bf, rd_th] <;> omega)]; rfl)
        | exact am_X_of (hn trivial) (by rw [rd_cnt_f (p := (fun o => rd_th z o && rd_bf (z 3) o m)) (o := o) (by simp [rd_bf, rd_th] <;> omega)]; rfl)
      · refine r_aload rfl rfl ?_
        refine q_getr rfl rfl rfl ?_
        refine r_iload rfl rfl ?_
        refine r_iload rfl rfl ?_
        refine r_sb3 rfl rfl rfl rfl (e3 ▸ s_29 (k := 5) rfl hT ho hm) (fun h25 => ?_) (fun h25 => ?_)
        · refine r_f0 rfl (by first | exact iB0 | exact iB1 | exact iBm | exact hB _ _ | exact hT _ (by omega) | exact ⟨by omega, by omega⟩) (by omega) ?_
          refine r_iinc rfl rfl ?_
          refine r_iinc rfl rfl ?_
          refine r_goto rfl ?_
          first
          | exact am_X_of (hn trivial) (by rw [rd_cnt_t (p := (fun o => rd_th z o && rd_bf (z 3) o m)) (o := o) (by simp [rd_bf, rd_th] <;> omega)]; rfl)
          | exact am_X_of (hn trivial) (by rw [rd_cnt_f (p := (fun o => rd_th z o && rd_bf (z 3) o m)) (o := o) (by simp [rd_bf, rd_th] <;> omega)]; rfl)
        · refine r_t0 rfl (by first | exact iB0 | exact iB1 | exact iBm | exact hB _ _ | exact hT _ (by omega) | exact ⟨by omega, by omega⟩) (by omega) ?_
          refine r_iinc rfl rfl ?_
          refine r_goto rfl ?_
          first
          | exact am_X_of (hn trivial) (by rw [rd_cnt_t (p := (fun o => rd_th z o && rd_bf (z 3) o m)) (o := o) (by simp [rd_bf, rd_th] <;> omega)]; rfl)
          | exact am_X_of (hn trivial) (by rw [rd_cnt_f (p := (fun o => rd_th z o && rd_bf (z 3) o m)) (o := o) (by simp [rd_bf, rd_th] <;> omega)]; rfl)
  · (try dsimp only at hi); (try dsimp only)
    refine r_iload rfl rfl ?_
    refine r_push rfl ?_
    refine r_c3 rfl (by first | exact iB0 | exact iB1 | exact iBm | exact hB _ _ | exact hT _ (by omega) | exact ⟨by omega, by omega⟩) (by first | exact iB0 | exact iB1 | exact iBm | exact hB _ _ | exact hT _ (by omega) | exact ⟨by omega, by omega⟩) (fun h7 => ?_) (fun h7 => ?_)
    · refine r_iload rfl rfl ?_
      refine q_iret rfl rfl rfl ?_
      exact am_ret_of rfl
    · exfalso; omega

theorem s_87 {d : Nat} {Z : wZ} {Lg : Nat → Nat → Int64} {N : Nat} {X : Nat → Int32} {z : rd_Z} (hc : cR z Z) (hz : rd_ok z) (hB : zB z) {m : Nat} (hm : m < 7) {e p : Nat} (he : e ≤ 7) (hp : p ≤ 7) : am_T am_tabs am_ar (d + 2) 87 [.ref 1, .int (iI m), .int (iI e), .int (iI p)] (mW Z Lg N X) (am_bl (rd_may z m e p = true) (mW Z Lg N X)) := by
  refine ⟨⟨rfl, rfl⟩, ?_⟩
  show am_X (am_tb op_87) _ _ _
  refine r_aload rfl rfl ?_
  refine r_iload rfl rfl ?_
  refine r_kb1 rfl rfl rfl rfl rfl (s_83 hc hz hB hm) (fun h2 => ?_) (fun h2 => ?_)
  · refine r_t1 rfl (by first | exact iB0 | exact iB1 | exact iBm | exact hB _ _ | exact hT _ (by omega) | exact ⟨by omega, by omega⟩) (by omega) ?_
    refine r_push rfl ?_
    refine r_goto rfl ?_
    refine q_zret rfl rfl rfl (by omega) ?_
    exact ⟨rfl, _, rfl, by rw [may_iff]; omega⟩
  · refine r_f1 rfl (by first | exact iB0 | exact iB1 | exact iBm | exact hB _ _ | exact hT _ (by omega) | exact ⟨by omega, by omega⟩) (by omega) ?_
    refine r_iload rfl rfl ?_
    refine r_iload rfl rfl ?_
    refine r_isub rfl ?_
    refine q_abs rfl rfl rfl rfl (by first | exact iB0 | exact iB1 | exact iBm | exact hB _ _ | exact hT _ (by omega) | exact ⟨by omega, by omega⟩) ?_
    refine r_aload rfl rfl ?_
    refine q_geti rfl rfl rfl hc.2.2.2.2.2.2.2.2.2.2.2.2.1 ?_
    refine r_c4 rfl (by first | exact iB0 | exact iB1 | exact iBm | exact hB _ _ | exact hT _ (by omega) | exact ⟨by omega, by omega⟩) (by first | exact iB0 | exact iB1 | exact iBm | exact hB _ _ | exact hT _ (by omega) | exact ⟨by omega, by omega⟩) (fun h18 => ?_) (fun h18 => ?_)
    · refine r_push rfl ?_
      refine q_zret rfl rfl rfl (by omega) ?_
      exact ⟨rfl, _, rfl, by rw [may_iff]; omega⟩
    · refine r_push rfl ?_
      refine r_goto rfl ?_
      refine q_zret rfl rfl rfl (by omega) ?_
      exact ⟨rfl, _, rfl, by rw [may_iff]; omega⟩

theorem s_89 {d : Nat} {Z : wZ} {Lg : Nat → Nat → Int64} {N : Nat} {X : Nat → Int32} {z : rd_Z} (hc : cR z Z) (hz : rd_ok z) (hB : zB z) {s : Int} (hs : iB s) : am_T am_tabs am_ar (d + 1) 89 [.ref 1, .int (iI s)] (mW Z Lg N X) (am_ret (iI (oI (rd_fst (rd_in z s) (rd_nc z)))) (mW Z Lg N X)) := by
  refine ⟨⟨rfl, rfl⟩, ?_⟩
  show am_X (am_tb op_89) _ _ _
  have hnc := ok_nc hz
  refine r_push rfl ?_
  refine r_istore rfl ?_
  refine r_loop (fun o => (2, [some (.ref 1), some (.int (iI s)), some (.int (iI o))], [], mW Z Lg N X, 0, 0)) (fun o => ∀ j, j < o → rd_in z s j = false) (rd_nc z) fst_no (fun o ho hi hn => ?_) (fun hi => ?_)
  · (try dsimp only at hi); (try dsimp only at hn); (try dsimp only)
    refine r_iload rfl rfl ?_
    refine r_aload rfl rfl ?_
    refine q_geti rfl rfl rfl hc.2.2.2.2.2.2.2.2.2.2.2.1 ?_
    refine r_c3 rfl (by first | exact iB0 | exact iB1 | exact iBm | exact hB _ _ | exact hT _ (by omega) | exact ⟨by omega, by omega⟩) (by first | exact iB0 | exact iB1 | exact iBm | exact hB _ _ | exact hT _ (by omega) | exact ⟨by omega, by omega⟩) (fun h7 => ?_) (fun h7 => ?_)
    · exfalso; omega
    · refine r_aload rfl rfl ?_
      refine q_getr rfl rfl rfl ?_
      refine r_iload rfl rfl ?_
      refine q_iald rfl rfl (by omega) (by omega) rfl (hc.2.2.2.2.2.2.2.2.1 o) ?_
      refine r_iload rfl rfl ?_
      refine r_c4 rfl (hB _ _) hs (fun h17 => ?_) (fun h17 => ?_)
      · refine r_iinc rfl rfl ?_
        refine r_goto rfl ?_
        exact hn (fst_next hi (by simp [rd_in] <;> omega))
      · refine r_iload rfl rfl ?_
        refine r_aload rfl rfl ?_
        refine q_getr rfl rfl rfl ?_
        refine r_iload rfl rfl ?_
        refine q_iald rfl rfl (by omega) (by omega) rfl (hc.2.2.2.2.2.2.2.2.2.1 o) ?_
        refine r_c4 rfl hs (hB _ _) (fun h27 => ?_) (fun h27 => ?_)
        · refine r_iinc rfl rfl ?_
          refine r_goto rfl ?_
          exact hn (fst_next hi (by simp [rd_in] <;> omega))
        · refine r_iload rfl rfl ?_
          refine q_iret rfl rfl rfl ?_
          exact am_ret_of (by rw [rd_fst_stop ho hi (by simp [rd_in] <;> omega)]; rfl)
  · (try dsimp only at hi); (try dsimp only)
    refine r_iload rfl rfl ?_
    refine r_aload rfl rfl ?_
    refine q_geti rfl rfl rfl hc.2.2.2.2.2.2.2.2.2.2.2.1 ?_
    refine r_c3 rfl (by first | exact iB0 | exact iB1 | exact iBm | exact hB _ _ | exact hT _ (by omega) | exact ⟨by omega, by omega⟩) (by first | exact iB0 | exact iB1 | exact iBm | exact hB _ _ | exact hT _ (by omega) | exact ⟨by omega, by omega⟩) (fun h7 => ?_) (fun h7 => ?_)
    · refine r_push rfl ?_
      refine q_iret rfl rfl rfl ?_
      exact am_ret_of (by rw [rd_fst_all hi]; rfl)
    · exfalso; omega

theorem s_88 {d : Nat} {Z : wZ} {Lg : Nat → Nat → Int64} {N : Nat} {X : Nat → Int32} {z : rd_Z} (hc : cR z Z) (hz : rd_ok z) (hB : zB z) {s : Int} (hs : iB s) : am_T am_tabs am_ar (d + 2) 88 [.ref 1, .int (iI s)] (mW Z Lg N X) (am_bl (rd_cl z s = true) (mW Z Lg N X)) := by
  refine ⟨⟨rfl, rfl⟩, ?_⟩
  show am_X (am_tb op_88) _ _ _
  have hnc := ok_nc hz
  refine r_aload rfl rfl ?_
  refine r_iload rfl rfl ?_
  refine r_ki1 rfl rfl rfl rfl rfl (s_89 hc hz hB hs) ?_
  refine r_push rfl ?_
  refine r_c0 rfl (oI_B (by omega)) iBm (fun h6 => ?_) (fun h6 => ?_)
  · refine r_push rfl ?_
    refine q_zret rfl rfl rfl (by omega) ?_
    first
    | exact ⟨rfl, _, rfl, Or.inl ⟨rfl, by cases e : rd_cl z s with | true => rfl | false => exact absurd (fst_any.mpr e) h6⟩⟩
    | exact ⟨rfl, _, rfl, Or.inr ⟨rfl, by rw [show rd_cl z s = false from fst_any.mp h6]; simp⟩⟩
  · refine r_push rfl ?_
    refine r_goto rfl ?_
    refine q_zret rfl rfl rfl (by omega) ?_
    first
    | exact ⟨rfl, _, rfl, Or.inl ⟨rfl, by cases e : rd_cl z s with | true => rfl | false => exact absurd (fst_any.mpr e) h6⟩⟩
    | exact ⟨rfl, _, rfl, Or.inr ⟨rfl, by rw [show rd_cl z s = false from fst_any.mp h6]; simp⟩⟩

theorem fo_end {z : rd_Z} (hz : rd_ok z) {s t : Int} (h1 : s ≤ t) (h2 : ∀ u, s ≤ u → u < t → rd_cl z u = true) (h3 : rd_cl z t = false) : t = rd_fo z s := rd_Fo_one ⟨h1, h3, h2⟩ (rd_fo_ok z s (ok_nc hz).2)

theorem s_90 {d : Nat} {Z : wZ} {Lg : Nat → Nat → Int64} {N : Nat} {X : Nat → Int32} {z : rd_Z} (hc : cR z Z) (hz : rd_ok z) (hB : zB z) {s : Int} (hs : -100 ≤ s ∧ s ≤ 10000) : am_T am_tabs am_ar (d + 2) 90 [.ref 1, .int (iI s)] (mW Z Lg N X) (am_ret (iI (rd_fo z s)) (mW Z Lg N X)) := by
  refine ⟨⟨rfl, rfl⟩, ?_⟩
  show am_X (am_tb op_90) _ _ _
  have hnc := ok_nc hz
  refine r_iload rfl rfl ?_
  refine r_istore rfl ?_
  refine r_aload rfl rfl ?_
  refine r_iload rfl rfl ?_
  refine r_ki1 rfl rfl rfl rfl rfl (s_89 hc hz hB ⟨by omega, by omega⟩) ?_
  refine r_istore rfl ?_
  refine r_push rfl ?_
  refine r_istore rfl ?_
  refine r_loopS (fun o σ => ∃ t : Int, s ≤ t ∧ t ≤ 10000 ∧ o ≤ rd_ps z t ∧ (∀ u, s ≤ u → u < t → rd_cl z u = true) ∧ σ = (11, [some (.ref 1), some (.int (iI s)), some (.int (iI t)), some (.int (iI (oI (rd_fst (rd_in z t) (rd_nc z))))), some (.int (iI o))], [], mW Z Lg N X, 0, 0)) (rd_nc z) (fun o σ ho hS hn => ?_) (fun σ hS => ?_) ⟨s, by omega, by omega, by omega, fun u h1 h2 => absurd h2 (by omega), rfl⟩
  · obtain ⟨t, t1, t2, t3, t4, rfl⟩ := hS
    cases hf : rd_fst (rd_in z t) (rd_nc z) with
    | none =>
      have hcl : rd_cl z t = false := fst_any.mp (by rw [hf]; rfl)
      show am_X _ _ _ (11, [some (.ref 1), some (.int (iI s)), some (.int (iI t)), some (.int (iI (-1))), some (.int (iI o))], [], mW Z Lg N X, 0, 0)
      refine r_iload rfl rfl ?_
      refine r_aload rfl rfl ?_
      refine q_geti rfl rfl rfl hc.2.2.2.2.2.2.2.2.2.2.2.1 ?_
      refine r_c3 rfl (by first | exact iB0 | exact iB1 | exact iBm | exact hB _ _ | exact hT _ (by omega) | exact ⟨by omega, by omega⟩) (by first | exact iB0 | exact iB1 | exact iBm | exact hB _ _ | exact hT _ (by omega) | exact ⟨by omega, by omega⟩) (fun h17 => ?_) (fun h17 => ?_)
      · exfalso; omega
      · refine r_iload rfl rfl ?_
        refine r_push rfl ?_
        refine r_c0 rfl (by first | exact iB0 | exact iB1 | exact iBm | exact hB _ _ | exact hT _ (by omega) | exact ⟨by omega, by omega⟩) (by first | exact iB0 | exact iB1 | exact iBm | exact hB _ _ | exact hT _ (by omega) | exact ⟨by omega, by omega⟩) (fun h22 => ?_) (fun h22 => ?_)
        · refine r_iload rfl rfl ?_
          refine q_iret rfl rfl rfl ?_
          exact am_ret_of (fo_end hz t1 t4 hcl)
        · exfalso; omega
    | some c =>
      obtain ⟨c1, c2, c3⟩ := rd_fst_some hf
      have c4 := ok_cl hz c1
      have c5 : z 8 c ≤ t ∧ t ≤ z 9 c := by simpa [rd_in] using c2
      have c6 : rd_ps z t < rd_ps z (z 9 c + 1) := rd_ps_lt c1 c2 (by omega) (by omega)
      show am_X _ _ _ (11, [some (.ref 1), some (.int (iI s)), some (.int (iI t)), some (.int (iI (c : Int))), some (.int (iI o))], [], mW Z Lg N X, 0, 0)
      refine r_iload rfl rfl ?_
      refine r_aload rfl rfl ?_
      refine q_geti rfl rfl rfl hc.2.2.2.2.2.2.2.2.2.2.2.1 ?_
      refine r_c3 rfl (by first | exact iB0 | exact iB1 | exact iBm | exact hB _ _ | exact hT _ (by omega) | exact ⟨by omega, by omega⟩) (by first | exact iB0 | exact iB1 | exact iBm | exact hB _ _ | exact hT _ (by omega) | exact ⟨by omega, by omega⟩) (fun h17 => ?_) (fun h17 => ?_)
      · exfalso; omega
      · refine r_iload rfl rfl ?_
        refine r_push rfl ?_
        refine r_c0 rfl (by first | exact iB0 | exact iB1 | exact iBm | exact hB _ _ | exact hT _ (by omega) | exact ⟨by omega, by omega⟩) (by first | exact iB0 | exact iB1 | exact iBm | exact hB _ _ | exact hT _ (by omega) | exact ⟨by omega, by omega⟩) (fun h22 => ?_) (fun h22 => ?_)
        · exfalso; omega
        · refine r_aload rfl rfl ?_
          refine q_getr rfl rfl rfl ?_
          refine r_iload rfl rfl ?_
          refine q_iald rfl rfl (by omega) (by omega) rfl (hc.2.2.2.2.2.2.2.2.2.1 c) ?_
          refine r_push rfl ?_
          refine r_iadd rfl ?_
          refine r_istore rfl ?_
          refine r_aload rfl rfl ?_
          refine r_iload rfl rfl ?_
          refine r_ki1 rfl rfl rfl rfl rfl (s_89 hc hz hB ⟨by omega, by omega⟩) ?_
          refine r_istore rfl ?_
          refine r_iinc rfl rfl ?_
          refine r_goto rfl ?_
          refine hn _ ⟨z 9 c + 1, by omega, by omega, by omega, fun u h1 h2 => ?_, rfl⟩
          by_cases e : u < t
          · exact t4 u h1 e
          · exact rd_any_iff.mpr ⟨c, c1, by simp [rd_in]; omega⟩
  · obtain ⟨t, t1, t2, t3, t4, rfl⟩ := hS
    have hcl : rd_cl z t = false := rd_ps_full t3
    refine r_iload rfl rfl ?_
    refine r_aload rfl rfl ?_
    refine q_geti rfl rfl rfl hc.2.2.2.2.2.2.2.2.2.2.2.1 ?_
    refine r_c3 rfl (by first | exact iB0 | exact iB1 | exact iBm | exact hB _ _ | exact hT _ (by omega) | exact ⟨by omega, by omega⟩) (by first | exact iB0 | exact iB1 | exact iBm | exact hB _ _ | exact hT _ (by omega) | exact ⟨by omega, by omega⟩) (fun h17 => ?_) (fun h17 => ?_)
    · refine r_iload rfl rfl ?_
      refine q_iret rfl rfl rfl ?_
      exact am_ret_of (fo_end hz t1 t4 hcl)
    · exfalso; omega

theorem s_91 {d : Nat} {Z : wZ} {Lg : Nat → Nat → Int64} {N : Nat} {X : Nat → Int32} {z : rd_Z} (hc : cR z Z) (hz : rd_ok z) (hB : zB z) {m : Nat} (hm : m < 7) {f : Int} (hf : -100 ≤ f ∧ f ≤ 10000) : am_T am_tabs am_ar (d + 3) 91 [.ref 1, .int (iI m), .int (iI f)] (mW Z Lg N X) (am_ret (iI (rd_sec z m f)) (mW Z Lg N X)) := by
  refine ⟨⟨rfl, rfl⟩, ?_⟩
  show am_X (am_tb op_91) _ _ _
  have hr := ok_rg hz hm
  have hfr := ok_fr hz hm
  have hfo := fo_B hz (s := max f (z 2 m)) (by omega)
  refine r_aload rfl rfl ?_
  refine r_iload rfl rfl ?_
  refine r_kb1 rfl rfl rfl rfl rfl (s_83 hc hz hB hm) (fun h2 => ?_) (fun h2 => ?_)
  · refine r_f0 rfl (by first | exact iB0 | exact iB1 | exact iBm | exact hB _ _ | exact hT _ (by omega) | exact ⟨by omega, by omega⟩) (by omega) ?_
    refine r_iload rfl rfl ?_
    refine r_aload rfl rfl ?_
    refine q_getr rfl rfl rfl ?_
    refine r_iload rfl rfl ?_
    refine q_iald rfl rfl (by omega) (by omega) rfl (hc.2.2.2.2.2.2.1 m) ?_
    refine r_c4 rfl (by first | exact iB0 | exact iB1 | exact iBm | exact hB _ _ | exact hT _ (by omega) | exact ⟨by omega, by omega⟩) (by first | exact iB0 | exact iB1 | exact iBm | exact hB _ _ | exact hT _ (by omega) | exact ⟨by omega, by omega⟩) (fun h15 => ?_) (fun h15 => ?_)
    · refine r_push rfl ?_
      refine q_iret rfl rfl rfl ?_
      first
      | exact am_ret_of (sec_f1 h2 (by omega) (Bool.eq_false_iff.mpr h25)).symm
      | exact am_ret_of (sec_f2 h2 (fun q => by omega)).symm
      | exact am_ret_of (sec_f2 h2 (fun q => by rw [h25] at q; simp at q)).symm
    · refine r_aload rfl rfl ?_
      refine r_aload rfl rfl ?_
      refine q_getr rfl rfl rfl ?_
      refine r_iload rfl rfl ?_
      refine q_iald rfl rfl (by omega) (by omega) rfl (hc.2.2.2.2.2.2.1 m) ?_
      refine r_kb1 rfl rfl rfl rfl rfl (s_88 hc hz hB (hB _ _)) (fun h25 => ?_) (fun h25 => ?_)
      · refine r_t1 rfl (by first | exact iB0 | exact iB1 | exact iBm | exact hB _ _ | exact hT _ (by omega) | exact ⟨by omega, by omega⟩) (by omega) ?_
        refine r_push rfl ?_
        refine q_iret rfl rfl rfl ?_
        first
        | exact am_ret_of (sec_f1 h2 (by omega) (Bool.eq_false_iff.mpr h25)).symm
        | exact am_ret_of (sec_f2 h2 (fun q => by omega)).symm
        | exact am_ret_of (sec_f2 h2 (fun q => by rw [h25] at q; simp at q)).symm
      · refine r_f1 rfl (by first | exact iB0 | exact iB1 | exact iBm | exact hB _ _ | exact hT _ (by omega) | exact ⟨by omega, by omega⟩) (by omega) ?_
        refine r_aload rfl rfl ?_
        refine q_getr rfl rfl rfl ?_
        refine r_iload rfl rfl ?_
        refine q_iald rfl rfl (by omega) (by omega) rfl (hc.2.2.2.2.2.2.1 m) ?_
        refine r_goto rfl ?_
        refine q_iret rfl rfl rfl ?_
        first
        | exact am_ret_of (sec_f1 h2 (by omega) (Bool.eq_false_iff.mpr h25)).symm
        | exact am_ret_of (sec_f2 h2 (fun q => by omega)).symm
        | exact am_ret_of (sec_f2 h2 (fun q => by rw [h25] at q; simp at q)).symm
  · refine r_t0 rfl (by first | exact iB0 | exact iB1 | exact iBm | exact hB _ _ | exact hT _ (by omega) | exact ⟨by omega, by omega⟩) (by omega) ?_
    refine r_aload rfl rfl ?_
    refine r_iload rfl rfl ?_
    refine r_aload rfl rfl ?_
    refine q_getr rfl rfl rfl ?_
    refine r_iload rfl rfl ?_
    refine q_iald rfl rfl (by omega) (by omega) rfl (hc.2.2.1 m) ?_
    refine q_max rfl rfl rfl rfl (by first | exact iB0 | exact iB1 | exact iBm | exact hB _ _ | exact hT _ (by omega) | exact ⟨by omega, by omega⟩) (by first | exact iB0 | exact iB1 | exact iBm | exact hB _ _ | exact hT _ (by omega) | exact ⟨by omega, by omega⟩) ?_
    refine r_ki1 rfl rfl rfl rfl rfl (s_90 hc hz hB ⟨by omega, by omega⟩) ?_
    refine r_istore rfl ?_
    refine r_iload rfl rfl ?_
    refine r_aload rfl rfl ?_
    refine q_getr rfl rfl rfl ?_
    refine r_iload rfl rfl ?_
    refine q_iald rfl rfl (by omega) (by omega) rfl (hc.2.2.2.2.1 m) ?_
    refine r_c4 rfl (by first | exact iB0 | exact iB1 | exact iBm | exact hB _ _ | exact hT _ (by omega) | exact ⟨by omega, by omega⟩) (by first | exact iB0 | exact iB1 | exact iBm | exact hB _ _ | exact hT _ (by omega) | exact ⟨by omega, by omega⟩) (fun h64 => ?_) (fun h64 => ?_)
    · refine r_push rfl ?_
      refine q_iret rfl rfl rfl ?_
      first
      | exact am_ret_of (sec_n1 (by omega) (by omega)).symm
      | exact am_ret_of (sec_n2 (by omega) (by omega)).symm
    · refine r_iload rfl rfl ?_
      refine r_goto rfl ?_
      refine q_iret rfl rfl rfl ?_
      first
      | exact am_ret_of (sec_n1 (by omega) (by omega)).symm
      | exact am_ret_of (sec_n2 (by omega) (by omega)).symm

theorem s_93 {d : Nat} {Z : wZ} {Lg : Nat → Nat → Int64} {N : Nat} {X : Nat → Int32} {z : rd_Z} (hc : cR z Z) (hz : rd_ok z) (hB : zB z) {m : Nat} (hm : m < 7) {s : Int} (hs : -10000 ≤ s ∧ s ≤ 10000) {e : Nat} (he : e < 7) {t : Int} (ht : -10000 ≤ t ∧ t ≤ 10000) : am_T am_tabs am_ar (d + 2) 93 [.ref 1, .int (iI m), .int (iI s), .int (iI e), .int (iI t)] (mW Z Lg N X) (am_bl (rd_near z m s e t) (mW Z Lg N X)) := by
  refine ⟨⟨rfl, rfl⟩, ?_⟩
  show am_X (am_tb op_93) _ _ _
  have g1 := rd_gap_ge hz hm he
  have g2 := rd_gap_ge hz he hm
  unfold rd_near
  refine r_iload rfl rfl ?_
  refine r_iload rfl rfl ?_
  refine r_c3 rfl (by first | exact iB0 | exact iB1 | exact iBm | exact hB _ _ | exact hT _ (by omega) | exact ⟨by omega, by omega⟩) (by first | exact iB0 | exact iB1 | exact iBm | exact hB _ _ | exact hT _ (by omega) | exact ⟨by omega, by omega⟩) (fun h3 => ?_) (fun h3 => ?_)
  · refine r_iload rfl rfl ?_
    refine r_iload rfl rfl ?_
    refine r_isub rfl ?_
    refine r_aload rfl rfl ?_
    refine r_iload rfl rfl ?_
    refine r_iload rfl rfl ?_
    refine r_ki2 rfl rfl rfl rfl rfl (s_84 hc hz hB he hm) ?_
    refine r_c3 rfl (by first | exact iB0 | exact iB1 | exact iBm | exact hB _ _ | exact hT _ (by omega) | exact ⟨by omega, by omega⟩) (by first | exact iB0 | exact iB1 | exact iBm | exact hB _ _ | exact hT _ (by omega) | exact ⟨by omega, by omega⟩) (fun h37 => ?_) (fun h37 => ?_)
    · refine r_push rfl ?_
      refine q_zret rfl rfl rfl (by omega) ?_
      first
      | exact ⟨rfl, _, rfl, by rw [if_pos (by omega)]; omega⟩
      | exact ⟨rfl, _, rfl, by rw [if_neg (by omega)]; omega⟩
    · refine r_push rfl ?_
      refine r_goto rfl ?_
      refine q_zret rfl rfl rfl (by omega) ?_
      first
      | exact ⟨rfl, _, rfl, by rw [if_pos (by omega)]; omega⟩
      | exact ⟨rfl, _, rfl, by rw [if_neg (by omega)]; omega⟩
  · refine r_iload rfl rfl ?_
    refine r_iload rfl rfl ?_
    refine r_isub rfl ?_
    refine r_aload rfl rfl ?_
    refine r_iload rfl rfl ?_
    refine r_iload rfl rfl ?_
    refine r_ki2 rfl rfl rfl rfl rfl (s_84 hc hz hB hm he) ?_
    refine r_c3 rfl (by first | exact iB0 | exact iB1 | exact iBm | exact hB _ _ | exact hT _ (by omega) | exact ⟨by omega, by omega⟩) (by first | exact iB0 | exact iB1 | exact iBm | exact hB _ _ | exact hT _ (by omega) | exact ⟨by omega, by omega⟩) (fun h16 => ?_) (fun h16 => ?_)
    · refine r_push rfl ?_
      refine r_goto rfl ?_
      refine q_zret rfl rfl rfl (by omega) ?_
      first
      | exact ⟨rfl, _, rfl, by rw [if_pos (by omega)]; omega⟩
      | exact ⟨rfl, _, rfl, by rw [if_neg (by omega)]; omega⟩
    · refine r_push rfl ?_
      refine r_goto rfl ?_
      refine q_zret rfl rfl rfl (by omega) ?_
      first
      | exact ⟨rfl, _, rfl, by rw [if_pos (by omega)]; omega⟩
      | exact ⟨rfl, _, rfl, by rw [if_neg (by omega)]; omega⟩

/-- is one of the others frozen too near -/
def rd_nf (z : rd_Z) (m : Nat) (s : Int) (o : Nat) : Prop := o ≠ m ∧ z 0 o ≠ 0 ∧ z 6 o ≠ -1 ∧ rd_near z m s o (z 6 o)

theorem s_92 {d : Nat} {Z : wZ} {Lg : Nat → Nat → Int64} {N : Nat} {X : Nat → Int32} {z : rd_Z} (hc : cR z Z) (hz : rd_ok z) (hB : zB z) {m : Nat} (hm : m < 7) {s : Int} (hs : -10000 ≤ s ∧ s ≤ 10000) : am_T am_tabs am_ar (d + 3) 92 [.ref 1, .int (iI m), .int (iI s)] (mW Z Lg N X) (am_bl (∃ o, o < 7 ∧ rd_nf z m s o) (mW Z Lg N X)) := by
  refine ⟨⟨rfl, rfl⟩, ?_⟩
  show am_X (am_tb op_92) _ _ _
  refine r_push rfl ?_
  refine r_istore rfl ?_
  refine r_loop (fun o => (2, [some (.ref 1), some (.int (iI m)), some (.int (iI s)), some (.int (iI o))], [], mW Z Lg N X, 0, 0)) (fun o => ∀ j, j < o → ¬ rd_nf z m s j) 7 (fun j hj => absurd hj (by omega)) (fun o ho hi hn => ?_) (fun hi => ?_)
  · (try dsimp only at hi); (try dsimp only at hn); (try dsimp only)
    have hfr := ok_fr hz ho
    refine r_iload rfl rfl ?_
    refine r_push rfl ?_
    refine r_c3 rfl (by first | exact iB0 | exact iB1 | exact iBm | exact hB _ _ | exact hT _ (by omega) | exact ⟨by omega, by omega⟩) (by first | exact iB0 | exact iB1 | exact iBm | exact hB _ _ | exact hT _ (by omega) | exact ⟨by omega, by omega⟩) (fun h5 => ?_) (fun h5 => ?_)
    · exfalso; omega
    · refine r_iload rfl rfl ?_
      refine r_iload rfl rfl ?_
      refine r_c0 rfl (by first | exact iB0 | exact iB1 | exact iBm | exact hB _ _ | exact hT _ (by omega) | exact ⟨by omega, by omega⟩) (by first | exact iB0 | exact iB1 | exact iBm | exact hB _ _ | exact hT _ (by omega) | exact ⟨by omega, by omega⟩) (fun h10 => ?_) (fun h10 => ?_)
      · refine r_iinc rfl rfl ?_
        refine r_goto rfl ?_
        refine hn (fun j hj => ?_)
        by_cases e : j = o
        · subst e
          first
          | exact fun q => q.1 (by omega)
          | exact fun q => q.2.1 (by omega)
          | exact fun q => h24 q.2.2.1
          | exact fun q => h40 q.2.2.2
        · exact hi j (by omega)
      · refine r_aload rfl rfl ?_
        refine q_getr rfl rfl rfl ?_
        refine r_iload rfl rfl ?_
        refine q_zald rfl rfl (by omega) (by omega) rfl (hc.1 o) ?_
        refine r_z0 rfl (by first | exact iB0 | exact iB1 | exact iBm | exact hB _ _ | exact hT _ (by omega) | exact ⟨by omega, by omega⟩) (fun h19 => ?_) (fun h19 => ?_)
        · refine r_iinc rfl rfl ?_
          refine r_goto rfl ?_
          refine hn (fun j hj => ?_)
          by_cases e : j = o
          · subst e
            first
            | exact fun q => q.1 (by omega)
            | exact fun q => q.2.1 (by omega)
            | exact fun q => h24 q.2.2.1
            | exact fun q => h40 q.2.2.2
          · exact hi j (by omega)
        · refine r_aload rfl rfl ?_
          refine r_iload rfl rfl ?_
          refine r_kb1 rfl rfl rfl rfl rfl (s_83 hc hz hB ho) (fun h24 => ?_) (fun h24 => ?_)
          · refine r_f0 rfl (by first | exact iB0 | exact iB1 | exact iBm | exact hB _ _ | exact hT _ (by omega) | exact ⟨by omega, by omega⟩) (by omega) ?_
            refine r_aload rfl rfl ?_
            refine r_iload rfl rfl ?_
            refine r_iload rfl rfl ?_
            refine r_iload rfl rfl ?_
            refine r_aload rfl rfl ?_
            refine q_getr rfl rfl rfl ?_
            refine r_iload rfl rfl ?_
            refine q_iald rfl rfl (by omega) (by omega) rfl (hc.2.2.2.2.2.2.1 o) ?_
            refine r_kb4 rfl rfl rfl rfl rfl (s_93 hc hz hB hm hs ho ⟨by omega, by omega⟩) (fun h40 => ?_) (fun h40 => ?_)
            · refine r_f0 rfl (by first | exact iB0 | exact iB1 | exact iBm | exact hB _ _ | exact hT _ (by omega) | exact ⟨by omega, by omega⟩) (by omega) ?_
              refine r_push rfl ?_
              refine q_zret rfl rfl rfl (by omega) ?_
              exact ⟨rfl, _, rfl, Or.inl ⟨rfl, o, ho, by omega, by omega, h24, h40⟩⟩
            · refine r_t0 rfl (by first | exact iB0 | exact iB1 | exact iBm | exact hB _ _ | exact hT _ (by omega) | exact ⟨by omega, by omega⟩) (by omega) ?_
              refine r_iinc rfl rfl ?_
              refine r_goto rfl ?_
              refine hn (fun j hj => ?_)
              by_cases e : j = o
              · subst e
                first
                | exact fun q => q.1 (by omega)
                | exact fun q => q.2.1 (by omega)
                | exact fun q => h24 q.2.2.1
                | exact fun q => h40 q.2.2.2
              · exact hi j (by omega)
          · refine r_t0 rfl (by first | exact iB0 | exact iB1 | exact iBm | exact hB _ _ | exact hT _ (by omega) | exact ⟨by omega, by omega⟩) (by omega) ?_
            refine r_iinc rfl rfl ?_
            refine r_goto rfl ?_
            refine hn (fun j hj => ?_)
            by_cases e : j = o
            · subst e
              first
              | exact fun q => q.1 (by omega)
              | exact fun q => q.2.1 (by omega)
              | exact fun q => h24 q.2.2.1
              | exact fun q => h40 q.2.2.2
            · exact hi j (by omega)
  · (try dsimp only at hi); (try dsimp only)
    refine r_iload rfl rfl ?_
    refine r_push rfl ?_
    refine r_c3 rfl (by first | exact iB0 | exact iB1 | exact iBm | exact hB _ _ | exact hT _ (by omega) | exact ⟨by omega, by omega⟩) (by first | exact iB0 | exact iB1 | exact iBm | exact hB _ _ | exact hT _ (by omega) | exact ⟨by omega, by omega⟩) (fun h5 => ?_) (fun h5 => ?_)
    · refine r_push rfl ?_
      refine q_zret rfl rfl rfl (by omega) ?_
      exact ⟨rfl, _, rfl, Or.inr ⟨rfl, fun ⟨j, hj, q⟩ => hi j hj q⟩⟩
    · exfalso; omega

theorem s_96 {d : Nat} {Z : wZ} {Lg : Nat → Nat → Int64} {N : Nat} {X : Nat → Int32} {z : rd_Z} (hc : cR z Z) (hz : rd_ok z) (hB : zB z) {k : Nat} (hk : SH[k]? = some (0, 7, [])) (hP : pB Z k) {m : Nat} (hm : m < 7)  : am_T am_tabs am_ar (d + 2) 96 [.ref 1, .int (iI m), .ref k] (mW Z Lg N X) (am_bl (rd_nr z (Z k) m = true) (mW Z Lg N X)) := by
  refine ⟨⟨rfl, rfl⟩, ?_⟩
  show am_X (am_tb op_96) _ _ _
  have hT := pB_iB hP
  refine r_push rfl ?_
  refine r_istore rfl ?_
  refine r_loop (fun o => (2, [some (.ref 1), some (.int (iI m)), some (.ref k), some (.int (iI o))], [], mW Z Lg N X, 0, 0)) (fun o => ∀ j, j < o → (fun o => decide (Z k o ≠ -1) && rd_bf (Z k) o m && decide (Z k m - Z k o < rd_gap z o m)) j = false) 7 fst_no (fun o ho hi hn => ?_) (fun hi => ?_)
  · (try dsimp only at hi); (try dsimp only at hn); (try dsimp only)
    have gg := rd_gap_ge hz ho hm
    have p1 := hP o ho
    have p2 := hP m hm
    refine r_iload rfl rfl ?_
    refine r_push rfl ?_
    refine r_c3 rfl (by first | exact iB0 | exact iB1 | exact iBm | exact hB _ _ | exact hT _ (by omega) | exact ⟨by omega, by omega⟩) (by first | exact iB0 | exact iB1 | exact iBm | exact hB _ _ | exact hT _ (by omega) | exact ⟨by omega, by omega⟩) (fun h5 => ?_) (fun h5 => ?_)
    · exfalso; omega
    · refine r_aload rfl rfl ?_
      refine r_iload rfl rfl ?_
      refine q_iald rfl hk (by omega) (by omega) rfl (rfl : _ = Z k o) ?_
      refine r_push rfl ?_
      refine r_c0 rfl (by first | exact iB0 | exact iB1 | exact iBm | exact hB _ _ | exact hT _ (by omega) | exact ⟨by omega, by omega⟩) (by first | exact iB0 | exact iB1 | exact iBm | exact hB _ _ | exact hT _ (by omega) | exact ⟨by omega, by omega⟩) (fun h12 => ?_) (fun h12 => ?_)
      · refine r_iinc rfl rfl ?_
        refine r_goto rfl ?_
        exact hn (fst_next hi (by simp [rd_bf] <;> omega))
      · refine r_aload rfl rfl ?_
        refine r_iload rfl rfl ?_
        refine r_iload rfl rfl ?_
        refine r_sb3 rfl rfl rfl rfl (s_29 hk hT ho hm) (fun h18 => ?_) (fun h18 => ?_)
        · refine r_f0 rfl (by first | exact iB0 | exact iB1 | exact iBm | exact hB _ _ | exact hT _ (by omega) | exact ⟨by omega, by omega⟩) (by omega) ?_
          refine r_aload rfl rfl ?_
          refine r_iload rfl rfl ?_
          refine q_iald rfl hk (by omega) (by omega) rfl (rfl : _ = Z k m) ?_
          refine r_aload rfl rfl ?_
          refine r_iload rfl rfl ?_
          refine q_iald rfl hk (by omega) (by omega) rfl (rfl : _ = Z k o) ?_
          refine r_isub rfl ?_
          refine r_aload rfl rfl ?_
          refine r_iload rfl rfl ?_
          refine r_iload rfl rfl ?_
          refine r_ki2 rfl rfl rfl rfl rfl (s_84 hc hz hB ho hm) ?_
          refine r_c3 rfl (by first | exact iB0 | exact iB1 | exact iBm | exact hB _ _ | exact hT _ (by omega) | exact ⟨by omega, by omega⟩) (by first | exact iB0 | exact iB1 | exact iBm | exact hB _ _ | exact hT _ (by omega) | exact ⟨by omega, by omega⟩) (fun h37 => ?_) (fun h37 => ?_)
          · refine r_iinc rfl rfl ?_
            refine r_goto rfl ?_
            exact hn (fst_next hi (by simp [rd_bf] <;> omega))
          · refine r_push rfl ?_
            refine q_zret rfl rfl rfl (by omega) ?_
            exact ⟨rfl, _, rfl, Or.inl ⟨rfl, rd_any_iff.mpr ⟨o, ho, by simp [rd_bf] <;> omega⟩⟩⟩
        · refine r_t0 rfl (by first | exact iB0 | exact iB1 | exact iBm | exact hB _ _ | exact hT _ (by omega) | exact ⟨by omega, by omega⟩) (by omega) ?_
          refine r_iinc rfl rfl ?_
          refine r_goto rfl ?_
          exact hn (fst_next hi (by simp [rd_bf] <;> omega))
  · (try dsimp only at hi); (try dsimp only)
    refine r_iload rfl rfl ?_
    refine r_push rfl ?_
    refine r_c3 rfl (by first | exact iB0 | exact iB1 | exact iBm | exact hB _ _ | exact hT _ (by omega) | exact ⟨by omega, by omega⟩) (by first | exact iB0 | exact iB1 | exact iBm | exact hB _ _ | exact hT _ (by omega) | exact ⟨by omega, by omega⟩) (fun h5 => ?_) (fun h5 => ?_)
    · refine r_push rfl ?_
      refine q_zret rfl rfl rfl (by omega) ?_
      exact ⟨rfl, _, rfl, Or.inr ⟨rfl, by rw [show rd_nr z (Z k) m = false from rd_any_false.mpr hi]; simp⟩⟩
    · exfalso; omega

theorem s_95 {d : Nat} {Z : wZ} {Lg : Nat → Nat → Int64} {N : Nat} {X : Nat → Int32} {z : rd_Z} (hc : cR z Z) (hz : rd_ok z) (hB : zB z) {k : Nat} (hk : SH[k]? = some (0, 7, [])) (hP : pB Z k) {m : Nat} (hm : m < 7)  : am_T am_tabs am_ar (d + 3) 95 [.ref 1, .int (iI m), .ref k] (mW Z Lg N X) (am_bl (rd_sf z (Z k) m = true) (mW Z Lg N X)) := by
  refine ⟨⟨rfl, rfl⟩, ?_⟩
  show am_X (am_tb op_95) _ _ _
  have hT := pB_iB hP
  have p2 := hP m hm
  have l1 : rd_pi (Z k) m ≤ 7 := rd_cnt_le _ _
  have l2 : rd_pl z m ≤ 7 := rd_cnt_le _ _
  refine r_aload rfl rfl ?_
  refine r_iload rfl rfl ?_
  refine q_iald rfl hk (by omega) (by omega) rfl (rfl : _ = Z k m) ?_
  refine r_istore rfl ?_
  refine r_iload rfl rfl ?_
  refine r_push rfl ?_
  refine r_c0 rfl (by first | exact iB0 | exact iB1 | exact iBm | exact hB _ _ | exact hT _ (by omega) | exact ⟨by omega, by omega⟩) (by first | exact iB0 | exact iB1 | exact iBm | exact hB _ _ | exact hT _ (by omega) | exact ⟨by omega, by omega⟩) (fun h6 => ?_) (fun h6 => ?_)
  · refine r_push rfl ?_
    refine q_zret rfl rfl rfl (by omega) ?_
    first
    | exact ⟨rfl, _, rfl, Or.inr ⟨rfl, fun q => by obtain ⟨q1, q2, q3, q4, q5, q6⟩ := rd_sf_iff.mp q; first | omega | (simp_all; done)⟩⟩
    | exact ⟨rfl, _, rfl, Or.inl ⟨rfl, rd_sf_iff.mpr ⟨by omega, by omega, by simp_all, by omega, by simp_all, h69⟩⟩⟩
  · refine r_aload rfl rfl ?_
    refine r_iload rfl rfl ?_
    refine r_iload rfl rfl ?_
    refine r_kb2 rfl rfl rfl rfl rfl (s_82 hc hz hB hm (hT m hm)) (fun h12 => ?_) (fun h12 => ?_)
    · refine r_f0 rfl (by first | exact iB0 | exact iB1 | exact iBm | exact hB _ _ | exact hT _ (by omega) | exact ⟨by omega, by omega⟩) (by omega) ?_
      refine r_aload rfl rfl ?_
      refine r_iload rfl rfl ?_
      refine r_kb1 rfl rfl rfl rfl rfl (s_88 hc hz hB (hT m hm)) (fun h20 => ?_) (fun h20 => ?_)
      · refine r_f0 rfl (by first | exact iB0 | exact iB1 | exact iBm | exact hB _ _ | exact hT _ (by omega) | exact ⟨by omega, by omega⟩) (by omega) ?_
        refine r_push rfl ?_
        refine q_zret rfl rfl rfl (by omega) ?_
        first
        | exact ⟨rfl, _, rfl, Or.inr ⟨rfl, fun q => by obtain ⟨q1, q2, q3, q4, q5, q6⟩ := rd_sf_iff.mp q; first | omega | (simp_all; done)⟩⟩
        | exact ⟨rfl, _, rfl, Or.inl ⟨rfl, rd_sf_iff.mpr ⟨by omega, by omega, by simp_all, by omega, by simp_all, h69⟩⟩⟩
      · refine r_t0 rfl (by first | exact iB0 | exact iB1 | exact iBm | exact hB _ _ | exact hT _ (by omega) | exact ⟨by omega, by omega⟩) (by omega) ?_
        refine r_aload rfl rfl ?_
        refine r_iload rfl rfl ?_
        refine r_kb1 rfl rfl rfl rfl rfl (s_83 hc hz hB hm) (fun h30 => ?_) (fun h30 => ?_)
        · refine r_f0 rfl (by first | exact iB0 | exact iB1 | exact iBm | exact hB _ _ | exact hT _ (by omega) | exact ⟨by omega, by omega⟩) (by omega) ?_
          refine r_aload rfl rfl ?_
          refine q_getr rfl rfl rfl ?_
          refine r_iload rfl rfl ?_
          refine q_iald rfl rfl (by omega) (by omega) rfl (hc.2.2.2.2.2.2.1 m) ?_
          refine r_iload rfl rfl ?_
          refine r_c0 rfl (by first | exact iB0 | exact iB1 | exact iBm | exact hB _ _ | exact hT _ (by omega) | exact ⟨by omega, by omega⟩) (by first | exact iB0 | exact iB1 | exact iBm | exact hB _ _ | exact hT _ (by omega) | exact ⟨by omega, by omega⟩) (fun h43 => ?_) (fun h43 => ?_)
          · refine r_aload rfl rfl ?_
            refine r_iload rfl rfl ?_
            refine r_aload rfl rfl ?_
            refine r_kb2 rfl rfl rfl rfl rfl (s_96 hc hz hB hk hP hm) (fun h51 => ?_) (fun h51 => ?_)
            · refine r_t1 rfl (by first | exact iB0 | exact iB1 | exact iBm | exact hB _ _ | exact hT _ (by omega) | exact ⟨by omega, by omega⟩) (by omega) ?_
              refine r_push rfl ?_
              refine q_zret rfl rfl rfl (by omega) ?_
              first
              | exact ⟨rfl, _, rfl, Or.inr ⟨rfl, fun q => by obtain ⟨q1, q2, q3, q4, q5, q6⟩ := rd_sf_iff.mp q; first | omega | (simp_all; done)⟩⟩
              | exact ⟨rfl, _, rfl, Or.inl ⟨rfl, rd_sf_iff.mpr ⟨by omega, by omega, by simp_all, by omega, by simp_all, h69⟩⟩⟩
            · refine r_f1 rfl (by first | exact iB0 | exact iB1 | exact iBm | exact hB _ _ | exact hT _ (by omega) | exact ⟨by omega, by omega⟩) (by omega) ?_
              refine r_aload rfl rfl ?_
              refine r_iload rfl rfl ?_
              refine r_aload rfl rfl ?_
              refine r_iload rfl rfl ?_
              refine r_si2 rfl rfl rfl rfl (s_30 hk hT hm) ?_
              refine r_aload rfl rfl ?_
              refine r_iload rfl rfl ?_
              refine r_ki1 rfl rfl rfl rfl rfl (s_86 hc hz hB hm) ?_
              refine r_kb3 rfl rfl rfl rfl rfl (s_87 hc hz hB hm l1 l2) (fun h69 => ?_) (fun h69 => ?_)
              · refine r_f0 rfl (by first | exact iB0 | exact iB1 | exact iBm | exact hB _ _ | exact hT _ (by omega) | exact ⟨by omega, by omega⟩) (by omega) ?_
                refine r_push rfl ?_
                refine r_goto rfl ?_
                refine q_zret rfl rfl rfl (by omega) ?_
                first
                | exact ⟨rfl, _, rfl, Or.inr ⟨rfl, fun q => by obtain ⟨q1, q2, q3, q4, q5, q6⟩ := rd_sf_iff.mp q; first | omega | (simp_all; done)⟩⟩
                | exact ⟨rfl, _, rfl, Or.inl ⟨rfl, rd_sf_iff.mpr ⟨by omega, by omega, by simp_all, by omega, by simp_all, h69⟩⟩⟩
              · refine r_t0 rfl (by first | exact iB0 | exact iB1 | exact iBm | exact hB _ _ | exact hT _ (by omega) | exact ⟨by omega, by omega⟩) (by omega) ?_
                refine r_push rfl ?_
                refine q_zret rfl rfl rfl (by omega) ?_
                first
                | exact ⟨rfl, _, rfl, Or.inr ⟨rfl, fun q => by obtain ⟨q1, q2, q3, q4, q5, q6⟩ := rd_sf_iff.mp q; first | omega | (simp_all; done)⟩⟩
                | exact ⟨rfl, _, rfl, Or.inl ⟨rfl, rd_sf_iff.mpr ⟨by omega, by omega, by simp_all, by omega, by simp_all, h69⟩⟩⟩
          · refine r_push rfl ?_
            refine q_zret rfl rfl rfl (by omega) ?_
            first
            | exact ⟨rfl, _, rfl, Or.inr ⟨rfl, fun q => by obtain ⟨q1, q2, q3, q4, q5, q6⟩ := rd_sf_iff.mp q; first | omega | (simp_all; done)⟩⟩
            | exact ⟨rfl, _, rfl, Or.inl ⟨rfl, rd_sf_iff.mpr ⟨by omega, by omega, by simp_all, by omega, by simp_all, h69⟩⟩⟩
        · refine r_t0 rfl (by first | exact iB0 | exact iB1 | exact iBm | exact hB _ _ | exact hT _ (by omega) | exact ⟨by omega, by omega⟩) (by omega) ?_
          refine r_aload rfl rfl ?_
          refine r_iload rfl rfl ?_
          refine r_aload rfl rfl ?_
          refine r_kb2 rfl rfl rfl rfl rfl (s_96 hc hz hB hk hP hm) (fun h51 => ?_) (fun h51 => ?_)
          · refine r_t1 rfl (by first | exact iB0 | exact iB1 | exact iBm | exact hB _ _ | exact hT _ (by omega) | exact ⟨by omega, by omega⟩) (by omega) ?_
            refine r_push rfl ?_
            refine q_zret rfl rfl rfl (by omega) ?_
            first
            | exact ⟨rfl, _, rfl, Or.inr ⟨rfl, fun q => by obtain ⟨q1, q2, q3, q4, q5, q6⟩ := rd_sf_iff.mp q; first | omega | (simp_all; done)⟩⟩
            | exact ⟨rfl, _, rfl, Or.inl ⟨rfl, rd_sf_iff.mpr ⟨by omega, by omega, by simp_all, by omega, by simp_all, h69⟩⟩⟩
          · refine r_f1 rfl (by first | exact iB0 | exact iB1 | exact iBm | exact hB _ _ | exact hT _ (by omega) | exact ⟨by omega, by omega⟩) (by omega) ?_
            refine r_aload rfl rfl ?_
            refine r_iload rfl rfl ?_
            refine r_aload rfl rfl ?_
            refine r_iload rfl rfl ?_
            refine r_si2 rfl rfl rfl rfl (s_30 hk hT hm) ?_
            refine r_aload rfl rfl ?_
            refine r_iload rfl rfl ?_
            refine r_ki1 rfl rfl rfl rfl rfl (s_86 hc hz hB hm) ?_
            refine r_kb3 rfl rfl rfl rfl rfl (s_87 hc hz hB hm l1 l2) (fun h69 => ?_) (fun h69 => ?_)
            · refine r_f0 rfl (by first | exact iB0 | exact iB1 | exact iBm | exact hB _ _ | exact hT _ (by omega) | exact ⟨by omega, by omega⟩) (by omega) ?_
              refine r_push rfl ?_
              refine r_goto rfl ?_
              refine q_zret rfl rfl rfl (by omega) ?_
              first
              | exact ⟨rfl, _, rfl, Or.inr ⟨rfl, fun q => by obtain ⟨q1, q2, q3, q4, q5, q6⟩ := rd_sf_iff.mp q; first | omega | (simp_all; done)⟩⟩
              | exact ⟨rfl, _, rfl, Or.inl ⟨rfl, rd_sf_iff.mpr ⟨by omega, by omega, by simp_all, by omega, by simp_all, h69⟩⟩⟩
            · refine r_t0 rfl (by first | exact iB0 | exact iB1 | exact iBm | exact hB _ _ | exact hT _ (by omega) | exact ⟨by omega, by omega⟩) (by omega) ?_
              refine r_push rfl ?_
              refine q_zret rfl rfl rfl (by omega) ?_
              first
              | exact ⟨rfl, _, rfl, Or.inr ⟨rfl, fun q => by obtain ⟨q1, q2, q3, q4, q5, q6⟩ := rd_sf_iff.mp q; first | omega | (simp_all; done)⟩⟩
              | exact ⟨rfl, _, rfl, Or.inl ⟨rfl, rd_sf_iff.mpr ⟨by omega, by omega, by simp_all, by omega, by simp_all, h69⟩⟩⟩
    · refine r_t0 rfl (by first | exact iB0 | exact iB1 | exact iBm | exact hB _ _ | exact hT _ (by omega) | exact ⟨by omega, by omega⟩) (by omega) ?_
      refine r_push rfl ?_
      refine q_zret rfl rfl rfl (by omega) ?_
      first
      | exact ⟨rfl, _, rfl, Or.inr ⟨rfl, fun q => by obtain ⟨q1, q2, q3, q4, q5, q6⟩ := rd_sf_iff.mp q; first | omega | (simp_all; done)⟩⟩
      | exact ⟨rfl, _, rfl, Or.inl ⟨rfl, rd_sf_iff.mpr ⟨by omega, by omega, by simp_all, by omega, by simp_all, h69⟩⟩⟩

theorem s_94 {d : Nat} {Z : wZ} {Lg : Nat → Nat → Int64} {N : Nat} {X : Nat → Int32} {z : rd_Z} (hc : cR z Z) (hz : rd_ok z) (hB : zB z) {k : Nat} (hk : SH[k]? = some (0, 7, [])) (hP : pB Z k)  : am_T am_tabs am_ar (d + 4) 94 [.ref 1, .ref k] (mW Z Lg N X) (am_ret (iI (oI (rd_lu z (Z k)))) (mW Z Lg N X)) := by
  refine ⟨⟨rfl, rfl⟩, ?_⟩
  show am_X (am_tb op_94) _ _ _
  refine r_push rfl ?_
  refine r_istore rfl ?_
  refine r_loop (fun o => (2, [some (.ref 1), some (.ref k), some (.int (iI o))], [], mW Z Lg N X, 0, 0)) (fun o => ∀ j, j < o → (fun m => rd_th z m && !rd_sf z (Z k) m) j = false) 7 fst_no (fun o ho hi hn => ?_) (fun hi => ?_)
  · (try dsimp only at hi); (try dsimp only at hn); (try dsimp only)
    refine r_iload rfl rfl ?_
    refine r_push rfl ?_
    refine r_c3 rfl (by first | exact iB0 | exact iB1 | exact iBm | exact hB _ _ | exact hT _ (by omega) | exact ⟨by omega, by omega⟩) (by first | exact iB0 | exact iB1 | exact iBm | exact hB _ _ | exact hT _ (by omega) | exact ⟨by omega, by omega⟩) (fun h5 => ?_) (fun h5 => ?_)
    · exfalso; omega
    · refine r_aload rfl rfl ?_
      refine q_getr rfl rfl rfl ?_
      refine r_iload rfl rfl ?_
      refine q_zald rfl rfl (by omega) (by omega) rfl (hc.1 o) ?_
      refine r_z0 rfl (by first | exact iB0 | exact iB1 | exact iBm | exact hB _ _ | exact hT _ (by omega) | exact ⟨by omega, by omega⟩) (fun h14 => ?_) (fun h14 => ?_)
      · refine r_iinc rfl rfl ?_
        refine r_goto rfl ?_
        exact hn (fst_next hi (by simp_all [rd_th]))
      · refine r_aload rfl rfl ?_
        refine r_iload rfl rfl ?_
        refine r_aload rfl rfl ?_
        refine r_kb2 rfl rfl rfl rfl rfl (s_95 hc hz hB hk hP ho) (fun h20 => ?_) (fun h20 => ?_)
        · refine r_t1 rfl (by first | exact iB0 | exact iB1 | exact iBm | exact hB _ _ | exact hT _ (by omega) | exact ⟨by omega, by omega⟩) (by omega) ?_
          refine r_iinc rfl rfl ?_
          refine r_goto rfl ?_
          exact hn (fst_next hi (by simp_all [rd_th]))
        · refine r_f1 rfl (by first | exact iB0 | exact iB1 | exact iBm | exact hB _ _ | exact hT _ (by omega) | exact ⟨by omega, by omega⟩) (by omega) ?_
          refine r_iload rfl rfl ?_
          refine q_iret rfl rfl rfl ?_
          exact am_ret_of (by rw [show rd_lu z (Z k) = some o from rd_fst_stop ho hi (by simp_all [rd_th])]; rfl)
  · (try dsimp only at hi); (try dsimp only)
    refine r_iload rfl rfl ?_
    refine r_push rfl ?_
    refine r_c3 rfl (by first | exact iB0 | exact iB1 | exact iBm | exact hB _ _ | exact hT _ (by omega) | exact ⟨by omega, by omega⟩) (by first | exact iB0 | exact iB1 | exact iBm | exact hB _ _ | exact hT _ (by omega) | exact ⟨by omega, by omega⟩) (fun h5 => ?_) (fun h5 => ?_)
    · refine r_push rfl ?_
      refine q_iret rfl rfl rfl ?_
      exact am_ret_of (by rw [show rd_lu z (Z k) = none from rd_fst_all hi]; rfl)
    · exfalso; omega

end CST
