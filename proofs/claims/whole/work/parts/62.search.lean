/-! the class's search -/
section CSE
variable {tab : Nat → am_Sem} {C : am_C} {Q : am_Q} {pc nx tg a k n : Nat} {ls : List (Option Value)} {st : List Value} {w : am_W} {uc us : Nat} {x y v i : Int} {Z : wZ} {Lg : Nat → Nat → Int64} {N : Nat} {X : Nat → Int32}
/-- one row of seven copied -/
def cpZ (Z : wZ) (s e : Nat) : wZ := fun a b => if a = e then (if b < 7 then Z s b else Z a b) else Z a b
theorem q_copy {s e : Nat} (ht : tab pc = am_copy nx) (hr : Nat.ble (st.map fun v => v.category).sum 8 = true) (hs : SH[s]? = some (0, 7, [])) (he : SH[e]? = some (0, 7, [])) (kk : am_X tab C Q (nx, ls, st, mW (cpZ Z s e) Lg N X, uc, us)) : am_X tab C Q (pc, ls, .int (iI 7) :: .int (iI 0) :: .ref e :: .int (iI 0) :: .ref s :: st, mW Z Lg N X, uc, us) := by
  refine am_go ht ⟨iI 7, iI 0, e, iI 0, s, st, 7, [], 7, [], rfl, Nat.le_of_ble_eq_true hr, hs, he, by decide, by decide, by decide, by decide, by decide, ?_⟩
  refine am_X_of kk ?_
  unfold mW
  refine congrArg (fun f => (nx, ls, st, (SH, f, Lg, N, X), uc, us)) ?_
  funext a b
  have e7 : (iI 7).toNatClampNeg = 7 := by decide
  have e0 : (iI 0).toNatClampNeg = 0 := by decide
  rw [e7, e0]
  unfold am_u1 cpZ
  by_cases h : a = e
  · subst h
    rw [if_pos rfl, if_pos rfl]
    by_cases h7 : b < 7
    · rw [if_pos h7]; simp [va_cpy, h7]
    · rw [if_neg h7]; simp [va_cpy, h7]
  · rw [if_neg h, if_neg h]
theorem cR_of {z : rd_Z} {Z Z' : wZ} (h : cR z Z) (e : ∀ k j, (k < 18 ∨ k = 31 ∨ k = 32) → Z' k j = Z k j) : cR z Z' := by
  obtain ⟨h0, h1, h2, h3, h4, h5, h6, h7, h8, h9, h10, h11, h12, h13, h14⟩ := h
  refine ⟨fun j => ?_, fun j => ?_, fun j => ?_, fun j => ?_, fun j => ?_, fun j => ?_, fun j => ?_, fun a b ha hb => ?_, fun j => ?_, fun j => ?_, ?_, ?_, ?_, fun j => ?_, fun j => ?_⟩
  all_goals rw [e _ _ (by omega)]
  · exact h0 j
  · exact h1 j
  · exact h2 j
  · exact h3 j
  · exact h4 j
  · exact h5 j
  · exact h6 j
  · exact h7 a b ha hb
  · exact h8 j
  · exact h9 j
  · exact h10
  · exact h11
  · exact h12
  · exact h13 j
  · exact h14 j
theorem mR_of {z : rd_Z} {Z Z' : wZ} (h : mR z Z) (e : ∀ k j, (34 < k ∧ k < 47 ∨ k = 34 ∧ (j = 9 ∨ j = 12)) → Z' k j = Z k j) : mR z Z' := by
  obtain ⟨h0, h1, h2, h3, h4, h5, h6, h7, h8, h9, h10, h11, h12, h13⟩ := h
  refine ⟨fun j => ?_, fun j => ?_, fun j => ?_, fun j => ?_, fun j => ?_, fun j => ?_, fun j a b => ?_, fun j a => ?_, fun j => ?_, fun j => ?_, ?_, ?_, fun j => ?_, fun j => ?_⟩
  all_goals rw [e _ _ (by omega)]
  · exact h0 j
  · exact h1 j
  · exact h2 j
  · exact h3 j
  · exact h4 j
  · exact h5 j
  · exact h6 j a b
  · exact h7 j a
  · exact h8 j
  · exact h9 j
  · exact h10
  · exact h11
  · exact h12 j
  · exact h13 j
theorem cR_u {z : rd_Z} {Z : wZ} (h : cR z Z) {k j : Nat} {v : Int} (hk : 18 ≤ k ∧ k ≠ 31 ∧ k ≠ 32) : cR z (uZ Z k j v) := cR_of h (fun a b q => uZ_ne (by omega) b)
theorem dl_B {z : rd_Z} (hz : rd_ok z) {m : Nat} (hm : m < 7) {s : Int} (hs : s ≤ 3000) : 0 ≤ rd_dl z m s ∧ rd_dl z m s ≤ 300000 := by
  refine ⟨rd_dl_ge hz hm s, ?_⟩
  have h1 := ok_wt hz hm
  have h2 := ok_rg hz hm
  have h3 : z 5 m * max 0 (s - z 3 m) ≤ 100 * 3000 := Int.mul_le_mul h1.2 (by omega) (by omega) (by omega)
  exact h3
theorem sum_B {f : Nat → Int} {n : Nat} (h : ∀ i, i < n → 0 ≤ f i ∧ f i ≤ 300000) : 0 ≤ rd_sum f n ∧ rd_sum f n ≤ 300000 * n := by
  induction n with
  | zero => exact ⟨Int.le_refl _, Int.le_refl _⟩
  | succ n ih =>
    have h1 := ih (fun i hi => h i (by omega))
    have h2 := h n (by omega)
    simp only [rd_sum]
    omega
theorem rdl_congr {z : rd_Z} {r r' : Nat → Int} (h : ∀ m, m < 7 → rd_th z m = true → r m = r' m) : rd_rdl z r = rd_rdl z r' := by
  unfold rd_rdl
  rw [rd_any_congr (q := fun m => rd_th z m && decide (r' m = -1)) (fun m hm => ?_), rd_sum_congr (g := fun m => if rd_th z m = true then rd_dl z m (r' m) else 0) (fun m hm => ?_)]
  · by_cases e : rd_th z m = true
    · rw [if_pos e, if_pos e, h m hm e]
    · rw [if_neg e, if_neg e]
  · cases e : rd_th z m with
    | false => rfl
    | true => rw [h m hm e]
theorem rdl_B {z : rd_Z} (hz : rd_ok z) {r : Nat → Int} (hr : ∀ m, m < 7 → rd_th z m = true → r m ≤ 3000) : -1 ≤ rd_rdl z r ∧ rd_rdl z r ≤ 2100000 := by
  unfold rd_rdl
  split
  · omega
  · have := sum_B (f := fun m => if rd_th z m = true then rd_dl z m (r m) else 0) (n := 7) (fun m hm => by
      split
      · rename_i e
        exact dl_B hz hm (hr m hm e)
      · omega)
    omega
theorem row_B {z : rd_Z} (hz : rd_ok z) {pre : rd_P} (hg : rd_gd z pre) {m : Nat} (hm : m < 7) : -1 ≤ rd_row z pre m ∧ rd_row z pre m ≤ 3000 := by
  unfold rd_row
  cases h : rd_lk m pre with
  | some s =>
    have h3 : 0 ≤ s := (hg.1 _ (rd_lk_mem h)).2.2.1
    have h4 : s ≤ 3000 := (hg.1 _ (rd_lk_mem h)).2.2.2
    show -1 ≤ s ∧ s ≤ 3000
    omega
  | none =>
    show -1 ≤ rd_sec z m (rd_need z pre m) ∧ rd_sec z m (rd_need z pre m) ≤ 3000
    by_cases e : rd_sec z m (rd_need z pre m) = -1
    · rw [e]; omega
    · have := rd_sec_ge hz hm e
      omega
theorem rq {n : Nat} (h : n < 8) : ([20, 21, 22, 23, 24, 25, 26, 27] : List Nat)[n]? = some (20 + n) := by
  rcases n with _ | _ | _ | _ | _ | _ | _ | _ | n <;> first | rfl | omega
theorem rs {n : Nat} (h : n < 8) : SH[20 + n]? = some (0, 7, []) := by
  rcases n with _ | _ | _ | _ | _ | _ | _ | _ | n <;> first | rfl | omega
theorem sum_t {f : Nat → Int} {o : Nat} {x : Int} (h : f o = x) : rd_sum f (o + 1) = rd_sum f o + x := by rw [← h]; rfl
theorem sum_f {f : Nat → Int} {o : Nat} (h : f o = 0) : rd_sum f (o + 1) = rd_sum f o := by simp [rd_sum, h]
theorem set_get {tl : List (Option Value)} {v : Value} : (am_set tl 0 v)[0]? = some (some v) := by cases tl <;> rfl

/-- a row's first n numbers set to v -/
def flZ (Z : wZ) (k n : Nat) (v : Int) : wZ := fun a b => if a = k then (if b < n then v else Z a b) else Z a b
theorem flZ_succ (Z : wZ) (k n : Nat) (v : Int) : uZ (flZ Z k n v) k n v = flZ Z k (n + 1) v := by
  funext a b
  unfold uZ flZ
  by_cases h : a = k
  · rw [if_pos h, if_pos h, if_pos h]
    by_cases e : b = n
    · rw [if_pos e, if_pos (by omega)]
    · rw [if_neg e]
      by_cases e2 : b < n
      · rw [if_pos e2, if_pos (by omega)]
      · rw [if_neg e2, if_neg (by omega)]
  · rw [if_neg h, if_neg h, if_neg h]
theorem flZ_0 (Z : wZ) (k : Nat) (v : Int) : flZ Z k 0 v = Z := by
  funext a b
  unfold flZ
  split
  · rfl
  · rfl

theorem s_78 {d : Nat} {Z : wZ} {Lg : Nat → Nat → Int64} {N : Nat} {X : Nat → Int32} {z : rd_Z} (hc : cR z Z) (hz : rd_ok z) (hB : zB z) {e : Nat} (he : e < 8) (hP : pB Z (20 + e)) : am_T am_tabs am_ar (d + 2) 78 [.ref 18, .ref 1, .int (iI e)] (mW Z Lg N X) (am_ret (iI (rd_rdl z (Z (20 + e)))) (mW Z Lg N X)) := by
  refine ⟨⟨rfl, rfl⟩, ?_⟩
  show am_X (am_tb op_78) _ _ _
  refine r_push rfl ?_
  refine r_istore rfl ?_
  refine r_push rfl ?_
  refine r_istore rfl ?_
  refine r_loop (fun o => (5, [some (.ref 18), some (.ref 1), some (.int (iI e)), some (.int (iI (rd_sum (fun m => if rd_th z m = true then rd_dl z m (Z (20 + e) m) else 0) o))), some (.int (iI o))], [], mW Z Lg N X, 0, 0)) (fun o => ∀ j, j < o → (fun m => rd_th z m && decide (Z (20 + e) m = -1)) j = false) 7 fst_no (fun o ho hi hn => ?_) (fun hi => ?_)
  · (try dsimp only at hi); (try dsimp only at hn); (try dsimp only)
    have p1 := hP o ho
    refine r_iload rfl rfl ?_
    refine r_push rfl ?_
    refine r_c3 rfl (by first | exact iB0 | exact iB1 | exact iBm | exact hB _ _ | exact hT _ (by omega) | exact ⟨by omega, by omega⟩) (by first | exact iB0 | exact iB1 | exact iBm | exact hB _ _ | exact hT _ (by omega) | exact ⟨by omega, by omega⟩) (fun h9 => ?_) (fun h9 => ?_)
    · exfalso; omega
    · refine r_aload rfl rfl ?_
      refine q_getr rfl rfl rfl ?_
      refine r_iload rfl rfl ?_
      refine q_zald rfl rfl (by omega) (by omega) rfl (hc.1 o) ?_
      refine r_z0 rfl (by first | exact iB0 | exact iB1 | exact iBm | exact hB _ _ | exact hT _ (by omega) | exact ⟨by omega, by omega⟩) (fun h19 => ?_) (fun h19 => ?_)
      · refine r_iinc rfl rfl ?_
        refine r_goto rfl ?_
        first
        | exact am_X_of (hn (fst_next hi (by simp [rd_th] <;> omega))) (by rw [sum_t (f := (fun m => if rd_th z m = true then rd_dl z m (Z (20 + e) m) else 0)) (o := o) (if_pos (th_iff.mpr (by omega)))]; rfl)
        | exact am_X_of (hn (fst_next hi (by simp [rd_th] <;> omega))) (by rw [sum_f (f := (fun m => if rd_th z m = true then rd_dl z m (Z (20 + e) m) else 0)) (o := o) (if_neg (fun q => th_iff.mp q (by omega)))]; rfl)
      · refine r_aload rfl rfl ?_
        refine q_getr rfl rfl rfl ?_
        refine r_iload rfl rfl ?_
        refine q_aald rfl rfl (by omega) (by omega) rfl (rq (by omega)) ?_
        refine r_iload rfl rfl ?_
        refine q_iald rfl (rs (by omega)) (by omega) (by omega) rfl (rfl : _ = Z (20 + e) o) ?_
        refine r_push rfl ?_
        refine r_c1 rfl (by first | exact iB0 | exact iB1 | exact iBm | exact hB _ _ | exact hT _ (by omega) | exact ⟨by omega, by omega⟩) (by first | exact iB0 | exact iB1 | exact iBm | exact hB _ _ | exact hT _ (by omega) | exact ⟨by omega, by omega⟩) (fun h32 => ?_) (fun h32 => ?_)
        · refine r_iload rfl rfl ?_
          refine r_aload rfl rfl ?_
          refine r_iload rfl rfl ?_
          refine r_aload rfl rfl ?_
          refine q_getr rfl rfl rfl ?_
          refine r_iload rfl rfl ?_
          refine q_aald rfl rfl (by omega) (by omega) rfl (rq (by omega)) ?_
          refine r_iload rfl rfl ?_
          refine q_iald rfl (rs (by omega)) (by omega) (by omega) rfl (rfl : _ = Z (20 + e) o) ?_
          refine r_ki2 rfl rfl rfl rfl rfl (s_85 hc hz hB ho ⟨by omega, by omega⟩) ?_
          refine r_iadd rfl ?_
          refine r_istore rfl ?_
          refine r_iinc rfl rfl ?_
          refine r_goto rfl ?_
          first
          | exact am_X_of (hn (fst_next hi (by simp [rd_th] <;> omega))) (by rw [sum_t (f := (fun m => if rd_th z m = true then rd_dl z m (Z (20 + e) m) else 0)) (o := o) (if_pos (th_iff.mpr (by omega)))]; rfl)
          | exact am_X_of (hn (fst_next hi (by simp [rd_th] <;> omega))) (by rw [sum_f (f := (fun m => if rd_th z m = true then rd_dl z m (Z (20 + e) m) else 0)) (o := o) (if_neg (fun q => th_iff.mp q (by omega)))]; rfl)
        · refine r_push rfl ?_
          refine q_iret rfl rfl rfl ?_
          exact am_ret_of (by rw [rd_rdl, if_pos (rd_any_iff.mpr ⟨o, ho, by simp [rd_th] <;> omega⟩)])
  · (try dsimp only at hi); (try dsimp only)
    refine r_iload rfl rfl ?_
    refine r_push rfl ?_
    refine r_c3 rfl (by first | exact iB0 | exact iB1 | exact iBm | exact hB _ _ | exact hT _ (by omega) | exact ⟨by omega, by omega⟩) (by first | exact iB0 | exact iB1 | exact iBm | exact hB _ _ | exact hT _ (by omega) | exact ⟨by omega, by omega⟩) (fun h9 => ?_) (fun h9 => ?_)
    · refine r_iload rfl rfl ?_
      refine q_iret rfl rfl rfl ?_
      exact am_ret_of (by rw [rd_rdl, if_neg (by rw [rd_any_false.mpr hi]; simp)])
    · exfalso; omega

theorem s_76 {d : Nat} {Z : wZ} {Lg : Nat → Nat → Int64} {N : Nat} {X : Nat → Int32} {x : Int} (hx : iB x) (hl : iB (Z 18 4)) : am_T am_tabs am_ar (d + 1) 76 [.ref 18, .int (iI x)] (mW Z Lg N X) (am_bl (x ≠ -1 ∧ (Z 18 4 = -1 ∨ x < Z 18 4)) (mW Z Lg N X)) := by
  refine ⟨⟨rfl, rfl⟩, ?_⟩
  show am_X (am_tb op_76) _ _ _
  refine r_iload rfl rfl ?_
  refine r_push rfl ?_
  refine r_c0 rfl hx iBm (fun h2 => ?_) (fun h2 => ?_)
  · refine r_push rfl ?_
    refine q_zret rfl rfl rfl (by omega) ?_
    exact ⟨rfl, _, rfl, by omega⟩
  · refine r_aload rfl rfl ?_
    refine q_geti rfl rfl rfl rfl ?_
    refine r_push rfl ?_
    refine r_c0 rfl hl iBm (fun h10 => ?_) (fun h10 => ?_)
    · refine r_push rfl ?_
      refine r_goto rfl ?_
      refine q_zret rfl rfl rfl (by omega) ?_
      exact ⟨rfl, _, rfl, by omega⟩
    · refine r_iload rfl rfl ?_
      refine r_aload rfl rfl ?_
      refine q_geti rfl rfl rfl rfl ?_
      refine r_c3 rfl hx hl (fun h18 => ?_) (fun h18 => ?_)
      · refine r_push rfl ?_
        refine q_zret rfl rfl rfl (by omega) ?_
        exact ⟨rfl, _, rfl, by omega⟩
      · refine r_push rfl ?_
        refine r_goto rfl ?_
        refine q_zret rfl rfl rfl (by omega) ?_
        exact ⟨rfl, _, rfl, by omega⟩

/-- the next row -/
def nxR (z : rd_Z) (Z : wZ) (e m o : Nat) : Int := if z 0 o ≠ 0 ∧ o ≠ m ∧ Z 29 o = 0 then rd_sec z o (max (Z (20 + e) o) (Z (20 + e) m + rd_gap z m o)) else Z (20 + e) o

theorem s_77 {d : Nat} {Z : wZ} {Lg : Nat → Nat → Int64} {N : Nat} {X : Nat → Int32} {z : rd_Z} (hc : cR z Z) (hz : rd_ok z) (hB : zB z) {m : Nat} (hm : m < 7) {e : Nat} (he : e < 7) (hP : pB Z (20 + e)) (hS : ∀ j, j < 7 → Z 29 j = 0 ∨ Z 29 j = 1) : am_T am_tabs am_ar (d + 4) 77 [.ref 18, .ref 1, .int (iI e), .int (iI m)] (mW Z Lg N X) (am_vd (fun w1 => ∃ Z1, w1 = mW Z1 Lg N X ∧ (∀ k j, k ≠ 21 + e → Z1 k j = uZ Z 29 m 1 k j) ∧ ∀ j, j < 7 → Z1 (21 + e) j = nxR z Z e m j)) := by
  refine ⟨⟨rfl, rfl⟩, ?_⟩
  show am_X (am_tb op_77) _ _ _
  refine r_aload rfl rfl ?_
  refine q_getr rfl rfl rfl ?_
  refine r_iload rfl rfl ?_
  refine r_push rfl ?_
  refine q_zast rfl rfl (by omega) (by omega) rfl (by omega) ?_
  refine r_aload rfl rfl ?_
  refine q_getr rfl rfl rfl ?_
  refine r_iload rfl rfl ?_
  refine q_aald rfl rfl (by omega) (by omega) rfl (rq (by omega)) ?_
  refine r_astore rfl ?_
  refine r_aload rfl rfl ?_
  refine q_getr rfl rfl rfl ?_
  refine r_iload rfl rfl ?_
  refine r_push rfl ?_
  refine r_iadd rfl ?_
  refine q_aald rfl rfl (by omega) (by omega) rfl ((show (20 + (e + 1)) = 21 + e by omega) ▸ rq (n := e + 1) (by omega)) ?_
  refine r_astore rfl ?_
  refine r_push rfl ?_
  refine r_istore rfl ?_
  refine r_loopS (fun o σ => ∃ (Z1 : wZ) (tl : List (Option Value)), (∀ k j, k ≠ 21 + e → Z1 k j = uZ Z 29 m 1 k j) ∧ (∀ j, j < o → Z1 (21 + e) j = nxR z Z e m j) ∧ σ = (28, some (.ref 18) :: some (.ref 1) :: some (.int (iI e)) :: some (.int (iI m)) :: some (.ref (20 + e)) :: some (.ref (21 + e)) :: some (.int (iI o)) :: tl, [], mW Z1 Lg N X, 0, 0)) 7 (fun o σ ho hS1 hn => ?_) (fun σ hS1 => ?_) ⟨_, [], fun k j _ => rfl, fun j hj => absurd hj (by omega), rfl⟩
  · obtain ⟨Z1, tl, g1, g2, rfl⟩ := hS1
    have hc1 : cR z Z1 := cR_of hc (fun k j q => by rw [g1 k j (by omega)]; exact uZ_ne (by omega) j)
    have p1 := hP o ho
    have p2 := hP m hm
    have gg := rd_gap_ge hz hm ho
    have r0 : ∀ j, Z1 (20 + e) j = Z (20 + e) j := fun j => by rw [g1 _ _ (by omega)]; exact uZ_ne (by omega) j
    have t0 : Z1 29 o = if o = m then 1 else Z 29 o := by rw [g1 _ _ (by omega)]; unfold uZ; rw [if_pos rfl]
    have hso := hS o ho
    have tB : iB (Z1 29 o) := by rw [t0]; split <;> exact ⟨by omega, by omega⟩
    have hsc : rd_sec z o (max (Z (20 + e) o) (Z (20 + e) m + rd_gap z m o)) ≤ 3000 := by
      by_cases q : rd_sec z o (max (Z (20 + e) o) (Z (20 + e) m + rd_gap z m o)) = -1
      · omega
      · exact (rd_sec_ge hz ho q).2.2
    refine r_iload rfl rfl ?_
    refine r_push rfl ?_
    refine r_c3 rfl (by first | exact iB0 | exact iB1 | exact iBm | exact hB _ _ | exact hT _ (by omega) | exact ⟨by omega, by omega⟩) (by first | exact iB0 | exact iB1 | exact iBm | exact hB _ _ | exact hT _ (by omega) | exact ⟨by omega, by omega⟩) (fun h32 => ?_) (fun h32 => ?_)
    · exfalso; omega
    · refine r_aload rfl rfl ?_
      refine r_iload rfl rfl ?_
      refine r_aload rfl rfl ?_
      refine r_iload rfl rfl ?_
      refine q_iald rfl (rs (n := e) (by omega)) (by omega) (by omega) rfl (r0 o) ?_
      refine q_iast rfl ((show (20 + (e + 1)) = 21 + e by omega) ▸ rs (n := e + 1) (by omega)) (by omega) (by omega) rfl ?_
      refine r_aload rfl rfl ?_
      refine q_getr rfl rfl rfl ?_
      refine r_iload rfl rfl ?_
      refine q_zald rfl rfl (by omega) (by omega) rfl ((uZ_ne (by omega) _).trans (hc1.1 o)) ?_
      refine r_z0 rfl (by first | exact iB0 | exact iB1 | exact iBm | exact hB _ _ | exact hT _ (by omega) | exact ⟨by omega, by omega⟩) (fun h52 => ?_) (fun h52 => ?_)
      · refine r_iinc rfl rfl ?_
        refine r_goto rfl ?_
        refine hn _ ⟨_, _, fun k j hk => ?_, fun j hj => ?_, rfl⟩
        · first
          | exact (uZ_ne hk j).trans (g1 k j hk)
          | exact (uZ_ne hk j).trans ((uZ_ne hk j).trans (g1 k j hk))
        · by_cases q : j = o
          · subst q
            refine (uZ_eq _ _ _ _).trans ?_
            unfold nxR
            first
            | exact (r0 j).trans (if_neg (by rw [t0] at h62; split at h62 <;> omega)).symm
            | exact (r0 j).trans (if_neg (by omega)).symm
            | exact (if_neg (by rw [t0] at h62; split at h62 <;> omega)).symm
            | exact (if_neg (by omega)).symm
            | exact (if_pos (by rw [t0] at h62; split at h62 <;> omega)).symm
          · first
            | exact (uZ_nj _ q).trans (g2 j (by omega))
            | exact (uZ_nj _ q).trans ((uZ_nj _ q).trans (g2 j (by omega)))
      · refine r_aload rfl rfl ?_
        refine q_getr rfl rfl rfl ?_
        refine r_iload rfl rfl ?_
        refine q_zald rfl rfl (by omega) (by omega) rfl ((uZ_ne (by omega) _).trans (rfl : Z1 29 o = Z1 29 o)) ?_
        refine r_z1 rfl tB (fun h62 => ?_) (fun h62 => ?_)
        · refine r_iinc rfl rfl ?_
          refine r_goto rfl ?_
          refine hn _ ⟨_, _, fun k j hk => ?_, fun j hj => ?_, rfl⟩
          · first
            | exact (uZ_ne hk j).trans (g1 k j hk)
            | exact (uZ_ne hk j).trans ((uZ_ne hk j).trans (g1 k j hk))
          · by_cases q : j = o
            · subst q
              refine (uZ_eq _ _ _ _).trans ?_
              unfold nxR
              first
              | exact (r0 j).trans (if_neg (by rw [t0] at h62; split at h62 <;> omega)).symm
              | exact (r0 j).trans (if_neg (by omega)).symm
              | exact (if_neg (by rw [t0] at h62; split at h62 <;> omega)).symm
              | exact (if_neg (by omega)).symm
              | exact (if_pos (by rw [t0] at h62; split at h62 <;> omega)).symm
            · first
              | exact (uZ_nj _ q).trans (g2 j (by omega))
              | exact (uZ_nj _ q).trans ((uZ_nj _ q).trans (g2 j (by omega)))
        · refine r_aload rfl rfl ?_
          refine r_iload rfl rfl ?_
          refine q_iald rfl (rs (n := e) (by omega)) (by omega) (by omega) rfl ((uZ_ne (by omega) _).trans (r0 o)) ?_
          refine r_aload rfl rfl ?_
          refine r_iload rfl rfl ?_
          refine q_iald rfl (rs (n := e) (by omega)) (by omega) (by omega) rfl ((uZ_ne (by omega) _).trans (r0 m)) ?_
          refine r_aload rfl rfl ?_
          refine r_iload rfl rfl ?_
          refine r_iload rfl rfl ?_
          refine r_ki2 rfl rfl rfl rfl rfl (s_84 (cR_u hc1 (by omega)) hz hB hm ho) ?_
          refine r_iadd rfl ?_
          refine q_max rfl rfl rfl rfl (by first | exact iB0 | exact iB1 | exact iBm | exact hB _ _ | exact hT _ (by omega) | exact ⟨by omega, by omega⟩) (by first | exact iB0 | exact iB1 | exact iBm | exact hB _ _ | exact hT _ (by omega) | exact ⟨by omega, by omega⟩) ?_
          refine r_istore rfl ?_
          refine r_aload rfl rfl ?_
          refine r_iload rfl rfl ?_
          refine r_aload rfl rfl ?_
          refine r_iload rfl rfl ?_
          refine r_iload rfl set_get ?_
          refine r_ki2 rfl rfl rfl rfl rfl (s_91 (cR_u hc1 (by omega)) hz hB ho ⟨by omega, by omega⟩) ?_
          refine q_iast rfl ((show (20 + (e + 1)) = 21 + e by omega) ▸ rs (n := e + 1) (by omega)) (by omega) (by omega) rfl ?_
          refine r_iinc rfl rfl ?_
          refine r_goto rfl ?_
          refine hn _ ⟨_, _, fun k j hk => ?_, fun j hj => ?_, rfl⟩
          · first
            | exact (uZ_ne hk j).trans (g1 k j hk)
            | exact (uZ_ne hk j).trans ((uZ_ne hk j).trans (g1 k j hk))
          · by_cases q : j = o
            · subst q
              refine (uZ_eq _ _ _ _).trans ?_
              unfold nxR
              first
              | exact (r0 j).trans (if_neg (by rw [t0] at h62; split at h62 <;> omega)).symm
              | exact (r0 j).trans (if_neg (by omega)).symm
              | exact (if_neg (by rw [t0] at h62; split at h62 <;> omega)).symm
              | exact (if_neg (by omega)).symm
              | exact (if_pos (by rw [t0] at h62; split at h62 <;> omega)).symm
            · first
              | exact (uZ_nj _ q).trans (g2 j (by omega))
              | exact (uZ_nj _ q).trans ((uZ_nj _ q).trans (g2 j (by omega)))
  · obtain ⟨Z1, tl, g1, g2, rfl⟩ := hS1
    refine r_iload rfl rfl ?_
    refine r_push rfl ?_
    refine r_c3 rfl (by first | exact iB0 | exact iB1 | exact iBm | exact hB _ _ | exact hT _ (by omega) | exact ⟨by omega, by omega⟩) (by first | exact iB0 | exact iB1 | exact iBm | exact hB _ _ | exact hT _ (by omega) | exact ⟨by omega, by omega⟩) (fun h32 => ?_) (fun h32 => ?_)
    · refine q_vret rfl rfl rfl ?_
      exact ⟨rfl, Z1, rfl, g1, g2⟩
    · exfalso; omega

end CSE
