/-! the reference's search through the orders -/
section MTP
theorem lk_take {pre : rd_P} (hn : (pre.map Prod.fst).Nodup) {o : Nat} {x : Nat × Int} (h : pre[o]? = some x) : rd_lk x.1 (pre.take o) = none := by
  rw [rd_lk_none]
  intro hm
  have e : (pre.map Prod.fst)[o]? = some x.1 := by rw [List.getElem?_map, h]; rfl
  rw [List.map_take] at hm
  obtain ⟨i, hi, q⟩ := List.mem_take_iff_getElem.mp hm
  have e2 : (pre.map Prod.fst)[i]? = some x.1 := by rw [← q]; exact List.getElem?_eq_getElem _
  have ho : o < (pre.map Prod.fst).length := (List.getElem?_eq_some_iff.mp e).1
  have := (List.getElem?_inj ho hn).mp (e.trans e2.symm)
  omega

theorem s_53 {d : Nat} {Z : wZ} {Lg : Nat → Nat → Int64} {N : Nat} {X : Nat → Int32} {z : rd_Z} (hd : mR z Z) (hz : rd_ok z) (hB : zB z) {pre : rd_P} (hg : rd_gd z pre) (hl : pre.length = rd_n z) (hO : mO z Z) (hS : mS z pre Z) : am_T am_tabs am_ar (d + 1) 53 [.ref 34] (mW Z Lg N X) (am_vd (fun w1 => ∃ Z1, w1 = mW Z1 Lg N X ∧ (∀ k j, k ≠ 52 → Z1 k j = Z k j) ∧ ∀ m, m < 7 → Z1 52 m = (rd_lk m pre).getD (-1))) := by
  refine ⟨⟨rfl, rfl⟩, ?_⟩
  show am_X (am_tb op_53) _ _ _
  have hn7 := n_le z
  refine r_push rfl ?_
  refine r_istore rfl ?_
  refine r_loopS (fun o σ => ∃ Z1 : wZ, (∀ k j, k ≠ 52 → Z1 k j = Z k j) ∧ (∀ m, m < o → Z1 52 m = -1) ∧ σ = (2, [some (.ref 34), some (.int (iI o))], [], mW Z1 Lg N X, 0, 0)) 7 (fun o σ ho hs hn => ?_) (fun σ hs => ?_) ⟨Z, fun _ _ _ => rfl, fun m hm => absurd hm (by omega), rfl⟩
  · obtain ⟨Z1, g0, g1, rfl⟩ := hs
    refine r_iload rfl rfl ?_
    refine r_push rfl ?_
    refine r_c3 rfl (by first | exact iB0 | exact iB1 | exact iBm | exact hB _ _ | exact hT _ (by omega) | exact ⟨by omega, by omega⟩) (by first | exact iB0 | exact iB1 | exact iBm | exact hB _ _ | exact hT _ (by omega) | exact ⟨by omega, by omega⟩) (fun h5 => ?_) (fun h5 => ?_)
    · exfalso; omega
    · refine r_aload rfl rfl ?_
      refine q_getr rfl rfl rfl ?_
      refine r_iload rfl rfl ?_
      refine r_push rfl ?_
      refine q_iast rfl rfl (by omega) (by omega) rfl ?_
      refine r_iinc rfl rfl ?_
      refine r_goto rfl ?_
      refine hn _ ⟨_, fun k j q => (uZ_ne q j).trans (g0 k j q), fun m hm => ?_, rfl⟩
      by_cases e : m = o
      · subst e; exact uZ_eq _ _ _ _
      · exact (uZ_nj _ e).trans (g1 m (by omega))
  · obtain ⟨Z1, g0, g1, rfl⟩ := hs
    refine r_iload rfl rfl ?_
    refine r_push rfl ?_
    refine r_c3 rfl (by first | exact iB0 | exact iB1 | exact iBm | exact hB _ _ | exact hT _ (by omega) | exact ⟨by omega, by omega⟩) (by first | exact iB0 | exact iB1 | exact iBm | exact hB _ _ | exact hT _ (by omega) | exact ⟨by omega, by omega⟩) (fun h5 => ?_) (fun h5 => ?_)
    · refine r_push rfl ?_
      refine r_istore rfl ?_
      refine r_loopS (fun o σ => ∃ Z1 : wZ, (∀ k j, k ≠ 52 → Z1 k j = Z k j) ∧ (∀ m, m < 7 → Z1 52 m = (rd_lk m (pre.take o)).getD (-1)) ∧ σ = (23, [some (.ref 34), some (.int (iI o))], [], mW Z1 Lg N X, 0, 0)) (rd_n z) (fun o σ ho hs hn => ?_) (fun σ hs => ?_) ⟨Z1, g0, fun m hm => g1 m hm, rfl⟩
      · obtain ⟨Z1, g0, g1, rfl⟩ := hs
        obtain ⟨x, hx⟩ := lt_some (pre := pre) (o := o) (by omega)
        obtain ⟨t, t1, s1, s2, s3⟩ := hS o x hx
        have x7 := hg.1 x (List.mem_of_getElem? hx)
        have e47t : Z1 47 t = (x.1 : Int) := by rw [g0 _ _ (by omega), hO.2 t t1, s2]
        refine r_iload rfl rfl ?_
        refine r_aload rfl rfl ?_
        refine q_geti rfl rfl rfl ((g0 _ _ (by omega)).trans hO.1) ?_
        refine r_c3 rfl (by first | exact iB0 | exact iB1 | exact iBm | exact hB _ _ | exact hT _ (by omega) | exact ⟨by omega, by omega⟩) (by first | exact iB0 | exact iB1 | exact iBm | exact hB _ _ | exact hT _ (by omega) | exact ⟨by omega, by omega⟩) (fun h28 => ?_) (fun h28 => ?_)
        · exfalso; omega
        · refine r_aload rfl rfl ?_
          refine q_getr rfl rfl rfl ?_
          refine r_aload rfl rfl ?_
          refine q_getr rfl rfl rfl ?_
          refine r_aload rfl rfl ?_
          refine q_getr rfl rfl rfl ?_
          refine r_iload rfl rfl ?_
          refine q_iald rfl rfl (by omega) (by omega) rfl ((g0 _ _ (by omega)).trans s1) ?_
          refine q_iald rfl rfl (by omega) (by omega) rfl e47t ?_
          refine r_aload rfl rfl ?_
          refine q_getr rfl rfl rfl ?_
          refine r_iload rfl rfl ?_
          refine q_iald rfl rfl (by omega) (by omega) rfl ((g0 _ _ (by omega)).trans s3) ?_
          refine q_iast rfl rfl (by omega) (by omega) rfl ?_
          refine r_iinc rfl rfl ?_
          refine r_goto rfl ?_
          refine hn _ ⟨_, fun k j q => (uZ_ne q j).trans (g0 k j q), fun m hm => ?_, rfl⟩
          rw [take_s hx, rd_lk_app]
          by_cases e : m = x.1
          · subst e
            rw [lk_take hg.2 hx]
            refine (uZ_eq _ _ _ _).trans ?_
            simp
          · refine (uZ_nj _ e).trans ((g1 m hm).trans ?_)
            cases hl : rd_lk m (pre.take o) with
            | some s => rfl
            | none => simp [show ¬ x.1 = m from fun q => e q.symm]
      · obtain ⟨Z1, g0, g1, rfl⟩ := hs
        refine r_iload rfl rfl ?_
        refine r_aload rfl rfl ?_
        refine q_geti rfl rfl rfl ((g0 _ _ (by omega)).trans hO.1) ?_
        refine r_c3 rfl (by first | exact iB0 | exact iB1 | exact iBm | exact hB _ _ | exact hT _ (by omega) | exact ⟨by omega, by omega⟩) (by first | exact iB0 | exact iB1 | exact iBm | exact hB _ _ | exact hT _ (by omega) | exact ⟨by omega, by omega⟩) (fun h28 => ?_) (fun h28 => ?_)
        · refine q_vret rfl rfl rfl ?_
          refine ⟨rfl, Z1, rfl, g0, fun m hm => ?_⟩
          rw [g1 m hm, ← hl, List.take_length]
        · exfalso; omega
    · exfalso; omega

def accI (acc : Option (Int × rd_P)) : Int := match acc with
  | none => -1
  | some a => a.1
def accM (z : rd_Z) (acc : Option (Int × rd_P)) (Z : wZ) : Prop := match acc with
  | none => True
  | some a => 0 ≤ a.1 ∧ a.1 ≤ 2100000 ∧ rd_gd z a.2 ∧ ∀ m, m < 7 → Z 52 m = (rd_lk m a.2).getD (-1)
theorem accM_of {z : rd_Z} {acc : Option (Int × rd_P)} {Z Z' : wZ} (h : accM z acc Z) (e : ∀ j, Z' 52 j = Z 52 j) : accM z acc Z' := by
  cases acc with
  | none => trivial
  | some a => exact ⟨h.1, h.2.1, h.2.2.1, fun m hm => (e m).trans (h.2.2.2 m hm)⟩
theorem accM_B {z : rd_Z} {acc : Option (Int × rd_P)} {Z : wZ} (h : accM z acc Z) : -1 ≤ accI acc ∧ accI acc ≤ 2100000 := by
  cases acc with
  | none => exact ⟨by show (-1 : Int) ≤ -1; omega, by show (-1 : Int) ≤ _; omega⟩
  | some a => have h1 := h.1; have h2 := h.2.1; exact ⟨by show -1 ≤ a.1; omega, h2⟩
theorem ln_inj {z : rd_Z} {p t : Nat} (hp : p < rd_n z) (ht : t < rd_n z) (h : rd_ln z p = rd_ln z t) : p = t := by
  have h1 := (rd_ln_ok hp).2.2
  have h2 := (rd_ln_ok ht).2.2
  rw [← h1, ← h2, h]
theorem mS_pre {z : rd_Z} {pre : rd_P} {x : Nat × Int} {Z : wZ} (h : mS z (pre ++ [x]) Z) : mS z pre Z := fun k q hq => h k q (by
  rw [List.getElem?_append_left (List.getElem?_eq_some_iff.mp hq).1]
  exact hq)
theorem mS_of {z : rd_Z} {pre : rd_P} {Z Z' : wZ} (h : mS z pre Z) (e1 : ∀ j, j < pre.length → Z' 48 j = Z 48 j) (e2 : ∀ j, j < pre.length → Z' 50 j = Z 50 j) : mS z pre Z' := fun k q hq => by
  have hk := (List.getElem?_eq_some_iff.mp hq).1
  obtain ⟨t, t1, t2, t3, t4⟩ := h k q hq
  exact ⟨t, t1, (e1 k hk).trans t2, t3, (e2 k hk).trans t4⟩
theorem mS_app {z : rd_Z} {pre : rd_P} {Z : wZ} {p : Nat} {s : Int} (h : mS z pre Z) (hp : p < rd_n z) (e1 : Z 48 pre.length = p) (e2 : Z 50 pre.length = s) : mS z (pre ++ [(rd_ln z p, s)]) Z := fun k q hq => by
  by_cases hk : k < pre.length
  · rw [List.getElem?_append_left hk] at hq
    exact h k q hq
  · have hk2 : k = pre.length := by
      have := (List.getElem?_eq_some_iff.mp hq).1
      simp at this
      omega
    subst hk2
    rw [List.getElem?_append_right (Nat.le_refl _)] at hq
    simp at hq
    subst hq
    exact ⟨p, hp, e1, rfl, e2⟩
theorem mC_pre {z : rd_Z} {pre : rd_P} {x : Nat × Int} {Z : wZ} (h : mC z (pre ++ [x]) Z) : mC z pre Z := fun k hk => by
  rw [h k (by simp; omega), List.take_append_of_le_length hk]
theorem mC_of {z : rd_Z} {pre : rd_P} {Z Z' : wZ} (h : mC z pre Z) (e : ∀ j, j ≤ pre.length → Z' 51 j = Z 51 j) : mC z pre Z' := fun k hk => (e k hk).trans (h k hk)
theorem mC_app {z : rd_Z} {pre : rd_P} {Z : wZ} {x : Nat × Int} (h : mC z pre Z) (e : Z 51 (pre.length + 1) = rd_cost z (pre ++ [x])) : mC z (pre ++ [x]) Z := fun k hk => by
  by_cases hk2 : k ≤ pre.length
  · rw [List.take_append_of_le_length hk2]
    exact h k hk2
  · have hk3 : k = pre.length + 1 := by simp at hk; omega
    subst hk3
    rw [e, List.take_of_length_le (by simp)]
theorem mU_up {z : rd_Z} {pre : rd_P} {Z Z' : wZ} {p : Nat} {s : Int} (h : mU z pre Z) (hp : p < rd_n z) (hk : rd_lk (rd_ln z p) pre = none) (e : ∀ t, Z' 49 t = uZ Z 49 p 1 49 t) : mU z (pre ++ [(rd_ln z p, s)]) Z' := fun t ht => by
  rw [e t, rd_lk_app]
  by_cases q : t = p
  · subst q
    rw [uZ_eq, hk]
    simp
  · rw [uZ_nj _ q, h t ht]
    cases hl : rd_lk (rd_ln z t) pre with
    | some s => rfl
    | none => simp [show ¬ rd_ln z p = rd_ln z t from fun q2 => q (ln_inj ht hp q2.symm)]
theorem mU_dn {z : rd_Z} {pre : rd_P} {Z : wZ} {p : Nat} {s : Int} (h : mU z (pre ++ [(rd_ln z p, s)]) Z) (hp : p < rd_n z) (hk : rd_lk (rd_ln z p) pre = none) : mU z pre (uZ Z 49 p 0) := fun t ht => by
  by_cases q : t = p
  · subst q
    rw [uZ_eq, hk]
    simp
  · rw [uZ_nj _ q, h t ht, rd_lk_app]
    cases hl : rd_lk (rd_ln z t) pre with
    | some s => rfl
    | none => simp [show ¬ rd_ln z p = rd_ln z t from fun q2 => q (ln_inj ht hp q2.symm)]
theorem mU_of {z : rd_Z} {pre : rd_P} {Z Z' : wZ} (h : mU z pre Z) (e : ∀ t, Z' 49 t = Z 49 t) : mU z pre Z' := fun t ht => (e t).trans (h t ht)
/-- nothing but what the search writes has changed -/
def hF (Z Z' : wZ) : Prop := ∀ k j, (k < 48 ∨ 52 < k) → Z' k j = Z k j
theorem hF_mR {z : rd_Z} {Z Z' : wZ} (h : mR z Z) (e : hF Z Z') : mR z Z' := mR_of h (fun k j q => e k j (by omega))
theorem hF_mO {z : rd_Z} {Z Z' : wZ} (h : mO z Z) (e : hF Z Z') : mO z Z' := ⟨(e _ _ (by omega)).trans h.1, fun p hp => (e _ _ (by omega)).trans (h.2 p hp)⟩
theorem cost_B {z : rd_Z} (hz : rd_ok z) {pre : rd_P} (hg : rd_gd z pre) : 0 ≤ rd_cost z pre ∧ rd_cost z pre ≤ 2100000 := by
  rw [rd_cost_sum hg]
  have := sum_B (f := fun m => match rd_lk m pre with | some s => rd_dl z m s | none => 0) (n := 7) (fun m hm => by
    show 0 ≤ (match rd_lk m pre with | some s => rd_dl z m s | none => 0) ∧ (match rd_lk m pre with | some s => rd_dl z m s | none => 0) ≤ 300000
    cases h : rd_lk m pre with
    | none => exact ⟨Int.le_refl _, by show (0 : Int) ≤ 300000; omega⟩
    | some s => exact dl_B hz hm (hg.1 _ (rd_lk_mem h)).2.2.2)
  exact ⟨this.1, Int.le_trans this.2 (by decide)⟩
theorem kid_lay {z : rd_Z} {pre : rd_P} {p : Nat} {f : rd_P → List (Int × rd_P)} (h : ¬ layP z pre (rd_ln z p) p (z 10 1)) : rd_kid f z pre p = [] := by
  unfold rd_kid
  split
  · rfl
  · split
    · rfl
    · rename_i h2 h3
      have h4 : rd_may z (rd_ln z p) pre.length p = true := by simpa using h3
      have h5 := may_iff.mp h4
      by_cases e : rd_sec z (rd_ln z p) (rd_need z pre (rd_ln z p)) = -1
      · rw [if_pos e]
      · exact absurd ⟨h5, e⟩ h
theorem kid_lay2 {z : rd_Z} {pre : rd_P} {p : Nat} {f : rd_P → List (Int × rd_P)} (h0 : rd_lk (rd_ln z p) pre = none) (h : layP z pre (rd_ln z p) p (z 10 1)) : rd_kid f z pre p = f (pre ++ [(rd_ln z p, rd_sec z (rd_ln z p) (rd_need z pre (rd_ln z p)))]) := by
  have h4 := may_iff.mpr h.1
  unfold rd_kid
  rw [if_neg (by rw [h0]; simp), if_neg (by rw [h4]; simp), if_neg h.2]

theorem m_pl {d : Nat} {Lg : Nat → Nat → Int64} {N : Nat} {X : Nat → Int32} {z : rd_Z} (hz : rd_ok z) (hB : zB z) {Q : am_Q} {k : Nat} {pre : rd_P} {acc : Option (Int × rd_P)} (hg : rd_gd z pre) (hl : pre.length + (k + 1) = rd_n z)
    (ih : ∀ (pre : rd_P) (acc : Option (Int × rd_P)) (Z : wZ) (tl : List (Option Value)), rd_gd z pre → pre.length + k = rd_n z → mR z Z → mO z Z → mS z pre Z → mC z pre Z → mU z pre Z → Z 48 pre.length = -1 → accM z acc Z → (k = 0 → ∀ a, acc = some a → rd_cost z pre < a.1) →
      (∀ (Z' : wZ) (tl' : List (Option Value)), hF Z Z' → mS z pre Z' → mC z pre Z' → mU z pre Z' → accM z ((rd_lvs z k pre).foldl rd_up acc) Z' → am_X (am_tb op_54) (am_T am_tabs am_ar (d + 3)) Q (43, some (.ref 34) :: some (.int (iI (accI ((rd_lvs z k pre).foldl rd_up acc)))) :: some (.int (iI ((pre.length : Int) - 1))) :: tl', [], mW Z' Lg N X, 0, 0)) → am_X (am_tb op_54) (am_T am_tabs am_ar (d + 3)) Q (43, some (.ref 34) :: some (.int (iI (accI (acc)))) :: some (.int (iI (pre.length : Int))) :: tl, [], mW Z Lg N X, 0, 0)) : ∀ (j p : Nat) (Z : wZ) (tl : List (Option Value)), p + j = rd_n z → mR z Z → mO z Z → mS z pre Z → mC z pre Z → mU z pre Z → accM z ((rd_ks z k pre p).foldl rd_up acc) Z →
      (∀ (Z' : wZ) (tl' : List (Option Value)), hF Z Z' → mS z pre Z' → mC z pre Z' → mU z pre Z' → accM z ((rd_lvs z (k + 1) pre).foldl rd_up acc) Z' → am_X (am_tb op_54) (am_T am_tabs am_ar (d + 3)) Q (43, some (.ref 34) :: some (.int (iI (accI ((rd_lvs z (k + 1) pre).foldl rd_up acc)))) :: some (.int (iI ((pre.length : Int) - 1))) :: tl', [], mW Z' Lg N X, 0, 0)) → am_X (am_tb op_54) (am_T am_tabs am_ar (d + 3)) Q (93, some (.ref 34) :: some (.int (iI (accI ((rd_ks z k pre p).foldl rd_up acc)))) :: some (.int (iI (pre.length : Int))) :: some (.int (iI (p : Int))) :: tl, [], mW Z Lg N X, 0, 0) := by
  have hn7 := n_le z
  have hlm := ok_lm hz
  intro j
  induction j with
  | zero =>
    intro p Z tl hp hd hO hS hC hU hA hK
    have hp : p = rd_n z := by omega
    subst hp
    have hab := accM_B hA
    refine r_iload rfl rfl ?_
    refine r_aload rfl rfl ?_
    refine q_geti rfl rfl rfl hO.1 ?_
    refine r_c3 rfl (by first | exact iB0 | exact iB1 | exact iBm | exact hB _ _ | exact hT _ (by omega) | exact ⟨by omega, by omega⟩) (by first | exact iB0 | exact iB1 | exact iBm | exact hB _ _ | exact hT _ (by omega) | exact ⟨by omega, by omega⟩) (fun h98 => ?_) (fun h98 => ?_)
    · refine r_aload rfl rfl ?_
      refine q_getr rfl rfl rfl ?_
      refine r_iload rfl rfl ?_
      refine r_iload rfl rfl ?_
      refine r_aload rfl rfl ?_
      refine q_geti rfl rfl rfl hO.1 ?_
      refine r_c3 rfl (by first | exact iB0 | exact iB1 | exact iBm | exact hB _ _ | exact hT _ (by omega) | exact ⟨by omega, by omega⟩) (by first | exact iB0 | exact iB1 | exact iBm | exact hB _ _ | exact hT _ (by omega) | exact ⟨by omega, by omega⟩) (fun h155 => ?_) (fun h155 => ?_)
      · refine r_push rfl ?_
        refine q_iast rfl rfl (by omega) (by omega) rfl ?_
        refine r_iload rfl rfl ?_
        refine r_aload rfl rfl ?_
        refine q_geti rfl rfl rfl hO.1 ?_
        refine r_c3 rfl (by first | exact iB0 | exact iB1 | exact iBm | exact hB _ _ | exact hT _ (by omega) | exact ⟨by omega, by omega⟩) (by first | exact iB0 | exact iB1 | exact iBm | exact hB _ _ | exact hT _ (by omega) | exact ⟨by omega, by omega⟩) (fun h169 => ?_) (fun h169 => ?_)
        · refine r_iinc rfl rfl ?_
          refine r_goto rfl ?_
          exact hK _ _ (fun a b q => uZ_ne (by omega) b) (mS_of hS (fun b hb => uZ_nj _ (by omega)) (fun b hb => uZ_ne (by omega) b)) (mC_of hC (fun b hb => uZ_ne (by omega) b)) (mU_of hU (fun t => uZ_ne (by omega) t)) (accM_of hA (fun b => uZ_ne (by omega) b))
        · exfalso; omega
      · exfalso; omega
    · exfalso; omega
  | succ j ihj =>
    intro p Z tl hp hd hO hS hC hU hA hK
    have hpn : p < rd_n z := by omega
    have hab := accM_B hA
    have hks := rd_ks_succ z k pre p acc
    have hU1 := hU p hpn
    cases hlk : rd_lk (rd_ln z p) pre with
    | some s =>
      rw [hlk] at hU1
      have hU1 : Z 49 p = 1 := hU1
      rw [kid_some (f := rd_lvs z k) (by rw [hlk]; rfl)] at hks
      refine r_iload rfl rfl ?_
      refine r_aload rfl rfl ?_
      refine q_geti rfl rfl rfl hO.1 ?_
      refine r_c3 rfl (by first | exact iB0 | exact iB1 | exact iBm | exact hB _ _ | exact hT _ (by omega) | exact ⟨by omega, by omega⟩) (by first | exact iB0 | exact iB1 | exact iBm | exact hB _ _ | exact hT _ (by omega) | exact ⟨by omega, by omega⟩) (fun h98 => ?_) (fun h98 => ?_)
      · exfalso; omega
      · refine r_aload rfl rfl ?_
        refine q_getr rfl rfl rfl ?_
        refine r_iload rfl rfl ?_
        refine q_zald rfl rfl (by omega) (by omega) rfl hU1 ?_
        refine r_z1 rfl (by first | exact iB0 | exact iB1 | exact iBm | exact hB _ _ | exact hT _ (by omega) | exact ⟨by omega, by omega⟩) (fun h107 => ?_) (fun h107 => ?_)
        · refine r_iinc rfl rfl ?_
          refine r_goto rfl ?_
          refine am_X_of (ihj (p + 1) Z tl (by omega) hd hO hS hC hU (by rw [hks]; exact hA) hK) ?_
          rw [hks]
          rfl
        · exfalso; omega
    | none =>
      rw [hlk] at hU1
      have hU1 : Z 49 p = 0 := hU1
      obtain ⟨l1, l2, l3⟩ := rd_ln_ok hpn
      refine r_iload rfl rfl ?_
      refine r_aload rfl rfl ?_
      refine q_geti rfl rfl rfl hO.1 ?_
      refine r_c3 rfl (by first | exact iB0 | exact iB1 | exact iBm | exact hB _ _ | exact hT _ (by omega) | exact ⟨by omega, by omega⟩) (by first | exact iB0 | exact iB1 | exact iBm | exact hB _ _ | exact hT _ (by omega) | exact ⟨by omega, by omega⟩) (fun h98 => ?_) (fun h98 => ?_)
      · exfalso; omega
      · refine r_aload rfl rfl ?_
        refine q_getr rfl rfl rfl ?_
        refine r_iload rfl rfl ?_
        refine q_zald rfl rfl (by omega) (by omega) rfl hU1 ?_
        refine r_z1 rfl (by first | exact iB0 | exact iB1 | exact iBm | exact hB _ _ | exact hT _ (by omega) | exact ⟨by omega, by omega⟩) (fun h107 => ?_) (fun h107 => ?_)
        · exfalso; omega
        · refine r_aload rfl rfl ?_
          refine r_iload rfl rfl ?_
          refine r_iload rfl rfl ?_
          refine r_aload rfl rfl ?_
          refine q_geti rfl rfl rfl hd.2.2.2.2.2.2.2.2.2.2.2.1 ?_
          refine r_kB3 rfl rfl rfl rfl rfl (s_52 hd hz hB hg (by omega) hO hS hC hpn rfl hlm) (fun h117 => ?_) (fun h117 => ?_)
          · refine r_f0 rfl (by first | exact iB0 | exact iB1 | exact iBm | exact hB _ _ | exact hT _ (by omega) | exact ⟨by omega, by omega⟩) (by omega) ?_
            refine r_iload rfl rfl ?_
            refine r_z2 rfl ⟨by omega, by omega⟩ (fun h124 => ?_) (fun h124 => ?_)
            · refine r_aload rfl rfl ?_
              refine q_getr rfl rfl rfl ?_
              refine r_iload rfl rfl ?_
              refine r_iload rfl rfl ?_
              refine r_aload rfl rfl ?_
              refine q_geti rfl rfl rfl hO.1 ?_
              refine r_c3 rfl (by first | exact iB0 | exact iB1 | exact iBm | exact hB _ _ | exact hT _ (by omega) | exact ⟨by omega, by omega⟩) (by first | exact iB0 | exact iB1 | exact iBm | exact hB _ _ | exact hT _ (by omega) | exact ⟨by omega, by omega⟩) (fun h155 => ?_) (fun h155 => ?_)
              · exfalso; omega
              · refine r_iload rfl rfl ?_
                refine r_goto rfl ?_
                refine q_iast rfl rfl (by omega) (by omega) rfl ?_
                refine r_iload rfl rfl ?_
                refine r_aload rfl rfl ?_
                refine q_geti rfl rfl rfl hO.1 ?_
                refine r_c3 rfl (by first | exact iB0 | exact iB1 | exact iBm | exact hB _ _ | exact hT _ (by omega) | exact ⟨by omega, by omega⟩) (by first | exact iB0 | exact iB1 | exact iBm | exact hB _ _ | exact hT _ (by omega) | exact ⟨by omega, by omega⟩) (fun h169 => ?_) (fun h169 => ?_)
                · exfalso; omega
                · refine r_aload rfl rfl ?_
                  refine q_getr rfl rfl rfl ?_
                  refine r_iload rfl rfl ?_
                  refine r_push rfl ?_
                  refine q_zast rfl rfl (by omega) (by omega) rfl (by omega) ?_
                  refine r_iinc rfl rfl ?_
                  refine r_aload rfl rfl ?_
                  refine q_getr rfl rfl rfl ?_
                  refine r_iload rfl rfl ?_
                  refine r_push rfl ?_
                  refine q_iast rfl rfl (by omega) (by omega) rfl ?_
                  refine r_goto rfl ?_
                  refine r_goto rfl ?_
                  have hl1 : ∀ a b, (a < 50 ∨ 51 < a) → layZ z pre (rd_ln z p) Z a b = Z a b := fun a b q => (uZ_ne (by omega) b).trans (uZ_ne (by omega) b)
                  have hl2 : ∀ b, b < pre.length → layZ z pre (rd_ln z p) Z 50 b = Z 50 b := fun b q => (uZ_ne (by omega) b).trans (uZ_nj _ (by omega))
                  have hl4 : layZ z pre (rd_ln z p) Z 50 pre.length = rd_sec z (rd_ln z p) (rd_need z pre (rd_ln z p)) := (uZ_ne (by omega) _).trans (uZ_eq _ _ _ _)
                  have hl5 : layZ z pre (rd_ln z p) Z 51 (pre.length + 1) = rd_cost z pre + rd_dl z (rd_ln z p) (rd_sec z (rd_ln z p) (rd_need z pre (rd_ln z p))) := uZ_eq _ _ _ _
                  have hl3 : ∀ b, b ≤ pre.length → layZ z pre (rd_ln z p) Z 51 b = Z 51 b := fun b q => (uZ_nj _ (by omega)).trans (uZ_ne (by omega) b)
                  have hg2 := rd_gd_app hz hg l1 l2 hlk h117.2
                  have el : (pre ++ [(rd_ln z p, rd_sec z (rd_ln z p) (rd_need z pre (rd_ln z p)))]).length = pre.length + 1 := by simp
                  have hkid := kid_lay2 (f := rd_lvs z k) hlk h117
                  rw [hkid] at hks
                  refine am_X_of (ih _ ((rd_ks z k pre p).foldl rd_up acc) (uZ (uZ (uZ (layZ z pre (rd_ln z p) Z) 48 pre.length p) 49 p 1) 48 (pre.length + 1) (-1)) (some (.int (iI (p : Int))) :: tl) hg2 (by rw [el]; omega) (mR_s (mR_s (mR_s (mR_s (mR_s hd (by omega)) (by omega)) (by omega)) (by omega)) (by omega)) ⟨hO.1, hO.2⟩ ?_ ?_ (mU_up (mU_of hU (fun t => hl1 49 t (by omega))) hpn hlk (fun t => rfl)) (by rw [el]; exact uZ_eq _ _ _ _) (accM_of hA (fun b => hl1 52 b (by omega))) (fun _ a e => by rw [e] at h124; have : a.1 < 0 := h124; rw [e] at hA; have := hA.1; omega) ?_) ?_
                  · refine mS_app (mS_of hS (fun b hb => ?_) (fun b hb => hl2 b hb)) hpn ?_ ?_
                    · exact (uZ_nj _ (by omega)).trans ((uZ_ne (by omega) b).trans ((uZ_nj _ (by omega)).trans (hl1 48 b (by omega))))
                    · exact (uZ_nj _ (by omega)).trans ((uZ_ne (by omega) _).trans (uZ_eq _ _ _ _))
                    · exact (uZ_ne (by omega) _).trans ((uZ_ne (by omega) _).trans ((uZ_ne (by omega) _).trans hl4))
                  · refine mC_app (mC_of hC (fun b hb => hl3 b hb)) ?_
                    rw [rd_cost_app]
                    exact (uZ_ne (by omega) _).trans ((uZ_ne (by omega) _).trans ((uZ_ne (by omega) _).trans hl5))
                  · intro Z' tl' f1 f2 f3 f4 f5
                    have g48 : Z' 48 pre.length = (p : Int) := by
                      obtain ⟨t, t1, t2, t3, t4⟩ := f2 pre.length (rd_ln z p, rd_sec z (rd_ln z p) (rd_need z pre (rd_ln z p))) (by rw [List.getElem?_append_right (Nat.le_refl _)]; simp)
                      rw [t2, ln_inj t1 hpn t3]
                    have hd3 := hF_mR (mR_s (mR_s (mR_s (mR_s (mR_s hd (by omega)) (by omega)) (by omega)) (by omega)) (by omega)) f1
                    have hO3 : mO z Z' := hF_mO (Z := uZ (uZ (uZ (layZ z pre (rd_ln z p) Z) 48 pre.length p) 49 p 1) 48 (pre.length + 1) (-1)) ⟨hO.1, hO.2⟩ f1
                    rw [el]
                    refine am_X_of (σ := (43, some (.ref 34) :: some (.int (iI (accI ((rd_ks z k pre (p + 1)).foldl rd_up acc)))) :: some (.int (iI (pre.length : Int))) :: tl', [], mW Z' Lg N X, 0, 0)) ?_ (by rw [hks, show ((pre.length + 1 : Nat) : Int) - 1 = (pre.length : Int) by omega])
                    have hab2 := accM_B f5
                    rw [← hks] at hab2 f5
                    refine r_iload rfl rfl ?_
                    refine r_z2 rfl (by first | exact iB0 | exact iB1 | exact iBm | exact hB _ _ | exact hT _ (by omega) | exact ⟨by omega, by omega⟩) (fun h44 => ?_) (fun h44 => ?_)
                    · exfalso; omega
                    · refine r_iload rfl rfl ?_
                      refine r_aload rfl rfl ?_
                      refine q_geti rfl rfl rfl hO3.1 ?_
                      refine r_c1 rfl (by first | exact iB0 | exact iB1 | exact iBm | exact hB _ _ | exact hT _ (by omega) | exact ⟨by omega, by omega⟩) (by first | exact iB0 | exact iB1 | exact iBm | exact hB _ _ | exact hT _ (by omega) | exact ⟨by omega, by omega⟩) (fun h52 => ?_) (fun h52 => ?_)
                      · refine r_aload rfl rfl ?_
                        refine q_getr rfl rfl rfl ?_
                        refine r_iload rfl rfl ?_
                        refine q_iald rfl rfl (by omega) (by omega) rfl g48 ?_
                        refine r_istore rfl ?_
                        refine r_iload rfl set_get ?_
                        refine r_z2 rfl (by first | exact iB0 | exact iB1 | exact iBm | exact hB _ _ | exact hT _ (by omega) | exact ⟨by omega, by omega⟩) (fun h80 => ?_) (fun h80 => ?_)
                        · exfalso; omega
                        · refine r_aload rfl rfl ?_
                          refine q_getr rfl rfl rfl ?_
                          refine r_iload rfl set_get ?_
                          refine r_push rfl ?_
                          refine q_zast rfl rfl (by omega) (by omega) rfl (by omega) ?_
                          refine r_iinc rfl set_get ?_
                          have hF2 : hF Z (uZ Z' 49 p 0) := fun a b q => (uZ_ne (by omega) b).trans ((f1 a b q).trans ((uZ_ne (by omega) b).trans ((uZ_ne (by omega) b).trans ((uZ_ne (by omega) b).trans (hl1 a b (by omega))))))
                          refine am_X_of (ihj (p + 1) (uZ Z' 49 p 0) tl'.tail (by omega) (mR_s hd3 (by omega)) (hF_mO hO hF2) (mS_of (mS_pre f2) (fun b _ => uZ_ne (by omega) b) (fun b _ => uZ_ne (by omega) b)) (mC_of (mC_pre f3) (fun b _ => uZ_ne (by omega) b)) (mU_dn f4 hpn hlk) (accM_of f5 (fun b => uZ_ne (by omega) b)) (fun Z' tl' h1 h2 h3 h4 h5 => hK Z' tl' (fun a b q => (h1 a b q).trans (hF2 a b q)) h2 h3 h4 h5)) ?_
                          cases tl' <;> rfl
                      · exfalso; omega
                  · rw [el]; rfl
            · refine r_aload rfl rfl ?_
              refine q_getr rfl rfl rfl ?_
              refine r_iload rfl rfl ?_
              refine r_push rfl ?_
              refine r_iadd rfl ?_
              refine q_iald rfl rfl (by omega) (by omega) rfl (uZ_eq _ _ _ _) ?_
              refine r_iload rfl rfl ?_
              refine r_c2 rfl (by have h1 := cost_B hz hg; have h2 := dl_B hz l1 (s := rd_sec z (rd_ln z p) (rd_need z pre (rd_ln z p))) (rd_sec_ge hz l1 h117.2).2.2; exact ⟨by omega, by omega⟩) ⟨by omega, by omega⟩ (fun h136 => ?_) (fun h136 => ?_)
              · refine r_aload rfl rfl ?_
                refine q_getr rfl rfl rfl ?_
                refine r_iload rfl rfl ?_
                refine r_iload rfl rfl ?_
                refine r_aload rfl rfl ?_
                refine q_geti rfl rfl rfl hO.1 ?_
                refine r_c3 rfl (by first | exact iB0 | exact iB1 | exact iBm | exact hB _ _ | exact hT _ (by omega) | exact ⟨by omega, by omega⟩) (by first | exact iB0 | exact iB1 | exact iBm | exact hB _ _ | exact hT _ (by omega) | exact ⟨by omega, by omega⟩) (fun h155 => ?_) (fun h155 => ?_)
                · exfalso; omega
                · refine r_iload rfl rfl ?_
                  refine r_goto rfl ?_
                  refine q_iast rfl rfl (by omega) (by omega) rfl ?_
                  refine r_iload rfl rfl ?_
                  refine r_aload rfl rfl ?_
                  refine q_geti rfl rfl rfl hO.1 ?_
                  refine r_c3 rfl (by first | exact iB0 | exact iB1 | exact iBm | exact hB _ _ | exact hT _ (by omega) | exact ⟨by omega, by omega⟩) (by first | exact iB0 | exact iB1 | exact iBm | exact hB _ _ | exact hT _ (by omega) | exact ⟨by omega, by omega⟩) (fun h169 => ?_) (fun h169 => ?_)
                  · exfalso; omega
                  · refine r_aload rfl rfl ?_
                    refine q_getr rfl rfl rfl ?_
                    refine r_iload rfl rfl ?_
                    refine r_push rfl ?_
                    refine q_zast rfl rfl (by omega) (by omega) rfl (by omega) ?_
                    refine r_iinc rfl rfl ?_
                    refine r_aload rfl rfl ?_
                    refine q_getr rfl rfl rfl ?_
                    refine r_iload rfl rfl ?_
                    refine r_push rfl ?_
                    refine q_iast rfl rfl (by omega) (by omega) rfl ?_
                    refine r_goto rfl ?_
                    refine r_goto rfl ?_
                    have hl1 : ∀ a b, (a < 50 ∨ 51 < a) → layZ z pre (rd_ln z p) Z a b = Z a b := fun a b q => (uZ_ne (by omega) b).trans (uZ_ne (by omega) b)
                    have hl2 : ∀ b, b < pre.length → layZ z pre (rd_ln z p) Z 50 b = Z 50 b := fun b q => (uZ_ne (by omega) b).trans (uZ_nj _ (by omega))
                    have hl4 : layZ z pre (rd_ln z p) Z 50 pre.length = rd_sec z (rd_ln z p) (rd_need z pre (rd_ln z p)) := (uZ_ne (by omega) _).trans (uZ_eq _ _ _ _)
                    have hl5 : layZ z pre (rd_ln z p) Z 51 (pre.length + 1) = rd_cost z pre + rd_dl z (rd_ln z p) (rd_sec z (rd_ln z p) (rd_need z pre (rd_ln z p))) := uZ_eq _ _ _ _
                    have hl3 : ∀ b, b ≤ pre.length → layZ z pre (rd_ln z p) Z 51 b = Z 51 b := fun b q => (uZ_nj _ (by omega)).trans (uZ_ne (by omega) b)
                    have hg2 := rd_gd_app hz hg l1 l2 hlk h117.2
                    have el : (pre ++ [(rd_ln z p, rd_sec z (rd_ln z p) (rd_need z pre (rd_ln z p)))]).length = pre.length + 1 := by simp
                    have hkid := kid_lay2 (f := rd_lvs z k) hlk h117
                    rw [hkid] at hks
                    refine am_X_of (ih _ ((rd_ks z k pre p).foldl rd_up acc) (uZ (uZ (uZ (layZ z pre (rd_ln z p) Z) 48 pre.length p) 49 p 1) 48 (pre.length + 1) (-1)) (some (.int (iI (p : Int))) :: tl) hg2 (by rw [el]; omega) (mR_s (mR_s (mR_s (mR_s (mR_s hd (by omega)) (by omega)) (by omega)) (by omega)) (by omega)) ⟨hO.1, hO.2⟩ ?_ ?_ (mU_up (mU_of hU (fun t => hl1 49 t (by omega))) hpn hlk (fun t => rfl)) (by rw [el]; exact uZ_eq _ _ _ _) (accM_of hA (fun b => hl1 52 b (by omega))) (fun _ a e => by rw [rd_cost_app]; rw [e] at h136; exact h136) ?_) ?_
                    · refine mS_app (mS_of hS (fun b hb => ?_) (fun b hb => hl2 b hb)) hpn ?_ ?_
                      · exact (uZ_nj _ (by omega)).trans ((uZ_ne (by omega) b).trans ((uZ_nj _ (by omega)).trans (hl1 48 b (by omega))))
                      · exact (uZ_nj _ (by omega)).trans ((uZ_ne (by omega) _).trans (uZ_eq _ _ _ _))
                      · exact (uZ_ne (by omega) _).trans ((uZ_ne (by omega) _).trans ((uZ_ne (by omega) _).trans hl4))
                    · refine mC_app (mC_of hC (fun b hb => hl3 b hb)) ?_
                      rw [rd_cost_app]
                      exact (uZ_ne (by omega) _).trans ((uZ_ne (by omega) _).trans ((uZ_ne (by omega) _).trans hl5))
                    · intro Z' tl' f1 f2 f3 f4 f5
                      have g48 : Z' 48 pre.length = (p : Int) := by
                        obtain ⟨t, t1, t2, t3, t4⟩ := f2 pre.length (rd_ln z p, rd_sec z (rd_ln z p) (rd_need z pre (rd_ln z p))) (by rw [List.getElem?_append_right (Nat.le_refl _)]; simp)
                        rw [t2, ln_inj t1 hpn t3]
                      have hd3 := hF_mR (mR_s (mR_s (mR_s (mR_s (mR_s hd (by omega)) (by omega)) (by omega)) (by omega)) (by omega)) f1
                      have hO3 : mO z Z' := hF_mO (Z := uZ (uZ (uZ (layZ z pre (rd_ln z p) Z) 48 pre.length p) 49 p 1) 48 (pre.length + 1) (-1)) ⟨hO.1, hO.2⟩ f1
                      rw [el]
                      refine am_X_of (σ := (43, some (.ref 34) :: some (.int (iI (accI ((rd_ks z k pre (p + 1)).foldl rd_up acc)))) :: some (.int (iI (pre.length : Int))) :: tl', [], mW Z' Lg N X, 0, 0)) ?_ (by rw [hks, show ((pre.length + 1 : Nat) : Int) - 1 = (pre.length : Int) by omega])
                      have hab2 := accM_B f5
                      rw [← hks] at hab2 f5
                      refine r_iload rfl rfl ?_
                      refine r_z2 rfl (by first | exact iB0 | exact iB1 | exact iBm | exact hB _ _ | exact hT _ (by omega) | exact ⟨by omega, by omega⟩) (fun h44 => ?_) (fun h44 => ?_)
                      · exfalso; omega
                      · refine r_iload rfl rfl ?_
                        refine r_aload rfl rfl ?_
                        refine q_geti rfl rfl rfl hO3.1 ?_
                        refine r_c1 rfl (by first | exact iB0 | exact iB1 | exact iBm | exact hB _ _ | exact hT _ (by omega) | exact ⟨by omega, by omega⟩) (by first | exact iB0 | exact iB1 | exact iBm | exact hB _ _ | exact hT _ (by omega) | exact ⟨by omega, by omega⟩) (fun h52 => ?_) (fun h52 => ?_)
                        · refine r_aload rfl rfl ?_
                          refine q_getr rfl rfl rfl ?_
                          refine r_iload rfl rfl ?_
                          refine q_iald rfl rfl (by omega) (by omega) rfl g48 ?_
                          refine r_istore rfl ?_
                          refine r_iload rfl set_get ?_
                          refine r_z2 rfl (by first | exact iB0 | exact iB1 | exact iBm | exact hB _ _ | exact hT _ (by omega) | exact ⟨by omega, by omega⟩) (fun h80 => ?_) (fun h80 => ?_)
                          · exfalso; omega
                          · refine r_aload rfl rfl ?_
                            refine q_getr rfl rfl rfl ?_
                            refine r_iload rfl set_get ?_
                            refine r_push rfl ?_
                            refine q_zast rfl rfl (by omega) (by omega) rfl (by omega) ?_
                            refine r_iinc rfl set_get ?_
                            have hF2 : hF Z (uZ Z' 49 p 0) := fun a b q => (uZ_ne (by omega) b).trans ((f1 a b q).trans ((uZ_ne (by omega) b).trans ((uZ_ne (by omega) b).trans ((uZ_ne (by omega) b).trans (hl1 a b (by omega))))))
                            refine am_X_of (ihj (p + 1) (uZ Z' 49 p 0) tl'.tail (by omega) (mR_s hd3 (by omega)) (hF_mO hO hF2) (mS_of (mS_pre f2) (fun b _ => uZ_ne (by omega) b) (fun b _ => uZ_ne (by omega) b)) (mC_of (mC_pre f3) (fun b _ => uZ_ne (by omega) b)) (mU_dn f4 hpn hlk) (accM_of f5 (fun b => uZ_ne (by omega) b)) (fun Z' tl' h1 h2 h3 h4 h5 => hK Z' tl' (fun a b q => (h1 a b q).trans (hF2 a b q)) h2 h3 h4 h5)) ?_
                            cases tl' <;> rfl
                        · exfalso; omega
                    · rw [el]; rfl
              · refine r_iinc rfl rfl ?_
                refine r_goto rfl ?_
                have hl1 : ∀ a b, (a < 50 ∨ 51 < a) → layZ z pre (rd_ln z p) Z a b = Z a b := fun a b q => (uZ_ne (by omega) b).trans (uZ_ne (by omega) b)
                have hl2 : ∀ b, b < pre.length → layZ z pre (rd_ln z p) Z 50 b = Z 50 b := fun b q => (uZ_ne (by omega) b).trans (uZ_nj _ (by omega))
                have hl4 : layZ z pre (rd_ln z p) Z 50 pre.length = rd_sec z (rd_ln z p) (rd_need z pre (rd_ln z p)) := (uZ_ne (by omega) _).trans (uZ_eq _ _ _ _)
                have hl5 : layZ z pre (rd_ln z p) Z 51 (pre.length + 1) = rd_cost z pre + rd_dl z (rd_ln z p) (rd_sec z (rd_ln z p) (rd_need z pre (rd_ln z p))) := uZ_eq _ _ _ _
                have hl3 : ∀ b, b ≤ pre.length → layZ z pre (rd_ln z p) Z 51 b = Z 51 b := fun b q => (uZ_nj _ (by omega)).trans (uZ_ne (by omega) b)
                have hks2 : (rd_ks z k pre (p + 1)).foldl rd_up acc = (rd_ks z k pre p).foldl rd_up acc := by
                  rw [hks, kid_lay2 (f := rd_lvs z k) hlk h117]
                  cases e : (rd_ks z k pre p).foldl rd_up acc with
                  | none => rw [e] at h124; exact absurd h124 (by show ¬ 0 ≤ (-1 : Int); omega)
                  | some a =>
                    refine rd_skip2 hz ?_
                    rw [rd_cost_app]
                    rw [e] at h136
                    exact h136
                refine am_X_of (ihj (p + 1) (layZ z pre (rd_ln z p) Z) tl (by omega) (mR_s (mR_s hd (by omega)) (by omega)) ⟨hO.1, hO.2⟩ (mS_of hS (fun b _ => hl1 48 b (by omega)) hl2) (mC_of hC hl3) (mU_of hU (fun t => hl1 49 t (by omega))) (by rw [hks2]; exact accM_of hA (fun b => hl1 52 b (by omega))) (fun Z' tl' f1 f2 f3 f4 f5 => hK Z' tl' (fun a b q => (f1 a b q).trans (hl1 a b (by omega))) f2 f3 f4 f5)) ?_
                rw [hks2]
                rfl
          · refine r_t0 rfl (by first | exact iB0 | exact iB1 | exact iBm | exact hB _ _ | exact hT _ (by omega) | exact ⟨by omega, by omega⟩) (by omega) ?_
            refine r_iinc rfl rfl ?_
            refine r_goto rfl ?_
            rw [kid_lay (f := rd_lvs z k) h117] at hks
            refine am_X_of (ihj (p + 1) Z tl (by omega) hd hO hS hC hU (by rw [hks]; exact hA) hK) ?_
            rw [hks]
            rfl

end MTP
