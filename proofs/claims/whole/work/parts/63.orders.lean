/-! the class's search: the beginning, the orders -/
section CTP
/-- nothing but the search's own cells has changed -/
def sF (Z Z' : wZ) : Prop := ∀ k j, (k < 18 ∨ 30 < k) → Z' k j = Z k j
theorem sF_cR {z : rd_Z} {Z Z' : wZ} (h : cR z Z) (e : sF Z Z') : cR z Z' := cR_of h (fun k j q => e k j (by omega))
theorem pl_lt {z : rd_Z} {m : Nat} (hm : m < 7) : rd_pl z m < 7 := by
  have h := rd_cnt_lt (p := fun o => rd_th z o && rd_bf (z 3) o m) (q := fun _ => true) (n := 7) (j := m) (fun _ _ _ => rfl) hm rfl (by simp [rd_bf_irr])
  rw [rd_cnt_true] at h
  exact h
theorem n_le (z : rd_Z) : rd_n z ≤ 7 := rd_cnt_le _ _
theorem row_nil {z : rd_Z} {m : Nat} : rd_row z [] m = rd_sec z m 0 := rfl
theorem row_none {z : rd_Z} {pre : rd_P} {m : Nat} (h : rd_lk m pre = none) : rd_row z pre m = rd_sec z m (rd_need z pre m) := by simp [rd_row, h]
theorem row_some {z : rd_Z} {pre : rd_P} {m : Nat} {s : Int} (h : rd_lk m pre = some s) : rd_row z pre m = s := by simp [rd_row, h]
def bgP (z : rd_Z) (Z1 : wZ) : Prop := Z1 18 4 = -1 ∧ (∀ m, m < 7 → Z1 29 m = 0) ∧ (∀ m, m < 7 → Z1 20 m = if rd_th z m = true then rd_row z [] m else -1) ∧ ∀ p, p < rd_n z → Z1 28 p = rd_ln z p

theorem s_74 {d : Nat} {Z : wZ} {Lg : Nat → Nat → Int64} {N : Nat} {X : Nat → Int32} {z : rd_Z} (hc : cR z Z) (hz : rd_ok z) (hB : zB z)  : am_T am_tabs am_ar (d + 5) 74 [.ref 18, .ref 1] (mW Z Lg N X) (am_vd (fun w1 => ∃ Z1, w1 = mW Z1 Lg N X ∧ sF Z Z1 ∧ bgP z Z1)) := by
  refine ⟨⟨rfl, rfl⟩, ?_⟩
  show am_X (am_tb op_74) _ _ _
  refine r_aload rfl rfl ?_
  refine r_push rfl ?_
  refine q_puti rfl rfl rfl ?_
  refine r_push rfl ?_
  refine r_istore rfl ?_
  refine r_loopS (fun o σ => ∃ Z1 : wZ, sF Z Z1 ∧ Z1 18 4 = -1 ∧ (∀ m, m < o → Z1 29 m = 0) ∧ (∀ m, m < o → Z1 20 m = if rd_th z m = true then rd_row z [] m else -1) ∧ (∀ m, m < o → rd_th z m = true → Z1 28 (rd_pl z m) = m) ∧ σ = (7, [some (.ref 18), some (.ref 1), some (.int (iI o))], [], mW Z1 Lg N X, 0, 0)) 7 (fun o σ ho hS1 hn => ?_) (fun σ hS1 => ?_) ⟨_, fun k j hk => uZ_ne (by omega) j, uZ_eq _ _ _ _, fun m hm => absurd hm (by omega), fun m hm => absurd hm (by omega), fun m hm => absurd hm (by omega), rfl⟩
  · obtain ⟨Z1, g0, g1, g2, g3, g4, rfl⟩ := hS1
    have hc1 : cR z Z1 := sF_cR hc g0
    have hpl := pl_lt (z := z) ho
    refine r_iload rfl rfl ?_
    refine r_push rfl ?_
    refine r_c3 rfl (by first | exact iB0 | exact iB1 | exact iBm | exact hB _ _ | exact hT _ (by omega) | exact ⟨by omega, by omega⟩) (by first | exact iB0 | exact iB1 | exact iBm | exact hB _ _ | exact hT _ (by omega) | exact ⟨by omega, by omega⟩) (fun h10 => ?_) (fun h10 => ?_)
    · exfalso; omega
    · refine r_aload rfl rfl ?_
      refine q_getr rfl rfl rfl ?_
      refine r_iload rfl rfl ?_
      refine r_push rfl ?_
      refine q_zast rfl rfl (by omega) (by omega) rfl (by omega) ?_
      refine r_aload rfl rfl ?_
      refine q_getr rfl rfl rfl ?_
      refine r_push rfl ?_
      refine q_aald rfl rfl (by omega) (by omega) rfl rfl ?_
      refine r_iload rfl rfl ?_
      refine r_push rfl ?_
      refine q_iast rfl rfl (by omega) (by omega) rfl ?_
      refine r_aload rfl rfl ?_
      refine q_getr rfl rfl rfl ?_
      refine r_iload rfl rfl ?_
      refine q_zald rfl rfl (by omega) (by omega) rfl (hc1.1 o) ?_
      refine r_z0 rfl (by first | exact iB0 | exact iB1 | exact iBm | exact hB _ _ | exact hT _ (by omega) | exact ⟨by omega, by omega⟩) (fun h35 => ?_) (fun h35 => ?_)
      · refine r_iinc rfl rfl ?_
        refine r_goto rfl ?_
        refine hn _ ⟨_, fun k j hk => ?_, ?_, fun m hm => ?_, fun m hm => ?_, fun m hm ht => ?_, rfl⟩
        · simp only [uZ]; repeat' rw [if_neg (by omega)]
          exact g0 k j hk
        · simp only [uZ]; repeat' rw [if_neg (by omega)]
          exact g1
        · by_cases e : m = o
          · subst e; simp [uZ]
          · simp [uZ, e]; exact g2 m (by omega)
        · by_cases e : m = o
          · subst e; simp [uZ, rd_th, h35, row_nil]
          · simp [uZ, e]; exact g3 m (by omega)
        · by_cases e : m = o
          · subst e; exact absurd h35 (th_iff.mp ht)
          · simp [uZ]; exact g4 m (by omega) ht
      · refine r_aload rfl rfl ?_
        refine q_getr rfl rfl rfl ?_
        refine r_aload rfl rfl ?_
        refine r_iload rfl rfl ?_
        refine r_ki1 rfl rfl rfl rfl rfl (s_86 (cR_u (cR_u hc1 (by omega)) (by omega)) hz hB ho) ?_
        refine r_iload rfl rfl ?_
        refine q_iast rfl rfl (by omega) (by omega) rfl ?_
        refine r_aload rfl rfl ?_
        refine q_getr rfl rfl rfl ?_
        refine r_push rfl ?_
        refine q_aald rfl rfl (by omega) (by omega) rfl rfl ?_
        refine r_iload rfl rfl ?_
        refine r_aload rfl rfl ?_
        refine r_iload rfl rfl ?_
        refine r_push rfl ?_
        refine r_ki2 rfl rfl rfl rfl rfl (s_91 (cR_u (cR_u (cR_u hc1 (by omega)) (by omega)) (by omega)) hz hB ho ⟨by omega, by omega⟩) ?_
        refine q_iast rfl rfl (by omega) (by omega) rfl ?_
        refine r_iinc rfl rfl ?_
        refine r_goto rfl ?_
        refine hn _ ⟨_, fun k j hk => ?_, ?_, fun m hm => ?_, fun m hm => ?_, fun m hm ht => ?_, rfl⟩
        · simp only [uZ]; repeat' rw [if_neg (by omega)]
          exact g0 k j hk
        · simp only [uZ]; repeat' rw [if_neg (by omega)]
          exact g1
        · by_cases e : m = o
          · subst e; simp [uZ]
          · simp [uZ, e]; exact g2 m (by omega)
        · by_cases e : m = o
          · subst e; simp [uZ, rd_th, h35, row_nil]
          · simp [uZ, e]; exact g3 m (by omega)
        · by_cases e : m = o
          · subst e; simp [uZ]
          · have e2 : rd_pl z m ≠ rd_pl z o := fun q => e (rd_plc_inj (by omega) ho ht (th_iff.mpr h35) q)
            simp [uZ, e2]; exact g4 m (by omega) ht
  · obtain ⟨Z1, g0, g1, g2, g3, g4, rfl⟩ := hS1
    refine r_iload rfl rfl ?_
    refine r_push rfl ?_
    refine r_c3 rfl (by first | exact iB0 | exact iB1 | exact iBm | exact hB _ _ | exact hT _ (by omega) | exact ⟨by omega, by omega⟩) (by first | exact iB0 | exact iB1 | exact iBm | exact hB _ _ | exact hT _ (by omega) | exact ⟨by omega, by omega⟩) (fun h10 => ?_) (fun h10 => ?_)
    · refine q_vret rfl rfl rfl ?_
      refine ⟨rfl, Z1, rfl, g0, g1, g2, g3, fun p hp => ?_⟩
      obtain ⟨l1, l2, l3⟩ := rd_ln_ok hp
      have := g4 _ l1 l2
      rw [l3] at this
      exact this
    · exfalso; omega

theorem s_73 {d : Nat} {Z : wZ} {Lg : Nat → Nat → Int64} {N : Nat} {X : Nat → Int32}  : am_T am_tabs am_ar (d + 1) 73 [.ref 18, .ref 31] (mW Z Lg N X) (am_vd (fun w1 => w1 = mW (cpZ Z 30 31) Lg N X)) := by
  refine ⟨⟨rfl, rfl⟩, ?_⟩
  show am_X (am_tb op_73) _ _ _
  refine r_aload rfl rfl ?_
  refine q_getr rfl rfl rfl ?_
  refine r_push rfl ?_
  refine r_aload rfl rfl ?_
  refine r_push rfl ?_
  refine r_push rfl ?_
  refine q_copy rfl rfl rfl rfl ?_
  refine q_vret rfl rfl rfl ?_
  exact ⟨rfl, rfl⟩

/-- the best order so far, in the search's cells -/
def accR (z : rd_Z) (acc : Option (Int × rd_P)) (Z : wZ) : Prop := match acc with
  | none => Z 18 4 = -1
  | some a => Z 18 4 = a.1 ∧ 0 ≤ a.1 ∧ a.1 ≤ 2100000 ∧ rd_gd z a.2 ∧ ∀ m, m < 7 → Z 30 m = (rd_lk m a.2).getD (-1)
theorem accR_of {z : rd_Z} {acc : Option (Int × rd_P)} {Z Z' : wZ} (h : accR z acc Z) (h1 : Z' 18 4 = Z 18 4) (h2 : ∀ j, Z' 30 j = Z 30 j) : accR z acc Z' := by
  cases acc with
  | none => exact h1.trans h
  | some a => exact ⟨h1.trans h.1, h.2.1, h.2.2.1, h.2.2.2.1, fun m hm => (h2 m).trans (h.2.2.2.2 m hm)⟩
theorem accR_B {z : rd_Z} {acc : Option (Int × rd_P)} {Z : wZ} (h : accR z acc Z) : -1 ≤ Z 18 4 ∧ Z 18 4 ≤ 2100000 := by
  cases acc with
  | none => have h : Z 18 4 = -1 := h; omega
  | some a => have h1 := h.1; have h2 := h.2.1; have h3 := h.2.2.1; omega
/-- the search's cells behind the beginning pre of an order -/
def tpI (z : rd_Z) (pre : rd_P) (Z : wZ) : Prop := (∀ p, p < rd_n z → Z 28 p = rd_ln z p) ∧ (∀ m, m < 7 → Z 29 m = if (rd_lk m pre).isSome = true then 1 else 0) ∧ ∀ m, m < 7 → Z (20 + pre.length) m = if rd_th z m = true then rd_row z pre m else -1
theorem tpI_B {z : rd_Z} (hz : rd_ok z) {pre : rd_P} {Z : wZ} (hg : rd_gd z pre) (h : tpI z pre Z) : pB Z (20 + pre.length) := fun j hj => by
  rw [h.2.2 j hj]
  have := row_B hz hg hj
  split <;> omega
theorem tpI_rdl {z : rd_Z} {pre : rd_P} {Z : wZ} (h : tpI z pre Z) : rd_rdl z (Z (20 + pre.length)) = rd_rdl z (rd_row z pre) := rdl_congr (fun m hm ht => by rw [h.2.2 m hm, if_pos ht])
theorem nx_row {z : rd_Z} (hz : rd_ok z) {pre : rd_P} {Z : wZ} (hI : tpI z pre Z) {m : Nat} (hm : m < 7) (htm : rd_th z m = true) (hk : rd_lk m pre = none) (hr : rd_rdl z (rd_row z pre) ≠ -1) {j : Nat} (hj : j < 7) : nxR z Z pre.length m j = if rd_th z j = true then rd_row z (pre ++ [(m, rd_row z pre m)]) j else -1 := by
  unfold nxR
  by_cases ht : rd_th z j = true
  · rw [if_pos ht]
    have hne := (rd_rdl_ne hz).mp hr j hj ht
    by_cases e : j = m
    · subst e
      rw [if_neg (fun q => q.2.1 rfl), hI.2.2 j hj, if_pos ht]
      refine (row_some ?_).symm
      rw [rd_lk_app, hk]
      simp
    · cases hl : rd_lk j pre with
      | some s =>
        rw [if_neg (fun q => by have := q.2.2; rw [hI.2.1 j hj, hl] at this; simp at this), hI.2.2 j hj, if_pos ht, row_some hl]
        refine (row_some ?_).symm
        rw [rd_lk_app, hl]
      | none =>
        have hl2 : rd_lk j (pre ++ [(m, rd_row z pre m)]) = none := by
          rw [rd_lk_app, hl]
          simp
          exact fun q => e q.symm
        rw [if_pos ⟨th_iff.mp ht, e, by rw [hI.2.1 j hj, hl]; rfl⟩, hI.2.2 j hj, if_pos ht, hI.2.2 m hm, if_pos htm]
        exact rd_row_next hz hj hne hl2
  · rw [if_neg ht, if_neg (fun q => ht (th_iff.mpr q.1)), hI.2.2 j hj, if_neg ht]

theorem tp_leaf {z : rd_Z} (hz : rd_ok z) {pre : rd_P} {Z : wZ} {acc : Option (Int × rd_P)} (hg : rd_gd z pre) (hn : pre.length + 0 = rd_n z) (hI : tpI z pre Z) (hr : rd_rdl z (rd_row z pre) ≠ -1) (hw : ∀ a, acc = some a → rd_rdl z (rd_row z pre) < a.1) (hA : accR z acc Z) :
    accR z ((rd_lvs z 0 pre).foldl rd_up acc) (cpZ (uZ Z 18 4 (rd_rdl z (Z (20 + pre.length)))) (20 + pre.length) 30) := by
  have hc := rd_full_cost hz hg hn
  have hx := tpI_rdl hI
  have hb := rdl_B hz (r := rd_row z pre) (fun m hm _ => (row_B hz hg hm).2)
  have e : (rd_lvs z 0 pre).foldl rd_up acc = some (rd_cost z pre, pre) := by
    cases acc with
    | none => rfl
    | some a =>
      have := hw a rfl
      show rd_up (some a) (rd_cost z pre, pre) = _
      unfold rd_up
      exact if_pos (by show rd_cost z pre < a.1; omega)
  rw [e]
  refine ⟨?_, ?_, ?_, hg, fun m hm => ?_⟩
  · show (if 18 = 30 then _ else uZ Z 18 4 (rd_rdl z (Z (20 + pre.length))) 18 4) = rd_cost z pre
    rw [if_neg (by omega), uZ_eq, hx, hc.2]
  · show 0 ≤ rd_cost z pre; omega
  · show rd_cost z pre ≤ 2100000; omega
  · show (if 30 = 30 then (if m < 7 then uZ Z 18 4 (rd_rdl z (Z (20 + pre.length))) (20 + pre.length) m else _) else _) = (rd_lk m pre).getD (-1)
    rw [if_pos rfl, if_pos hm, uZ_ne (by omega), hI.2.2 m hm]
    by_cases ht : rd_th z m = true
    · rw [if_pos ht]
      cases hl : rd_lk m pre with
      | none => exact absurd hl (rd_full hg hn m hm ht)
      | some s => exact row_some hl
    · rw [if_neg ht]
      cases hl : rd_lk m pre with
      | none => rfl
      | some s => exact absurd (hg.1 _ (rd_lk_mem hl)).2.1 ht
theorem tp_next {z : rd_Z} (hz : rd_ok z) {pre : rd_P} {Z Z2 : wZ} (hg : rd_gd z pre) (hI : tpI z pre Z) {m : Nat} (hm : m < 7) (htm : rd_th z m = true) (hk : rd_lk m pre = none) (hr : rd_rdl z (rd_row z pre) ≠ -1)
    (q1 : ∀ k j, k ≠ 21 + pre.length → Z2 k j = uZ Z 29 m 1 k j) (q2 : ∀ j, j < 7 → Z2 (21 + pre.length) j = nxR z Z pre.length m j) (hl : pre.length < 7) : tpI z (pre ++ [(m, rd_row z pre m)]) Z2 := by
  have el : (pre ++ [(m, rd_row z pre m)]).length = pre.length + 1 := by simp
  refine ⟨fun p hp => (q1 _ _ (by omega)).trans ((uZ_ne (by omega) p).trans (hI.1 p hp)), fun j hj => (q1 _ _ (by omega)).trans ?_, fun j hj => ?_⟩
  · rw [rd_lk_app]
    by_cases e : j = m
    · subst e
      rw [uZ_eq, hk]
      simp
    · rw [uZ_nj _ e, hI.2.1 j hj]
      cases h : rd_lk j pre with
      | some s => rfl
      | none => simp [show ¬ m = j from fun q => e q.symm]
  · rw [el, show 20 + (pre.length + 1) = 21 + pre.length by omega, q2 j hj]
    exact nx_row hz hI hm htm hk hr hj
theorem tp_not {z : rd_Z} {acc : Option (Int × rd_P)} {Z : wZ} {x : Int} (hA : accR z acc Z) (h : ¬ (x ≠ -1 ∧ (Z 18 4 = -1 ∨ x < Z 18 4))) : x = -1 ∨ ∃ a, acc = some a ∧ a.1 ≤ x := by
  by_cases e : x = -1
  · exact Or.inl e
  · refine Or.inr ?_
    cases acc with
    | none => exact absurd ⟨e, Or.inl hA⟩ h
    | some a =>
      have h1 := hA.1
      have h2 := hA.2.1
      exact ⟨a, rfl, by omega⟩
theorem tp_yes {z : rd_Z} {acc : Option (Int × rd_P)} {Z : wZ} {x : Int} (hA : accR z acc Z) (h : x ≠ -1 ∧ (Z 18 4 = -1 ∨ x < Z 18 4)) : ∀ a, acc = some a → x < a.1 := by
  intro a e
  subst e
  have h1 := hA.1
  have h2 := hA.2.1
  omega
theorem tp_back {Z Z1 Z3 : wZ} {m j : Nat} (q : ∀ j, Z3 29 j = uZ Z1 29 m 1 29 j) (e : 0 = Z1 29 m) (g : Z1 29 j = Z 29 j) : uZ Z3 29 m 0 29 j = Z 29 j := by
  by_cases h : j = m
  · subst h
    rw [uZ_eq, e, g]
  · rw [uZ_nj _ h, q, uZ_nj _ h, g]
theorem kid_some {z : rd_Z} {pre : rd_P} {p : Nat} {f : rd_P → List (Int × rd_P)} (h : (rd_lk (rd_ln z p) pre).isSome = true) : rd_kid f z pre p = [] := by unfold rd_kid; rw [if_pos h]
theorem kid_may {z : rd_Z} {pre : rd_P} {p : Nat} {f : rd_P → List (Int × rd_P)} (h : ¬ rd_may z (rd_ln z p) pre.length p = true) : rd_kid f z pre p = [] := by
  unfold rd_kid
  split
  · rfl
  · rw [if_pos (Bool.eq_false_iff.mpr h)]
theorem kid_go {z : rd_Z} {pre : rd_P} {p : Nat} {f : rd_P → List (Int × rd_P)} (h0 : rd_lk (rd_ln z p) pre = none) (h : rd_may z (rd_ln z p) pre.length p = true) (h2 : rd_row z pre (rd_ln z p) ≠ -1) : rd_kid f z pre p = f (pre ++ [(rd_ln z p, rd_row z pre (rd_ln z p))]) := by
  have e := row_none (z := z) h0
  unfold rd_kid
  rw [if_neg (by rw [h0]; simp), if_neg (by rw [h]; simp), ← e, if_neg h2]

theorem s_75 : ∀ (k : Nat) {d : Nat} {Z : wZ} {Lg : Nat → Nat → Int64} {N : Nat} {X : Nat → Int32} {z : rd_Z} (hc : cR z Z) (hz : rd_ok z) (hB : zB z) {pre : rd_P} {acc : Option (Int × rd_P)} (hg : rd_gd z pre) (hn : pre.length + k = rd_n z) (hI : tpI z pre Z) (hA : accR z acc Z) (hr : rd_rdl z (rd_row z pre) ≠ -1) (hw : ∀ a, acc = some a → rd_rdl z (rd_row z pre) < a.1),
    am_T am_tabs am_ar (d + k + 5) 75 [.ref 18, .ref 1, .int (iI (pre.length : Int))] (mW Z Lg N X) (am_vd (fun w1 => ∃ Z1, w1 = mW Z1 Lg N X ∧ accR z ((rd_lvs z k pre).foldl rd_up acc) Z1 ∧ (∀ a j, (a < 18 ∨ 18 < a ∧ a ≤ 20 + pre.length ∨ a = 28 ∨ 30 < a) → Z1 a j = Z a j) ∧ (∀ j, Z1 29 j = Z 29 j))) := by
  intro k
  induction k with
  | zero =>
    intro d Z Lg N X z hc hz hB pre acc hg hn hI hA hr hw
    have hn7 := n_le z
    refine ⟨⟨rfl, rfl⟩, ?_⟩
    show am_X (am_tb op_75) _ _ _
    refine r_iload rfl rfl ?_
    refine r_aload rfl rfl ?_
    refine q_geti rfl rfl rfl hc.2.2.2.2.2.2.2.2.2.2.1 ?_
    refine r_c2 rfl (by first | exact iB0 | exact iB1 | exact iBm | exact hB _ _ | exact hT _ (by omega) | exact ⟨by omega, by omega⟩) (by first | exact iB0 | exact iB1 | exact iBm | exact hB _ _ | exact hT _ (by omega) | exact ⟨by omega, by omega⟩) (fun h5 => ?_) (fun h5 => ?_)
    · exfalso; omega
    · refine r_aload rfl rfl ?_
      refine r_aload rfl rfl ?_
      refine r_aload rfl rfl ?_
      refine r_iload rfl rfl ?_
      refine r_ki2 rfl rfl rfl rfl rfl (s_78 hc hz hB (e := pre.length) (by omega) (tpI_B hz hg hI)) ?_
      refine q_puti rfl rfl rfl ?_
      refine r_aload rfl rfl ?_
      refine q_getr rfl rfl rfl ?_
      refine r_iload rfl rfl ?_
      refine q_aald rfl rfl (by omega) (by omega) rfl (rq (by omega)) ?_
      refine r_push rfl ?_
      refine r_aload rfl rfl ?_
      refine q_getr rfl rfl rfl ?_
      refine r_push rfl ?_
      refine r_push rfl ?_
      refine q_copy rfl rfl (rs (by omega)) rfl ?_
      refine q_vret rfl rfl rfl ?_
      refine ⟨rfl, _, rfl, ?_, fun a j ha => ?_, fun j => ?_⟩
      · exact tp_leaf hz hg hn hI hr hw hA
      · unfold cpZ; rw [if_neg (by omega)]; exact uZ_ne (by omega) j
      · rfl
  | succ k ih =>
    intro d Z Lg N X z hc hz hB pre acc hg hn hI hA hr hw
    have hn7 := n_le z
    refine ⟨⟨rfl, rfl⟩, ?_⟩
    show am_X (am_tb op_75) _ _ _
    refine r_iload rfl rfl ?_
    refine r_aload rfl rfl ?_
    refine q_geti rfl rfl rfl hc.2.2.2.2.2.2.2.2.2.2.1 ?_
    refine r_c2 rfl (by first | exact iB0 | exact iB1 | exact iBm | exact hB _ _ | exact hT _ (by omega) | exact ⟨by omega, by omega⟩) (by first | exact iB0 | exact iB1 | exact iBm | exact hB _ _ | exact hT _ (by omega) | exact ⟨by omega, by omega⟩) (fun h5 => ?_) (fun h5 => ?_)
    · refine r_push rfl ?_
      refine r_istore rfl ?_
      refine r_loopS (fun o σ => ∃ (Z1 : wZ) (tl : List (Option Value)), accR z ((rd_ks z k pre o).foldl rd_up acc) Z1 ∧ (∀ a j, (a < 18 ∨ 18 < a ∧ a ≤ 20 + pre.length ∨ a = 28 ∨ 30 < a) → Z1 a j = Z a j) ∧ (∀ j, Z1 29 j = Z 29 j) ∧ σ = (38, some (.ref 18) :: some (.ref 1) :: some (.int (iI (pre.length : Int))) :: some (.int (iI o)) :: tl, [], mW Z1 Lg N X, 0, 0)) (rd_n z) (fun o σ ho hS1 hn => ?_) (fun σ hS1 => ?_) ⟨Z, [], hA, fun a j _ => rfl, fun j => rfl, rfl⟩
      · obtain ⟨Z1, tl, g1, g2, g3, rfl⟩ := hS1
        have hI1 : tpI z pre Z1 := ⟨fun p hp => (g2 _ _ (by omega)).trans (hI.1 p hp), fun m hm => (g3 m).trans (hI.2.1 m hm), fun m hm => (g2 _ _ (by omega)).trans (hI.2.2 m hm)⟩
        have hc1 : cR z Z1 := cR_of hc (fun k j q => g2 _ _ (by omega))
        obtain ⟨m, em⟩ : ∃ m, rd_ln z o = m := ⟨_, rfl⟩
        obtain ⟨l1, l2, l3⟩ := rd_ln_ok ho
        rw [em] at l1 l2 l3
        have em1 : Z1 28 o = (m : Int) := by rw [hI1.1 o ho, em]
        have hrm := (rd_rdl_ne hz).mp hr m l1 l2
        cases hlk : rd_lk m pre with
        | some s =>
          have e29 : Z1 29 m = 1 := by rw [hI1.2.1 m l1, hlk]; rfl
          refine r_iload rfl rfl ?_
          refine r_aload rfl rfl ?_
          refine q_geti rfl rfl rfl hc1.2.2.2.2.2.2.2.2.2.2.1 ?_
          refine r_c3 rfl (by first | exact iB0 | exact iB1 | exact iBm | exact hB _ _ | exact hT _ (by omega) | exact ⟨by omega, by omega⟩) (by first | exact iB0 | exact iB1 | exact iBm | exact hB _ _ | exact hT _ (by omega) | exact ⟨by omega, by omega⟩) (fun h43 => ?_) (fun h43 => ?_)
          · exfalso; omega
          · refine r_aload rfl rfl ?_
            refine q_getr rfl rfl rfl ?_
            refine r_iload rfl rfl ?_
            refine q_iald rfl rfl (by omega) (by omega) rfl em1 ?_
            refine r_istore rfl ?_
            refine r_aload rfl rfl ?_
            refine q_getr rfl rfl rfl ?_
            refine r_iload rfl set_get ?_
            refine q_zald rfl rfl (by omega) (by omega) rfl e29 ?_
            refine r_z1 rfl (by first | exact iB0 | exact iB1 | exact iBm | exact hB _ _ | exact hT _ (by omega) | exact ⟨by omega, by omega⟩) (fun h61 => ?_) (fun h61 => ?_)
            · refine r_iinc rfl rfl ?_
              refine r_goto rfl ?_
              have hkid := kid_some (f := rd_lvs z k) (em.symm ▸ (by rw [hlk]; rfl : (rd_lk m pre).isSome = true))
              exact hn _ ⟨Z1, _, by rw [rd_ks_succ, hkid]; exact g1, g2, g3, rfl⟩
            · exfalso; omega
        | none =>
          have e29 : Z1 29 m = 0 := by rw [hI1.2.1 m l1, hlk]; rfl
          have hP1 := tpI_B hz hg hI1
          have hS01 : ∀ j, j < 7 → Z1 29 j = 0 ∨ Z1 29 j = 1 := fun j hj => by rw [hI1.2.1 j hj]; split <;> omega
          have el : (pre ++ [(m, rd_row z pre m)]).length = pre.length + 1 := by simp
          have hg2 : rd_gd z (pre ++ [(m, rd_row z pre m)]) := by rw [row_none hlk] at hrm ⊢; exact rd_gd_app hz hg l1 l2 hlk hrm
          refine r_iload rfl rfl ?_
          refine r_aload rfl rfl ?_
          refine q_geti rfl rfl rfl hc1.2.2.2.2.2.2.2.2.2.2.1 ?_
          refine r_c3 rfl (by first | exact iB0 | exact iB1 | exact iBm | exact hB _ _ | exact hT _ (by omega) | exact ⟨by omega, by omega⟩) (by first | exact iB0 | exact iB1 | exact iBm | exact hB _ _ | exact hT _ (by omega) | exact ⟨by omega, by omega⟩) (fun h43 => ?_) (fun h43 => ?_)
          · exfalso; omega
          · refine r_aload rfl rfl ?_
            refine q_getr rfl rfl rfl ?_
            refine r_iload rfl rfl ?_
            refine q_iald rfl rfl (by omega) (by omega) rfl em1 ?_
            refine r_istore rfl ?_
            refine r_aload rfl rfl ?_
            refine q_getr rfl rfl rfl ?_
            refine r_iload rfl set_get ?_
            refine q_zald rfl rfl (by omega) (by omega) rfl e29 ?_
            refine r_z1 rfl (by first | exact iB0 | exact iB1 | exact iBm | exact hB _ _ | exact hT _ (by omega) | exact ⟨by omega, by omega⟩) (fun h61 => ?_) (fun h61 => ?_)
            · exfalso; omega
            · refine r_aload rfl rfl ?_
              refine r_iload rfl set_get ?_
              refine r_iload rfl rfl ?_
              refine r_iload rfl rfl ?_
              refine r_kb3 rfl rfl rfl rfl rfl (s_87 hc1 hz hB l1 (e := pre.length) (p := o) (by omega) (by omega)) (fun h69 => ?_) (fun h69 => ?_)
              · refine r_f0 rfl (by first | exact iB0 | exact iB1 | exact iBm | exact hB _ _ | exact hT _ (by omega) | exact ⟨by omega, by omega⟩) (by omega) ?_
                refine r_aload rfl rfl ?_
                refine r_aload rfl rfl ?_
                refine r_iload rfl rfl ?_
                refine r_iload rfl set_get ?_
                refine r_kv3 rfl rfl rfl rfl rfl (s_77 hc1 hz hB l1 (e := pre.length) (by omega) hP1 hS01) (fun w1 h80 => ?_)
                obtain ⟨Z2, rfl, q1, q2⟩ := h80
                have hc2 : cR z Z2 := cR_of hc1 (fun k j q => (q1 _ _ (by omega)).trans (uZ_ne (by omega) j))
                have hI2 : tpI z (pre ++ [(m, rd_row z pre m)]) Z2 := tp_next hz hg hI1 l1 l2 hlk hr q1 q2 (by omega)
                have hP2 := tpI_B hz hg2 hI2
                rw [el] at hP2
                have hx := tpI_rdl hI2
                rw [el] at hx
                have hxB := rdl_B hz (r := Z2 (20 + (pre.length + 1))) (fun j hj _ => (hP2 j hj).2)
                have hA2 : accR z ((rd_ks z k pre o).foldl rd_up acc) Z2 := accR_of g1 ((q1 _ _ (by omega)).trans (uZ_ne (by omega) _)) (fun j => (q1 _ _ (by omega)).trans (uZ_ne (by omega) _))
                have hAB := accR_B hA2
                refine r_aload rfl rfl ?_
                refine r_aload rfl rfl ?_
                refine r_aload rfl rfl ?_
                refine r_iload rfl rfl ?_
                refine r_push rfl ?_
                refine r_iadd rfl ?_
                refine r_ki2 rfl rfl rfl rfl rfl (s_78 hc2 hz hB (e := pre.length + 1) (by omega) hP2) ?_
                refine r_kb1 rfl rfl rfl rfl rfl (s_76 ⟨by omega, by omega⟩ ⟨by omega, by omega⟩) (fun h92 => ?_) (fun h92 => ?_)
                · refine r_f0 rfl (by first | exact iB0 | exact iB1 | exact iBm | exact hB _ _ | exact hT _ (by omega) | exact ⟨by omega, by omega⟩) (by omega) ?_
                  refine r_aload rfl rfl ?_
                  refine r_aload rfl rfl ?_
                  refine r_iload rfl rfl ?_
                  refine r_push rfl ?_
                  refine r_iadd rfl ?_
                  refine r_kv2 rfl rfl rfl rfl rfl (el ▸ ih hc2 hz hB hg2 (by rw [el]; omega) hI2 hA2 (hx ▸ h92.1) (hx ▸ tp_yes hA2 h92)) (fun w1 h103 => ?_)
                  obtain ⟨Z3, rfl, r1, r2, r3⟩ := h103
                  refine r_aload rfl rfl ?_
                  refine q_getr rfl rfl rfl ?_
                  refine r_iload rfl set_get ?_
                  refine r_push rfl ?_
                  refine q_zast rfl rfl (by omega) (by omega) rfl (by omega) ?_
                  refine r_iinc rfl rfl ?_
                  refine r_goto rfl ?_
                  have hkid := kid_go (f := rd_lvs z k) (em.symm ▸ hlk) (em.symm ▸ h69) (em.symm ▸ hrm)
                  rw [em] at hkid
                  refine hn _ ⟨_, _, ?_, fun a j ha => ?_, fun j => ?_, rfl⟩
                  · rw [rd_ks_succ, hkid]
                    exact accR_of r1 (uZ_ne (by omega) _) (fun j => uZ_ne (by omega) _)
                  · exact (uZ_ne (by omega) j).trans ((r2 _ _ (by omega)).trans ((q1 _ _ (by omega)).trans ((uZ_ne (by omega) j).trans (g2 a j ha))))
                  · exact tp_back (fun j => (r3 j).trans (q1 29 j (by omega))) (e29.symm) (g3 j)
                · refine r_t0 rfl (by first | exact iB0 | exact iB1 | exact iBm | exact hB _ _ | exact hT _ (by omega) | exact ⟨by omega, by omega⟩) (by omega) ?_
                  refine r_aload rfl rfl ?_
                  refine q_getr rfl rfl rfl ?_
                  refine r_iload rfl set_get ?_
                  refine r_push rfl ?_
                  refine q_zast rfl rfl (by omega) (by omega) rfl (by omega) ?_
                  refine r_iinc rfl rfl ?_
                  refine r_goto rfl ?_
                  have hkid := kid_go (f := rd_lvs z k) (em.symm ▸ hlk) (em.symm ▸ h69) (em.symm ▸ hrm)
                  rw [em] at hkid
                  refine hn _ ⟨_, _, ?_, fun a j ha => ?_, fun j => ?_, rfl⟩
                  · rw [rd_ks_succ, hkid, rd_skip hz hg2 (by omega) (tp_not hA2 (hx ▸ h92))]
                    exact accR_of hA2 (uZ_ne (by omega) _) (fun j => uZ_ne (by omega) _)
                  · exact (uZ_ne (by omega) j).trans ((q1 _ _ (by omega)).trans ((uZ_ne (by omega) j).trans (g2 a j ha)))
                  · exact tp_back (fun j => q1 29 j (by omega)) (e29.symm) (g3 j)
              · refine r_t0 rfl (by first | exact iB0 | exact iB1 | exact iBm | exact hB _ _ | exact hT _ (by omega) | exact ⟨by omega, by omega⟩) (by omega) ?_
                refine r_iinc rfl rfl ?_
                refine r_goto rfl ?_
                have hkid := kid_may (f := rd_lvs z k) (em.symm ▸ h69)
                exact hn _ ⟨Z1, _, by rw [rd_ks_succ, hkid]; exact g1, g2, g3, rfl⟩
      · obtain ⟨Z1, tl, g1, g2, g3, rfl⟩ := hS1
        have hc1 : cR z Z1 := cR_of hc (fun k j q => g2 _ _ (by omega))
        refine r_iload rfl rfl ?_
        refine r_aload rfl rfl ?_
        refine q_geti rfl rfl rfl hc1.2.2.2.2.2.2.2.2.2.2.1 ?_
        refine r_c3 rfl (by first | exact iB0 | exact iB1 | exact iBm | exact hB _ _ | exact hT _ (by omega) | exact ⟨by omega, by omega⟩) (by first | exact iB0 | exact iB1 | exact iBm | exact hB _ _ | exact hT _ (by omega) | exact ⟨by omega, by omega⟩) (fun h43 => ?_) (fun h43 => ?_)
        · refine q_vret rfl rfl rfl ?_
          exact ⟨rfl, Z1, rfl, g1, g2, g3⟩
        · exfalso; omega
    · exfalso; omega

end CTP
