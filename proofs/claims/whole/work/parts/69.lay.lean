/-! the reference's search -/
section MSE
theorem set_get1 {l : List (Option Value)} {v : Value} : (am_set l 1 v)[1]? = some (some v) := by
  cases l with
  | nil => rfl
  | cons x l => cases l <;> rfl
theorem set_tail {l : List (Option Value)} {v : Value} : am_set l 0 v = some v :: l.tail := by cases l <;> rfl
/-- nothing but the search's own numbers has changed -/
def gF (Z Z' : wZ) : Prop := ∀ k j, (k < 47 ∨ 52 < k) → (k = 34 → j ≠ 15) → Z' k j = Z k j
theorem gF_mR {z : rd_Z} {Z Z' : wZ} (h : mR z Z) (e : gF Z Z') : mR z Z' := mR_of h (fun k j q => e k j (by omega) (by omega))
def mO (z : rd_Z) (Z : wZ) : Prop := Z 34 15 = rd_n z ∧ ∀ p, p < rd_n z → Z 47 p = rd_ln z p
def mS (z : rd_Z) (pre : rd_P) (Z : wZ) : Prop := ∀ k q, pre[k]? = some q → ∃ t : Nat, t < rd_n z ∧ Z 48 k = t ∧ rd_ln z t = q.1 ∧ Z 50 k = q.2
def mC (z : rd_Z) (pre : rd_P) (Z : wZ) : Prop := ∀ k, k ≤ pre.length → Z 51 k = rd_cost z (pre.take k)
def mU (z : rd_Z) (pre : rd_P) (Z : wZ) : Prop := ∀ t, t < rd_n z → Z 49 t = if (rd_lk (rd_ln z t) pre).isSome = true then 1 else 0

theorem s_48 {d : Nat} {Z : wZ} {Lg : Nat → Nat → Int64} {N : Nat} {X : Nat → Int32} {z : rd_Z} (hd : mR z Z) (hz : rd_ok z) (hB : zB z)  : am_T am_tabs am_ar (d + 2) 48 [.ref 34] (mW Z Lg N X) (am_vd (fun w1 => ∃ Z1, w1 = mW Z1 Lg N X ∧ gF Z Z1 ∧ mO z Z1)) := by
  refine ⟨⟨rfl, rfl⟩, ?_⟩
  show am_X (am_tb op_48) _ _ _
  refine r_aload rfl rfl ?_
  refine r_aload rfl rfl ?_
  refine r_ki0 rfl rfl rfl rfl rfl (s_35 hd hz hB) ?_
  refine q_puti rfl rfl rfl ?_
  refine r_push rfl ?_
  refine r_istore rfl ?_
  refine r_loopS (fun o σ => ∃ Z1 : wZ, gF Z Z1 ∧ Z1 34 15 = rd_n z ∧ (∀ m, m < o → rd_th z m = true → Z1 47 (rd_pl z m) = m) ∧ σ = (10, [some (.ref 34), some (.int (iI o))], [], mW Z1 Lg N X, 0, 0)) 7 (fun o σ ho hS hn => ?_) (fun σ hS => ?_) ⟨_, fun k j q1 q2 => ?_, uZ_eq _ _ _ _, fun m hm => absurd hm (by omega), rfl⟩
  · obtain ⟨Z1, g0, g1, g2, rfl⟩ := hS
    have hd1 := gF_mR hd g0
    have hpl := pl_lt (z := z) ho
    refine r_iload rfl rfl ?_
    refine r_push rfl ?_
    refine r_c3 rfl (by first | exact iB0 | exact iB1 | exact iBm | exact hB _ _ | exact hT _ (by omega) | exact ⟨by omega, by omega⟩) (by first | exact iB0 | exact iB1 | exact iBm | exact hB _ _ | exact hT _ (by omega) | exact ⟨by omega, by omega⟩) (fun h13 => ?_) (fun h13 => ?_)
    · exfalso; omega
    · refine r_aload rfl rfl ?_
      refine q_getr rfl rfl rfl ?_
      refine r_iload rfl rfl ?_
      refine q_zald rfl rfl (by omega) (by omega) rfl (hd1.1 o) ?_
      refine r_z0 rfl (by first | exact iB0 | exact iB1 | exact iBm | exact hB _ _ | exact hT _ (by omega) | exact ⟨by omega, by omega⟩) (fun h22 => ?_) (fun h22 => ?_)
      · refine r_iinc rfl rfl ?_
        refine r_goto rfl ?_
        refine hn _ ⟨Z1, g0, g1, fun m hm ht => ?_, rfl⟩
        by_cases e : m = o
        · subst e; exact absurd h22 (th_iff.mp ht)
        · exact g2 m (by omega) ht
      · refine r_aload rfl rfl ?_
        refine q_getr rfl rfl rfl ?_
        refine r_aload rfl rfl ?_
        refine r_iload rfl rfl ?_
        refine r_ki1 rfl rfl rfl rfl rfl (s_47 hd1 hz hB ho) ?_
        refine r_iload rfl rfl ?_
        refine q_iast rfl rfl (by omega) (by omega) rfl ?_
        refine r_iinc rfl rfl ?_
        refine r_goto rfl ?_
        refine hn _ ⟨_, fun k j q1 q2 => (uZ_ne (by omega) j).trans (g0 k j q1 q2), (uZ_ne (by omega) _).trans g1, fun m hm ht => ?_, rfl⟩
        by_cases e : m = o
        · subst e; exact uZ_eq _ _ _ _
        · have e2 : rd_pl z m ≠ rd_pl z o := fun q => e (rd_plc_inj (by omega) ho ht (th_iff.mpr h22) q)
          exact (uZ_nj _ e2).trans (g2 m (by omega) ht)
  · obtain ⟨Z1, g0, g1, g2, rfl⟩ := hS
    refine r_iload rfl rfl ?_
    refine r_push rfl ?_
    refine r_c3 rfl (by first | exact iB0 | exact iB1 | exact iBm | exact hB _ _ | exact hT _ (by omega) | exact ⟨by omega, by omega⟩) (by first | exact iB0 | exact iB1 | exact iBm | exact hB _ _ | exact hT _ (by omega) | exact ⟨by omega, by omega⟩) (fun h13 => ?_) (fun h13 => ?_)
    · refine q_vret rfl rfl rfl ?_
      refine ⟨rfl, Z1, rfl, g0, g1, fun p hp => ?_⟩
      obtain ⟨l1, l2, l3⟩ := rd_ln_ok hp
      have := g2 _ l1 l2
      rw [l3] at this
      exact this
    · exfalso; omega
  · by_cases e : k = 34
    · subst e; exact uZ_nj _ (q2 rfl)
    · exact uZ_ne e j

theorem need_B {z : rd_Z} (hz : rd_ok z) {m : Nat} (hm : m < 7) : ∀ (l : rd_P) (a : Int), (∀ q ∈ l, q.1 < 7 ∧ 0 ≤ q.2 ∧ q.2 ≤ 3000) → 0 ≤ a → a ≤ 3300 → 0 ≤ l.foldl (fun a q => max a (q.2 + rd_gap z q.1 m)) a ∧ l.foldl (fun a q => max a (q.2 + rd_gap z q.1 m)) a ≤ 3300
  | [], a, _, h0, h1 => ⟨h0, h1⟩
  | q :: l, a, h, h0, h1 => by
    have hq := h q List.mem_cons_self
    have hg := rd_gap_ge hz hq.1 hm
    exact need_B hz hm l (max a (q.2 + rd_gap z q.1 m)) (fun q' hq' => h q' (List.mem_cons_of_mem _ hq')) (by omega) (by omega)
theorem need_tB {z : rd_Z} (hz : rd_ok z) {pre : rd_P} (hg : rd_gd z pre) {m : Nat} (hm : m < 7) (o : Nat) : 0 ≤ rd_need z (pre.take o) m ∧ rd_need z (pre.take o) m ≤ 3300 :=
  need_B hz hm _ _ (fun q hq => by have := hg.1 q (List.mem_of_mem_take hq); exact ⟨this.1, this.2.2⟩) (by omega) (by omega)
theorem take_s {pre : rd_P} {o : Nat} {q : Nat × Int} (h : pre[o]? = some q) : pre.take (o + 1) = pre.take o ++ [q] := by rw [List.take_add_one, h]; rfl
theorem lt_some {pre : rd_P} {o : Nat} (h : o < pre.length) : ∃ q, pre[o]? = some q := ⟨pre[o], List.getElem?_eq_getElem h⟩
/-- may m be laid as the next one, at place q, within lim -/
def layP (z : rd_Z) (pre : rd_P) (m q : Nat) (lim : Int) : Prop := (z 6 m ≠ -1 ∨ (pre.length : Int) - q ≤ lim ∧ (q : Int) - pre.length ≤ lim) ∧ rd_sec z m (rd_need z pre m) ≠ -1
def layZ (z : rd_Z) (pre : rd_P) (m : Nat) (Z : wZ) : wZ := uZ (uZ Z 50 pre.length (rd_sec z m (rd_need z pre m))) 51 (pre.length + 1) (rd_cost z pre + rd_dl z m (rd_sec z m (rd_need z pre m)))

theorem lay_l {d : Nat} {Z : wZ} {Lg : Nat → Nat → Int64} {N : Nat} {X : Nat → Int32} {z : rd_Z} (hd : mR z Z) (hz : rd_ok z) (hB : zB z) {pre : rd_P} (hg : rd_gd z pre) (hl : pre.length < 7) (hO : mO z Z) (hS : mS z pre Z) (hC : mC z pre Z) {m q : Nat} (hm : m < 7) (ht : rd_th z m = true) {lim : Int}
    (hmay : z 6 m ≠ -1 ∨ (pre.length : Int) - q ≤ lim ∧ (q : Int) - pre.length ≤ lim) (off : Int) : am_X (am_tb op_52) (am_T am_tabs am_ar (d + 2)) (am_bw (layP z pre m q lim) (mW (layZ z pre m Z) Lg N X) (mW Z Lg N X))
    (48, [some (.ref 34), some (.int (iI (pre.length : Int))), some (.int (iI q)), some (.int (iI lim)), some (.int (iI m)), some (.int (iI off)), some (.int (iI 0)), some (.int (iI 0))], [], mW Z Lg N X, 0, 0) := by
  have tm := ok_ty hz hm
  refine r_loopS (fun o σ => ∃ tl : List (Option Value), σ = (48, some (.ref 34) :: some (.int (iI (pre.length : Int))) :: some (.int (iI q)) :: some (.int (iI lim)) :: some (.int (iI m)) :: some (.int (iI off)) :: some (.int (iI (rd_need z (pre.take o) m))) :: some (.int (iI o)) :: tl, [], mW Z Lg N X, 0, 0)) pre.length (fun o σ ho hs hn => ?_) (fun σ hs => ?_) ⟨[], rfl⟩
  · obtain ⟨tl, rfl⟩ := hs
    obtain ⟨x, hx⟩ := lt_some ho
    obtain ⟨t, t1, s1, s2, s3⟩ := hS o x hx
    have x7 := hg.1 x (List.mem_of_getElem? hx)
    have tx := ok_ty hz x7.1
    have hgg := rd_gap_ge hz x7.1 hm
    have hnb := need_tB hz hg hm o
    have hn7 := n_le z
    have e47t : Z 47 t = (x.1 : Int) := by rw [hO.2 t t1, s2]
    refine r_iload rfl rfl ?_
    refine r_iload rfl rfl ?_
    refine r_c3 rfl (by first | exact iB0 | exact iB1 | exact iBm | exact hB _ _ | exact hT _ (by omega) | exact ⟨by omega, by omega⟩) (by first | exact iB0 | exact iB1 | exact iBm | exact hB _ _ | exact hT _ (by omega) | exact ⟨by omega, by omega⟩) (fun h51 => ?_) (fun h51 => ?_)
    · exfalso; omega
    · refine r_aload rfl rfl ?_
      refine q_getr rfl rfl rfl ?_
      refine r_aload rfl rfl ?_
      refine q_getr rfl rfl rfl ?_
      refine r_iload rfl rfl ?_
      refine q_iald rfl rfl (by omega) (by omega) rfl s1 ?_
      refine q_iald rfl rfl (by omega) (by omega) rfl e47t ?_
      refine r_istore rfl ?_
      refine r_aload rfl rfl ?_
      refine q_getr rfl rfl rfl ?_
      refine r_iload rfl rfl ?_
      refine q_iald rfl rfl (by omega) (by omega) rfl s3 ?_
      refine r_aload rfl rfl ?_
      refine q_getr rfl rfl rfl ?_
      refine r_push rfl ?_
      refine r_aload rfl rfl ?_
      refine q_getr rfl rfl rfl ?_
      refine r_iload rfl set_get ?_
      refine q_iald rfl rfl (by omega) (by omega) rfl (hd.2.1 x.1) ?_
      refine r_imul rfl ?_
      refine r_aload rfl rfl ?_
      refine q_getr rfl rfl rfl ?_
      refine r_iload rfl rfl ?_
      refine q_iald rfl rfl (by omega) (by omega) rfl (hd.2.1 m) ?_
      refine r_iadd rfl ?_
      refine q_iald rfl rfl (by omega) (by omega) rfl (gapm hd hz x7.1 hm) ?_
      refine r_iadd rfl ?_
      refine r_istore rfl ?_
      refine r_iload rfl set_get1 ?_
      refine r_iload rfl rfl ?_
      refine r_c5 rfl (by first | exact iB0 | exact iB1 | exact iBm | exact hB _ _ | exact hT _ (by omega) | exact ⟨by omega, by omega⟩) (by first | exact iB0 | exact iB1 | exact iBm | exact hB _ _ | exact hT _ (by omega) | exact ⟨by omega, by omega⟩) (fun h105 => ?_) (fun h105 => ?_)
      · refine r_iload rfl rfl ?_
        refine r_istore rfl ?_
        refine r_iinc rfl rfl ?_
        refine r_goto rfl ?_
        first
        | exact hn _ ⟨_, by rw [take_s hx, rd_need_app, show max (rd_need z (pre.take o) m) (x.2 + rd_gap z x.1 m) = rd_need z (pre.take o) m by omega]; rfl⟩
        | exact hn _ ⟨_, by rw [take_s hx, rd_need_app, show max (rd_need z (pre.take o) m) (x.2 + rd_gap z x.1 m) = x.2 + rd_gap z x.1 m by omega]; rfl⟩
      · refine r_iload rfl set_get1 ?_
        refine r_goto rfl ?_
        refine r_istore rfl ?_
        refine r_iinc rfl rfl ?_
        refine r_goto rfl ?_
        first
        | exact hn _ ⟨_, by rw [take_s hx, rd_need_app, show max (rd_need z (pre.take o) m) (x.2 + rd_gap z x.1 m) = rd_need z (pre.take o) m by omega]; rfl⟩
        | exact hn _ ⟨_, by rw [take_s hx, rd_need_app, show max (rd_need z (pre.take o) m) (x.2 + rd_gap z x.1 m) = x.2 + rd_gap z x.1 m by omega]; rfl⟩
  · obtain ⟨tl, rfl⟩ := hs
    have hnb := need_tB hz hg hm pre.length
    have hCl := hC pre.length (Nat.le_refl _)
    rw [List.take_length] at hnb hCl
    rw [List.take_length]
    have hsb : rd_sec z m (rd_need z pre m) = -1 ∨ 0 ≤ rd_sec z m (rd_need z pre m) ∧ rd_sec z m (rd_need z pre m) ≤ 3000 := by
      by_cases e : rd_sec z m (rd_need z pre m) = -1
      · exact Or.inl e
      · exact Or.inr (rd_sec_ge hz hm e).2
    refine r_iload rfl rfl ?_
    refine r_iload rfl rfl ?_
    refine r_c3 rfl (by first | exact iB0 | exact iB1 | exact iBm | exact hB _ _ | exact hT _ (by omega) | exact ⟨by omega, by omega⟩) (by first | exact iB0 | exact iB1 | exact iBm | exact hB _ _ | exact hT _ (by omega) | exact ⟨by omega, by omega⟩) (fun h51 => ?_) (fun h51 => ?_)
    · refine r_aload rfl rfl ?_
      refine r_iload rfl rfl ?_
      refine r_iload rfl rfl ?_
      refine r_ki2 rfl rfl rfl rfl rfl (s_50 hd hz hB hm ht (f := rd_need z pre m) ⟨by omega, by omega⟩) ?_
      refine r_istore rfl ?_
      refine r_iload rfl rfl ?_
      refine r_z3 rfl ⟨by omega, by omega⟩ (fun h135 => ?_) (fun h135 => ?_)
      · refine r_aload rfl rfl ?_
        refine q_getr rfl rfl rfl ?_
        refine r_iload rfl rfl ?_
        refine r_iload rfl rfl ?_
        refine q_iast rfl rfl (by omega) (by omega) rfl ?_
        refine r_aload rfl rfl ?_
        refine q_getr rfl rfl rfl ?_
        refine r_iload rfl rfl ?_
        refine r_push rfl ?_
        refine r_iadd rfl ?_
        refine r_aload rfl rfl ?_
        refine q_getr rfl rfl rfl ?_
        refine r_iload rfl rfl ?_
        refine q_iald rfl rfl (by omega) (by omega) rfl ((uZ_ne (by omega) _).trans hCl) ?_
        refine r_aload rfl rfl ?_
        refine r_iload rfl rfl ?_
        refine r_iload rfl rfl ?_
        refine r_ki2 rfl rfl rfl rfl rfl (s_51 (mR_s hd (by omega)) hz hB hm ⟨by omega, by omega⟩) ?_
        refine r_iadd rfl ?_
        refine q_iast rfl rfl (by omega) (by omega) rfl ?_
        refine r_push rfl ?_
        refine q_zret rfl rfl rfl (by omega) ?_
        exact Or.inl ⟨⟨hmay, by omega⟩, rfl, rfl⟩
      · refine r_push rfl ?_
        refine q_zret rfl rfl rfl (by omega) ?_
        exact Or.inr ⟨fun q0 => q0.2 (by omega), rfl, rfl⟩
    · exfalso; omega

theorem s_52 {d : Nat} {Z : wZ} {Lg : Nat → Nat → Int64} {N : Nat} {X : Nat → Int32} {z : rd_Z} (hd : mR z Z) (hz : rd_ok z) (hB : zB z) {pre : rd_P} (hg : rd_gd z pre) (hl : pre.length < 7) (hO : mO z Z) (hS : mS z pre Z) (hC : mC z pre Z) {m q : Nat} (hq : q < rd_n z) (em : rd_ln z q = m) {lim : Int} (hlm : 0 ≤ lim ∧ lim ≤ 6) : am_T am_tabs am_ar (d + 3) 52 [.ref 34, .int (iI (pre.length : Int)), .int (iI q), .int (iI lim)] (mW Z Lg N X) (am_bw (layP z pre m q lim) (mW (layZ z pre m Z) Lg N X) (mW Z Lg N X)) := by
  refine ⟨⟨rfl, rfl⟩, ?_⟩
  show am_X (am_tb op_52) _ _ _
  obtain ⟨hm, ht, hpl⟩ := rd_ln_ok hq
  rw [em] at hm ht hpl
  have hn7 := n_le z
  have e47 : Z 47 q = (m : Int) := by rw [hO.2 q hq, em]
  have hfr := ok_fr hz hm
  refine r_aload rfl rfl ?_
  refine q_getr rfl rfl rfl ?_
  refine r_iload rfl rfl ?_
  refine q_iald rfl rfl (by omega) (by omega) rfl e47 ?_
  refine r_istore rfl ?_
  refine r_iload rfl rfl ?_
  refine r_iload rfl rfl ?_
  refine r_c5 rfl (by first | exact iB0 | exact iB1 | exact iBm | exact hB _ _ | exact hT _ (by omega) | exact ⟨by omega, by omega⟩) (by first | exact iB0 | exact iB1 | exact iBm | exact hB _ _ | exact hT _ (by omega) | exact ⟨by omega, by omega⟩) (fun h10 => ?_) (fun h10 => ?_)
  · refine r_iload rfl rfl ?_
    refine r_iload rfl rfl ?_
    refine r_isub rfl ?_
    refine r_istore rfl ?_
    refine r_aload rfl rfl ?_
    refine q_getr rfl rfl rfl ?_
    refine r_iload rfl rfl ?_
    refine q_iald rfl rfl (by omega) (by omega) rfl (hd.2.2.2.2.2.2.1 m hm (th_iff.mp ht)) ?_
    refine r_z3 rfl (by first | exact iB0 | exact iB1 | exact iBm | exact hB _ _ | exact hT _ (by omega) | exact ⟨by omega, by omega⟩) (fun h31 => ?_) (fun h31 => ?_)
    · refine r_push rfl ?_
      refine r_istore rfl ?_
      refine r_push rfl ?_
      refine r_istore rfl ?_
      exact lay_l hd hz hB hg hl hO hS hC hm ht (by omega) _
    · refine r_iload rfl rfl ?_
      refine r_iload rfl rfl ?_
      refine r_c5 rfl (by first | exact iB0 | exact iB1 | exact iBm | exact hB _ _ | exact hT _ (by omega) | exact ⟨by omega, by omega⟩) (by first | exact iB0 | exact iB1 | exact iBm | exact hB _ _ | exact hT _ (by omega) | exact ⟨by omega, by omega⟩) (fun h37 => ?_) (fun h37 => ?_)
      · refine r_push rfl ?_
        refine r_istore rfl ?_
        refine r_push rfl ?_
        refine r_istore rfl ?_
        exact lay_l hd hz hB hg hl hO hS hC hm ht (by omega) _
      · refine r_push rfl ?_
        refine q_zret rfl rfl rfl (by omega) ?_
        exact Or.inr ⟨fun q0 => by have := q0.1; omega, rfl, rfl⟩
  · refine r_iload rfl rfl ?_
    refine r_iload rfl rfl ?_
    refine r_isub rfl ?_
    refine r_goto rfl ?_
    refine r_istore rfl ?_
    refine r_aload rfl rfl ?_
    refine q_getr rfl rfl rfl ?_
    refine r_iload rfl rfl ?_
    refine q_iald rfl rfl (by omega) (by omega) rfl (hd.2.2.2.2.2.2.1 m hm (th_iff.mp ht)) ?_
    refine r_z3 rfl (by first | exact iB0 | exact iB1 | exact iBm | exact hB _ _ | exact hT _ (by omega) | exact ⟨by omega, by omega⟩) (fun h31 => ?_) (fun h31 => ?_)
    · refine r_push rfl ?_
      refine r_istore rfl ?_
      refine r_push rfl ?_
      refine r_istore rfl ?_
      exact lay_l hd hz hB hg hl hO hS hC hm ht (by omega) _
    · refine r_iload rfl rfl ?_
      refine r_iload rfl rfl ?_
      refine r_c5 rfl (by first | exact iB0 | exact iB1 | exact iBm | exact hB _ _ | exact hT _ (by omega) | exact ⟨by omega, by omega⟩) (by first | exact iB0 | exact iB1 | exact iBm | exact hB _ _ | exact hT _ (by omega) | exact ⟨by omega, by omega⟩) (fun h37 => ?_) (fun h37 => ?_)
      · refine r_push rfl ?_
        refine r_istore rfl ?_
        refine r_push rfl ?_
        refine r_istore rfl ?_
        exact lay_l hd hz hB hg hl hO hS hC hm ht (by omega) _
      · refine r_push rfl ?_
        refine q_zret rfl rfl rfl (by omega) ?_
        exact Or.inr ⟨fun q0 => by have := q0.1; omega, rfl, rfl⟩

end MSE
