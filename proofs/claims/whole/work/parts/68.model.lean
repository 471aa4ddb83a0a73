/-! the reference's methods -/
section MDL
/-- a yes with one world, a no with another -/
def am_bw (p : Prop) (w1 w2 : am_W) : am_Q := fun o w' => (p ∧ o = .inl (some (.int (iI 1))) ∧ w' = w1) ∨ (¬ p ∧ o = .inl (some (.int (iI 0))) ∧ w' = w2)
theorem r_kB3 {tab : Nat → am_Sem} {C : am_C} {Q : am_Q} {pc nx k n : Nat} {ls : List (Option Value)} {st : List Value} {w : am_W} {uc us : Nat} {mj ci jc js mc ms : Nat} {q : List Nat} {a1 a2 a3 : Value} {p : Prop} {w1 w2 : am_W} (ht : tab pc = am_invV nx mj 3 ci jc js mc ms) (hk : w.1[k]? = some (ci + 4, n, q)) (hr : Nat.ble (st.map fun v => v.category).sum 8 = true) (h1 : Nat.ble (uc + jc) mc = true) (h2 : Nat.ble (us + js) ms = true) (hc : C mj (.ref k :: [a1, a2, a3]) w (am_bw p w1 w2)) (kt : p → am_X tab C Q (nx, ls, .int (iI 1) :: st, w1, uc + jc, us + js)) (kf : ¬ p → am_X tab C Q (nx, ls, .int (iI 0) :: st, w2, uc + jc, us + js)) : am_X tab C Q (pc, ls, a3 :: a2 :: a1 :: .ref k :: st, w, uc, us) :=
  r_callV ht (as := [a1, a2, a3]) (r := st) rfl rfl hk (Nat.le_of_ble_eq_true hr) (Nat.le_of_ble_eq_true h1) (Nat.le_of_ble_eq_true h2) hc (fun v w' h => by rcases h with ⟨h3, h4, h5⟩ | ⟨h3, h4, h5⟩ <;> cases h4 <;> subst h5; exact kt h3; exact kf h3) (fun E w' h => by rcases h with ⟨h3, h4, h5⟩ | ⟨h3, h4, h5⟩ <;> cases h4)
theorem mR_t {z : rd_Z} {Z : wZ} (h : mR z Z) (v : Int) : mR z (uZ Z 34 0 v) := mR_of h (fun k j q => by
  by_cases e : k = 34
  · subst e; exact uZ_nj _ (by omega)
  · exact uZ_ne e j)
theorem mR_s {z : rd_Z} {Z : wZ} (h : mR z Z) {k j : Nat} {v : Int} (hk : k < 34 ∨ 46 < k) : mR z (uZ Z k j v) := mR_of h (fun a b q => uZ_ne (by omega) b)
/-- the class's cells are as they were -/
def cF (Z Z' : wZ) : Prop := ∀ k j, k < 34 → Z' k j = Z k j
theorem cF_r (Z : wZ) : cF Z Z := fun _ _ _ => rfl
theorem cF_u {Z Z' : wZ} (h : cF Z Z') {k j : Nat} {v : Int} (hk : 34 ≤ k) : cF Z (uZ Z' k j v) := fun a b q => (uZ_ne (by omega) b).trans (h a b q)
/-- the reference's answer -/
def mQ (f : Int × Int × rd_Z) (Z : wZ) (Lg : Nat → Nat → Int64) (N : Nat) (X : Nat → Int32) : am_Q := fun o w1 => ∃ Z1, o = .inl (some (.int (iI f.2.1))) ∧ w1 = mW Z1 Lg N X ∧ mR f.2.2 Z1 ∧ Z1 34 0 = f.1 ∧ cF Z Z1
def mV (f : Int × Int × rd_Z) (Z : wZ) (Lg : Nat → Nat → Int64) (N : Nat) (X : Nat → Int32) : am_Q := fun o w1 => ∃ Z1, o = .inl none ∧ w1 = mW Z1 Lg N X ∧ mR f.2.2 Z1 ∧ Z1 34 0 = f.1 ∧ cF Z Z1
theorem mQ_ok {f : Int × Int × rd_Z} {Z Z1 : wZ} {Lg : Nat → Nat → Int64} {N : Nat} {X : Nat → Int32} {x u v : Int} {z1 : rd_Z} (hf : f = (x, u, z1)) (hv : v = u) (hm : mR z1 Z1) (ht : Z1 34 0 = x) (hc : cF Z Z1) : mQ f Z Lg N X (.inl (some (.int (iI v)))) (mW Z1 Lg N X) := by
  subst hf hv
  exact ⟨Z1, rfl, rfl, hm, ht, hc⟩
theorem mV_ok {f : Int × Int × rd_Z} {Z Z1 : wZ} {Lg : Nat → Nat → Int64} {N : Nat} {X : Nat → Int32} {x u : Int} {z1 : rd_Z} (hf : f = (x, u, z1)) (hm : mR z1 Z1) (ht : Z1 34 0 = x) (hc : cF Z Z1) : mV f Z Lg N X (.inl none) (mW Z1 Lg N X) := by
  subst hf
  exact ⟨Z1, rfl, rfl, hm, ht, hc⟩
/-- mR, with whose frozen seconds are told -/
def mRp (p : Nat → Prop) (z : rd_Z) (Z : wZ) : Prop :=
  (∀ j, Z 35 j = z 0 j) ∧ (∀ j, Z 36 j = z 1 j) ∧ (∀ j, Z 37 j = z 2 j) ∧ (∀ j, Z 38 j = z 3 j) ∧ (∀ j, Z 39 j = z 4 j) ∧ (∀ j, Z 40 j = z 5 j) ∧ (∀ j, j < 7 → p j → Z 41 j = z 6 j) ∧
  (∀ j, j < 36 → Z 42 j = z 7 j) ∧ (∀ j, Z 43 j = z 8 j) ∧ (∀ j, Z 44 j = z 9 j) ∧ Z 34 9 = z 10 0 ∧ Z 34 12 = z 10 1 ∧ (∀ j, Z 45 j = z 11 j) ∧ (∀ j, Z 46 j = z 12 j)
theorem mR_n {z : rd_Z} {Z : wZ} (h : mR z Z) : mRp (fun j => z 0 j ≠ 0) z Z := h
theorem mR_m {p : Nat → Prop} {z : rd_Z} {Z : wZ} (h : mRp p z Z) (e : ∀ j, j < 7 → z 0 j ≠ 0 → p j) : mR z Z := by
  obtain ⟨h0, h1, h2, h3, h4, h5, h6, h7, h8, h9, h10, h11, h12, h13⟩ := h
  exact ⟨h0, h1, h2, h3, h4, h5, fun j hj q => h6 j hj (e j hj q), h7, h8, h9, h10, h11, h12, h13⟩

theorem mu_0 {p : Nat → Prop} {z : rd_Z} {Z : wZ} (h : mRp p z Z) (j : Nat) (v : Int) : mRp p (uZ z 0 j v) (uZ Z 35 j v) := by
  obtain ⟨h0, h1, h2, h3, h4, h5, h6, h7, h8, h9, h10, h11, h12, h13⟩ := h
  exact ⟨fun i => by show (if 35 = 35 then (if i = j then v else Z 35 i) else Z 35 i) = (if 0 = 0 then (if i = j then v else z 0 i) else z 0 i); rw [h0 i]; rfl, h1, h2, h3, h4, h5, h6, h7, h8, h9, h10, h11, h12, h13⟩
theorem mu_1 {p : Nat → Prop} {z : rd_Z} {Z : wZ} (h : mRp p z Z) (j : Nat) (v : Int) : mRp p (uZ z 1 j v) (uZ Z 36 j v) := by
  obtain ⟨h0, h1, h2, h3, h4, h5, h6, h7, h8, h9, h10, h11, h12, h13⟩ := h
  exact ⟨h0, fun i => by show (if 36 = 36 then (if i = j then v else Z 36 i) else Z 36 i) = (if 1 = 1 then (if i = j then v else z 1 i) else z 1 i); rw [h1 i]; rfl, h2, h3, h4, h5, h6, h7, h8, h9, h10, h11, h12, h13⟩
theorem mu_2 {p : Nat → Prop} {z : rd_Z} {Z : wZ} (h : mRp p z Z) (j : Nat) (v : Int) : mRp p (uZ z 2 j v) (uZ Z 37 j v) := by
  obtain ⟨h0, h1, h2, h3, h4, h5, h6, h7, h8, h9, h10, h11, h12, h13⟩ := h
  exact ⟨h0, h1, fun i => by show (if 37 = 37 then (if i = j then v else Z 37 i) else Z 37 i) = (if 2 = 2 then (if i = j then v else z 2 i) else z 2 i); rw [h2 i]; rfl, h3, h4, h5, h6, h7, h8, h9, h10, h11, h12, h13⟩
theorem mu_3 {p : Nat → Prop} {z : rd_Z} {Z : wZ} (h : mRp p z Z) (j : Nat) (v : Int) : mRp p (uZ z 3 j v) (uZ Z 38 j v) := by
  obtain ⟨h0, h1, h2, h3, h4, h5, h6, h7, h8, h9, h10, h11, h12, h13⟩ := h
  exact ⟨h0, h1, h2, fun i => by show (if 38 = 38 then (if i = j then v else Z 38 i) else Z 38 i) = (if 3 = 3 then (if i = j then v else z 3 i) else z 3 i); rw [h3 i]; rfl, h4, h5, h6, h7, h8, h9, h10, h11, h12, h13⟩
theorem mu_4 {p : Nat → Prop} {z : rd_Z} {Z : wZ} (h : mRp p z Z) (j : Nat) (v : Int) : mRp p (uZ z 4 j v) (uZ Z 39 j v) := by
  obtain ⟨h0, h1, h2, h3, h4, h5, h6, h7, h8, h9, h10, h11, h12, h13⟩ := h
  exact ⟨h0, h1, h2, h3, fun i => by show (if 39 = 39 then (if i = j then v else Z 39 i) else Z 39 i) = (if 4 = 4 then (if i = j then v else z 4 i) else z 4 i); rw [h4 i]; rfl, h5, h6, h7, h8, h9, h10, h11, h12, h13⟩
theorem mu_5 {p : Nat → Prop} {z : rd_Z} {Z : wZ} (h : mRp p z Z) (j : Nat) (v : Int) : mRp p (uZ z 5 j v) (uZ Z 40 j v) := by
  obtain ⟨h0, h1, h2, h3, h4, h5, h6, h7, h8, h9, h10, h11, h12, h13⟩ := h
  exact ⟨h0, h1, h2, h3, h4, fun i => by show (if 40 = 40 then (if i = j then v else Z 40 i) else Z 40 i) = (if 5 = 5 then (if i = j then v else z 5 i) else z 5 i); rw [h5 i]; rfl, h6, h7, h8, h9, h10, h11, h12, h13⟩
theorem mu_8 {p : Nat → Prop} {z : rd_Z} {Z : wZ} (h : mRp p z Z) (j : Nat) (v : Int) : mRp p (uZ z 8 j v) (uZ Z 43 j v) := by
  obtain ⟨h0, h1, h2, h3, h4, h5, h6, h7, h8, h9, h10, h11, h12, h13⟩ := h
  exact ⟨h0, h1, h2, h3, h4, h5, h6, h7, fun i => by show (if 43 = 43 then (if i = j then v else Z 43 i) else Z 43 i) = (if 8 = 8 then (if i = j then v else z 8 i) else z 8 i); rw [h8 i]; rfl, h9, h10, h11, h12, h13⟩
theorem mu_9 {p : Nat → Prop} {z : rd_Z} {Z : wZ} (h : mRp p z Z) (j : Nat) (v : Int) : mRp p (uZ z 9 j v) (uZ Z 44 j v) := by
  obtain ⟨h0, h1, h2, h3, h4, h5, h6, h7, h8, h9, h10, h11, h12, h13⟩ := h
  exact ⟨h0, h1, h2, h3, h4, h5, h6, h7, h8, fun i => by show (if 44 = 44 then (if i = j then v else Z 44 i) else Z 44 i) = (if 9 = 9 then (if i = j then v else z 9 i) else z 9 i); rw [h9 i]; rfl, h10, h11, h12, h13⟩
theorem mu_11 {p : Nat → Prop} {z : rd_Z} {Z : wZ} (h : mRp p z Z) (j : Nat) (v : Int) : mRp p (uZ z 11 j v) (uZ Z 45 j v) := by
  obtain ⟨h0, h1, h2, h3, h4, h5, h6, h7, h8, h9, h10, h11, h12, h13⟩ := h
  exact ⟨h0, h1, h2, h3, h4, h5, h6, h7, h8, h9, h10, h11, fun i => by show (if 45 = 45 then (if i = j then v else Z 45 i) else Z 45 i) = (if 11 = 11 then (if i = j then v else z 11 i) else z 11 i); rw [h12 i]; rfl, h13⟩
theorem mu_12 {p : Nat → Prop} {z : rd_Z} {Z : wZ} (h : mRp p z Z) (j : Nat) (v : Int) : mRp p (uZ z 12 j v) (uZ Z 46 j v) := by
  obtain ⟨h0, h1, h2, h3, h4, h5, h6, h7, h8, h9, h10, h11, h12, h13⟩ := h
  exact ⟨h0, h1, h2, h3, h4, h5, h6, h7, h8, h9, h10, h11, h12, fun i => by show (if 46 = 46 then (if i = j then v else Z 46 i) else Z 46 i) = (if 12 = 12 then (if i = j then v else z 12 i) else z 12 i); rw [h13 i]; rfl⟩
theorem mu_6 {p : Nat → Prop} {z : rd_Z} {Z : wZ} (h : mRp p z Z) (j : Nat) (v : Int) : mRp (fun i => p i ∨ i = j) (uZ z 6 j v) (uZ Z 41 j v) := by
  obtain ⟨h0, h1, h2, h3, h4, h5, h6, h7, h8, h9, h10, h11, h12, h13⟩ := h
  refine ⟨h0, h1, h2, h3, h4, h5, fun i hi q => ?_, h7, h8, h9, h10, h11, h12, h13⟩
  by_cases e : i = j
  · subst e; rw [uZ_eq, uZ_eq]
  · rw [uZ_nj _ e, uZ_nj _ e]; exact h6 i hi (q.resolve_right e)
theorem mu_7 {p : Nat → Prop} {z : rd_Z} {Z : wZ} (h : mRp p z Z) (j : Nat) (v : Int) : mRp p (uZ z 7 j v) (uZ Z 42 j v) := by
  obtain ⟨h0, h1, h2, h3, h4, h5, h6, h7, h8, h9, h10, h11, h12, h13⟩ := h
  refine ⟨h0, h1, h2, h3, h4, h5, h6, fun i hi => ?_, h8, h9, h10, h11, h12, h13⟩
  by_cases e : i = j
  · subst e; rw [uZ_eq, uZ_eq]
  · rw [uZ_nj _ e, uZ_nj _ e]; exact h7 i hi
theorem mu_c {p : Nat → Prop} {z : rd_Z} {Z : wZ} (h : mRp p z Z) (v : Int) : mRp p (uZ z 10 0 v) (uZ Z 34 9 v) := by
  obtain ⟨h0, h1, h2, h3, h4, h5, h6, h7, h8, h9, h10, h11, h12, h13⟩ := h
  exact ⟨h0, h1, h2, h3, h4, h5, h6, h7, h8, h9, rfl, h11, h12, h13⟩
theorem mu_l {p : Nat → Prop} {z : rd_Z} {Z : wZ} (h : mRp p z Z) (v : Int) : mRp p (uZ z 10 1 v) (uZ Z 34 12 v) := by
  obtain ⟨h0, h1, h2, h3, h4, h5, h6, h7, h8, h9, h10, h11, h12, h13⟩ := h
  exact ⟨h0, h1, h2, h3, h4, h5, h6, h7, h8, h9, h10, rfl, h12, h13⟩
theorem gapm {z : rd_Z} {Z : wZ} (h : mR z Z) (hz : rd_ok z) {a b : Nat} (ha : a < 7) (hb : b < 7) : Z 42 (6 * z 1 a + z 1 b).toNat = rd_gap z a b := by
  have h1 := ok_ty hz ha
  have h2 := ok_ty hz hb
  rw [h.2.2.2.2.2.2.2.1 _ (by omega), show (6 * z 1 a + z 1 b).toNat = 6 * (z 1 a).toNat + (z 1 b).toNat by omega]
  rfl
theorem th_tr {z : rd_Z} {m : Nat} (h : rd_th z m = true) : z 0 m ≠ 0 := th_iff.mp h

theorem s_32 {d : Nat} {Z : wZ} {Lg : Nat → Nat → Int64} {N : Nat} {X : Nat → Int32}  : am_T am_tabs am_ar (d + 1) 32 [.ref 34] (mW Z Lg N X) (am_ret (iI (Z 34 0)) (mW Z Lg N X)) := by
  refine ⟨⟨rfl, rfl⟩, ?_⟩
  show am_X (am_tb op_32) _ _ _
  refine r_aload rfl rfl ?_
  refine q_geti rfl rfl rfl rfl ?_
  refine q_iret rfl rfl rfl ?_
  exact am_ret_of rfl

theorem s_33 {d : Nat} {Z : wZ} {Lg : Nat → Nat → Int64} {N : Nat} {X : Nat → Int32} {z : rd_Z} (hd : mR z Z) (hz : rd_ok z) (hB : zB z) {m : Int} (hm : iB m) : am_T am_tabs am_ar (d + 1) 33 [.ref 34, .int (iI m)] (mW Z Lg N X) (am_bl (0 ≤ m ∧ m < 7 ∧ rd_th z m.toNat = true) (mW Z Lg N X)) := by
  refine ⟨⟨rfl, rfl⟩, ?_⟩
  show am_X (am_tb op_33) _ _ _
  refine r_iload rfl rfl ?_
  refine r_z2 rfl hm (fun h1 => ?_) (fun h1 => ?_)
  · refine r_push rfl ?_
    refine q_zret rfl rfl rfl (by omega) ?_
    exact ⟨rfl, _, rfl, by rw [th_iff]; omega⟩
  · refine r_iload rfl rfl ?_
    refine r_push rfl ?_
    refine r_c3 rfl hm ⟨by omega, by omega⟩ (fun h7 => ?_) (fun h7 => ?_)
    · refine r_push rfl ?_
      refine q_zret rfl rfl rfl (by omega) ?_
      exact ⟨rfl, _, rfl, by rw [th_iff]; omega⟩
    · refine r_aload rfl rfl ?_
      refine q_getr rfl rfl rfl ?_
      refine r_iload rfl rfl ?_
      refine q_zald rfl rfl (by omega) (by omega) rfl (hd.1 m.toNat) ?_
      refine r_z0 rfl (by first | exact iB0 | exact iB1 | exact iBm | exact hB _ _ | exact hT _ (by omega) | exact ⟨by omega, by omega⟩) (fun h16 => ?_) (fun h16 => ?_)
      · refine r_push rfl ?_
        refine q_zret rfl rfl rfl (by omega) ?_
        exact ⟨rfl, _, rfl, by rw [th_iff]; omega⟩
      · refine r_push rfl ?_
        refine r_goto rfl ?_
        refine q_zret rfl rfl rfl (by omega) ?_
        exact ⟨rfl, _, rfl, by rw [th_iff]; omega⟩

theorem s_34 {d : Nat} {Z : wZ} {Lg : Nat → Nat → Int64} {N : Nat} {X : Nat → Int32} {s : Int} (hs : iB s) : am_T am_tabs am_ar (d + 1) 34 [.int (iI s)] (mW Z Lg N X) (am_bl (0 ≤ s ∧ s ≤ 3000) (mW Z Lg N X)) := by
  refine ⟨⟨rfl, rfl⟩, ?_⟩
  show am_X (am_tb op_34) _ _ _
  refine r_iload rfl rfl ?_
  refine r_z2 rfl hs (fun h1 => ?_) (fun h1 => ?_)
  · refine r_push rfl ?_
    refine q_zret rfl rfl rfl (by omega) ?_
    exact ⟨rfl, _, rfl, by omega⟩
  · refine r_iload rfl rfl ?_
    refine r_push rfl ?_
    refine r_c4 rfl hs ⟨by omega, by omega⟩ (fun h8 => ?_) (fun h8 => ?_)
    · refine r_push rfl ?_
      refine q_zret rfl rfl rfl (by omega) ?_
      exact ⟨rfl, _, rfl, by omega⟩
    · refine r_push rfl ?_
      refine r_goto rfl ?_
      refine q_zret rfl rfl rfl (by omega) ?_
      exact ⟨rfl, _, rfl, by omega⟩

theorem s_35 {d : Nat} {Z : wZ} {Lg : Nat → Nat → Int64} {N : Nat} {X : Nat → Int32} {z : rd_Z} (hd : mR z Z) (hz : rd_ok z) (hB : zB z)  : am_T am_tabs am_ar (d + 1) 35 [.ref 34] (mW Z Lg N X) (am_ret (iI (rd_n z)) (mW Z Lg N X)) := by
  refine ⟨⟨rfl, rfl⟩, ?_⟩
  show am_X (am_tb op_35) _ _ _
  refine r_push rfl ?_
  refine r_istore rfl ?_
  refine r_push rfl ?_
  refine r_istore rfl ?_
  refine r_loop (fun o => (4, [some (.ref 34), some (.int (iI (rd_cnt (rd_th z) o))), some (.int (iI o))], [], mW Z Lg N X, 0, 0)) (fun o => True) 7 trivial (fun o ho hi hn => ?_) (fun hi => ?_)
  · (try dsimp only at hi); (try dsimp only at hn); (try dsimp only)
    refine r_iload rfl rfl ?_
    refine r_push rfl ?_
    refine r_c3 rfl (by first | exact iB0 | exact iB1 | exact iBm | exact hB _ _ | exact hT _ (by omega) | exact ⟨by omega, by omega⟩) (by first | exact iB0 | exact iB1 | exact iBm | exact hB _ _ | exact hT _ (by omega) | exact ⟨by omega, by omega⟩) (fun h7 => ?_) (fun h7 => ?_)
    · exfalso; omega
    · refine r_aload rfl rfl ?_
      refine q_getr rfl rfl rfl ?_
      refine r_iload rfl rfl ?_
      refine q_zald rfl rfl (by omega) (by omega) rfl (hd.1 o) ?_
      refine r_z0 rfl (by first | exact iB0 | exact iB1 | exact iBm | exact hB _ _ | exact hT _ (by omega) | exact ⟨by omega, by omega⟩) (fun h16 => ?_) (fun h16 => ?_)
      · refine r_iload rfl rfl ?_
        refine r_istore rfl ?_
        refine r_iinc rfl rfl ?_
        refine r_goto rfl ?_
        first
        | exact am_X_of (hn trivial) (by rw [rd_cnt_t (p := (rd_th z)) (o := o) (by simp [rd_th] <;> omega)]; rfl)
        | exact am_X_of (hn trivial) (by rw [rd_cnt_f (p := (rd_th z)) (o := o) (by simp [rd_th] <;> omega)]; rfl)
      · refine r_iload rfl rfl ?_
        refine r_push rfl ?_
        refine r_iadd rfl ?_
        refine r_goto rfl ?_
        refine r_istore rfl ?_
        refine r_iinc rfl rfl ?_
        refine r_goto rfl ?_
        first
        | exact am_X_of (hn trivial) (by rw [rd_cnt_t (p := (rd_th z)) (o := o) (by simp [rd_th] <;> omega)]; rfl)
        | exact am_X_of (hn trivial) (by rw [rd_cnt_f (p := (rd_th z)) (o := o) (by simp [rd_th] <;> omega)]; rfl)
  · (try dsimp only at hi); (try dsimp only)
    refine r_iload rfl rfl ?_
    refine r_push rfl ?_
    refine r_c3 rfl (by first | exact iB0 | exact iB1 | exact iBm | exact hB _ _ | exact hT _ (by omega) | exact ⟨by omega, by omega⟩) (by first | exact iB0 | exact iB1 | exact iBm | exact hB _ _ | exact hT _ (by omega) | exact ⟨by omega, by omega⟩) (fun h7 => ?_) (fun h7 => ?_)
    · refine r_iload rfl rfl ?_
      refine q_iret rfl rfl rfl ?_
      exact am_ret_of rfl
    · exfalso; omega

theorem any_t {p : Nat → Bool} {o : Nat} (h : p o = true) : (if rd_any p (o + 1) = true then (1 : Int) else 0) = 1 := if_pos (by simp [rd_any, h])
theorem any_o {p : Nat → Bool} {o : Nat} (h : rd_any p o = true) : (if rd_any p (o + 1) = true then (1 : Int) else 0) = 1 := if_pos (by simp [rd_any, h])
theorem any_n {p : Nat → Bool} {o : Nat} (h : p o = false) (h2 : rd_any p o = false) : (if rd_any p (o + 1) = true then (1 : Int) else 0) = 0 := if_neg (by simp [rd_any, h, h2])

theorem s_43 {d : Nat} {Z : wZ} {Lg : Nat → Nat → Int64} {N : Nat} {X : Nat → Int32} {z : rd_Z} (hd : mR z Z) (hz : rd_ok z) (hB : zB z) {s : Int} (hs : iB s) : am_T am_tabs am_ar (d + 1) 43 [.ref 34, .int (iI s)] (mW Z Lg N X) (am_bl (rd_cl z s = true) (mW Z Lg N X)) := by
  refine ⟨⟨rfl, rfl⟩, ?_⟩
  show am_X (am_tb op_43) _ _ _
  have hnc := ok_nc hz
  refine r_push rfl ?_
  refine r_istore rfl ?_
  refine r_push rfl ?_
  refine r_istore rfl ?_
  refine r_loop (fun o => (4, [some (.ref 34), some (.int (iI s)), some (.int (iI (if rd_any (rd_in z s) o = true then 1 else 0))), some (.int (iI o))], [], mW Z Lg N X, 0, 0)) (fun o => True) (rd_nc z) trivial (fun o ho hi hn => ?_) (fun hi => ?_)
  · (try dsimp only at hi); (try dsimp only at hn); (try dsimp only)
    by_cases ha : rd_any (rd_in z s) o = true
    · rw [if_pos ha]
      refine r_iload rfl rfl ?_
      refine r_aload rfl rfl ?_
      refine q_geti rfl rfl rfl hd.2.2.2.2.2.2.2.2.2.2.1 ?_
      refine r_c3 rfl (by first | exact iB0 | exact iB1 | exact iBm | exact hB _ _ | exact hT _ (by omega) | exact ⟨by omega, by omega⟩) (by first | exact iB0 | exact iB1 | exact iBm | exact hB _ _ | exact hT _ (by omega) | exact ⟨by omega, by omega⟩) (fun h9 => ?_) (fun h9 => ?_)
      · exfalso; omega
      · refine r_iload rfl rfl ?_
        refine r_t1 rfl (by first | exact iB0 | exact iB1 | exact iBm | exact hB _ _ | exact hT _ (by omega) | exact ⟨by omega, by omega⟩) (by omega) ?_
        refine r_push rfl ?_
        refine r_goto rfl ?_
        refine r_istore rfl ?_
        refine r_iinc rfl rfl ?_
        refine r_goto rfl ?_
        exact am_X_of (hn trivial) (by rw [any_o ha]; rfl)
    · rw [if_neg ha]
      have ha := Bool.eq_false_iff.mpr ha
      refine r_iload rfl rfl ?_
      refine r_aload rfl rfl ?_
      refine q_geti rfl rfl rfl hd.2.2.2.2.2.2.2.2.2.2.1 ?_
      refine r_c3 rfl (by first | exact iB0 | exact iB1 | exact iBm | exact hB _ _ | exact hT _ (by omega) | exact ⟨by omega, by omega⟩) (by first | exact iB0 | exact iB1 | exact iBm | exact hB _ _ | exact hT _ (by omega) | exact ⟨by omega, by omega⟩) (fun h9 => ?_) (fun h9 => ?_)
      · exfalso; omega
      · refine r_iload rfl rfl ?_
        refine r_f1 rfl (by first | exact iB0 | exact iB1 | exact iBm | exact hB _ _ | exact hT _ (by omega) | exact ⟨by omega, by omega⟩) (by omega) ?_
        refine r_iload rfl rfl ?_
        refine r_aload rfl rfl ?_
        refine q_getr rfl rfl rfl ?_
        refine r_iload rfl rfl ?_
        refine q_iald rfl rfl (by omega) (by omega) rfl (hd.2.2.2.2.2.2.2.2.1 o) ?_
        refine r_c2 rfl hs (hB _ _) (fun h23 => ?_) (fun h23 => ?_)
        · refine r_push rfl ?_
          refine r_istore rfl ?_
          refine r_iinc rfl rfl ?_
          refine r_goto rfl ?_
          first
          | exact am_X_of (hn trivial) (by rw [any_t (p := rd_in z s) (o := o) (by simp [rd_in] <;> omega)]; rfl)
          | exact am_X_of (hn trivial) (by rw [any_n (p := rd_in z s) (o := o) (by simp [rd_in] <;> omega) ha]; rfl)
        · refine r_iload rfl rfl ?_
          refine r_aload rfl rfl ?_
          refine q_getr rfl rfl rfl ?_
          refine r_iload rfl rfl ?_
          refine q_iald rfl rfl (by omega) (by omega) rfl (hd.2.2.2.2.2.2.2.2.2.1 o) ?_
          refine r_c4 rfl hs (hB _ _) (fun h33 => ?_) (fun h33 => ?_)
          · refine r_push rfl ?_
            refine r_istore rfl ?_
            refine r_iinc rfl rfl ?_
            refine r_goto rfl ?_
            first
            | exact am_X_of (hn trivial) (by rw [any_t (p := rd_in z s) (o := o) (by simp [rd_in] <;> omega)]; rfl)
            | exact am_X_of (hn trivial) (by rw [any_n (p := rd_in z s) (o := o) (by simp [rd_in] <;> omega) ha]; rfl)
          · refine r_push rfl ?_
            refine r_goto rfl ?_
            refine r_istore rfl ?_
            refine r_iinc rfl rfl ?_
            refine r_goto rfl ?_
            first
            | exact am_X_of (hn trivial) (by rw [any_t (p := rd_in z s) (o := o) (by simp [rd_in] <;> omega)]; rfl)
            | exact am_X_of (hn trivial) (by rw [any_n (p := rd_in z s) (o := o) (by simp [rd_in] <;> omega) ha]; rfl)
  · (try dsimp only at hi); (try dsimp only)
    by_cases ha : rd_any (rd_in z s) (rd_nc z) = true
    · rw [if_pos ha]
      refine r_iload rfl rfl ?_
      refine r_aload rfl rfl ?_
      refine q_geti rfl rfl rfl hd.2.2.2.2.2.2.2.2.2.2.1 ?_
      refine r_c3 rfl (by first | exact iB0 | exact iB1 | exact iBm | exact hB _ _ | exact hT _ (by omega) | exact ⟨by omega, by omega⟩) (by first | exact iB0 | exact iB1 | exact iBm | exact hB _ _ | exact hT _ (by omega) | exact ⟨by omega, by omega⟩) (fun h9 => ?_) (fun h9 => ?_)
      · refine r_iload rfl rfl ?_
        refine q_zret rfl rfl rfl (by omega) ?_
        exact ⟨rfl, _, rfl, Or.inl ⟨rfl, ha⟩⟩
      · exfalso; omega
    · rw [if_neg ha]
      refine r_iload rfl rfl ?_
      refine r_aload rfl rfl ?_
      refine q_geti rfl rfl rfl hd.2.2.2.2.2.2.2.2.2.2.1 ?_
      refine r_c3 rfl (by first | exact iB0 | exact iB1 | exact iBm | exact hB _ _ | exact hT _ (by omega) | exact ⟨by omega, by omega⟩) (by first | exact iB0 | exact iB1 | exact iBm | exact hB _ _ | exact hT _ (by omega) | exact ⟨by omega, by omega⟩) (fun h9 => ?_) (fun h9 => ?_)
      · refine r_iload rfl rfl ?_
        refine q_zret rfl rfl rfl (by omega) ?_
        exact ⟨rfl, _, rfl, Or.inr ⟨rfl, ha⟩⟩
      · exfalso; omega

theorem s_44 {d : Nat} {Z : wZ} {Lg : Nat → Nat → Int64} {N : Nat} {X : Nat → Int32} {z : rd_Z} (hd : mR z Z) (hz : rd_ok z) (hB : zB z) {m : Nat} (hm : m < 7) {s : Int} (hs : -10000 ≤ s ∧ s ≤ 10000) {e : Nat} (he : e < 7) {t : Int} (ht : -10000 ≤ t ∧ t ≤ 10000) : am_T am_tabs am_ar (d + 1) 44 [.ref 34, .int (iI m), .int (iI s), .int (iI e), .int (iI t)] (mW Z Lg N X) (am_bl (rd_near z m s e t) (mW Z Lg N X)) := by
  refine ⟨⟨rfl, rfl⟩, ?_⟩
  show am_X (am_tb op_44) _ _ _
  have g1 := rd_gap_ge hz hm he
  have g2 := rd_gap_ge hz he hm
  have t1 := ok_ty hz hm
  have t2 := ok_ty hz he
  unfold rd_near
  refine r_iload rfl rfl ?_
  refine r_iload rfl rfl ?_
  refine r_c0 rfl (by first | exact iB0 | exact iB1 | exact iBm | exact hB _ _ | exact hT _ (by omega) | exact ⟨by omega, by omega⟩) (by first | exact iB0 | exact iB1 | exact iBm | exact hB _ _ | exact hT _ (by omega) | exact ⟨by omega, by omega⟩) (fun h3 => ?_) (fun h3 => ?_)
  · refine r_push rfl ?_
    refine r_goto rfl ?_
    refine q_zret rfl rfl rfl (by omega) ?_
    first
    | exact ⟨rfl, _, rfl, by rw [if_pos (by omega)]; omega⟩
    | exact ⟨rfl, _, rfl, by rw [if_neg (by omega)]; omega⟩
  · refine r_iload rfl rfl ?_
    refine r_iload rfl rfl ?_
    refine r_c3 rfl (by first | exact iB0 | exact iB1 | exact iBm | exact hB _ _ | exact hT _ (by omega) | exact ⟨by omega, by omega⟩) (by first | exact iB0 | exact iB1 | exact iBm | exact hB _ _ | exact hT _ (by omega) | exact ⟨by omega, by omega⟩) (fun h9 => ?_) (fun h9 => ?_)
    · refine r_iload rfl rfl ?_
      refine r_iload rfl rfl ?_
      refine r_isub rfl ?_
      refine r_aload rfl rfl ?_
      refine q_getr rfl rfl rfl ?_
      refine r_push rfl ?_
      refine r_aload rfl rfl ?_
      refine q_getr rfl rfl rfl ?_
      refine r_iload rfl rfl ?_
      refine q_iald rfl rfl (by omega) (by omega) rfl (hd.2.1 e) ?_
      refine r_imul rfl ?_
      refine r_aload rfl rfl ?_
      refine q_getr rfl rfl rfl ?_
      refine r_iload rfl rfl ?_
      refine q_iald rfl rfl (by omega) (by omega) rfl (hd.2.1 m) ?_
      refine r_iadd rfl ?_
      refine q_iald rfl rfl (by omega) (by omega) rfl (gapm hd hz he hm) ?_
      refine r_c3 rfl (by first | exact iB0 | exact iB1 | exact iBm | exact hB _ _ | exact hT _ (by omega) | exact ⟨by omega, by omega⟩) (by first | exact iB0 | exact iB1 | exact iBm | exact hB _ _ | exact hT _ (by omega) | exact ⟨by omega, by omega⟩) (fun h68 => ?_) (fun h68 => ?_)
      · refine r_push rfl ?_
        refine q_zret rfl rfl rfl (by omega) ?_
        first
        | exact ⟨rfl, _, rfl, by rw [if_pos (by omega)]; omega⟩
        | exact ⟨rfl, _, rfl, by rw [if_neg (by omega)]; omega⟩
      · refine r_push rfl ?_
        refine r_goto rfl ?_
        refine q_zret rfl rfl rfl (by omega) ?_
        first
        | exact ⟨rfl, _, rfl, by rw [if_pos (by omega)]; omega⟩
        | exact ⟨rfl, _, rfl, by rw [if_neg (by omega)]; omega⟩
    · refine r_iload rfl rfl ?_
      refine r_iload rfl rfl ?_
      refine r_isub rfl ?_
      refine r_aload rfl rfl ?_
      refine q_getr rfl rfl rfl ?_
      refine r_push rfl ?_
      refine r_aload rfl rfl ?_
      refine q_getr rfl rfl rfl ?_
      refine r_iload rfl rfl ?_
      refine q_iald rfl rfl (by omega) (by omega) rfl (hd.2.1 m) ?_
      refine r_imul rfl ?_
      refine r_aload rfl rfl ?_
      refine q_getr rfl rfl rfl ?_
      refine r_iload rfl rfl ?_
      refine q_iald rfl rfl (by omega) (by omega) rfl (hd.2.1 e) ?_
      refine r_iadd rfl ?_
      refine q_iald rfl rfl (by omega) (by omega) rfl (gapm hd hz hm he) ?_
      refine r_c3 rfl (by first | exact iB0 | exact iB1 | exact iBm | exact hB _ _ | exact hT _ (by omega) | exact ⟨by omega, by omega⟩) (by first | exact iB0 | exact iB1 | exact iBm | exact hB _ _ | exact hT _ (by omega) | exact ⟨by omega, by omega⟩) (fun h37 => ?_) (fun h37 => ?_)
      · refine r_push rfl ?_
        refine q_zret rfl rfl rfl (by omega) ?_
        first
        | exact ⟨rfl, _, rfl, by rw [if_pos (by omega)]; omega⟩
        | exact ⟨rfl, _, rfl, by rw [if_neg (by omega)]; omega⟩
      · refine r_goto rfl ?_
        refine r_push rfl ?_
        refine r_goto rfl ?_
        refine q_zret rfl rfl rfl (by omega) ?_
        first
        | exact ⟨rfl, _, rfl, by rw [if_pos (by omega)]; omega⟩
        | exact ⟨rfl, _, rfl, by rw [if_neg (by omega)]; omega⟩

theorem s_47 {d : Nat} {Z : wZ} {Lg : Nat → Nat → Int64} {N : Nat} {X : Nat → Int32} {z : rd_Z} (hd : mR z Z) (hz : rd_ok z) (hB : zB z) {m : Nat} (hm : m < 7)  : am_T am_tabs am_ar (d + 1) 47 [.ref 34, .int (iI m)] (mW Z Lg N X) (am_ret (iI (rd_pl z m)) (mW Z Lg N X)) := by
  refine ⟨⟨rfl, rfl⟩, ?_⟩
  show am_X (am_tb op_47) _ _ _
  refine r_push rfl ?_
  refine r_istore rfl ?_
  refine r_push rfl ?_
  refine r_istore rfl ?_
  refine r_loop (fun o => (4, [some (.ref 34), some (.int (iI m)), some (.int (iI (rd_cnt (fun o => rd_th z o && rd_bf (z 3) o m) o))), some (.int (iI o))], [], mW Z Lg N X, 0, 0)) (fun o => True) 7 trivial (fun o ho hi hn => ?_) (fun hi => ?_)
  · (try dsimp only at hi); (try dsimp only at hn); (try dsimp only)
    refine r_iload rfl rfl ?_
    refine r_push rfl ?_
    refine r_c3 rfl (by first | exact iB0 | exact iB1 | exact iBm | exact hB _ _ | exact hT _ (by omega) | exact ⟨by omega, by omega⟩) (by first | exact iB0 | exact iB1 | exact iBm | exact hB _ _ | exact hT _ (by omega) | exact ⟨by omega, by omega⟩) (fun h7 => ?_) (fun h7 => ?_)
    · exfalso; omega
    · refine r_aload rfl rfl ?_
      refine q_getr rfl rfl rfl ?_
      refine r_iload rfl rfl ?_
      refine q_zald rfl rfl (by omega) (by omega) rfl (hd.1 o) ?_
      refine r_z0 rfl (by first | exact iB0 | exact iB1 | exact iBm | exact hB _ _ | exact hT _ (by omega) | exact ⟨by omega, by omega⟩) (fun h16 => ?_) (fun h16 => ?_)
      · refine r_iload rfl rfl ?_
        refine r_istore rfl ?_
        refine r_iinc rfl rfl ?_
        refine r_goto rfl ?_
        first
        | exact am_X_of (hn trivial) (by rw [rd_cnt_t (p := (fun o => rd_th z o && rd_bf (z 3) o m)) (o := o) (by simp [rd_bf, rd_th] <;> omega)]; rfl)
        | exact am_X_of (hn trivial) (by rw [rd_cnt_f (p := (fun o => rd_th z o && rd_bf (z 3) o m)) (o := o) (by simp [rd_bf, rd_th] <;> omega)]; rfl)
      · refine r_aload rfl rfl ?_
        refine q_getr rfl rfl rfl ?_
        refine r_iload rfl rfl ?_
        refine q_iald rfl rfl (by omega) (by omega) rfl (hd.2.2.2.1 o) ?_
        refine r_aload rfl rfl ?_
        refine q_getr rfl rfl rfl ?_
        refine r_iload rfl rfl ?_
        refine q_iald rfl rfl (by omega) (by omega) rfl (hd.2.2.2.1 m) ?_
        refine r_c2 rfl (by first | exact iB0 | exact iB1 | exact iBm | exact hB _ _ | exact hT _ (by omega) | exact ⟨by omega, by omega⟩) (by first | exact iB0 | exact iB1 | exact iBm | exact hB _ _ | exact hT _ (by omega) | exact ⟨by omega, by omega⟩) (fun h31 => ?_) (fun h31 => ?_)
        · refine r_iload rfl rfl ?_
          refine r_push rfl ?_
          refine r_iadd rfl ?_
          refine r_goto rfl ?_
          refine r_istore rfl ?_
          refine r_iinc rfl rfl ?_
          refine r_goto rfl ?_
          first
          | exact am_X_of (hn trivial) (by rw [rd_cnt_t (p := (fun o => rd_th z o && rd_bf (z 3) o m)) (o := o) (by simp [rd_bf, rd_th] <;> omega)]; rfl)
          | exact am_X_of (hn trivial) (by rw [rd_cnt_f (p := (fun o => rd_th z o && rd_bf (z 3) o m)) (o := o) (by simp [rd_bf, rd_th] <;> omega)]; rfl)
        · refine r_aload rfl rfl ?_
          refine q_getr rfl rfl rfl ?_
          refine r_iload rfl rfl ?_
          refine q_iald rfl rfl (by omega) (by omega) rfl (hd.2.2.2.1 o) ?_
          refine r_aload rfl rfl ?_
          refine q_getr rfl rfl rfl ?_
          refine r_iload rfl rfl ?_
          refine q_iald rfl rfl (by omega) (by omega) rfl (hd.2.2.2.1 m) ?_
          refine r_c1 rfl (by first | exact iB0 | exact iB1 | exact iBm | exact hB _ _ | exact hT _ (by omega) | exact ⟨by omega, by omega⟩) (by first | exact iB0 | exact iB1 | exact iBm | exact hB _ _ | exact hT _ (by omega) | exact ⟨by omega, by omega⟩) (fun h46 => ?_) (fun h46 => ?_)
          · refine r_iload rfl rfl ?_
            refine r_istore rfl ?_
            refine r_iinc rfl rfl ?_
            refine r_goto rfl ?_
            first
            | exact am_X_of (hn trivial) (by rw [rd_cnt_t (p := (fun o => rd_th z o && rd_bf (z 3) o m)) (o := o) (by simp [rd_bf, rd_th] <;> omega)]; rfl)
            | exact am_X_of (hn trivial) (by rw [rd_cnt_f (p := (fun o => rd_th z o && rd_bf (z 3) o m)) (o := o) (by simp [rd_bf, rd_th] <;> omega)]; rfl)
          · refine r_iload rfl rfl ?_
            refine r_iload rfl rfl ?_
            refine r_c3 rfl (by first | exact iB0 | exact iB1 | exact iBm | exact hB _ _ | exact hT _ (by omega) | exact ⟨by omega, by omega⟩) (by first | exact iB0 | exact iB1 | exact iBm | exact hB _ _ | exact hT _ (by omega) | exact ⟨by omega, by omega⟩) (fun h51 => ?_) (fun h51 => ?_)
            · refine r_iload rfl rfl ?_
              refine r_istore rfl ?_
              refine r_iinc rfl rfl ?_
              refine r_goto rfl ?_
              first
              | exact am_X_of (hn trivial) (by rw [rd_cnt_t (p := (fun o => rd_th z o && rd_bf (z 3) o m)) (o := o) (by simp [rd_bf, rd_th] <;> omega)]; rfl)
              | exact am_X_of (hn trivial) (by rw [rd_cnt_f (p := (fun o => rd_th z o && rd_bf (z 3) o m)) (o := o) (by simp [rd_bf, rd_th] <;> omega)]; rfl)
            · refine r_iload rfl rfl ?_
              refine r_push rfl ?_
              refine r_iadd rfl ?_
              refine r_goto rfl ?_
              refine r_istore rfl ?_
              refine r_iinc rfl rfl ?_
              refine r_goto rfl ?_
              first
              | exact am_X_of (hn trivial) (by rw [rd_cnt_t (p := (fun o => rd_th z o && rd_bf (z 3) o m)) (o := o) (by simp [rd_bf, rd_th] <;> omega)]; rfl)
              | exact am_X_of (hn trivial) (by rw [rd_cnt_f (p := (fun o => rd_th z o && rd_bf (z 3) o m)) (o := o) (by simp [rd_bf, rd_th] <;> omega)]; rfl)
  · (try dsimp only at hi); (try dsimp only)
    refine r_iload rfl rfl ?_
    refine r_push rfl ?_
    refine r_c3 rfl (by first | exact iB0 | exact iB1 | exact iBm | exact hB _ _ | exact hT _ (by omega) | exact ⟨by omega, by omega⟩) (by first | exact iB0 | exact iB1 | exact iBm | exact hB _ _ | exact hT _ (by omega) | exact ⟨by omega, by omega⟩) (fun h7 => ?_) (fun h7 => ?_)
    · refine r_iload rfl rfl ?_
      refine q_iret rfl rfl rfl ?_
      exact am_ret_of rfl
    · exfalso; omega

theorem s_60 {d : Nat} {Z : wZ} {Lg : Nat → Nat → Int64} {N : Nat} {X : Nat → Int32} {z : rd_Z} (hd : mR z Z) (hz : rd_ok z) (hB : zB z) {m : Nat} (hm : m < 7)  : am_T am_tabs am_ar (d + 1) 60 [.ref 34, .int (iI m)] (mW Z Lg N X) (am_ret (iI (rd_pi (z 11) m)) (mW Z Lg N X)) := by
  refine ⟨⟨rfl, rfl⟩, ?_⟩
  show am_X (am_tb op_60) _ _ _
  refine r_push rfl ?_
  refine r_istore rfl ?_
  refine r_push rfl ?_
  refine r_istore rfl ?_
  refine r_loop (fun o => (4, [some (.ref 34), some (.int (iI m)), some (.int (iI (rd_cnt (fun o => (fun o => decide (z 11 o ≠ -1)) o && rd_bf (z 11) o m) o))), some (.int (iI o))], [], mW Z Lg N X, 0, 0)) (fun o => True) 7 trivial (fun o ho hi hn => ?_) (fun hi => ?_)
  · (try dsimp only at hi); (try dsimp only at hn); (try dsimp only)
    have hr := ok_rs hz ho
    refine r_iload rfl rfl ?_
    refine r_push rfl ?_
    refine r_c3 rfl (by first | exact iB0 | exact iB1 | exact iBm | exact hB _ _ | exact hT _ (by omega) | exact ⟨by omega, by omega⟩) (by first | exact iB0 | exact iB1 | exact iBm | exact hB _ _ | exact hT _ (by omega) | exact ⟨by omega, by omega⟩) (fun h7 => ?_) (fun h7 => ?_)
    · exfalso; omega
    · refine r_aload rfl rfl ?_
      refine q_getr rfl rfl rfl ?_
      refine r_iload rfl rfl ?_
      refine q_iald rfl rfl (by omega) (by omega) rfl (hd.2.2.2.2.2.2.2.2.2.2.2.2.1 o) ?_
      refine r_z2 rfl (by first | exact iB0 | exact iB1 | exact iBm | exact hB _ _ | exact hT _ (by omega) | exact ⟨by omega, by omega⟩) (fun h16 => ?_) (fun h16 => ?_)
      · refine r_iload rfl rfl ?_
        refine r_istore rfl ?_
        refine r_iinc rfl rfl ?_
        refine r_goto rfl ?_
        first
        | exact am_X_of (hn trivial) (by rw [rd_cnt_t (p := (fun o => (fun o => decide (z 11 o ≠ -1)) o && rd_bf (z 11) o m)) (o := o) (by simp [rd_bf] <;> omega)]; rfl)
        | exact am_X_of (hn trivial) (by rw [rd_cnt_f (p := (fun o => (fun o => decide (z 11 o ≠ -1)) o && rd_bf (z 11) o m)) (o := o) (by simp [rd_bf] <;> omega)]; rfl)
      · refine r_aload rfl rfl ?_
        refine q_getr rfl rfl rfl ?_
        refine r_iload rfl rfl ?_
        refine q_iald rfl rfl (by omega) (by omega) rfl (hd.2.2.2.2.2.2.2.2.2.2.2.2.1 o) ?_
        refine r_aload rfl rfl ?_
        refine q_getr rfl rfl rfl ?_
        refine r_iload rfl rfl ?_
        refine q_iald rfl rfl (by omega) (by omega) rfl (hd.2.2.2.2.2.2.2.2.2.2.2.2.1 m) ?_
        refine r_c2 rfl (by first | exact iB0 | exact iB1 | exact iBm | exact hB _ _ | exact hT _ (by omega) | exact ⟨by omega, by omega⟩) (by first | exact iB0 | exact iB1 | exact iBm | exact hB _ _ | exact hT _ (by omega) | exact ⟨by omega, by omega⟩) (fun h31 => ?_) (fun h31 => ?_)
        · refine r_iload rfl rfl ?_
          refine r_push rfl ?_
          refine r_iadd rfl ?_
          refine r_goto rfl ?_
          refine r_istore rfl ?_
          refine r_iinc rfl rfl ?_
          refine r_goto rfl ?_
          first
          | exact am_X_of (hn trivial) (by rw [rd_cnt_t (p := (fun o => (fun o => decide (z 11 o ≠ -1)) o && rd_bf (z 11) o m)) (o := o) (by simp [rd_bf] <;> omega)]; rfl)
          | exact am_X_of (hn trivial) (by rw [rd_cnt_f (p := (fun o => (fun o => decide (z 11 o ≠ -1)) o && rd_bf (z 11) o m)) (o := o) (by simp [rd_bf] <;> omega)]; rfl)
        · refine r_aload rfl rfl ?_
          refine q_getr rfl rfl rfl ?_
          refine r_iload rfl rfl ?_
          refine q_iald rfl rfl (by omega) (by omega) rfl (hd.2.2.2.2.2.2.2.2.2.2.2.2.1 o) ?_
          refine r_aload rfl rfl ?_
          refine q_getr rfl rfl rfl ?_
          refine r_iload rfl rfl ?_
          refine q_iald rfl rfl (by omega) (by omega) rfl (hd.2.2.2.2.2.2.2.2.2.2.2.2.1 m) ?_
          refine r_c1 rfl (by first | exact iB0 | exact iB1 | exact iBm | exact hB _ _ | exact hT _ (by omega) | exact ⟨by omega, by omega⟩) (by first | exact iB0 | exact iB1 | exact iBm | exact hB _ _ | exact hT _ (by omega) | exact ⟨by omega, by omega⟩) (fun h46 => ?_) (fun h46 => ?_)
          · refine r_iload rfl rfl ?_
            refine r_istore rfl ?_
            refine r_iinc rfl rfl ?_
            refine r_goto rfl ?_
            first
            | exact am_X_of (hn trivial) (by rw [rd_cnt_t (p := (fun o => (fun o => decide (z 11 o ≠ -1)) o && rd_bf (z 11) o m)) (o := o) (by simp [rd_bf] <;> omega)]; rfl)
            | exact am_X_of (hn trivial) (by rw [rd_cnt_f (p := (fun o => (fun o => decide (z 11 o ≠ -1)) o && rd_bf (z 11) o m)) (o := o) (by simp [rd_bf] <;> omega)]; rfl)
          · refine r_iload rfl rfl ?_
            refine r_iload rfl rfl ?_
            refine r_c3 rfl (by first | exact iB0 | exact iB1 | exact iBm | exact hB _ _ | exact hT _ (by omega) | exact ⟨by omega, by omega⟩) (by first | exact iB0 | exact iB1 | exact iBm | exact hB _ _ | exact hT _ (by omega) | exact ⟨by omega, by omega⟩) (fun h51 => ?_) (fun h51 => ?_)
            · refine r_iload rfl rfl ?_
              refine r_istore rfl ?_
              refine r_iinc rfl rfl ?_
              refine r_goto rfl ?_
              first
              | exact am_X_of (hn trivial) (by rw [rd_cnt_t (p := (fun o => (fun o => decide (z 11 o ≠ -1)) o && rd_bf (z 11) o m)) (o := o) (by simp [rd_bf] <;> omega)]; rfl)
              | exact am_X_of (hn trivial) (by rw [rd_cnt_f (p := (fun o => (fun o => decide (z 11 o ≠ -1)) o && rd_bf (z 11) o m)) (o := o) (by simp [rd_bf] <;> omega)]; rfl)
            · refine r_iload rfl rfl ?_
              refine r_push rfl ?_
              refine r_iadd rfl ?_
              refine r_goto rfl ?_
              refine r_istore rfl ?_
              refine r_iinc rfl rfl ?_
              refine r_goto rfl ?_
              first
              | exact am_X_of (hn trivial) (by rw [rd_cnt_t (p := (fun o => (fun o => decide (z 11 o ≠ -1)) o && rd_bf (z 11) o m)) (o := o) (by simp [rd_bf] <;> omega)]; rfl)
              | exact am_X_of (hn trivial) (by rw [rd_cnt_f (p := (fun o => (fun o => decide (z 11 o ≠ -1)) o && rd_bf (z 11) o m)) (o := o) (by simp [rd_bf] <;> omega)]; rfl)
  · (try dsimp only at hi); (try dsimp only)
    refine r_iload rfl rfl ?_
    refine r_push rfl ?_
    refine r_c3 rfl (by first | exact iB0 | exact iB1 | exact iBm | exact hB _ _ | exact hT _ (by omega) | exact ⟨by omega, by omega⟩) (by first | exact iB0 | exact iB1 | exact iBm | exact hB _ _ | exact hT _ (by omega) | exact ⟨by omega, by omega⟩) (fun h7 => ?_) (fun h7 => ?_)
    · refine r_iload rfl rfl ?_
      refine q_iret rfl rfl rfl ?_
      exact am_ret_of rfl
    · exfalso; omega

def rd_sws (z : rd_Z) (s : Int) : Nat → Int
  | 0 => s
  | k + 1 => rd_sw z (rd_sws z s k) (rd_nc z)

theorem s_49 {d : Nat} {Z : wZ} {Lg : Nat → Nat → Int64} {N : Nat} {X : Nat → Int32} {z : rd_Z} (hd : mR z Z) (hz : rd_ok z) (hB : zB z) {s : Int} (hs : -100 ≤ s ∧ s ≤ 10000) : am_T am_tabs am_ar (d + 1) 49 [.ref 34, .int (iI s)] (mW Z Lg N X) (am_ret (iI (rd_fo z s)) (mW Z Lg N X)) := by
  refine ⟨⟨rfl, rfl⟩, ?_⟩
  show am_X (am_tb op_49) _ _ _
  have hnc := ok_nc hz
  refine r_iload rfl rfl ?_
  refine r_istore rfl ?_
  refine r_push rfl ?_
  refine r_istore rfl ?_
  refine r_loopS (fun o σ => ∃ (t : Int) (tl : List (Option Value)), t = rd_sws z s o ∧ -100 ≤ t ∧ t ≤ 10000 ∧ σ = (4, some (.ref 34) :: some (.int (iI s)) :: some (.int (iI t)) :: some (.int (iI o)) :: tl, [], mW Z Lg N X, 0, 0)) 4 (fun u σ hu hS hN => ?_) (fun σ hS => ?_) ⟨s, [], rfl, by omega, by omega, rfl⟩
  · obtain ⟨t, tl, t0, t1, t2, rfl⟩ := hS
    refine r_iload rfl rfl ?_
    refine r_push rfl ?_
    refine r_c3 rfl (by first | exact iB0 | exact iB1 | exact iBm | exact hB _ _ | exact hT _ (by omega) | exact ⟨by omega, by omega⟩) (by first | exact iB0 | exact iB1 | exact iBm | exact hB _ _ | exact hT _ (by omega) | exact ⟨by omega, by omega⟩) (fun h6 => ?_) (fun h6 => ?_)
    · exfalso; omega
    · refine r_push rfl ?_
      refine r_istore rfl ?_
      refine am_X_of (τ := (12, some (.ref 34) :: some (.int (iI s)) :: some (.int (iI t)) :: some (.int (iI u)) :: am_set tl 0 (.int (iI 0)), [], mW Z Lg N X, 0, 0)) ?_ rfl
      refine r_loopS (fun o σ => ∃ (t1 : Int) (tl : List (Option Value)), t1 = rd_sw z t o ∧ -100 ≤ t1 ∧ t1 ≤ 10000 ∧ σ = (12, some (.ref 34) :: some (.int (iI s)) :: some (.int (iI t1)) :: some (.int (iI u)) :: some (.int (iI o)) :: tl, [], mW Z Lg N X, 0, 0)) (rd_nc z) (fun o σ ho hS hn => ?_) (fun σ hS => ?_) ⟨t, tl.tail, rfl, t1, t2, by cases tl <;> rfl⟩
      · obtain ⟨t1, tl, a0, a1, a2, rfl⟩ := hS
        have hk := ok_cl hz ho
        refine r_iload rfl rfl ?_
        refine r_aload rfl rfl ?_
        refine q_geti rfl rfl rfl hd.2.2.2.2.2.2.2.2.2.2.1 ?_
        refine r_c3 rfl (by first | exact iB0 | exact iB1 | exact iBm | exact hB _ _ | exact hT _ (by omega) | exact ⟨by omega, by omega⟩) (by first | exact iB0 | exact iB1 | exact iBm | exact hB _ _ | exact hT _ (by omega) | exact ⟨by omega, by omega⟩) (fun h18 => ?_) (fun h18 => ?_)
        · exfalso; omega
        · refine r_iload rfl rfl ?_
          refine r_aload rfl rfl ?_
          refine q_getr rfl rfl rfl ?_
          refine r_iload rfl rfl ?_
          refine q_iald rfl rfl (by omega) (by omega) rfl (hd.2.2.2.2.2.2.2.2.1 o) ?_
          refine r_c2 rfl (by first | exact iB0 | exact iB1 | exact iBm | exact hB _ _ | exact hT _ (by omega) | exact ⟨by omega, by omega⟩) (by first | exact iB0 | exact iB1 | exact iBm | exact hB _ _ | exact hT _ (by omega) | exact ⟨by omega, by omega⟩) (fun h29 => ?_) (fun h29 => ?_)
          · refine r_iload rfl rfl ?_
            refine r_istore rfl ?_
            refine r_iinc rfl rfl ?_
            refine r_goto rfl ?_
            first
            | exact hn _ ⟨t1, _, by rw [rd_sw, if_neg (by simp [rd_in, ← a0] <;> omega)]; exact a0, a1, a2, rfl⟩
            | exact hn _ ⟨z 9 o + 1, _, by rw [rd_sw, if_pos (by simp [rd_in, ← a0] <;> omega)], by omega, by omega, rfl⟩
          · refine r_iload rfl rfl ?_
            refine r_aload rfl rfl ?_
            refine q_getr rfl rfl rfl ?_
            refine r_iload rfl rfl ?_
            refine q_iald rfl rfl (by omega) (by omega) rfl (hd.2.2.2.2.2.2.2.2.2.1 o) ?_
            refine r_c4 rfl (by first | exact iB0 | exact iB1 | exact iBm | exact hB _ _ | exact hT _ (by omega) | exact ⟨by omega, by omega⟩) (by first | exact iB0 | exact iB1 | exact iBm | exact hB _ _ | exact hT _ (by omega) | exact ⟨by omega, by omega⟩) (fun h40 => ?_) (fun h40 => ?_)
            · refine r_iload rfl rfl ?_
              refine r_istore rfl ?_
              refine r_iinc rfl rfl ?_
              refine r_goto rfl ?_
              first
              | exact hn _ ⟨t1, _, by rw [rd_sw, if_neg (by simp [rd_in, ← a0] <;> omega)]; exact a0, a1, a2, rfl⟩
              | exact hn _ ⟨z 9 o + 1, _, by rw [rd_sw, if_pos (by simp [rd_in, ← a0] <;> omega)], by omega, by omega, rfl⟩
            · refine r_aload rfl rfl ?_
              refine q_getr rfl rfl rfl ?_
              refine r_iload rfl rfl ?_
              refine q_iald rfl rfl (by omega) (by omega) rfl (hd.2.2.2.2.2.2.2.2.2.1 o) ?_
              refine r_push rfl ?_
              refine r_iadd rfl ?_
              refine r_goto rfl ?_
              refine r_istore rfl ?_
              refine r_iinc rfl rfl ?_
              refine r_goto rfl ?_
              first
              | exact hn _ ⟨t1, _, by rw [rd_sw, if_neg (by simp [rd_in, ← a0] <;> omega)]; exact a0, a1, a2, rfl⟩
              | exact hn _ ⟨z 9 o + 1, _, by rw [rd_sw, if_pos (by simp [rd_in, ← a0] <;> omega)], by omega, by omega, rfl⟩
      · obtain ⟨t1, tl, a0, a1, a2, rfl⟩ := hS
        refine r_iload rfl rfl ?_
        refine r_aload rfl rfl ?_
        refine q_geti rfl rfl rfl hd.2.2.2.2.2.2.2.2.2.2.1 ?_
        refine r_c3 rfl (by first | exact iB0 | exact iB1 | exact iBm | exact hB _ _ | exact hT _ (by omega) | exact ⟨by omega, by omega⟩) (by first | exact iB0 | exact iB1 | exact iBm | exact hB _ _ | exact hT _ (by omega) | exact ⟨by omega, by omega⟩) (fun h18 => ?_) (fun h18 => ?_)
        · refine r_iinc rfl rfl ?_
          refine r_goto rfl ?_
          exact hN _ ⟨t1, _, by rw [a0, t0]; rfl, a1, a2, rfl⟩
        · exfalso; omega
  · obtain ⟨t, tl, t0, t1, t2, rfl⟩ := hS
    refine r_iload rfl rfl ?_
    refine r_push rfl ?_
    refine r_c3 rfl (by first | exact iB0 | exact iB1 | exact iBm | exact hB _ _ | exact hT _ (by omega) | exact ⟨by omega, by omega⟩) (by first | exact iB0 | exact iB1 | exact iBm | exact hB _ _ | exact hT _ (by omega) | exact ⟨by omega, by omega⟩) (fun h6 => ?_) (fun h6 => ?_)
    · refine r_iload rfl rfl ?_
      refine q_iret rfl rfl rfl ?_
      exact am_ret_of (by rw [t0]; rfl)
    · exfalso; omega

theorem s_50 {d : Nat} {Z : wZ} {Lg : Nat → Nat → Int64} {N : Nat} {X : Nat → Int32} {z : rd_Z} (hd : mR z Z) (hz : rd_ok z) (hB : zB z) {m : Nat} (hm : m < 7) (ht : rd_th z m = true) {f : Int} (hf : -100 ≤ f ∧ f ≤ 10000) : am_T am_tabs am_ar (d + 2) 50 [.ref 34, .int (iI m), .int (iI f)] (mW Z Lg N X) (am_ret (iI (rd_sec z m f)) (mW Z Lg N X)) := by
  refine ⟨⟨rfl, rfl⟩, ?_⟩
  show am_X (am_tb op_50) _ _ _
  have hr := ok_rg hz hm
  have hfr := ok_fr hz hm
  have hfo := fo_B hz (s := max f (z 2 m)) (by omega)
  have h49 : ∀ t, max f (z 2 m) = t → ∀ d, am_T am_tabs am_ar (d + 1) 49 [.ref 34, .int (iI t)] (mW Z Lg N X) (am_ret (iI (rd_fo z (max f (z 2 m)))) (mW Z Lg N X)) := fun t e d => by subst e; exact s_49 hd hz hB ⟨by omega, by omega⟩
  refine r_aload rfl rfl ?_
  refine r_iload rfl rfl ?_
  refine r_aload rfl rfl ?_
  refine q_getr rfl rfl rfl ?_
  refine r_iload rfl rfl ?_
  refine q_iald rfl rfl (by omega) (by omega) rfl (hd.2.2.1 m) ?_
  refine r_c5 rfl (by first | exact iB0 | exact iB1 | exact iBm | exact hB _ _ | exact hT _ (by omega) | exact ⟨by omega, by omega⟩) (by first | exact iB0 | exact iB1 | exact iBm | exact hB _ _ | exact hT _ (by omega) | exact ⟨by omega, by omega⟩) (fun h8 => ?_) (fun h8 => ?_)
  · refine r_aload rfl rfl ?_
    refine q_getr rfl rfl rfl ?_
    refine r_iload rfl rfl ?_
    refine q_iald rfl rfl (by omega) (by omega) rfl (hd.2.2.1 m) ?_
    refine r_ki1 rfl rfl rfl rfl rfl (h49 _ (by omega) _) ?_
    refine r_istore rfl ?_
    refine r_aload rfl rfl ?_
    refine q_getr rfl rfl rfl ?_
    refine r_iload rfl rfl ?_
    refine q_iald rfl rfl (by omega) (by omega) rfl (hd.2.2.2.2.2.2.1 m hm (th_iff.mp ht)) ?_
    refine r_z2 rfl (by first | exact iB0 | exact iB1 | exact iBm | exact hB _ _ | exact hT _ (by omega) | exact ⟨by omega, by omega⟩) (fun h31 => ?_) (fun h31 => ?_)
    · refine r_iload rfl rfl ?_
      refine r_aload rfl rfl ?_
      refine q_getr rfl rfl rfl ?_
      refine r_iload rfl rfl ?_
      refine q_iald rfl rfl (by omega) (by omega) rfl (hd.2.2.2.2.1 m) ?_
      refine r_c4 rfl (by first | exact iB0 | exact iB1 | exact iBm | exact hB _ _ | exact hT _ (by omega) | exact ⟨by omega, by omega⟩) (by first | exact iB0 | exact iB1 | exact iBm | exact hB _ _ | exact hT _ (by omega) | exact ⟨by omega, by omega⟩) (fun h75 => ?_) (fun h75 => ?_)
      · refine r_push rfl ?_
        refine q_iret rfl rfl rfl ?_
        first
        | exact am_ret_of (sec_n1 (by omega) (by omega)).symm
        | exact am_ret_of (sec_n2 (by omega) (by omega)).symm
      · refine r_iload rfl rfl ?_
        refine r_goto rfl ?_
        refine q_iret rfl rfl rfl ?_
        first
        | exact am_ret_of (sec_n1 (by omega) (by omega)).symm
        | exact am_ret_of (sec_n2 (by omega) (by omega)).symm
    · refine r_aload rfl rfl ?_
      refine q_getr rfl rfl rfl ?_
      refine r_iload rfl rfl ?_
      refine q_iald rfl rfl (by omega) (by omega) rfl (hd.2.2.2.2.2.2.1 m hm (th_iff.mp ht)) ?_
      refine r_iload rfl rfl ?_
      refine r_c2 rfl (by first | exact iB0 | exact iB1 | exact iBm | exact hB _ _ | exact hT _ (by omega) | exact ⟨by omega, by omega⟩) (by first | exact iB0 | exact iB1 | exact iBm | exact hB _ _ | exact hT _ (by omega) | exact ⟨by omega, by omega⟩) (fun h41 => ?_) (fun h41 => ?_)
      · refine r_push rfl ?_
        refine q_iret rfl rfl rfl ?_
        first
        | exact am_ret_of (sec_f1 (by omega) (by omega) (Bool.eq_false_iff.mpr h51)).symm
        | exact am_ret_of (sec_f2 (by omega) (fun q => by omega)).symm
        | exact am_ret_of (sec_f2 (by omega) (fun q => by rw [h51] at q; simp at q)).symm
      · refine r_aload rfl rfl ?_
        refine r_aload rfl rfl ?_
        refine q_getr rfl rfl rfl ?_
        refine r_iload rfl rfl ?_
        refine q_iald rfl rfl (by omega) (by omega) rfl (hd.2.2.2.2.2.2.1 m hm (th_iff.mp ht)) ?_
        refine r_kb1 rfl rfl rfl rfl rfl (s_43 hd hz hB (hB _ _)) (fun h51 => ?_) (fun h51 => ?_)
        · refine r_t1 rfl (by first | exact iB0 | exact iB1 | exact iBm | exact hB _ _ | exact hT _ (by omega) | exact ⟨by omega, by omega⟩) (by omega) ?_
          refine r_push rfl ?_
          refine q_iret rfl rfl rfl ?_
          first
          | exact am_ret_of (sec_f1 (by omega) (by omega) (Bool.eq_false_iff.mpr h51)).symm
          | exact am_ret_of (sec_f2 (by omega) (fun q => by omega)).symm
          | exact am_ret_of (sec_f2 (by omega) (fun q => by rw [h51] at q; simp at q)).symm
        · refine r_f1 rfl (by first | exact iB0 | exact iB1 | exact iBm | exact hB _ _ | exact hT _ (by omega) | exact ⟨by omega, by omega⟩) (by omega) ?_
          refine r_aload rfl rfl ?_
          refine q_getr rfl rfl rfl ?_
          refine r_iload rfl rfl ?_
          refine q_iald rfl rfl (by omega) (by omega) rfl (hd.2.2.2.2.2.2.1 m hm (th_iff.mp ht)) ?_
          refine r_goto rfl ?_
          refine q_iret rfl rfl rfl ?_
          first
          | exact am_ret_of (sec_f1 (by omega) (by omega) (Bool.eq_false_iff.mpr h51)).symm
          | exact am_ret_of (sec_f2 (by omega) (fun q => by omega)).symm
          | exact am_ret_of (sec_f2 (by omega) (fun q => by rw [h51] at q; simp at q)).symm
  · refine r_iload rfl rfl ?_
    refine r_goto rfl ?_
    refine r_ki1 rfl rfl rfl rfl rfl (h49 _ (by omega) _) ?_
    refine r_istore rfl ?_
    refine r_aload rfl rfl ?_
    refine q_getr rfl rfl rfl ?_
    refine r_iload rfl rfl ?_
    refine q_iald rfl rfl (by omega) (by omega) rfl (hd.2.2.2.2.2.2.1 m hm (th_iff.mp ht)) ?_
    refine r_z2 rfl (by first | exact iB0 | exact iB1 | exact iBm | exact hB _ _ | exact hT _ (by omega) | exact ⟨by omega, by omega⟩) (fun h31 => ?_) (fun h31 => ?_)
    · refine r_iload rfl rfl ?_
      refine r_aload rfl rfl ?_
      refine q_getr rfl rfl rfl ?_
      refine r_iload rfl rfl ?_
      refine q_iald rfl rfl (by omega) (by omega) rfl (hd.2.2.2.2.1 m) ?_
      refine r_c4 rfl (by first | exact iB0 | exact iB1 | exact iBm | exact hB _ _ | exact hT _ (by omega) | exact ⟨by omega, by omega⟩) (by first | exact iB0 | exact iB1 | exact iBm | exact hB _ _ | exact hT _ (by omega) | exact ⟨by omega, by omega⟩) (fun h75 => ?_) (fun h75 => ?_)
      · refine r_push rfl ?_
        refine q_iret rfl rfl rfl ?_
        first
        | exact am_ret_of (sec_n1 (by omega) (by omega)).symm
        | exact am_ret_of (sec_n2 (by omega) (by omega)).symm
      · refine r_iload rfl rfl ?_
        refine r_goto rfl ?_
        refine q_iret rfl rfl rfl ?_
        first
        | exact am_ret_of (sec_n1 (by omega) (by omega)).symm
        | exact am_ret_of (sec_n2 (by omega) (by omega)).symm
    · refine r_aload rfl rfl ?_
      refine q_getr rfl rfl rfl ?_
      refine r_iload rfl rfl ?_
      refine q_iald rfl rfl (by omega) (by omega) rfl (hd.2.2.2.2.2.2.1 m hm (th_iff.mp ht)) ?_
      refine r_iload rfl rfl ?_
      refine r_c2 rfl (by first | exact iB0 | exact iB1 | exact iBm | exact hB _ _ | exact hT _ (by omega) | exact ⟨by omega, by omega⟩) (by first | exact iB0 | exact iB1 | exact iBm | exact hB _ _ | exact hT _ (by omega) | exact ⟨by omega, by omega⟩) (fun h41 => ?_) (fun h41 => ?_)
      · refine r_push rfl ?_
        refine q_iret rfl rfl rfl ?_
        first
        | exact am_ret_of (sec_f1 (by omega) (by omega) (Bool.eq_false_iff.mpr h51)).symm
        | exact am_ret_of (sec_f2 (by omega) (fun q => by omega)).symm
        | exact am_ret_of (sec_f2 (by omega) (fun q => by rw [h51] at q; simp at q)).symm
      · refine r_aload rfl rfl ?_
        refine r_aload rfl rfl ?_
        refine q_getr rfl rfl rfl ?_
        refine r_iload rfl rfl ?_
        refine q_iald rfl rfl (by omega) (by omega) rfl (hd.2.2.2.2.2.2.1 m hm (th_iff.mp ht)) ?_
        refine r_kb1 rfl rfl rfl rfl rfl (s_43 hd hz hB (hB _ _)) (fun h51 => ?_) (fun h51 => ?_)
        · refine r_t1 rfl (by first | exact iB0 | exact iB1 | exact iBm | exact hB _ _ | exact hT _ (by omega) | exact ⟨by omega, by omega⟩) (by omega) ?_
          refine r_push rfl ?_
          refine q_iret rfl rfl rfl ?_
          first
          | exact am_ret_of (sec_f1 (by omega) (by omega) (Bool.eq_false_iff.mpr h51)).symm
          | exact am_ret_of (sec_f2 (by omega) (fun q => by omega)).symm
          | exact am_ret_of (sec_f2 (by omega) (fun q => by rw [h51] at q; simp at q)).symm
        · refine r_f1 rfl (by first | exact iB0 | exact iB1 | exact iBm | exact hB _ _ | exact hT _ (by omega) | exact ⟨by omega, by omega⟩) (by omega) ?_
          refine r_aload rfl rfl ?_
          refine q_getr rfl rfl rfl ?_
          refine r_iload rfl rfl ?_
          refine q_iald rfl rfl (by omega) (by omega) rfl (hd.2.2.2.2.2.2.1 m hm (th_iff.mp ht)) ?_
          refine r_goto rfl ?_
          refine q_iret rfl rfl rfl ?_
          first
          | exact am_ret_of (sec_f1 (by omega) (by omega) (Bool.eq_false_iff.mpr h51)).symm
          | exact am_ret_of (sec_f2 (by omega) (fun q => by omega)).symm
          | exact am_ret_of (sec_f2 (by omega) (fun q => by rw [h51] at q; simp at q)).symm

theorem s_51 {d : Nat} {Z : wZ} {Lg : Nat → Nat → Int64} {N : Nat} {X : Nat → Int32} {z : rd_Z} (hd : mR z Z) (hz : rd_ok z) (hB : zB z) {m : Nat} (hm : m < 7) {s : Int} (hs : 0 ≤ s ∧ s ≤ 3000) : am_T am_tabs am_ar (d + 1) 51 [.ref 34, .int (iI m), .int (iI s)] (mW Z Lg N X) (am_ret (iI (rd_dl z m s)) (mW Z Lg N X)) := by
  refine ⟨⟨rfl, rfl⟩, ?_⟩
  show am_X (am_tb op_51) _ _ _
  have hr := ok_rg hz hm
  refine r_iload rfl rfl ?_
  refine r_aload rfl rfl ?_
  refine q_getr rfl rfl rfl ?_
  refine r_iload rfl rfl ?_
  refine q_iald rfl rfl (by omega) (by omega) rfl (hd.2.2.2.1 m) ?_
  refine r_c5 rfl (by first | exact iB0 | exact iB1 | exact iBm | exact hB _ _ | exact hT _ (by omega) | exact ⟨by omega, by omega⟩) (by first | exact iB0 | exact iB1 | exact iBm | exact hB _ _ | exact hT _ (by omega) | exact ⟨by omega, by omega⟩) (fun h7 => ?_) (fun h7 => ?_)
  · refine r_push rfl ?_
    refine q_iret rfl rfl rfl ?_
    first
    | exact am_ret_of (by rw [rd_dl, show max 0 (s - z 3 m) = s - z 3 m by omega])
    | exact am_ret_of (by rw [rd_dl, show max 0 (s - z 3 m) = 0 by omega, Int.mul_zero])
  · refine r_aload rfl rfl ?_
    refine q_getr rfl rfl rfl ?_
    refine r_iload rfl rfl ?_
    refine q_iald rfl rfl (by omega) (by omega) rfl (hd.2.2.2.2.2.1 m) ?_
    refine r_iload rfl rfl ?_
    refine r_aload rfl rfl ?_
    refine q_getr rfl rfl rfl ?_
    refine r_iload rfl rfl ?_
    refine q_iald rfl rfl (by omega) (by omega) rfl (hd.2.2.2.1 m) ?_
    refine r_isub rfl ?_
    refine r_imul rfl ?_
    refine r_goto rfl ?_
    refine q_iret rfl rfl rfl ?_
    first
    | exact am_ret_of (by rw [rd_dl, show max 0 (s - z 3 m) = s - z 3 m by omega])
    | exact am_ret_of (by rw [rd_dl, show max 0 (s - z 3 m) = 0 by omega, Int.mul_zero])

end MDL
