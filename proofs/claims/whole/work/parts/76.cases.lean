/-! the law's cases -/
section LCA
set_option maxRecDepth 16384
section
variable {tab : Nat → am_Sem} {C : am_C} {Q : am_Q} {pc nx tg a k n : Nat} {ls : List (Option Value)} {st : List Value} {w : am_W} {uc us : Nat} {x y v i : Int} {Z : wZ} {Lg : Nat → Nat → Int64} {N : Nat} {X : Nat → Int32}
theorem lg_self (g : Int64) : lg_cmp g g = iI 0 := by
  unfold lg_cmp
  simp
  decide
theorem r_lcmp0 {g h : Int64} (ht : tab pc = am_lcmp nx) (e : g = h) (kk : am_X tab C Q (nx, ls, .int (iI 0) :: st, w, uc, us)) : am_X tab C Q (pc, ls, .long h :: .long g :: st, w, uc, us) := by
  subst e
  exact r_lcmp ht (by rw [lg_self]; exact kk)
theorem r_c0r {u : Int32} (ht : tab pc = am_icmp nx tg 0) (kt : am_X tab C Q (tg, ls, st, w, uc, us)) : am_X tab C Q (pc, ls, .int u :: .int u :: st, w, uc, us) := am_go ht ⟨u, u, st, rfl, fun _ => kt, fun h => absurd rfl h⟩
theorem set_get10 {tl : List (Option Value)} {v u : Value} : (am_set (am_set tl 0 v) 1 u)[0]? = some (some v) := by cases tl <;> rfl
theorem r_sH3 {mj jc js mc ms : Nat} {a1 a2 a3 : Value} {f : Int × Int × rd_Z} (ht : tab pc = am_inv nx mj 3 jc js mc ms) (hr : Nat.ble (st.map fun v => v.category).sum 8 = true) (h1 : Nat.ble (uc + jc) mc = true) (h2 : Nat.ble (us + js) ms = true) (hc : C mj [a1, a2, a3] (mW Z Lg N X) (hQ f Z N X))
    (kk : ∀ Z1 Lg1, cR f.2.2 Z1 → mF Z Z1 → (0 ≤ f.1 ∧ f.1 ≤ 3) → (f.1 = 0 → Lg1 53 0 = (iI f.2.1).toInt64) → am_X tab C Q (nx, ls, .int (iI f.1) :: st, mW Z1 Lg1 N X, uc + jc, us + js)) : am_X tab C Q (pc, ls, a3 :: a2 :: a1 :: st, mW Z Lg N X, uc, us) :=
  r_call ht (as := [a1, a2, a3]) (r := st) rfl rfl (Nat.le_of_ble_eq_true hr) (Nat.le_of_ble_eq_true h1) (Nat.le_of_ble_eq_true h2) hc (fun v w' h => by obtain ⟨Z1, Lg1, h4, h5, h6, h7, h8, h9⟩ := h; cases h4; subst h5; exact kk Z1 Lg1 h6 h7 h8 h9) (fun E w' h => by obtain ⟨Z1, Lg1, h4, -⟩ := h; cases h4)
theorem r_sG3 {mj jc js mc ms : Nat} {a1 a2 a3 : Value} {f : Int × Int × rd_Z} (ht : tab pc = am_inv nx mj 3 jc js mc ms) (hr : Nat.ble (st.map fun v => v.category).sum 8 = true) (h1 : Nat.ble (uc + jc) mc = true) (h2 : Nat.ble (us + js) ms = true) (hc : C mj [a1, a2, a3] (mW Z Lg N X) (hV f Z N X))
    (kk : ∀ Z1 Lg1, cR f.2.2 Z1 → mF Z Z1 → (0 ≤ f.1 ∧ f.1 ≤ 3) → am_X tab C Q (nx, ls, .int (iI f.1) :: st, mW Z1 Lg1 N X, uc + jc, us + js)) : am_X tab C Q (pc, ls, a3 :: a2 :: a1 :: st, mW Z Lg N X, uc, us) :=
  r_call ht (as := [a1, a2, a3]) (r := st) rfl rfl (Nat.le_of_ble_eq_true hr) (Nat.le_of_ble_eq_true h1) (Nat.le_of_ble_eq_true h2) hc (fun v w' h => by obtain ⟨Z1, Lg1, h4, h5, h6, h7, h8⟩ := h; cases h4; subst h5; exact kk Z1 Lg1 h6 h7 h8) (fun E w' h => by obtain ⟨Z1, Lg1, h4, -⟩ := h; cases h4)
theorem r_sH4 {mj jc js mc ms : Nat} {a1 a2 a3 a4 : Value} {f : Int × Int × rd_Z} (ht : tab pc = am_inv nx mj 4 jc js mc ms) (hr : Nat.ble (st.map fun v => v.category).sum 8 = true) (h1 : Nat.ble (uc + jc) mc = true) (h2 : Nat.ble (us + js) ms = true) (hc : C mj [a1, a2, a3, a4] (mW Z Lg N X) (hQ f Z N X))
    (kk : ∀ Z1 Lg1, cR f.2.2 Z1 → mF Z Z1 → (0 ≤ f.1 ∧ f.1 ≤ 3) → (f.1 = 0 → Lg1 53 0 = (iI f.2.1).toInt64) → am_X tab C Q (nx, ls, .int (iI f.1) :: st, mW Z1 Lg1 N X, uc + jc, us + js)) : am_X tab C Q (pc, ls, a4 :: a3 :: a2 :: a1 :: st, mW Z Lg N X, uc, us) :=
  r_call ht (as := [a1, a2, a3, a4]) (r := st) rfl rfl (Nat.le_of_ble_eq_true hr) (Nat.le_of_ble_eq_true h1) (Nat.le_of_ble_eq_true h2) hc (fun v w' h => by obtain ⟨Z1, Lg1, h4, h5, h6, h7, h8, h9⟩ := h; cases h4; subst h5; exact kk Z1 Lg1 h6 h7 h8 h9) (fun E w' h => by obtain ⟨Z1, Lg1, h4, -⟩ := h; cases h4)
theorem r_sH5 {mj jc js mc ms : Nat} {a1 a2 a3 a4 a5 : Value} {f : Int × Int × rd_Z} (ht : tab pc = am_inv nx mj 5 jc js mc ms) (hr : Nat.ble (st.map fun v => v.category).sum 8 = true) (h1 : Nat.ble (uc + jc) mc = true) (h2 : Nat.ble (us + js) ms = true) (hc : C mj [a1, a2, a3, a4, a5] (mW Z Lg N X) (hQ f Z N X))
    (kk : ∀ Z1 Lg1, cR f.2.2 Z1 → mF Z Z1 → (0 ≤ f.1 ∧ f.1 ≤ 3) → (f.1 = 0 → Lg1 53 0 = (iI f.2.1).toInt64) → am_X tab C Q (nx, ls, .int (iI f.1) :: st, mW Z1 Lg1 N X, uc + jc, us + js)) : am_X tab C Q (pc, ls, a5 :: a4 :: a3 :: a2 :: a1 :: st, mW Z Lg N X, uc, us) :=
  r_call ht (as := [a1, a2, a3, a4, a5]) (r := st) rfl rfl (Nat.le_of_ble_eq_true hr) (Nat.le_of_ble_eq_true h1) (Nat.le_of_ble_eq_true h2) hc (fun v w' h => by obtain ⟨Z1, Lg1, h4, h5, h6, h7, h8, h9⟩ := h; cases h4; subst h5; exact kk Z1 Lg1 h6 h7 h8 h9) (fun E w' h => by obtain ⟨Z1, Lg1, h4, -⟩ := h; cases h4)
theorem r_sH7 {mj jc js mc ms : Nat} {a1 a2 a3 a4 a5 a6 a7 : Value} {f : Int × Int × rd_Z} (ht : tab pc = am_inv nx mj 7 jc js mc ms) (hr : Nat.ble (st.map fun v => v.category).sum 8 = true) (h1 : Nat.ble (uc + jc) mc = true) (h2 : Nat.ble (us + js) ms = true) (hc : C mj [a1, a2, a3, a4, a5, a6, a7] (mW Z Lg N X) (hQ f Z N X))
    (kk : ∀ Z1 Lg1, cR f.2.2 Z1 → mF Z Z1 → (0 ≤ f.1 ∧ f.1 ≤ 3) → (f.1 = 0 → Lg1 53 0 = (iI f.2.1).toInt64) → am_X tab C Q (nx, ls, .int (iI f.1) :: st, mW Z1 Lg1 N X, uc + jc, us + js)) : am_X tab C Q (pc, ls, a7 :: a6 :: a5 :: a4 :: a3 :: a2 :: a1 :: st, mW Z Lg N X, uc, us) :=
  r_call ht (as := [a1, a2, a3, a4, a5, a6, a7]) (r := st) rfl rfl (Nat.le_of_ble_eq_true hr) (Nat.le_of_ble_eq_true h1) (Nat.le_of_ble_eq_true h2) hc (fun v w' h => by obtain ⟨Z1, Lg1, h4, h5, h6, h7, h8, h9⟩ := h; cases h4; subst h5; exact kk Z1 Lg1 h6 h7 h8 h9) (fun E w' h => by obtain ⟨Z1, Lg1, h4, -⟩ := h; cases h4)
theorem r_kM0 {mj ci jc js mc ms : Nat} {q : List Nat} {f : Int × Int × rd_Z} (ht : tab pc = am_invV nx mj 0 ci jc js mc ms) (hk : SH[k]? = some (ci + 4, n, q)) (hr : Nat.ble (st.map fun v => v.category).sum 8 = true) (h1 : Nat.ble (uc + jc) mc = true) (h2 : Nat.ble (us + js) ms = true) (hc : C mj (.ref k :: []) (mW Z Lg N X) (mQ f Z Lg N X))
    (kk : ∀ Z1, mR f.2.2 Z1 → Z1 34 0 = f.1 → cF Z Z1 → am_X tab C Q (nx, ls, .int (iI f.2.1) :: st, mW Z1 Lg N X, uc + jc, us + js)) : am_X tab C Q (pc, ls, .ref k :: st, mW Z Lg N X, uc, us) :=
  r_callV ht (as := []) (r := st) rfl rfl hk (Nat.le_of_ble_eq_true hr) (Nat.le_of_ble_eq_true h1) (Nat.le_of_ble_eq_true h2) hc (fun v w' h => by obtain ⟨Z1, h4, h5, h6, h7, h8⟩ := h; cases h4; subst h5; exact kk Z1 h6 h7 h8) (fun E w' h => by obtain ⟨Z1, h4, -⟩ := h; cases h4)
theorem r_kM1 {mj ci jc js mc ms : Nat} {q : List Nat} {a1 : Value} {f : Int × Int × rd_Z} (ht : tab pc = am_invV nx mj 1 ci jc js mc ms) (hk : SH[k]? = some (ci + 4, n, q)) (hr : Nat.ble (st.map fun v => v.category).sum 8 = true) (h1 : Nat.ble (uc + jc) mc = true) (h2 : Nat.ble (us + js) ms = true) (hc : C mj (.ref k :: [a1]) (mW Z Lg N X) (mQ f Z Lg N X))
    (kk : ∀ Z1, mR f.2.2 Z1 → Z1 34 0 = f.1 → cF Z Z1 → am_X tab C Q (nx, ls, .int (iI f.2.1) :: st, mW Z1 Lg N X, uc + jc, us + js)) : am_X tab C Q (pc, ls, a1 :: .ref k :: st, mW Z Lg N X, uc, us) :=
  r_callV ht (as := [a1]) (r := st) rfl rfl hk (Nat.le_of_ble_eq_true hr) (Nat.le_of_ble_eq_true h1) (Nat.le_of_ble_eq_true h2) hc (fun v w' h => by obtain ⟨Z1, h4, h5, h6, h7, h8⟩ := h; cases h4; subst h5; exact kk Z1 h6 h7 h8) (fun E w' h => by obtain ⟨Z1, h4, -⟩ := h; cases h4)
theorem r_kM2 {mj ci jc js mc ms : Nat} {q : List Nat} {a1 a2 : Value} {f : Int × Int × rd_Z} (ht : tab pc = am_invV nx mj 2 ci jc js mc ms) (hk : SH[k]? = some (ci + 4, n, q)) (hr : Nat.ble (st.map fun v => v.category).sum 8 = true) (h1 : Nat.ble (uc + jc) mc = true) (h2 : Nat.ble (us + js) ms = true) (hc : C mj (.ref k :: [a1, a2]) (mW Z Lg N X) (mQ f Z Lg N X))
    (kk : ∀ Z1, mR f.2.2 Z1 → Z1 34 0 = f.1 → cF Z Z1 → am_X tab C Q (nx, ls, .int (iI f.2.1) :: st, mW Z1 Lg N X, uc + jc, us + js)) : am_X tab C Q (pc, ls, a2 :: a1 :: .ref k :: st, mW Z Lg N X, uc, us) :=
  r_callV ht (as := [a1, a2]) (r := st) rfl rfl hk (Nat.le_of_ble_eq_true hr) (Nat.le_of_ble_eq_true h1) (Nat.le_of_ble_eq_true h2) hc (fun v w' h => by obtain ⟨Z1, h4, h5, h6, h7, h8⟩ := h; cases h4; subst h5; exact kk Z1 h6 h7 h8) (fun E w' h => by obtain ⟨Z1, h4, -⟩ := h; cases h4)
theorem r_kN2 {mj ci jc js mc ms : Nat} {q : List Nat} {a1 a2 : Value} {f : Int × Int × rd_Z} (ht : tab pc = am_invV nx mj 2 ci jc js mc ms) (hk : SH[k]? = some (ci + 4, n, q)) (hr : Nat.ble (st.map fun v => v.category).sum 8 = true) (h1 : Nat.ble (uc + jc) mc = true) (h2 : Nat.ble (us + js) ms = true) (hc : C mj (.ref k :: [a1, a2]) (mW Z Lg N X) (mV f Z Lg N X))
    (kk : ∀ Z1, mR f.2.2 Z1 → Z1 34 0 = f.1 → cF Z Z1 → am_X tab C Q (nx, ls, st, mW Z1 Lg N X, uc + jc, us + js)) : am_X tab C Q (pc, ls, a2 :: a1 :: .ref k :: st, mW Z Lg N X, uc, us) :=
  r_callV ht (as := [a1, a2]) (r := st) rfl rfl hk (Nat.le_of_ble_eq_true hr) (Nat.le_of_ble_eq_true h1) (Nat.le_of_ble_eq_true h2) hc (fun v w' h => by obtain ⟨Z1, h4, h5, h6, h7, h8⟩ := h; cases h4; subst h5; exact kk Z1 h6 h7 h8) (fun E w' h => by obtain ⟨Z1, h4, -⟩ := h; cases h4)
theorem r_kM3 {mj ci jc js mc ms : Nat} {q : List Nat} {a1 a2 a3 : Value} {f : Int × Int × rd_Z} (ht : tab pc = am_invV nx mj 3 ci jc js mc ms) (hk : SH[k]? = some (ci + 4, n, q)) (hr : Nat.ble (st.map fun v => v.category).sum 8 = true) (h1 : Nat.ble (uc + jc) mc = true) (h2 : Nat.ble (us + js) ms = true) (hc : C mj (.ref k :: [a1, a2, a3]) (mW Z Lg N X) (mQ f Z Lg N X))
    (kk : ∀ Z1, mR f.2.2 Z1 → Z1 34 0 = f.1 → cF Z Z1 → am_X tab C Q (nx, ls, .int (iI f.2.1) :: st, mW Z1 Lg N X, uc + jc, us + js)) : am_X tab C Q (pc, ls, a3 :: a2 :: a1 :: .ref k :: st, mW Z Lg N X, uc, us) :=
  r_callV ht (as := [a1, a2, a3]) (r := st) rfl rfl hk (Nat.le_of_ble_eq_true hr) (Nat.le_of_ble_eq_true h1) (Nat.le_of_ble_eq_true h2) hc (fun v w' h => by obtain ⟨Z1, h4, h5, h6, h7, h8⟩ := h; cases h4; subst h5; exact kk Z1 h6 h7 h8) (fun E w' h => by obtain ⟨Z1, h4, -⟩ := h; cases h4)
theorem r_kM5 {mj ci jc js mc ms : Nat} {q : List Nat} {a1 a2 a3 a4 a5 : Value} {f : Int × Int × rd_Z} (ht : tab pc = am_invV nx mj 5 ci jc js mc ms) (hk : SH[k]? = some (ci + 4, n, q)) (hr : Nat.ble (st.map fun v => v.category).sum 8 = true) (h1 : Nat.ble (uc + jc) mc = true) (h2 : Nat.ble (us + js) ms = true) (hc : C mj (.ref k :: [a1, a2, a3, a4, a5]) (mW Z Lg N X) (mQ f Z Lg N X))
    (kk : ∀ Z1, mR f.2.2 Z1 → Z1 34 0 = f.1 → cF Z Z1 → am_X tab C Q (nx, ls, .int (iI f.2.1) :: st, mW Z1 Lg N X, uc + jc, us + js)) : am_X tab C Q (pc, ls, a5 :: a4 :: a3 :: a2 :: a1 :: .ref k :: st, mW Z Lg N X, uc, us) :=
  r_callV ht (as := [a1, a2, a3, a4, a5]) (r := st) rfl rfl hk (Nat.le_of_ble_eq_true hr) (Nat.le_of_ble_eq_true h1) (Nat.le_of_ble_eq_true h2) hc (fun v w' h => by obtain ⟨Z1, h4, h5, h6, h7, h8⟩ := h; cases h4; subst h5; exact kk Z1 h6 h7 h8) (fun E w' h => by obtain ⟨Z1, h4, -⟩ := h; cases h4)
theorem r_kD0 {mj ci jc js mc ms : Nat} {q : List Nat} {f : Int × Int × rd_Z} (ht : tab pc = am_invV nx mj 0 ci jc js mc ms) (hk : SH[k]? = some (ci + 4, n, q)) (hr : Nat.ble (st.map fun v => v.category).sum 8 = true) (h1 : Nat.ble (uc + jc) mc = true) (h2 : Nat.ble (us + js) ms = true) (hc : C mj [.ref k] (mW Z Lg N X) (dQ f [] Z Lg N X))
    (kk : ∀ Z1, cR f.2.2 Z1 → mF Z Z1 → am_X tab C Q (nx, ls, .int (iI f.2.1) :: st, mW Z1 Lg N X, uc + jc, us + js)) : am_X tab C Q (pc, ls, .ref k :: st, mW Z Lg N X, uc, us) :=
  r_callV ht (as := []) (r := st) rfl rfl hk (Nat.le_of_ble_eq_true hr) (Nat.le_of_ble_eq_true h1) (Nat.le_of_ble_eq_true h2) hc (fun v w' h => by rcases h with ⟨h3, Z1, h4, h5, h6, h7⟩ | ⟨e, E, h3, h4, h5, -⟩; (cases h4; subst h5; exact kk Z1 h6 h7); cases h5) (fun E' w' h => by rcases h with ⟨h3, Z1, h4, -⟩ | ⟨e, E, h3, h4, h5, -⟩; cases h4; cases h4)
end
theorem mR_f {z : rd_Z} {Z Z' : wZ} (h : mR z Z) (e : mF Z Z') : mR z Z' := mR_of h (fun k j q => e k j (by omega))
theorem cR_f {z : rd_Z} {Z Z' : wZ} (h : cR z Z) (e : cF Z Z') : cR z Z' := cR_of h (fun k j q => e k j (by omega))
/-- what the loop's next turn wants -/
def lawK (Q : am_Q) (N : Nat) (X : Nat → Int32) (i uc us : Nat) : Prop := ∀ (z : rd_Z) (Z : wZ) (Lg : Nat → Nat → Int64) (tl : List (Option Value)) (uc' us' : Nat), rd_ok z → zB z → cR z Z → mR z Z → uc' ≤ uc + 3 → us' ≤ us + 18 → am_X (am_tb op_111) (am_T am_tabs am_ar 30) Q (1117, some (.retAddr 0) :: some (.ref 0) :: some (.ref 34) :: some (.ref 53) :: some (.int (iI (i : Int))) :: tl, [], mW Z Lg N X, uc', us')
theorem ok_if {c : Prop} [Decidable c] {a b : Int × Int × rd_Z} (h1 : c → rd_ok a.2.2 ∧ zB a.2.2) (h2 : rd_ok b.2.2 ∧ zB b.2.2) : rd_ok (if c then a else b).2.2 ∧ zB (if c then a else b).2.2 := by
  split
  · rename_i h; exact h1 h
  · exact h2
theorem k_gap {z : rd_Z} (hz : rd_ok z) (hB : zB z) {a b s : Int} : rd_ok (f_gap z a b s).2.2 ∧ zB (f_gap z a b s).2.2 := ok_if (fun h => ⟨ok_gap hz ⟨by omega, by omega⟩, zB_u hB ⟨by omega, by omega⟩⟩) ⟨hz, hB⟩
theorem k_add {z : rd_Z} (hz : rd_ok z) (hB : zB z) {t e g l w : Int} : rd_ok (f_add z t e g l w).2.2 ∧ zB (f_add z t e g l w).2.2 := ok_if (fun h => by
  cases hf : rd_fst (fun m => !rd_th z m) 7 with
  | none => exact ⟨hz, hB⟩
  | some m =>
    obtain ⟨hm, hm2, -⟩ := rd_fst_some hf
    have hm3 : rd_th z m = false := by simpa using hm2
    have h0 : z 0 m = 0 := Decidable.byContradiction (fun q => absurd (th_iff.mpr q) (by rw [hm3]; simp))
    exact ⟨ok_add hz hm h0 h, zB_u (zB_u (zB_u (zB_u (zB_u (zB_u (zB_u hB iB1) ⟨by omega, by omega⟩) ⟨by omega, by omega⟩) ⟨by omega, by omega⟩) ⟨by omega, by omega⟩) ⟨by omega, by omega⟩) iBm⟩) ⟨hz, hB⟩
theorem k_rem {z : rd_Z} (hz : rd_ok z) (hB : zB z) {m : Int} : rd_ok (f_rem z m).2.2 ∧ zB (f_rem z m).2.2 := ok_if (fun h => ⟨ok_rem hz, zB_u (zB_u (zB_u hB iB0) iBm) iBm⟩) ⟨hz, hB⟩
theorem k_ret {z : rd_Z} (hz : rd_ok z) (hB : zB z) {m t : Int} (ht : iB t) : rd_ok (f_ret z m t).2.2 ∧ zB (f_ret z m t).2.2 := ok_if (fun h => ok_if (fun h2 => ⟨ok_u3 hz (by omega) h2, zB_u hB ht⟩) ⟨hz, hB⟩) ⟨hz, hB⟩
theorem k_lim {z : rd_Z} (hz : rd_ok z) (hB : zB z) {p : Int} : rd_ok (f_lim z p).2.2 ∧ zB (f_lim z p).2.2 := ok_if (fun h => ⟨ok_lim hz h, zB_u hB ⟨by omega, by omega⟩⟩) ⟨hz, hB⟩
theorem k_clo {z : rd_Z} (hz : rd_ok z) (hB : zB z) {a b : Int} : rd_ok (f_clo z a b).2.2 ∧ zB (f_clo z a b).2.2 := ok_if (fun h => ok_if (fun h2 => ⟨ok_clo hz h h2, zB_u (zB_u (zB_u hB ⟨by omega, by omega⟩) ⟨by omega, by omega⟩) (by have := ok_nc hz; exact ⟨by omega, by omega⟩)⟩) ⟨hz, hB⟩) ⟨hz, hB⟩
theorem k_reo {z : rd_Z} (hz : rd_ok z) (hB : zB z) : rd_ok (f_reo z).2.2 ∧ zB (f_reo z).2.2 := ⟨ok_reo hz, zB_u hB iB0⟩
theorem k_fre {z : rd_Z} (hz : rd_ok z) (hB : zB z) {m s : Int} (hs : iB s) : rd_ok (f_fre z m s).2.2 ∧ zB (f_fre z m s).2.2 := ok_if (fun h => ok_if (fun h2 => ok_if (fun _ => ⟨hz, hB⟩) (by
  have hr := ok_rg hz (m := m.toNat) (by omega)
  by_cases q : ∃ o, o < 7 ∧ rd_nf z m.toNat s o
  · rw [if_pos q]; exact ⟨hz, hB⟩
  · rw [if_neg q]; exact ⟨ok_u6 hz ⟨by omega, by omega⟩, zB_u hB hs⟩)) ⟨hz, hB⟩) ⟨hz, hB⟩
theorem k_tha {z : rd_Z} (hz : rd_ok z) (hB : zB z) {m : Int} : rd_ok (f_tha z m).2.2 ∧ zB (f_tha z m).2.2 := ok_if (fun h => ⟨ok_u6 hz ⟨by omega, by omega⟩, zB_u hB iBm⟩) ⟨hz, hB⟩
theorem k_wha {z : rd_Z} (hz : rd_ok z) (hB : zB z) {m t : Int} : rd_ok (f_wha z m t).2.2 ∧ zB (f_wha z m t).2.2 := ok_if (fun h => ok_if (fun h2 => ⟨hz, hB⟩) ⟨hz, hB⟩) ⟨hz, hB⟩
theorem k_sec {z : rd_Z} (hz : rd_ok z) (hB : zB z) {m : Int} : rd_ok (f_sec z m).2.2 ∧ zB (f_sec z m).2.2 := ok_if (fun h => ok_if (fun h2 => ⟨hz, hB⟩) ⟨hz, hB⟩) ⟨hz, hB⟩
theorem k_at {z : rd_Z} (hz : rd_ok z) (hB : zB z) {i : Int} : rd_ok (f_at z i).2.2 ∧ zB (f_at z i).2.2 := by
  unfold f_at
  cases rd_fst (p_at z i) 7 <;> exact ⟨hz, hB⟩
theorem k_pla {z : rd_Z} (hz : rd_ok z) (hB : zB z) {m : Int} : rd_ok (f_pla z m).2.2 ∧ zB (f_pla z m).2.2 := ok_if (fun h => ⟨hz, hB⟩) ⟨hz, hB⟩
theorem k_sla {z : rd_Z} (hz : rd_ok z) (hB : zB z) {m : Int} : rd_ok (f_sla z m).2.2 ∧ zB (f_sla z m).2.2 := ok_if (fun h => ok_if (fun h2 => ⟨hz, hB⟩) ⟨hz, hB⟩) ⟨hz, hB⟩
theorem lvs_gd {z : rd_Z} (hz : rd_ok z) (hB : zB z) : ∀ (k : Nat) (pre : rd_P), rd_gd z pre → ∀ lf ∈ rd_lvs z k pre, rd_gd z lf.2
  | 0, pre, hg, lf, h => by
    have h : lf ∈ [(rd_cost z pre, pre)] := h
    rw [List.mem_singleton] at h
    rw [h]
    exact hg
  | k + 1, pre, hg, lf, h => by
    have h : lf ∈ (List.range (rd_n z)).flatMap (rd_kid (rd_lvs z k) z pre) := h
    obtain ⟨p, hp, h2⟩ := List.mem_flatMap.mp h
    have hp : p < rd_n z := List.mem_range.mp hp
    obtain ⟨l1, l2, -⟩ := rd_ln_ok hp
    unfold rd_kid at h2
    split at h2
    · cases h2
    · rename_i q1
      split at h2
      · cases h2
      · split at h2
        · cases h2
        · rename_i q3
          have q1 : rd_lk (rd_ln z p) pre = none := by
            cases e : rd_lk (rd_ln z p) pre with
            | none => rfl
            | some s => rw [e] at q1; exact absurd rfl q1
          exact lvs_gd hz hB k _ (rd_gd_app hz hg l1 l2 q1 q3) lf h2
theorem up_mem : ∀ (L : List (Int × rd_P)) (acc : Option (Int × rd_P)) (a : Int × rd_P), L.foldl rd_up acc = some a → a ∈ L ∨ acc = some a
  | [], acc, a, h => Or.inr h
  | x :: L, acc, a, h => by
    rcases up_mem L (rd_up acc x) a h with h1 | h1
    · exact Or.inl (List.mem_cons_of_mem _ h1)
    · cases acc with
      | none => exact Or.inl (by have h1 : some x = some a := h1; cases h1; exact List.mem_cons_self)
      | some b =>
        have h1 : (if x.1 < b.1 then some x else some b) = some a := h1
        split at h1
        · cases h1; exact Or.inl List.mem_cons_self
        · exact Or.inr h1
theorem best_gd {z : rd_Z} (hz : rd_ok z) (hB : zB z) {a : Int × rd_P} (h : rd_best z = some a) : rd_gd z a.2 := by
  rcases up_mem _ _ _ h with h1 | h1
  · exact lvs_gd hz hB _ _ (gd_nil z) a h1
  · cases h1
theorem k_sol {z : rd_Z} (hz : rd_ok z) (hB : zB z) : rd_ok (f_sol z).2.2 ∧ zB (f_sol z).2.2 := by
  unfold f_sol
  cases e : rd_best z with
  | none => exact ⟨hz, hB⟩
  | some a =>
    have hg := best_gd hz hB e
    refine ⟨ok_pln hz hg, fun f j => ?_⟩
    show iB (if f = 11 then (if j < 7 then (rd_lk j a.2).getD (-1) else z f j) else z f j)
    split
    · split
      · cases h : rd_lk j a.2 with
        | none => exact iBm
        | some s =>
          have h2 : 0 ≤ s := (hg.1 _ (rd_lk_mem h)).2.2.1
          have h3 : s ≤ 3000 := (hg.1 _ (rd_lk_mem h)).2.2.2
          exact ⟨by show _ ≤ s; omega, by show s ≤ _; omega⟩
      · exact hB _ _
    · exact hB _ _
theorem k_acc {z : rd_Z} (hz : rd_ok z) (hB : zB z) : rd_ok (f_acc z).2.2 ∧ zB (f_acc z).2.2 := ⟨ok_acc hz, fun f j => by
  show iB (if f = 12 then (if j < 7 then z 11 j else z f j) else z f j)
  split
  · split
    · exact hB _ _
    · exact hB _ _
  · exact hB _ _⟩
theorem k_cha {z : rd_Z} (hz : rd_ok z) (hB : zB z) {k t : Int} : rd_ok (f_cha z k t).2.2 ∧ zB (f_cha z k t).2.2 := by
  unfold f_cha
  cases rd_fst (p_kth z k) 7 with
  | none => exact ⟨hz, hB⟩
  | some m => exact ok_if (fun _ => ⟨hz, hB⟩) (ok_if (fun _ => ⟨hz, hB⟩) (ok_if (fun _ => ⟨hz, hB⟩) ⟨hz, hB⟩))

theorem law_136 {Q : am_Q} {N : Nat} {X : Nat → Int32} {z : rd_Z} {Z : wZ} {Lg : Nat → Nat → Int64} {tl : List (Option Value)} {i uc us : Nat} (hz : rd_ok z) (hB : zB z) (hc : cR z Z) (hd : mR z Z) (hN : N ≤ 3072) (hi : i + 6 ≤ N) (hu : uc ≤ 5000) (hv : us ≤ 50000) (hK : lawK Q N X i uc us) : am_X (am_tb op_111) (am_T am_tabs am_ar 30) Q (136, some (.retAddr 0) :: some (.ref 0) :: some (.ref 34) :: some (.ref 53) :: some (.int (iI (i : Int))) :: tl, [], mW Z Lg N X, uc, us) := by
  obtain ⟨p1, b1, e1⟩ := iI_ex (X (i + 1))
  obtain ⟨p2, b2, e2⟩ := iI_ex (X (i + 2))
  obtain ⟨p3, b3, e3⟩ := iI_ex (X (i + 3))
  refine r_aload rfl rfl ?_
  refine r_scload rfl rfl ?_
  refine r_iload rfl rfl ?_
  refine r_push rfl ?_
  refine r_iadd rfl ?_
  refine q_sald rfl (by omega) (by omega) (by omega) e1 ?_
  refine r_scload rfl rfl ?_
  refine r_iload rfl rfl ?_
  refine r_push rfl ?_
  refine r_iadd rfl ?_
  refine q_sald rfl (by omega) (by omega) (by omega) e2 ?_
  refine r_scload rfl rfl ?_
  refine r_iload rfl rfl ?_
  refine r_push rfl ?_
  refine r_iadd rfl ?_
  refine q_sald rfl (by omega) (by omega) (by omega) e3 ?_
  refine r_aload rfl rfl ?_
  refine r_sH5 rfl rfl (Nat.ble_eq_true_of_le (by omega)) (Nat.ble_eq_true_of_le (by omega)) (s_97 hc hz hB b1 b2 b3) (fun Z1 Lg1 g1 g2 g3 g4 => ?_)
  have hd1 := mR_f hd g2
  refine r_istore rfl ?_
  refine r_aload rfl rfl ?_
  refine r_scload rfl rfl ?_
  refine r_iload rfl rfl ?_
  refine r_push rfl ?_
  refine r_iadd rfl ?_
  refine q_sald rfl (by omega) (by omega) (by omega) e1 ?_
  refine r_scload rfl rfl ?_
  refine r_iload rfl rfl ?_
  refine r_push rfl ?_
  refine r_iadd rfl ?_
  refine q_sald rfl (by omega) (by omega) (by omega) e2 ?_
  refine r_scload rfl rfl ?_
  refine r_iload rfl rfl ?_
  refine r_push rfl ?_
  refine r_iadd rfl ?_
  refine q_sald rfl (by omega) (by omega) (by omega) e3 ?_
  refine r_kM3 rfl rfl rfl (Nat.ble_eq_true_of_le (by omega)) (Nat.ble_eq_true_of_le (by omega)) (s_36 hd1 hz hB b1 b2 b3) (fun Z2 m1 m2 m3 => ?_)
  have hc2 := cR_f g1 m3
  have h32 : ∀ d, am_T am_tabs am_ar (d + 1) 32 [.ref 34] (mW Z2 Lg1 N X) (am_ret (iI (f_gap z p1 p2 p3).1) (mW Z2 Lg1 N X)) := fun d => by
    have h := s_32 (d := d) (Z := Z2) (Lg := Lg1) (N := N) (X := X)
    rw [m2] at h
    exact h
  refine r_istore rfl ?_
  refine r_aload rfl rfl ?_
  refine r_ki0 rfl rfl rfl (Nat.ble_eq_true_of_le (by omega)) (Nat.ble_eq_true_of_le (by omega)) (h32 _) ?_
  refine r_iload rfl set_get10 ?_
  refine r_c0r rfl ?_
  refine r_iload rfl set_get10 ?_
  refine r_z1 rfl ⟨by omega, by omega⟩ (fun h198 => ?_) (fun h198 => ?_)
  · refine r_goto rfl ?_
    exact hK _ Z2 Lg1 _ _ _ (k_gap hz hB).1 (k_gap hz hB).2 hc2 m1 (by omega) (by omega)
  · refine r_aload rfl rfl ?_
    refine r_push rfl ?_
    refine q_lald rfl rfl (by omega) (by omega) rfl (g4 h198) ?_
    refine r_iload rfl set_get1 ?_
    refine r_i2l rfl ?_
    refine r_lcmp0 rfl rfl ?_
    refine r_t0 rfl (by first | exact iB0 | exact iB1 | exact iBm | exact hB _ _ | exact hT _ (by omega) | exact ⟨by omega, by omega⟩) (by omega) ?_
    refine r_goto rfl ?_
    exact hK _ Z2 Lg1 _ _ _ (k_gap hz hB).1 (k_gap hz hB).2 hc2 m1 (by omega) (by omega)

theorem law_216 {Q : am_Q} {N : Nat} {X : Nat → Int32} {z : rd_Z} {Z : wZ} {Lg : Nat → Nat → Int64} {tl : List (Option Value)} {i uc us : Nat} (hz : rd_ok z) (hB : zB z) (hc : cR z Z) (hd : mR z Z) (hN : N ≤ 3072) (hi : i + 6 ≤ N) (hu : uc ≤ 5000) (hv : us ≤ 50000) (hK : lawK Q N X i uc us) : am_X (am_tb op_111) (am_T am_tabs am_ar 30) Q (216, some (.retAddr 0) :: some (.ref 0) :: some (.ref 34) :: some (.ref 53) :: some (.int (iI (i : Int))) :: tl, [], mW Z Lg N X, uc, us) := by
  obtain ⟨p1, b1, e1⟩ := iI_ex (X (i + 1))
  obtain ⟨p2, b2, e2⟩ := iI_ex (X (i + 2))
  obtain ⟨p3, b3, e3⟩ := iI_ex (X (i + 3))
  obtain ⟨p4, b4, e4⟩ := iI_ex (X (i + 4))
  obtain ⟨p5, b5, e5⟩ := iI_ex (X (i + 5))
  refine r_aload rfl rfl ?_
  refine r_scload rfl rfl ?_
  refine r_iload rfl rfl ?_
  refine r_push rfl ?_
  refine r_iadd rfl ?_
  refine q_sald rfl (by omega) (by omega) (by omega) e1 ?_
  refine r_scload rfl rfl ?_
  refine r_iload rfl rfl ?_
  refine r_push rfl ?_
  refine r_iadd rfl ?_
  refine q_sald rfl (by omega) (by omega) (by omega) e2 ?_
  refine r_scload rfl rfl ?_
  refine r_iload rfl rfl ?_
  refine r_push rfl ?_
  refine r_iadd rfl ?_
  refine q_sald rfl (by omega) (by omega) (by omega) e3 ?_
  refine r_scload rfl rfl ?_
  refine r_iload rfl rfl ?_
  refine r_push rfl ?_
  refine r_iadd rfl ?_
  refine q_sald rfl (by omega) (by omega) (by omega) e4 ?_
  refine r_scload rfl rfl ?_
  refine r_iload rfl rfl ?_
  refine r_push rfl ?_
  refine r_iadd rfl ?_
  refine q_sald rfl (by omega) (by omega) (by omega) e5 ?_
  refine r_aload rfl rfl ?_
  refine r_sH7 rfl rfl (Nat.ble_eq_true_of_le (by omega)) (Nat.ble_eq_true_of_le (by omega)) (s_98 hc hz hB b1 b2 b3 b4 b5) (fun Z1 Lg1 g1 g2 g3 g4 => ?_)
  have hd1 := mR_f hd g2
  refine r_istore rfl ?_
  refine r_aload rfl rfl ?_
  refine r_scload rfl rfl ?_
  refine r_iload rfl rfl ?_
  refine r_push rfl ?_
  refine r_iadd rfl ?_
  refine q_sald rfl (by omega) (by omega) (by omega) e1 ?_
  refine r_scload rfl rfl ?_
  refine r_iload rfl rfl ?_
  refine r_push rfl ?_
  refine r_iadd rfl ?_
  refine q_sald rfl (by omega) (by omega) (by omega) e2 ?_
  refine r_scload rfl rfl ?_
  refine r_iload rfl rfl ?_
  refine r_push rfl ?_
  refine r_iadd rfl ?_
  refine q_sald rfl (by omega) (by omega) (by omega) e3 ?_
  refine r_scload rfl rfl ?_
  refine r_iload rfl rfl ?_
  refine r_push rfl ?_
  refine r_iadd rfl ?_
  refine q_sald rfl (by omega) (by omega) (by omega) e4 ?_
  refine r_scload rfl rfl ?_
  refine r_iload rfl rfl ?_
  refine r_push rfl ?_
  refine r_iadd rfl ?_
  refine q_sald rfl (by omega) (by omega) (by omega) e5 ?_
  refine r_kM5 rfl rfl rfl (Nat.ble_eq_true_of_le (by omega)) (Nat.ble_eq_true_of_le (by omega)) (s_37 hd1 hz hB b1 b2 b3 b4 b5) (fun Z2 m1 m2 m3 => ?_)
  have hc2 := cR_f g1 m3
  have h32 : ∀ d, am_T am_tabs am_ar (d + 1) 32 [.ref 34] (mW Z2 Lg1 N X) (am_ret (iI (f_add z p1 p2 p3 p4 p5).1) (mW Z2 Lg1 N X)) := fun d => by
    have h := s_32 (d := d) (Z := Z2) (Lg := Lg1) (N := N) (X := X)
    rw [m2] at h
    exact h
  refine r_istore rfl ?_
  refine r_aload rfl rfl ?_
  refine r_ki0 rfl rfl rfl (Nat.ble_eq_true_of_le (by omega)) (Nat.ble_eq_true_of_le (by omega)) (h32 _) ?_
  refine r_iload rfl set_get10 ?_
  refine r_c0r rfl ?_
  refine r_iload rfl set_get10 ?_
  refine r_z1 rfl ⟨by omega, by omega⟩ (fun h302 => ?_) (fun h302 => ?_)
  · refine r_goto rfl ?_
    exact hK _ Z2 Lg1 _ _ _ (k_add hz hB).1 (k_add hz hB).2 hc2 m1 (by omega) (by omega)
  · refine r_aload rfl rfl ?_
    refine r_push rfl ?_
    refine q_lald rfl rfl (by omega) (by omega) rfl (g4 h302) ?_
    refine r_iload rfl set_get1 ?_
    refine r_i2l rfl ?_
    refine r_lcmp0 rfl rfl ?_
    refine r_t0 rfl (by first | exact iB0 | exact iB1 | exact iBm | exact hB _ _ | exact hT _ (by omega) | exact ⟨by omega, by omega⟩) (by omega) ?_
    refine r_goto rfl ?_
    exact hK _ Z2 Lg1 _ _ _ (k_add hz hB).1 (k_add hz hB).2 hc2 m1 (by omega) (by omega)

theorem law_320 {Q : am_Q} {N : Nat} {X : Nat → Int32} {z : rd_Z} {Z : wZ} {Lg : Nat → Nat → Int64} {tl : List (Option Value)} {i uc us : Nat} (hz : rd_ok z) (hB : zB z) (hc : cR z Z) (hd : mR z Z) (hN : N ≤ 3072) (hi : i + 6 ≤ N) (hu : uc ≤ 5000) (hv : us ≤ 50000) (hK : lawK Q N X i uc us) : am_X (am_tb op_111) (am_T am_tabs am_ar 30) Q (320, some (.retAddr 0) :: some (.ref 0) :: some (.ref 34) :: some (.ref 53) :: some (.int (iI (i : Int))) :: tl, [], mW Z Lg N X, uc, us) := by
  obtain ⟨p1, b1, e1⟩ := iI_ex (X (i + 1))
  refine r_aload rfl rfl ?_
  refine r_scload rfl rfl ?_
  refine r_iload rfl rfl ?_
  refine r_push rfl ?_
  refine r_iadd rfl ?_
  refine q_sald rfl (by omega) (by omega) (by omega) e1 ?_
  refine r_aload rfl rfl ?_
  refine r_sH3 rfl rfl (Nat.ble_eq_true_of_le (by omega)) (Nat.ble_eq_true_of_le (by omega)) (s_99 hc hz hB b1) (fun Z1 Lg1 g1 g2 g3 g4 => ?_)
  have hd1 := mR_f hd g2
  refine r_istore rfl ?_
  refine r_aload rfl rfl ?_
  refine r_scload rfl rfl ?_
  refine r_iload rfl rfl ?_
  refine r_push rfl ?_
  refine r_iadd rfl ?_
  refine q_sald rfl (by omega) (by omega) (by omega) e1 ?_
  refine r_kM1 rfl rfl rfl (Nat.ble_eq_true_of_le (by omega)) (Nat.ble_eq_true_of_le (by omega)) (s_38 hd1 hz hB b1) (fun Z2 m1 m2 m3 => ?_)
  have hc2 := cR_f g1 m3
  have h32 : ∀ d, am_T am_tabs am_ar (d + 1) 32 [.ref 34] (mW Z2 Lg1 N X) (am_ret (iI (f_rem z p1).1) (mW Z2 Lg1 N X)) := fun d => by
    have h := s_32 (d := d) (Z := Z2) (Lg := Lg1) (N := N) (X := X)
    rw [m2] at h
    exact h
  refine r_istore rfl ?_
  refine r_aload rfl rfl ?_
  refine r_ki0 rfl rfl rfl (Nat.ble_eq_true_of_le (by omega)) (Nat.ble_eq_true_of_le (by omega)) (h32 _) ?_
  refine r_iload rfl set_get10 ?_
  refine r_c0r rfl ?_
  refine r_iload rfl set_get10 ?_
  refine r_z1 rfl ⟨by omega, by omega⟩ (fun h358 => ?_) (fun h358 => ?_)
  · refine r_goto rfl ?_
    exact hK _ Z2 Lg1 _ _ _ (k_rem hz hB).1 (k_rem hz hB).2 hc2 m1 (by omega) (by omega)
  · refine r_aload rfl rfl ?_
    refine r_push rfl ?_
    refine q_lald rfl rfl (by omega) (by omega) rfl (g4 h358) ?_
    refine r_iload rfl set_get1 ?_
    refine r_i2l rfl ?_
    refine r_lcmp0 rfl rfl ?_
    refine r_t0 rfl (by first | exact iB0 | exact iB1 | exact iBm | exact hB _ _ | exact hT _ (by omega) | exact ⟨by omega, by omega⟩) (by omega) ?_
    refine r_goto rfl ?_
    exact hK _ Z2 Lg1 _ _ _ (k_rem hz hB).1 (k_rem hz hB).2 hc2 m1 (by omega) (by omega)

theorem law_376 {Q : am_Q} {N : Nat} {X : Nat → Int32} {z : rd_Z} {Z : wZ} {Lg : Nat → Nat → Int64} {tl : List (Option Value)} {i uc us : Nat} (hz : rd_ok z) (hB : zB z) (hc : cR z Z) (hd : mR z Z) (hN : N ≤ 3072) (hi : i + 6 ≤ N) (hu : uc ≤ 5000) (hv : us ≤ 50000) (hK : lawK Q N X i uc us) : am_X (am_tb op_111) (am_T am_tabs am_ar 30) Q (376, some (.retAddr 0) :: some (.ref 0) :: some (.ref 34) :: some (.ref 53) :: some (.int (iI (i : Int))) :: tl, [], mW Z Lg N X, uc, us) := by
  obtain ⟨p1, b1, e1⟩ := iI_ex (X (i + 1))
  obtain ⟨p2, b2, e2⟩ := iI_ex (X (i + 2))
  refine r_aload rfl rfl ?_
  refine r_scload rfl rfl ?_
  refine r_iload rfl rfl ?_
  refine r_push rfl ?_
  refine r_iadd rfl ?_
  refine q_sald rfl (by omega) (by omega) (by omega) e1 ?_
  refine r_scload rfl rfl ?_
  refine r_iload rfl rfl ?_
  refine r_push rfl ?_
  refine r_iadd rfl ?_
  refine q_sald rfl (by omega) (by omega) (by omega) e2 ?_
  refine r_aload rfl rfl ?_
  refine r_sH4 rfl rfl (Nat.ble_eq_true_of_le (by omega)) (Nat.ble_eq_true_of_le (by omega)) (s_100 hc hz hB b1 b2) (fun Z1 Lg1 g1 g2 g3 g4 => ?_)
  have hd1 := mR_f hd g2
  refine r_istore rfl ?_
  refine r_aload rfl rfl ?_
  refine r_scload rfl rfl ?_
  refine r_iload rfl rfl ?_
  refine r_push rfl ?_
  refine r_iadd rfl ?_
  refine q_sald rfl (by omega) (by omega) (by omega) e1 ?_
  refine r_scload rfl rfl ?_
  refine r_iload rfl rfl ?_
  refine r_push rfl ?_
  refine r_iadd rfl ?_
  refine q_sald rfl (by omega) (by omega) (by omega) e2 ?_
  refine r_kM2 rfl rfl rfl (Nat.ble_eq_true_of_le (by omega)) (Nat.ble_eq_true_of_le (by omega)) (s_39 hd1 hz hB b1 b2) (fun Z2 m1 m2 m3 => ?_)
  have hc2 := cR_f g1 m3
  have h32 : ∀ d, am_T am_tabs am_ar (d + 1) 32 [.ref 34] (mW Z2 Lg1 N X) (am_ret (iI (f_ret z p1 p2).1) (mW Z2 Lg1 N X)) := fun d => by
    have h := s_32 (d := d) (Z := Z2) (Lg := Lg1) (N := N) (X := X)
    rw [m2] at h
    exact h
  refine r_istore rfl ?_
  refine r_aload rfl rfl ?_
  refine r_ki0 rfl rfl rfl (Nat.ble_eq_true_of_le (by omega)) (Nat.ble_eq_true_of_le (by omega)) (h32 _) ?_
  refine r_iload rfl set_get10 ?_
  refine r_c0r rfl ?_
  refine r_iload rfl set_get10 ?_
  refine r_z1 rfl ⟨by omega, by omega⟩ (fun h426 => ?_) (fun h426 => ?_)
  · refine r_goto rfl ?_
    exact hK _ Z2 Lg1 _ _ _ (k_ret hz hB b2).1 (k_ret hz hB b2).2 hc2 m1 (by omega) (by omega)
  · refine r_aload rfl rfl ?_
    refine r_push rfl ?_
    refine q_lald rfl rfl (by omega) (by omega) rfl (g4 h426) ?_
    refine r_iload rfl set_get1 ?_
    refine r_i2l rfl ?_
    refine r_lcmp0 rfl rfl ?_
    refine r_t0 rfl (by first | exact iB0 | exact iB1 | exact iBm | exact hB _ _ | exact hT _ (by omega) | exact ⟨by omega, by omega⟩) (by omega) ?_
    refine r_goto rfl ?_
    exact hK _ Z2 Lg1 _ _ _ (k_ret hz hB b2).1 (k_ret hz hB b2).2 hc2 m1 (by omega) (by omega)

theorem law_444 {Q : am_Q} {N : Nat} {X : Nat → Int32} {z : rd_Z} {Z : wZ} {Lg : Nat → Nat → Int64} {tl : List (Option Value)} {i uc us : Nat} (hz : rd_ok z) (hB : zB z) (hc : cR z Z) (hd : mR z Z) (hN : N ≤ 3072) (hi : i + 6 ≤ N) (hu : uc ≤ 5000) (hv : us ≤ 50000) (hK : lawK Q N X i uc us) : am_X (am_tb op_111) (am_T am_tabs am_ar 30) Q (444, some (.retAddr 0) :: some (.ref 0) :: some (.ref 34) :: some (.ref 53) :: some (.int (iI (i : Int))) :: tl, [], mW Z Lg N X, uc, us) := by
  obtain ⟨p1, b1, e1⟩ := iI_ex (X (i + 1))
  refine r_aload rfl rfl ?_
  refine r_scload rfl rfl ?_
  refine r_iload rfl rfl ?_
  refine r_push rfl ?_
  refine r_iadd rfl ?_
  refine q_sald rfl (by omega) (by omega) (by omega) e1 ?_
  refine r_aload rfl rfl ?_
  refine r_sH3 rfl rfl (Nat.ble_eq_true_of_le (by omega)) (Nat.ble_eq_true_of_le (by omega)) (s_101 hc hz hB b1) (fun Z1 Lg1 g1 g2 g3 g4 => ?_)
  have hd1 := mR_f hd g2
  refine r_istore rfl ?_
  refine r_aload rfl rfl ?_
  refine r_scload rfl rfl ?_
  refine r_iload rfl rfl ?_
  refine r_push rfl ?_
  refine r_iadd rfl ?_
  refine q_sald rfl (by omega) (by omega) (by omega) e1 ?_
  refine r_kM1 rfl rfl rfl (Nat.ble_eq_true_of_le (by omega)) (Nat.ble_eq_true_of_le (by omega)) (s_40 hd1 hz hB b1) (fun Z2 m1 m2 m3 => ?_)
  have hc2 := cR_f g1 m3
  have h32 : ∀ d, am_T am_tabs am_ar (d + 1) 32 [.ref 34] (mW Z2 Lg1 N X) (am_ret (iI (f_lim z p1).1) (mW Z2 Lg1 N X)) := fun d => by
    have h := s_32 (d := d) (Z := Z2) (Lg := Lg1) (N := N) (X := X)
    rw [m2] at h
    exact h
  refine r_istore rfl ?_
  refine r_aload rfl rfl ?_
  refine r_ki0 rfl rfl rfl (Nat.ble_eq_true_of_le (by omega)) (Nat.ble_eq_true_of_le (by omega)) (h32 _) ?_
  refine r_iload rfl set_get10 ?_
  refine r_c0r rfl ?_
  refine r_iload rfl set_get10 ?_
  refine r_z1 rfl ⟨by omega, by omega⟩ (fun h482 => ?_) (fun h482 => ?_)
  · refine r_goto rfl ?_
    exact hK _ Z2 Lg1 _ _ _ (k_lim hz hB).1 (k_lim hz hB).2 hc2 m1 (by omega) (by omega)
  · refine r_aload rfl rfl ?_
    refine r_push rfl ?_
    refine q_lald rfl rfl (by omega) (by omega) rfl (g4 h482) ?_
    refine r_iload rfl set_get1 ?_
    refine r_i2l rfl ?_
    refine r_lcmp0 rfl rfl ?_
    refine r_t0 rfl (by first | exact iB0 | exact iB1 | exact iBm | exact hB _ _ | exact hT _ (by omega) | exact ⟨by omega, by omega⟩) (by omega) ?_
    refine r_goto rfl ?_
    exact hK _ Z2 Lg1 _ _ _ (k_lim hz hB).1 (k_lim hz hB).2 hc2 m1 (by omega) (by omega)

theorem law_500 {Q : am_Q} {N : Nat} {X : Nat → Int32} {z : rd_Z} {Z : wZ} {Lg : Nat → Nat → Int64} {tl : List (Option Value)} {i uc us : Nat} (hz : rd_ok z) (hB : zB z) (hc : cR z Z) (hd : mR z Z) (hN : N ≤ 3072) (hi : i + 6 ≤ N) (hu : uc ≤ 5000) (hv : us ≤ 50000) (hK : lawK Q N X i uc us) : am_X (am_tb op_111) (am_T am_tabs am_ar 30) Q (500, some (.retAddr 0) :: some (.ref 0) :: some (.ref 34) :: some (.ref 53) :: some (.int (iI (i : Int))) :: tl, [], mW Z Lg N X, uc, us) := by
  obtain ⟨p1, b1, e1⟩ := iI_ex (X (i + 1))
  obtain ⟨p2, b2, e2⟩ := iI_ex (X (i + 2))
  refine r_aload rfl rfl ?_
  refine r_scload rfl rfl ?_
  refine r_iload rfl rfl ?_
  refine r_push rfl ?_
  refine r_iadd rfl ?_
  refine q_sald rfl (by omega) (by omega) (by omega) e1 ?_
  refine r_scload rfl rfl ?_
  refine r_iload rfl rfl ?_
  refine r_push rfl ?_
  refine r_iadd rfl ?_
  refine q_sald rfl (by omega) (by omega) (by omega) e2 ?_
  refine r_aload rfl rfl ?_
  refine r_sH4 rfl rfl (Nat.ble_eq_true_of_le (by omega)) (Nat.ble_eq_true_of_le (by omega)) (s_102 hc hz hB b1 b2) (fun Z1 Lg1 g1 g2 g3 g4 => ?_)
  have hd1 := mR_f hd g2
  refine r_istore rfl ?_
  refine r_aload rfl rfl ?_
  refine r_scload rfl rfl ?_
  refine r_iload rfl rfl ?_
  refine r_push rfl ?_
  refine r_iadd rfl ?_
  refine q_sald rfl (by omega) (by omega) (by omega) e1 ?_
  refine r_scload rfl rfl ?_
  refine r_iload rfl rfl ?_
  refine r_push rfl ?_
  refine r_iadd rfl ?_
  refine q_sald rfl (by omega) (by omega) (by omega) e2 ?_
  refine r_kM2 rfl rfl rfl (Nat.ble_eq_true_of_le (by omega)) (Nat.ble_eq_true_of_le (by omega)) (s_41 hd1 hz hB b1 b2) (fun Z2 m1 m2 m3 => ?_)
  have hc2 := cR_f g1 m3
  have h32 : ∀ d, am_T am_tabs am_ar (d + 1) 32 [.ref 34] (mW Z2 Lg1 N X) (am_ret (iI (f_clo z p1 p2).1) (mW Z2 Lg1 N X)) := fun d => by
    have h := s_32 (d := d) (Z := Z2) (Lg := Lg1) (N := N) (X := X)
    rw [m2] at h
    exact h
  refine r_istore rfl ?_
  refine r_aload rfl rfl ?_
  refine r_ki0 rfl rfl rfl (Nat.ble_eq_true_of_le (by omega)) (Nat.ble_eq_true_of_le (by omega)) (h32 _) ?_
  refine r_iload rfl set_get10 ?_
  refine r_c0r rfl ?_
  refine r_iload rfl set_get10 ?_
  refine r_z1 rfl ⟨by omega, by omega⟩ (fun h550 => ?_) (fun h550 => ?_)
  · refine r_goto rfl ?_
    exact hK _ Z2 Lg1 _ _ _ (k_clo hz hB).1 (k_clo hz hB).2 hc2 m1 (by omega) (by omega)
  · refine r_aload rfl rfl ?_
    refine r_push rfl ?_
    refine q_lald rfl rfl (by omega) (by omega) rfl (g4 h550) ?_
    refine r_iload rfl set_get1 ?_
    refine r_i2l rfl ?_
    refine r_lcmp0 rfl rfl ?_
    refine r_t0 rfl (by first | exact iB0 | exact iB1 | exact iBm | exact hB _ _ | exact hT _ (by omega) | exact ⟨by omega, by omega⟩) (by omega) ?_
    refine r_goto rfl ?_
    exact hK _ Z2 Lg1 _ _ _ (k_clo hz hB).1 (k_clo hz hB).2 hc2 m1 (by omega) (by omega)

theorem law_581 {Q : am_Q} {N : Nat} {X : Nat → Int32} {z : rd_Z} {Z : wZ} {Lg : Nat → Nat → Int64} {tl : List (Option Value)} {i uc us : Nat} (hz : rd_ok z) (hB : zB z) (hc : cR z Z) (hd : mR z Z) (hN : N ≤ 3072) (hi : i + 6 ≤ N) (hu : uc ≤ 5000) (hv : us ≤ 50000) (hK : lawK Q N X i uc us) : am_X (am_tb op_111) (am_T am_tabs am_ar 30) Q (581, some (.retAddr 0) :: some (.ref 0) :: some (.ref 34) :: some (.ref 53) :: some (.int (iI (i : Int))) :: tl, [], mW Z Lg N X, uc, us) := by
  obtain ⟨p1, b1, e1⟩ := iI_ex (X (i + 1))
  obtain ⟨p2, b2, e2⟩ := iI_ex (X (i + 2))
  refine r_aload rfl rfl ?_
  refine r_scload rfl rfl ?_
  refine r_iload rfl rfl ?_
  refine r_push rfl ?_
  refine r_iadd rfl ?_
  refine q_sald rfl (by omega) (by omega) (by omega) e1 ?_
  refine r_scload rfl rfl ?_
  refine r_iload rfl rfl ?_
  refine r_push rfl ?_
  refine r_iadd rfl ?_
  refine q_sald rfl (by omega) (by omega) (by omega) e2 ?_
  refine r_sG3 rfl rfl (Nat.ble_eq_true_of_le (by omega)) (Nat.ble_eq_true_of_le (by omega)) (s_103 hc hz hB b1 b2) (fun Z1 Lg1 g1 g2 g3 => ?_)
  have hd1 := mR_f hd g2
  refine r_istore rfl ?_
  refine r_aload rfl rfl ?_
  refine r_scload rfl rfl ?_
  refine r_iload rfl rfl ?_
  refine r_push rfl ?_
  refine r_iadd rfl ?_
  refine q_sald rfl (by omega) (by omega) (by omega) e1 ?_
  refine r_scload rfl rfl ?_
  refine r_iload rfl rfl ?_
  refine r_push rfl ?_
  refine r_iadd rfl ?_
  refine q_sald rfl (by omega) (by omega) (by omega) e2 ?_
  refine r_kN2 rfl rfl rfl (Nat.ble_eq_true_of_le (by omega)) (Nat.ble_eq_true_of_le (by omega)) (s_45 hd1 hz hB b1 b2) (fun Z2 m1 m2 m3 => ?_)
  have hc2 := cR_f g1 m3
  have h32 : ∀ d, am_T am_tabs am_ar (d + 1) 32 [.ref 34] (mW Z2 Lg1 N X) (am_ret (iI (f_fre z p1 p2).1) (mW Z2 Lg1 N X)) := fun d => by
    have h := s_32 (d := d) (Z := Z2) (Lg := Lg1) (N := N) (X := X)
    rw [m2] at h
    exact h
  refine r_aload rfl rfl ?_
  refine r_ki0 rfl rfl rfl (Nat.ble_eq_true_of_le (by omega)) (Nat.ble_eq_true_of_le (by omega)) (h32 _) ?_
  refine r_iload rfl set_get ?_
  refine r_c0r rfl ?_
  refine r_goto rfl ?_
  exact hK _ Z2 Lg1 _ _ _ (k_fre hz hB b2).1 (k_fre hz hB b2).2 hc2 m1 (by omega) (by omega)

theorem law_629 {Q : am_Q} {N : Nat} {X : Nat → Int32} {z : rd_Z} {Z : wZ} {Lg : Nat → Nat → Int64} {tl : List (Option Value)} {i uc us : Nat} (hz : rd_ok z) (hB : zB z) (hc : cR z Z) (hd : mR z Z) (hN : N ≤ 3072) (hi : i + 6 ≤ N) (hu : uc ≤ 5000) (hv : us ≤ 50000) (hK : lawK Q N X i uc us) : am_X (am_tb op_111) (am_T am_tabs am_ar 30) Q (629, some (.retAddr 0) :: some (.ref 0) :: some (.ref 34) :: some (.ref 53) :: some (.int (iI (i : Int))) :: tl, [], mW Z Lg N X, uc, us) := by
  obtain ⟨p1, b1, e1⟩ := iI_ex (X (i + 1))
  have htv : (f_tha z p1).2.1 = 0 ∨ (f_tha z p1).2.1 = 1 := by
    unfold f_tha
    split
    · dsimp only; split <;> omega
    · exact Or.inl rfl
  refine r_aload rfl rfl ?_
  refine r_scload rfl rfl ?_
  refine r_iload rfl rfl ?_
  refine r_push rfl ?_
  refine r_iadd rfl ?_
  refine q_sald rfl (by omega) (by omega) (by omega) e1 ?_
  refine r_aload rfl rfl ?_
  refine r_sH3 rfl rfl (Nat.ble_eq_true_of_le (by omega)) (Nat.ble_eq_true_of_le (by omega)) (s_104 hc hz hB b1) (fun Z1 Lg1 g1 g2 g3 g4 => ?_)
  have hd1 := mR_f hd g2
  refine r_istore rfl ?_
  refine r_aload rfl rfl ?_
  refine r_scload rfl rfl ?_
  refine r_iload rfl rfl ?_
  refine r_push rfl ?_
  refine r_iadd rfl ?_
  refine q_sald rfl (by omega) (by omega) (by omega) e1 ?_
  refine r_kM1 rfl rfl rfl (Nat.ble_eq_true_of_le (by omega)) (Nat.ble_eq_true_of_le (by omega)) (s_46 hd1 hz hB b1) (fun Z2 m1 m2 m3 => ?_)
  have hc2 := cR_f g1 m3
  have h32 : ∀ d, am_T am_tabs am_ar (d + 1) 32 [.ref 34] (mW Z2 Lg1 N X) (am_ret (iI (f_tha z p1).1) (mW Z2 Lg1 N X)) := fun d => by
    have h := s_32 (d := d) (Z := Z2) (Lg := Lg1) (N := N) (X := X)
    rw [m2] at h
    exact h
  refine r_istore rfl ?_
  refine r_aload rfl rfl ?_
  refine r_ki0 rfl rfl rfl (Nat.ble_eq_true_of_le (by omega)) (Nat.ble_eq_true_of_le (by omega)) (h32 _) ?_
  refine r_iload rfl set_get10 ?_
  refine r_c0r rfl ?_
  refine r_iload rfl set_get10 ?_
  refine r_z1 rfl ⟨by omega, by omega⟩ (fun h667 => ?_) (fun h667 => ?_)
  · refine r_goto rfl ?_
    exact hK _ Z2 Lg1 _ _ _ (k_tha hz hB).1 (k_tha hz hB).2 hc2 m1 (by omega) (by omega)
  · refine r_aload rfl rfl ?_
    refine r_push rfl ?_
    refine q_lald rfl rfl (by omega) (by omega) rfl (g4 h667) ?_
    refine r_iload rfl set_get1 ?_
    refine r_z0 rfl (by rcases htv with h | h <;> rw [h] <;> exact ⟨by omega, by omega⟩) (fun h675 => ?_) (fun h675 => ?_)
    · refine r_lpush rfl ?_
      refine r_lcmp0 rfl (by rw [h675]; rfl) ?_
      refine r_t0 rfl (by first | exact iB0 | exact iB1 | exact iBm | exact hB _ _ | exact hT _ (by omega) | exact ⟨by omega, by omega⟩) (by omega) ?_
      refine r_goto rfl ?_
      exact hK _ Z2 Lg1 _ _ _ (k_tha hz hB).1 (k_tha hz hB).2 hc2 m1 (by omega) (by omega)
    · refine r_lpush rfl ?_
      refine r_goto rfl ?_
      refine r_lcmp0 rfl (by rw [htv.resolve_left h675]; rfl) ?_
      refine r_t0 rfl (by first | exact iB0 | exact iB1 | exact iBm | exact hB _ _ | exact hT _ (by omega) | exact ⟨by omega, by omega⟩) (by omega) ?_
      refine r_goto rfl ?_
      exact hK _ Z2 Lg1 _ _ _ (k_tha hz hB).1 (k_tha hz hB).2 hc2 m1 (by omega) (by omega)

theorem law_705 {Q : am_Q} {N : Nat} {X : Nat → Int32} {z : rd_Z} {Z : wZ} {Lg : Nat → Nat → Int64} {tl : List (Option Value)} {i uc us : Nat} (hz : rd_ok z) (hB : zB z) (hc : cR z Z) (hd : mR z Z) (hN : N ≤ 3072) (hi : i + 6 ≤ N) (hu : uc ≤ 5000) (hv : us ≤ 50000) (hK : lawK Q N X i uc us) : am_X (am_tb op_111) (am_T am_tabs am_ar 30) Q (705, some (.retAddr 0) :: some (.ref 0) :: some (.ref 34) :: some (.ref 53) :: some (.int (iI (i : Int))) :: tl, [], mW Z Lg N X, uc, us) := by
  obtain ⟨p1, b1, e1⟩ := iI_ex (X (i + 1))
  obtain ⟨p2, b2, e2⟩ := iI_ex (X (i + 2))
  refine r_aload rfl rfl ?_
  refine r_scload rfl rfl ?_
  refine r_iload rfl rfl ?_
  refine r_push rfl ?_
  refine r_iadd rfl ?_
  refine q_sald rfl (by omega) (by omega) (by omega) e1 ?_
  refine r_scload rfl rfl ?_
  refine r_iload rfl rfl ?_
  refine r_push rfl ?_
  refine r_iadd rfl ?_
  refine q_sald rfl (by omega) (by omega) (by omega) e2 ?_
  refine r_aload rfl rfl ?_
  refine r_sH4 rfl rfl (Nat.ble_eq_true_of_le (by omega)) (Nat.ble_eq_true_of_le (by omega)) (s_105 hc hz hB b1 b2) (fun Z1 Lg1 g1 g2 g3 g4 => ?_)
  have hd1 := mR_f hd g2
  refine r_istore rfl ?_
  refine r_aload rfl rfl ?_
  refine r_scload rfl rfl ?_
  refine r_iload rfl rfl ?_
  refine r_push rfl ?_
  refine r_iadd rfl ?_
  refine q_sald rfl (by omega) (by omega) (by omega) e1 ?_
  refine r_scload rfl rfl ?_
  refine r_iload rfl rfl ?_
  refine r_push rfl ?_
  refine r_iadd rfl ?_
  refine q_sald rfl (by omega) (by omega) (by omega) e2 ?_
  refine r_kM2 rfl rfl rfl (Nat.ble_eq_true_of_le (by omega)) (Nat.ble_eq_true_of_le (by omega)) (s_56 hd1 hz hB b1 b2) (fun Z2 m1 m2 m3 => ?_)
  have hc2 := cR_f g1 m3
  have h32 : ∀ d, am_T am_tabs am_ar (d + 1) 32 [.ref 34] (mW Z2 Lg1 N X) (am_ret (iI (f_wha z p1 p2).1) (mW Z2 Lg1 N X)) := fun d => by
    have h := s_32 (d := d) (Z := Z2) (Lg := Lg1) (N := N) (X := X)
    rw [m2] at h
    exact h
  refine r_istore rfl ?_
  refine r_aload rfl rfl ?_
  refine r_ki0 rfl rfl rfl (Nat.ble_eq_true_of_le (by omega)) (Nat.ble_eq_true_of_le (by omega)) (h32 _) ?_
  refine r_iload rfl set_get10 ?_
  refine r_c0r rfl ?_
  refine r_iload rfl set_get10 ?_
  refine r_z1 rfl ⟨by omega, by omega⟩ (fun h755 => ?_) (fun h755 => ?_)
  · refine r_goto rfl ?_
    exact hK _ Z2 Lg1 _ _ _ (k_wha hz hB).1 (k_wha hz hB).2 hc2 m1 (by omega) (by omega)
  · refine r_aload rfl rfl ?_
    refine r_push rfl ?_
    refine q_lald rfl rfl (by omega) (by omega) rfl (g4 h755) ?_
    refine r_iload rfl set_get1 ?_
    refine r_i2l rfl ?_
    refine r_lcmp0 rfl rfl ?_
    refine r_t0 rfl (by first | exact iB0 | exact iB1 | exact iBm | exact hB _ _ | exact hT _ (by omega) | exact ⟨by omega, by omega⟩) (by omega) ?_
    refine r_goto rfl ?_
    exact hK _ Z2 Lg1 _ _ _ (k_wha hz hB).1 (k_wha hz hB).2 hc2 m1 (by omega) (by omega)

theorem law_773 {Q : am_Q} {N : Nat} {X : Nat → Int32} {z : rd_Z} {Z : wZ} {Lg : Nat → Nat → Int64} {tl : List (Option Value)} {i uc us : Nat} (hz : rd_ok z) (hB : zB z) (hc : cR z Z) (hd : mR z Z) (hN : N ≤ 3072) (hi : i + 6 ≤ N) (hu : uc ≤ 5000) (hv : us ≤ 50000) (hK : lawK Q N X i uc us) : am_X (am_tb op_111) (am_T am_tabs am_ar 30) Q (773, some (.retAddr 0) :: some (.ref 0) :: some (.ref 34) :: some (.ref 53) :: some (.int (iI (i : Int))) :: tl, [], mW Z Lg N X, uc, us) := by
  obtain ⟨p1, b1, e1⟩ := iI_ex (X (i + 1))
  refine r_aload rfl rfl ?_
  refine r_scload rfl rfl ?_
  refine r_iload rfl rfl ?_
  refine r_push rfl ?_
  refine r_iadd rfl ?_
  refine q_sald rfl (by omega) (by omega) (by omega) e1 ?_
  refine r_aload rfl rfl ?_
  refine r_sH3 rfl rfl (Nat.ble_eq_true_of_le (by omega)) (Nat.ble_eq_true_of_le (by omega)) (s_106 hc hz hB b1) (fun Z1 Lg1 g1 g2 g3 g4 => ?_)
  have hd1 := mR_f hd g2
  refine r_istore rfl ?_
  refine r_aload rfl rfl ?_
  refine r_scload rfl rfl ?_
  refine r_iload rfl rfl ?_
  refine r_push rfl ?_
  refine r_iadd rfl ?_
  refine q_sald rfl (by omega) (by omega) (by omega) e1 ?_
  refine r_kM1 rfl rfl rfl (Nat.ble_eq_true_of_le (by omega)) (Nat.ble_eq_true_of_le (by omega)) (s_59 hd1 hz hB b1) (fun Z2 m1 m2 m3 => ?_)
  have hc2 := cR_f g1 m3
  have h32 : ∀ d, am_T am_tabs am_ar (d + 1) 32 [.ref 34] (mW Z2 Lg1 N X) (am_ret (iI (f_sec z p1).1) (mW Z2 Lg1 N X)) := fun d => by
    have h := s_32 (d := d) (Z := Z2) (Lg := Lg1) (N := N) (X := X)
    rw [m2] at h
    exact h
  refine r_istore rfl ?_
  refine r_aload rfl rfl ?_
  refine r_ki0 rfl rfl rfl (Nat.ble_eq_true_of_le (by omega)) (Nat.ble_eq_true_of_le (by omega)) (h32 _) ?_
  refine r_iload rfl set_get10 ?_
  refine r_c0r rfl ?_
  refine r_iload rfl set_get10 ?_
  refine r_z1 rfl ⟨by omega, by omega⟩ (fun h811 => ?_) (fun h811 => ?_)
  · refine r_goto rfl ?_
    exact hK _ Z2 Lg1 _ _ _ (k_sec hz hB).1 (k_sec hz hB).2 hc2 m1 (by omega) (by omega)
  · refine r_aload rfl rfl ?_
    refine r_push rfl ?_
    refine q_lald rfl rfl (by omega) (by omega) rfl (g4 h811) ?_
    refine r_iload rfl set_get1 ?_
    refine r_i2l rfl ?_
    refine r_lcmp0 rfl rfl ?_
    refine r_t0 rfl (by first | exact iB0 | exact iB1 | exact iBm | exact hB _ _ | exact hT _ (by omega) | exact ⟨by omega, by omega⟩) (by omega) ?_
    refine r_goto rfl ?_
    exact hK _ Z2 Lg1 _ _ _ (k_sec hz hB).1 (k_sec hz hB).2 hc2 m1 (by omega) (by omega)

theorem law_829 {Q : am_Q} {N : Nat} {X : Nat → Int32} {z : rd_Z} {Z : wZ} {Lg : Nat → Nat → Int64} {tl : List (Option Value)} {i uc us : Nat} (hz : rd_ok z) (hB : zB z) (hc : cR z Z) (hd : mR z Z) (hN : N ≤ 3072) (hi : i + 6 ≤ N) (hu : uc ≤ 5000) (hv : us ≤ 50000) (hK : lawK Q N X i uc us) : am_X (am_tb op_111) (am_T am_tabs am_ar 30) Q (829, some (.retAddr 0) :: some (.ref 0) :: some (.ref 34) :: some (.ref 53) :: some (.int (iI (i : Int))) :: tl, [], mW Z Lg N X, uc, us) := by
  obtain ⟨p1, b1, e1⟩ := iI_ex (X (i + 1))
  refine r_aload rfl rfl ?_
  refine r_scload rfl rfl ?_
  refine r_iload rfl rfl ?_
  refine r_push rfl ?_
  refine r_iadd rfl ?_
  refine q_sald rfl (by omega) (by omega) (by omega) e1 ?_
  refine r_aload rfl rfl ?_
  refine r_sH3 rfl rfl (Nat.ble_eq_true_of_le (by omega)) (Nat.ble_eq_true_of_le (by omega)) (s_107 hc hz hB b1) (fun Z1 Lg1 g1 g2 g3 g4 => ?_)
  have hd1 := mR_f hd g2
  refine r_istore rfl ?_
  refine r_aload rfl rfl ?_
  refine r_scload rfl rfl ?_
  refine r_iload rfl rfl ?_
  refine r_push rfl ?_
  refine r_iadd rfl ?_
  refine q_sald rfl (by omega) (by omega) (by omega) e1 ?_
  refine r_kM1 rfl rfl rfl (Nat.ble_eq_true_of_le (by omega)) (Nat.ble_eq_true_of_le (by omega)) (s_61 hd1 hz hB b1) (fun Z2 m1 m2 m3 => ?_)
  have hc2 := cR_f g1 m3
  have h32 : ∀ d, am_T am_tabs am_ar (d + 1) 32 [.ref 34] (mW Z2 Lg1 N X) (am_ret (iI (f_at z p1).1) (mW Z2 Lg1 N X)) := fun d => by
    have h := s_32 (d := d) (Z := Z2) (Lg := Lg1) (N := N) (X := X)
    rw [m2] at h
    exact h
  refine r_istore rfl ?_
  refine r_aload rfl rfl ?_
  refine r_ki0 rfl rfl rfl (Nat.ble_eq_true_of_le (by omega)) (Nat.ble_eq_true_of_le (by omega)) (h32 _) ?_
  refine r_iload rfl set_get10 ?_
  refine r_c0r rfl ?_
  refine r_iload rfl set_get10 ?_
  refine r_z1 rfl ⟨by omega, by omega⟩ (fun h867 => ?_) (fun h867 => ?_)
  · refine r_goto rfl ?_
    exact hK _ Z2 Lg1 _ _ _ (k_at hz hB).1 (k_at hz hB).2 hc2 m1 (by omega) (by omega)
  · refine r_aload rfl rfl ?_
    refine r_push rfl ?_
    refine q_lald rfl rfl (by omega) (by omega) rfl (g4 h867) ?_
    refine r_iload rfl set_get1 ?_
    refine r_i2l rfl ?_
    refine r_lcmp0 rfl rfl ?_
    refine r_t0 rfl (by first | exact iB0 | exact iB1 | exact iBm | exact hB _ _ | exact hT _ (by omega) | exact ⟨by omega, by omega⟩) (by omega) ?_
    refine r_goto rfl ?_
    exact hK _ Z2 Lg1 _ _ _ (k_at hz hB).1 (k_at hz hB).2 hc2 m1 (by omega) (by omega)

theorem law_885 {Q : am_Q} {N : Nat} {X : Nat → Int32} {z : rd_Z} {Z : wZ} {Lg : Nat → Nat → Int64} {tl : List (Option Value)} {i uc us : Nat} (hz : rd_ok z) (hB : zB z) (hc : cR z Z) (hd : mR z Z) (hN : N ≤ 3072) (hi : i + 6 ≤ N) (hu : uc ≤ 5000) (hv : us ≤ 50000) (hK : lawK Q N X i uc us) : am_X (am_tb op_111) (am_T am_tabs am_ar 30) Q (885, some (.retAddr 0) :: some (.ref 0) :: some (.ref 34) :: some (.ref 53) :: some (.int (iI (i : Int))) :: tl, [], mW Z Lg N X, uc, us) := by
  obtain ⟨p1, b1, e1⟩ := iI_ex (X (i + 1))
  refine r_aload rfl rfl ?_
  refine r_scload rfl rfl ?_
  refine r_iload rfl rfl ?_
  refine r_push rfl ?_
  refine r_iadd rfl ?_
  refine q_sald rfl (by omega) (by omega) (by omega) e1 ?_
  refine r_aload rfl rfl ?_
  refine r_sH3 rfl rfl (Nat.ble_eq_true_of_le (by omega)) (Nat.ble_eq_true_of_le (by omega)) (s_108 hc hz hB b1) (fun Z1 Lg1 g1 g2 g3 g4 => ?_)
  have hd1 := mR_f hd g2
  refine r_istore rfl ?_
  refine r_aload rfl rfl ?_
  refine r_scload rfl rfl ?_
  refine r_iload rfl rfl ?_
  refine r_push rfl ?_
  refine r_iadd rfl ?_
  refine q_sald rfl (by omega) (by omega) (by omega) e1 ?_
  refine r_kM1 rfl rfl rfl (Nat.ble_eq_true_of_le (by omega)) (Nat.ble_eq_true_of_le (by omega)) (s_62 hd1 hz hB b1) (fun Z2 m1 m2 m3 => ?_)
  have hc2 := cR_f g1 m3
  have h32 : ∀ d, am_T am_tabs am_ar (d + 1) 32 [.ref 34] (mW Z2 Lg1 N X) (am_ret (iI (f_pla z p1).1) (mW Z2 Lg1 N X)) := fun d => by
    have h := s_32 (d := d) (Z := Z2) (Lg := Lg1) (N := N) (X := X)
    rw [m2] at h
    exact h
  refine r_istore rfl ?_
  refine r_aload rfl rfl ?_
  refine r_ki0 rfl rfl rfl (Nat.ble_eq_true_of_le (by omega)) (Nat.ble_eq_true_of_le (by omega)) (h32 _) ?_
  refine r_iload rfl set_get10 ?_
  refine r_c0r rfl ?_
  refine r_iload rfl set_get10 ?_
  refine r_z1 rfl ⟨by omega, by omega⟩ (fun h923 => ?_) (fun h923 => ?_)
  · refine r_goto rfl ?_
    exact hK _ Z2 Lg1 _ _ _ (k_pla hz hB).1 (k_pla hz hB).2 hc2 m1 (by omega) (by omega)
  · refine r_aload rfl rfl ?_
    refine r_push rfl ?_
    refine q_lald rfl rfl (by omega) (by omega) rfl (g4 h923) ?_
    refine r_iload rfl set_get1 ?_
    refine r_i2l rfl ?_
    refine r_lcmp0 rfl rfl ?_
    refine r_t0 rfl (by first | exact iB0 | exact iB1 | exact iBm | exact hB _ _ | exact hT _ (by omega) | exact ⟨by omega, by omega⟩) (by omega) ?_
    refine r_goto rfl ?_
    exact hK _ Z2 Lg1 _ _ _ (k_pla hz hB).1 (k_pla hz hB).2 hc2 m1 (by omega) (by omega)

theorem law_980 {Q : am_Q} {N : Nat} {X : Nat → Int32} {z : rd_Z} {Z : wZ} {Lg : Nat → Nat → Int64} {tl : List (Option Value)} {i uc us : Nat} (hz : rd_ok z) (hB : zB z) (hc : cR z Z) (hd : mR z Z) (hN : N ≤ 3072) (hi : i + 6 ≤ N) (hu : uc ≤ 5000) (hv : us ≤ 50000) (hK : lawK Q N X i uc us) : am_X (am_tb op_111) (am_T am_tabs am_ar 30) Q (980, some (.retAddr 0) :: some (.ref 0) :: some (.ref 34) :: some (.ref 53) :: some (.int (iI (i : Int))) :: tl, [], mW Z Lg N X, uc, us) := by
  obtain ⟨p1, b1, e1⟩ := iI_ex (X (i + 1))
  refine r_aload rfl rfl ?_
  refine r_scload rfl rfl ?_
  refine r_iload rfl rfl ?_
  refine r_push rfl ?_
  refine r_iadd rfl ?_
  refine q_sald rfl (by omega) (by omega) (by omega) e1 ?_
  refine r_aload rfl rfl ?_
  refine r_sH3 rfl rfl (Nat.ble_eq_true_of_le (by omega)) (Nat.ble_eq_true_of_le (by omega)) (s_109 hc hz hB b1) (fun Z1 Lg1 g1 g2 g3 g4 => ?_)
  have hd1 := mR_f hd g2
  refine r_istore rfl ?_
  refine r_aload rfl rfl ?_
  refine r_scload rfl rfl ?_
  refine r_iload rfl rfl ?_
  refine r_push rfl ?_
  refine r_iadd rfl ?_
  refine q_sald rfl (by omega) (by omega) (by omega) e1 ?_
  refine r_kM1 rfl rfl rfl (Nat.ble_eq_true_of_le (by omega)) (Nat.ble_eq_true_of_le (by omega)) (s_66 hd1 hz hB b1) (fun Z2 m1 m2 m3 => ?_)
  have hc2 := cR_f g1 m3
  have h32 : ∀ d, am_T am_tabs am_ar (d + 1) 32 [.ref 34] (mW Z2 Lg1 N X) (am_ret (iI (f_sla z p1).1) (mW Z2 Lg1 N X)) := fun d => by
    have h := s_32 (d := d) (Z := Z2) (Lg := Lg1) (N := N) (X := X)
    rw [m2] at h
    exact h
  refine r_istore rfl ?_
  refine r_aload rfl rfl ?_
  refine r_ki0 rfl rfl rfl (Nat.ble_eq_true_of_le (by omega)) (Nat.ble_eq_true_of_le (by omega)) (h32 _) ?_
  refine r_iload rfl set_get10 ?_
  refine r_c0r rfl ?_
  refine r_iload rfl set_get10 ?_
  refine r_z1 rfl ⟨by omega, by omega⟩ (fun h1018 => ?_) (fun h1018 => ?_)
  · refine r_goto rfl ?_
    exact hK _ Z2 Lg1 _ _ _ (k_sla hz hB).1 (k_sla hz hB).2 hc2 m1 (by omega) (by omega)
  · refine r_aload rfl rfl ?_
    refine r_push rfl ?_
    refine q_lald rfl rfl (by omega) (by omega) rfl (g4 h1018) ?_
    refine r_iload rfl set_get1 ?_
    refine r_i2l rfl ?_
    refine r_lcmp0 rfl rfl ?_
    refine r_t0 rfl (by first | exact iB0 | exact iB1 | exact iBm | exact hB _ _ | exact hT _ (by omega) | exact ⟨by omega, by omega⟩) (by omega) ?_
    refine r_goto rfl ?_
    exact hK _ Z2 Lg1 _ _ _ (k_sla hz hB).1 (k_sla hz hB).2 hc2 m1 (by omega) (by omega)

theorem law_1049 {Q : am_Q} {N : Nat} {X : Nat → Int32} {z : rd_Z} {Z : wZ} {Lg : Nat → Nat → Int64} {tl : List (Option Value)} {i uc us : Nat} (hz : rd_ok z) (hB : zB z) (hc : cR z Z) (hd : mR z Z) (hN : N ≤ 3072) (hi : i + 6 ≤ N) (hu : uc ≤ 5000) (hv : us ≤ 50000) (hK : lawK Q N X i uc us) : am_X (am_tb op_111) (am_T am_tabs am_ar 30) Q (1049, some (.retAddr 0) :: some (.ref 0) :: some (.ref 34) :: some (.ref 53) :: some (.int (iI (i : Int))) :: tl, [], mW Z Lg N X, uc, us) := by
  obtain ⟨p1, b1, e1⟩ := iI_ex (X (i + 1))
  obtain ⟨p2, b2, e2⟩ := iI_ex (X (i + 2))
  refine r_aload rfl rfl ?_
  refine r_scload rfl rfl ?_
  refine r_iload rfl rfl ?_
  refine r_push rfl ?_
  refine r_iadd rfl ?_
  refine q_sald rfl (by omega) (by omega) (by omega) e1 ?_
  refine r_scload rfl rfl ?_
  refine r_iload rfl rfl ?_
  refine r_push rfl ?_
  refine r_iadd rfl ?_
  refine q_sald rfl (by omega) (by omega) (by omega) e2 ?_
  refine r_aload rfl rfl ?_
  refine r_sH4 rfl rfl (Nat.ble_eq_true_of_le (by omega)) (Nat.ble_eq_true_of_le (by omega)) (s_110 hc hz hB b1 b2) (fun Z1 Lg1 g1 g2 g3 g4 => ?_)
  have hd1 := mR_f hd g2
  refine r_istore rfl ?_
  refine r_aload rfl rfl ?_
  refine r_scload rfl rfl ?_
  refine r_iload rfl rfl ?_
  refine r_push rfl ?_
  refine r_iadd rfl ?_
  refine q_sald rfl (by omega) (by omega) (by omega) e1 ?_
  refine r_scload rfl rfl ?_
  refine r_iload rfl rfl ?_
  refine r_push rfl ?_
  refine r_iadd rfl ?_
  refine q_sald rfl (by omega) (by omega) (by omega) e2 ?_
  refine r_kM2 rfl rfl rfl (Nat.ble_eq_true_of_le (by omega)) (Nat.ble_eq_true_of_le (by omega)) (s_68 hd1 hz hB b1 b2) (fun Z2 m1 m2 m3 => ?_)
  have hc2 := cR_f g1 m3
  have h32 : ∀ d, am_T am_tabs am_ar (d + 1) 32 [.ref 34] (mW Z2 Lg1 N X) (am_ret (iI (f_cha z p1 p2).1) (mW Z2 Lg1 N X)) := fun d => by
    have h := s_32 (d := d) (Z := Z2) (Lg := Lg1) (N := N) (X := X)
    rw [m2] at h
    exact h
  refine r_istore rfl ?_
  refine r_aload rfl rfl ?_
  refine r_ki0 rfl rfl rfl (Nat.ble_eq_true_of_le (by omega)) (Nat.ble_eq_true_of_le (by omega)) (h32 _) ?_
  refine r_iload rfl set_get10 ?_
  refine r_c0r rfl ?_
  refine r_iload rfl set_get10 ?_
  refine r_z1 rfl ⟨by omega, by omega⟩ (fun h1099 => ?_) (fun h1099 => ?_)
  · refine r_goto rfl ?_
    exact hK _ Z2 Lg1 _ _ _ (k_cha hz hB).1 (k_cha hz hB).2 hc2 m1 (by omega) (by omega)
  · refine r_aload rfl rfl ?_
    refine r_push rfl ?_
    refine q_lald rfl rfl (by omega) (by omega) rfl (g4 h1099) ?_
    refine r_iload rfl set_get1 ?_
    refine r_i2l rfl ?_
    refine r_lcmp0 rfl rfl ?_
    refine r_t0 rfl (by first | exact iB0 | exact iB1 | exact iBm | exact hB _ _ | exact hT _ (by omega) | exact ⟨by omega, by omega⟩) (by omega) ?_
    refine r_goto rfl ?_
    exact hK _ Z2 Lg1 _ _ _ (k_cha hz hB).1 (k_cha hz hB).2 hc2 m1 (by omega) (by omega)

theorem law_568 {Q : am_Q} {N : Nat} {X : Nat → Int32} {z : rd_Z} {Z : wZ} {Lg : Nat → Nat → Int64} {tl : List (Option Value)} {i uc us : Nat} (hz : rd_ok z) (hB : zB z) (hc : cR z Z) (hd : mR z Z) (hN : N ≤ 3072) (hi : i + 6 ≤ N) (hu : uc ≤ 5000) (hv : us ≤ 50000) (hK : lawK Q N X i uc us) : am_X (am_tb op_111) (am_T am_tabs am_ar 30) Q (568, some (.retAddr 0) :: some (.ref 0) :: some (.ref 34) :: some (.ref 53) :: some (.int (iI (i : Int))) :: tl, [], mW Z Lg N X, uc, us) := by
  refine r_aload rfl rfl ?_
  refine r_kD0 rfl rfl rfl (Nat.ble_eq_true_of_le (by omega)) (Nat.ble_eq_true_of_le (by omega)) (s_7 hc hz hB) (fun Z1 g1 g2 => ?_)
  have hd1 := mR_f hd g2
  refine r_aload rfl rfl ?_
  refine r_kM0 rfl rfl rfl (Nat.ble_eq_true_of_le (by omega)) (Nat.ble_eq_true_of_le (by omega)) (s_42 hd1 hz hB) (fun Z2 m1 m2 m3 => ?_)
  have hc2 := cR_f g1 m3
  refine r_c0r rfl ?_
  exact hK _ Z2 Lg _ _ _ (k_reo hz hB).1 (k_reo hz hB).2 hc2 m1 (by omega) (by omega)

theorem law_692 {Q : am_Q} {N : Nat} {X : Nat → Int32} {z : rd_Z} {Z : wZ} {Lg : Nat → Nat → Int64} {tl : List (Option Value)} {i uc us : Nat} (hz : rd_ok z) (hB : zB z) (hc : cR z Z) (hd : mR z Z) (hN : N ≤ 3072) (hi : i + 6 ≤ N) (hu : uc ≤ 5000) (hv : us ≤ 50000) (hK : lawK Q N X i uc us) : am_X (am_tb op_111) (am_T am_tabs am_ar 30) Q (692, some (.retAddr 0) :: some (.ref 0) :: some (.ref 34) :: some (.ref 53) :: some (.int (iI (i : Int))) :: tl, [], mW Z Lg N X, uc, us) := by
  refine r_aload rfl rfl ?_
  refine r_kD0 rfl rfl rfl (Nat.ble_eq_true_of_le (by omega)) (Nat.ble_eq_true_of_le (by omega)) (s_10 hc hz hB) (fun Z1 g1 g2 => ?_)
  have hd1 := mR_f hd g2
  refine r_aload rfl rfl ?_
  refine r_kM0 rfl rfl rfl (Nat.ble_eq_true_of_le (by omega)) (Nat.ble_eq_true_of_le (by omega)) (s_55 hd1 hz hB) (fun Z2 m1 m2 m3 => ?_)
  have hc2 := cR_f g1 m3
  refine r_c0r rfl ?_
  exact hK _ Z2 Lg _ _ _ (k_sol hz hB).1 (k_sol hz hB).2 hc2 m1 (by omega) (by omega)

theorem law_941 {Q : am_Q} {N : Nat} {X : Nat → Int32} {z : rd_Z} {Z : wZ} {Lg : Nat → Nat → Int64} {tl : List (Option Value)} {i uc us : Nat} (hz : rd_ok z) (hB : zB z) (hc : cR z Z) (hd : mR z Z) (hN : N ≤ 3072) (hi : i + 6 ≤ N) (hu : uc ≤ 5000) (hv : us ≤ 50000) (hK : lawK Q N X i uc us) : am_X (am_tb op_111) (am_T am_tabs am_ar 30) Q (941, some (.retAddr 0) :: some (.ref 0) :: some (.ref 34) :: some (.ref 53) :: some (.int (iI (i : Int))) :: tl, [], mW Z Lg N X, uc, us) := by
  refine r_aload rfl rfl ?_
  refine r_kD0 rfl rfl rfl (Nat.ble_eq_true_of_le (by omega)) (Nat.ble_eq_true_of_le (by omega)) (s_15 hc hz hB) (fun Z1 g1 g2 => ?_)
  have hd1 := mR_f hd g2
  refine r_aload rfl rfl ?_
  refine r_kM0 rfl rfl rfl (Nat.ble_eq_true_of_le (by omega)) (Nat.ble_eq_true_of_le (by omega)) (s_65 hd1 hz hB) (fun Z2 m1 m2 m3 => ?_)
  have hc2 := cR_f g1 m3
  refine r_c0r rfl ?_
  exact hK _ Z2 Lg _ _ _ ((And.intro hz hB)).1 ((And.intro hz hB)).2 hc2 m1 (by omega) (by omega)

theorem law_954 {Q : am_Q} {N : Nat} {X : Nat → Int32} {z : rd_Z} {Z : wZ} {Lg : Nat → Nat → Int64} {tl : List (Option Value)} {i uc us : Nat} (hz : rd_ok z) (hB : zB z) (hc : cR z Z) (hd : mR z Z) (hN : N ≤ 3072) (hi : i + 6 ≤ N) (hu : uc ≤ 5000) (hv : us ≤ 50000) (hK : lawK Q N X i uc us) : am_X (am_tb op_111) (am_T am_tabs am_ar 30) Q (954, some (.retAddr 0) :: some (.ref 0) :: some (.ref 34) :: some (.ref 53) :: some (.int (iI (i : Int))) :: tl, [], mW Z Lg N X, uc, us) := by
  refine r_aload rfl rfl ?_
  refine r_kD0 rfl rfl rfl (Nat.ble_eq_true_of_le (by omega)) (Nat.ble_eq_true_of_le (by omega)) (s_16 hc hz hB) (fun Z1 g1 g2 => ?_)
  have hd1 := mR_f hd g2
  refine r_aload rfl rfl ?_
  refine r_kM0 rfl rfl rfl (Nat.ble_eq_true_of_le (by omega)) (Nat.ble_eq_true_of_le (by omega)) (s_57 hd1 hz hB) (fun Z2 m1 m2 m3 => ?_)
  have hc2 := cR_f g1 m3
  refine r_c0r rfl ?_
  exact hK _ Z2 Lg _ _ _ ((And.intro hz hB)).1 ((And.intro hz hB)).2 hc2 m1 (by omega) (by omega)

theorem law_967 {Q : am_Q} {N : Nat} {X : Nat → Int32} {z : rd_Z} {Z : wZ} {Lg : Nat → Nat → Int64} {tl : List (Option Value)} {i uc us : Nat} (hz : rd_ok z) (hB : zB z) (hc : cR z Z) (hd : mR z Z) (hN : N ≤ 3072) (hi : i + 6 ≤ N) (hu : uc ≤ 5000) (hv : us ≤ 50000) (hK : lawK Q N X i uc us) : am_X (am_tb op_111) (am_T am_tabs am_ar 30) Q (967, some (.retAddr 0) :: some (.ref 0) :: some (.ref 34) :: some (.ref 53) :: some (.int (iI (i : Int))) :: tl, [], mW Z Lg N X, uc, us) := by
  refine r_aload rfl rfl ?_
  refine r_kD0 rfl rfl rfl (Nat.ble_eq_true_of_le (by omega)) (Nat.ble_eq_true_of_le (by omega)) (s_17 hc hz hB) (fun Z1 g1 g2 => ?_)
  have hd1 := mR_f hd g2
  refine r_aload rfl rfl ?_
  refine r_kM0 rfl rfl rfl (Nat.ble_eq_true_of_le (by omega)) (Nat.ble_eq_true_of_le (by omega)) (s_58 hd1 hz hB) (fun Z2 m1 m2 m3 => ?_)
  have hc2 := cR_f g1 m3
  refine r_c0r rfl ?_
  exact hK _ Z2 Lg _ _ _ ((And.intro hz hB)).1 ((And.intro hz hB)).2 hc2 m1 (by omega) (by omega)

theorem law_1036 {Q : am_Q} {N : Nat} {X : Nat → Int32} {z : rd_Z} {Z : wZ} {Lg : Nat → Nat → Int64} {tl : List (Option Value)} {i uc us : Nat} (hz : rd_ok z) (hB : zB z) (hc : cR z Z) (hd : mR z Z) (hN : N ≤ 3072) (hi : i + 6 ≤ N) (hu : uc ≤ 5000) (hv : us ≤ 50000) (hK : lawK Q N X i uc us) : am_X (am_tb op_111) (am_T am_tabs am_ar 30) Q (1036, some (.retAddr 0) :: some (.ref 0) :: some (.ref 34) :: some (.ref 53) :: some (.int (iI (i : Int))) :: tl, [], mW Z Lg N X, uc, us) := by
  refine r_aload rfl rfl ?_
  refine r_kD0 rfl rfl rfl (Nat.ble_eq_true_of_le (by omega)) (Nat.ble_eq_true_of_le (by omega)) (s_19 hc hz hB) (fun Z1 g1 g2 => ?_)
  have hd1 := mR_f hd g2
  refine r_aload rfl rfl ?_
  refine r_kM0 rfl rfl rfl (Nat.ble_eq_true_of_le (by omega)) (Nat.ble_eq_true_of_le (by omega)) (s_67 hd1 hz hB) (fun Z2 m1 m2 m3 => ?_)
  have hc2 := cR_f g1 m3
  refine r_c0r rfl ?_
  exact hK _ Z2 Lg _ _ _ (k_acc hz hB).1 (k_acc hz hB).2 hc2 m1 (by omega) (by omega)

end LCA
