/-! the law's helpers -/
section LHE
section
variable {tab : Nat → am_Sem} {C : am_C} {Q : am_Q} {pc nx tg a k n : Nat} {ls : List (Option Value)} {st : List Value} {w : am_W} {uc us : Nat} {x y v i : Int} {Z : wZ} {Lg : Nat → Nat → Int64} {N : Nat} {X : Nat → Int32}
theorem q_last {q : List Nat} {u : Int64} (ht : tab pc = am_last nx) (hc : SH[k]? = some (2, n, q)) (h0 : 0 ≤ i) (h1 : i < n) (hn : Nat.ble n 1000 = true) (kk : am_X tab C Q (nx, ls, st, mW Z (am_u2 Lg k i.toNat u) N X, uc, us)) : am_X tab C Q (pc, ls, .long u :: .int (iI i) :: .ref k :: st, mW Z Lg N X, uc, us) := r_last ht hc h0 h1 (Nat.le_of_ble_eq_true hn) kk
theorem q_lald {q : List Nat} {g : Int64} (ht : tab pc = am_lald nx) (hc : SH[k]? = some (2, n, q)) (h0 : 0 ≤ i) (h1 : i < n) (hn : Nat.ble n 1000 = true) (hv : Lg k i.toNat = g) (kk : am_X tab C Q (nx, ls, .long g :: st, mW Z Lg N X, uc, us)) : am_X tab C Q (pc, ls, .int (iI i) :: .ref k :: st, mW Z Lg N X, uc, us) := r_lald ht hc h0 h1 (Nat.le_of_ble_eq_true hn) hv kk
theorem q_sald (ht : tab pc = am_sald nx) (h0 : 0 ≤ i) (h1 : i < N) (hn : N ≤ 100000) (hv : X i.toNat = iI v) (kk : am_X tab C Q (nx, ls, .int (iI v) :: st, mW Z Lg N X, uc, us)) : am_X tab C Q (pc, ls, .int (iI i) :: .retAddr k :: st, mW Z Lg N X, uc, us) :=
  r_sald ht h0 h1 hn (by rw [show (mW Z Lg N X).2.2.2.2 i.toNat = iI v from hv]; exact kk)
theorem r_hq1 {mj ci jc js mc ms : Nat} {hh : List (Nat × Nat)} {q : List Nat} {a1 : Value} {f : Int × Int × rd_Z} {ex : List Nat} (ht : tab pc = am_invH nx mj 1 ci jc js mc ms hh) (hk : SH[k]? = some (ci + 4, n, q)) (hr : Nat.ble (st.map fun v => v.category).sum 8 = true) (h1 : Nat.ble (uc + jc) mc = true) (h2 : Nat.ble (us + js) ms = true) (hc : C mj (.ref k :: [a1]) (mW Z Lg N X) (dQ f ex Z Lg N X))
    (kk : f.1 = 0 → ∀ Z1, cR f.2.2 Z1 → mF Z Z1 → am_X tab C Q (nx, ls, .int (iI f.2.1) :: st, mW Z1 Lg N X, uc + jc, us + js)) (kx : ∀ e E : Nat, f.1 = (e : Int) + 1 → ex[e]? = some E → cR f.2.2 Z → ∃ h, am_hand E hh = some h ∧ am_X tab C Q (h, ls, [.null], mW Z Lg N X, uc + jc, us + js)) : am_X tab C Q (pc, ls, a1 :: .ref k :: st, mW Z Lg N X, uc, us) :=
  r_callH ht (as := [a1]) (r := st) rfl rfl hk (Nat.le_of_ble_eq_true hr) (Nat.le_of_ble_eq_true h1) (Nat.le_of_ble_eq_true h2) hc (fun v w' h => by rcases h with ⟨h3, Z1, h4, h5, h6, h7⟩ | ⟨e, E, h3, h4, h5, -⟩; (cases h4; subst h5; exact kk h3 Z1 h6 h7); cases h5) (fun E' w' h => by rcases h with ⟨h3, Z1, h4, -⟩ | ⟨e, E, h3, h4, h5, h6, h7⟩; cases h4; (cases h5; subst h6; exact kx e _ h3 h4 h7))
theorem r_hv1 {mj ci jc js mc ms : Nat} {hh : List (Nat × Nat)} {q : List Nat} {a1 : Value} {f : Int × Int × rd_Z} {ex : List Nat} (ht : tab pc = am_invH nx mj 1 ci jc js mc ms hh) (hk : SH[k]? = some (ci + 4, n, q)) (hr : Nat.ble (st.map fun v => v.category).sum 8 = true) (h1 : Nat.ble (uc + jc) mc = true) (h2 : Nat.ble (us + js) ms = true) (hc : C mj (.ref k :: [a1]) (mW Z Lg N X) (dV f ex Z Lg N X))
    (kk : f.1 = 0 → ∀ Z1, cR f.2.2 Z1 → mF Z Z1 → am_X tab C Q (nx, ls, st, mW Z1 Lg N X, uc + jc, us + js)) (kx : ∀ e E : Nat, f.1 = (e : Int) + 1 → ex[e]? = some E → cR f.2.2 Z → ∃ h, am_hand E hh = some h ∧ am_X tab C Q (h, ls, [.null], mW Z Lg N X, uc + jc, us + js)) : am_X tab C Q (pc, ls, a1 :: .ref k :: st, mW Z Lg N X, uc, us) :=
  r_callH ht (as := [a1]) (r := st) rfl rfl hk (Nat.le_of_ble_eq_true hr) (Nat.le_of_ble_eq_true h1) (Nat.le_of_ble_eq_true h2) hc (fun v w' h => by rcases h with ⟨h3, Z1, h4, h5, h6, h7⟩ | ⟨e, E, h3, h4, h5, -⟩; (cases h4; subst h5; exact kk h3 Z1 h6 h7); cases h5) (fun E' w' h => by rcases h with ⟨h3, Z1, h4, -⟩ | ⟨e, E, h3, h4, h5, h6, h7⟩; cases h4; (cases h5; subst h6; exact kx e _ h3 h4 h7))
theorem r_hq2 {mj ci jc js mc ms : Nat} {hh : List (Nat × Nat)} {q : List Nat} {a1 a2 : Value} {f : Int × Int × rd_Z} {ex : List Nat} (ht : tab pc = am_invH nx mj 2 ci jc js mc ms hh) (hk : SH[k]? = some (ci + 4, n, q)) (hr : Nat.ble (st.map fun v => v.category).sum 8 = true) (h1 : Nat.ble (uc + jc) mc = true) (h2 : Nat.ble (us + js) ms = true) (hc : C mj (.ref k :: [a1, a2]) (mW Z Lg N X) (dQ f ex Z Lg N X))
    (kk : f.1 = 0 → ∀ Z1, cR f.2.2 Z1 → mF Z Z1 → am_X tab C Q (nx, ls, .int (iI f.2.1) :: st, mW Z1 Lg N X, uc + jc, us + js)) (kx : ∀ e E : Nat, f.1 = (e : Int) + 1 → ex[e]? = some E → cR f.2.2 Z → ∃ h, am_hand E hh = some h ∧ am_X tab C Q (h, ls, [.null], mW Z Lg N X, uc + jc, us + js)) : am_X tab C Q (pc, ls, a2 :: a1 :: .ref k :: st, mW Z Lg N X, uc, us) :=
  r_callH ht (as := [a1, a2]) (r := st) rfl rfl hk (Nat.le_of_ble_eq_true hr) (Nat.le_of_ble_eq_true h1) (Nat.le_of_ble_eq_true h2) hc (fun v w' h => by rcases h with ⟨h3, Z1, h4, h5, h6, h7⟩ | ⟨e, E, h3, h4, h5, -⟩; (cases h4; subst h5; exact kk h3 Z1 h6 h7); cases h5) (fun E' w' h => by rcases h with ⟨h3, Z1, h4, -⟩ | ⟨e, E, h3, h4, h5, h6, h7⟩; cases h4; (cases h5; subst h6; exact kx e _ h3 h4 h7))
theorem r_hv2 {mj ci jc js mc ms : Nat} {hh : List (Nat × Nat)} {q : List Nat} {a1 a2 : Value} {f : Int × Int × rd_Z} {ex : List Nat} (ht : tab pc = am_invH nx mj 2 ci jc js mc ms hh) (hk : SH[k]? = some (ci + 4, n, q)) (hr : Nat.ble (st.map fun v => v.category).sum 8 = true) (h1 : Nat.ble (uc + jc) mc = true) (h2 : Nat.ble (us + js) ms = true) (hc : C mj (.ref k :: [a1, a2]) (mW Z Lg N X) (dV f ex Z Lg N X))
    (kk : f.1 = 0 → ∀ Z1, cR f.2.2 Z1 → mF Z Z1 → am_X tab C Q (nx, ls, st, mW Z1 Lg N X, uc + jc, us + js)) (kx : ∀ e E : Nat, f.1 = (e : Int) + 1 → ex[e]? = some E → cR f.2.2 Z → ∃ h, am_hand E hh = some h ∧ am_X tab C Q (h, ls, [.null], mW Z Lg N X, uc + jc, us + js)) : am_X tab C Q (pc, ls, a2 :: a1 :: .ref k :: st, mW Z Lg N X, uc, us) :=
  r_callH ht (as := [a1, a2]) (r := st) rfl rfl hk (Nat.le_of_ble_eq_true hr) (Nat.le_of_ble_eq_true h1) (Nat.le_of_ble_eq_true h2) hc (fun v w' h => by rcases h with ⟨h3, Z1, h4, h5, h6, h7⟩ | ⟨e, E, h3, h4, h5, -⟩; (cases h4; subst h5; exact kk h3 Z1 h6 h7); cases h5) (fun E' w' h => by rcases h with ⟨h3, Z1, h4, -⟩ | ⟨e, E, h3, h4, h5, h6, h7⟩; cases h4; (cases h5; subst h6; exact kx e _ h3 h4 h7))
theorem r_hq3 {mj ci jc js mc ms : Nat} {hh : List (Nat × Nat)} {q : List Nat} {a1 a2 a3 : Value} {f : Int × Int × rd_Z} {ex : List Nat} (ht : tab pc = am_invH nx mj 3 ci jc js mc ms hh) (hk : SH[k]? = some (ci + 4, n, q)) (hr : Nat.ble (st.map fun v => v.category).sum 8 = true) (h1 : Nat.ble (uc + jc) mc = true) (h2 : Nat.ble (us + js) ms = true) (hc : C mj (.ref k :: [a1, a2, a3]) (mW Z Lg N X) (dQ f ex Z Lg N X))
    (kk : f.1 = 0 → ∀ Z1, cR f.2.2 Z1 → mF Z Z1 → am_X tab C Q (nx, ls, .int (iI f.2.1) :: st, mW Z1 Lg N X, uc + jc, us + js)) (kx : ∀ e E : Nat, f.1 = (e : Int) + 1 → ex[e]? = some E → cR f.2.2 Z → ∃ h, am_hand E hh = some h ∧ am_X tab C Q (h, ls, [.null], mW Z Lg N X, uc + jc, us + js)) : am_X tab C Q (pc, ls, a3 :: a2 :: a1 :: .ref k :: st, mW Z Lg N X, uc, us) :=
  r_callH ht (as := [a1, a2, a3]) (r := st) rfl rfl hk (Nat.le_of_ble_eq_true hr) (Nat.le_of_ble_eq_true h1) (Nat.le_of_ble_eq_true h2) hc (fun v w' h => by rcases h with ⟨h3, Z1, h4, h5, h6, h7⟩ | ⟨e, E, h3, h4, h5, -⟩; (cases h4; subst h5; exact kk h3 Z1 h6 h7); cases h5) (fun E' w' h => by rcases h with ⟨h3, Z1, h4, -⟩ | ⟨e, E, h3, h4, h5, h6, h7⟩; cases h4; (cases h5; subst h6; exact kx e _ h3 h4 h7))
theorem r_hv3 {mj ci jc js mc ms : Nat} {hh : List (Nat × Nat)} {q : List Nat} {a1 a2 a3 : Value} {f : Int × Int × rd_Z} {ex : List Nat} (ht : tab pc = am_invH nx mj 3 ci jc js mc ms hh) (hk : SH[k]? = some (ci + 4, n, q)) (hr : Nat.ble (st.map fun v => v.category).sum 8 = true) (h1 : Nat.ble (uc + jc) mc = true) (h2 : Nat.ble (us + js) ms = true) (hc : C mj (.ref k :: [a1, a2, a3]) (mW Z Lg N X) (dV f ex Z Lg N X))
    (kk : f.1 = 0 → ∀ Z1, cR f.2.2 Z1 → mF Z Z1 → am_X tab C Q (nx, ls, st, mW Z1 Lg N X, uc + jc, us + js)) (kx : ∀ e E : Nat, f.1 = (e : Int) + 1 → ex[e]? = some E → cR f.2.2 Z → ∃ h, am_hand E hh = some h ∧ am_X tab C Q (h, ls, [.null], mW Z Lg N X, uc + jc, us + js)) : am_X tab C Q (pc, ls, a3 :: a2 :: a1 :: .ref k :: st, mW Z Lg N X, uc, us) :=
  r_callH ht (as := [a1, a2, a3]) (r := st) rfl rfl hk (Nat.le_of_ble_eq_true hr) (Nat.le_of_ble_eq_true h1) (Nat.le_of_ble_eq_true h2) hc (fun v w' h => by rcases h with ⟨h3, Z1, h4, h5, h6, h7⟩ | ⟨e, E, h3, h4, h5, -⟩; (cases h4; subst h5; exact kk h3 Z1 h6 h7); cases h5) (fun E' w' h => by rcases h with ⟨h3, Z1, h4, -⟩ | ⟨e, E, h3, h4, h5, h6, h7⟩; cases h4; (cases h5; subst h6; exact kx e _ h3 h4 h7))
theorem r_hq5 {mj ci jc js mc ms : Nat} {hh : List (Nat × Nat)} {q : List Nat} {a1 a2 a3 a4 a5 : Value} {f : Int × Int × rd_Z} {ex : List Nat} (ht : tab pc = am_invH nx mj 5 ci jc js mc ms hh) (hk : SH[k]? = some (ci + 4, n, q)) (hr : Nat.ble (st.map fun v => v.category).sum 8 = true) (h1 : Nat.ble (uc + jc) mc = true) (h2 : Nat.ble (us + js) ms = true) (hc : C mj (.ref k :: [a1, a2, a3, a4, a5]) (mW Z Lg N X) (dQ f ex Z Lg N X))
    (kk : f.1 = 0 → ∀ Z1, cR f.2.2 Z1 → mF Z Z1 → am_X tab C Q (nx, ls, .int (iI f.2.1) :: st, mW Z1 Lg N X, uc + jc, us + js)) (kx : ∀ e E : Nat, f.1 = (e : Int) + 1 → ex[e]? = some E → cR f.2.2 Z → ∃ h, am_hand E hh = some h ∧ am_X tab C Q (h, ls, [.null], mW Z Lg N X, uc + jc, us + js)) : am_X tab C Q (pc, ls, a5 :: a4 :: a3 :: a2 :: a1 :: .ref k :: st, mW Z Lg N X, uc, us) :=
  r_callH ht (as := [a1, a2, a3, a4, a5]) (r := st) rfl rfl hk (Nat.le_of_ble_eq_true hr) (Nat.le_of_ble_eq_true h1) (Nat.le_of_ble_eq_true h2) hc (fun v w' h => by rcases h with ⟨h3, Z1, h4, h5, h6, h7⟩ | ⟨e, E, h3, h4, h5, -⟩; (cases h4; subst h5; exact kk h3 Z1 h6 h7); cases h5) (fun E' w' h => by rcases h with ⟨h3, Z1, h4, -⟩ | ⟨e, E, h3, h4, h5, h6, h7⟩; cases h4; (cases h5; subst h6; exact kx e _ h3 h4 h7))
theorem r_hv5 {mj ci jc js mc ms : Nat} {hh : List (Nat × Nat)} {q : List Nat} {a1 a2 a3 a4 a5 : Value} {f : Int × Int × rd_Z} {ex : List Nat} (ht : tab pc = am_invH nx mj 5 ci jc js mc ms hh) (hk : SH[k]? = some (ci + 4, n, q)) (hr : Nat.ble (st.map fun v => v.category).sum 8 = true) (h1 : Nat.ble (uc + jc) mc = true) (h2 : Nat.ble (us + js) ms = true) (hc : C mj (.ref k :: [a1, a2, a3, a4, a5]) (mW Z Lg N X) (dV f ex Z Lg N X))
    (kk : f.1 = 0 → ∀ Z1, cR f.2.2 Z1 → mF Z Z1 → am_X tab C Q (nx, ls, st, mW Z1 Lg N X, uc + jc, us + js)) (kx : ∀ e E : Nat, f.1 = (e : Int) + 1 → ex[e]? = some E → cR f.2.2 Z → ∃ h, am_hand E hh = some h ∧ am_X tab C Q (h, ls, [.null], mW Z Lg N X, uc + jc, us + js)) : am_X tab C Q (pc, ls, a5 :: a4 :: a3 :: a2 :: a1 :: .ref k :: st, mW Z Lg N X, uc, us) :=
  r_callH ht (as := [a1, a2, a3, a4, a5]) (r := st) rfl rfl hk (Nat.le_of_ble_eq_true hr) (Nat.le_of_ble_eq_true h1) (Nat.le_of_ble_eq_true h2) hc (fun v w' h => by rcases h with ⟨h3, Z1, h4, h5, h6, h7⟩ | ⟨e, E, h3, h4, h5, -⟩; (cases h4; subst h5; exact kk h3 Z1 h6 h7); cases h5) (fun E' w' h => by rcases h with ⟨h3, Z1, h4, -⟩ | ⟨e, E, h3, h4, h5, h6, h7⟩; cases h4; (cases h5; subst h6; exact kx e _ h3 h4 h7))
end
/-- a helper's answer: the number of the refusal or 0; the value in the long[1] -/
def hQ (f : Int × Int × rd_Z) (Z : wZ) (N : Nat) (X : Nat → Int32) : am_Q := fun o w1 => ∃ Z1 Lg1, o = .inl (some (.int (iI f.1))) ∧ w1 = mW Z1 Lg1 N X ∧ cR f.2.2 Z1 ∧ mF Z Z1 ∧ (0 ≤ f.1 ∧ f.1 ≤ 3) ∧ (f.1 = 0 → Lg1 53 0 = (iI f.2.1).toInt64)
theorem hQ_ok {f : Int × Int × rd_Z} {Z Z1 : wZ} {Lg : Nat → Nat → Int64} {N : Nat} {X : Nat → Int32} {u : Int64} (hf : f.1 = 0) (hu : u = (iI f.2.1).toInt64) (h1 : cR f.2.2 Z1) (h2 : mF Z Z1) : hQ f Z N X (.inl (some (.int (iI 0)))) (mW Z1 (am_u2 Lg 53 0 u) N X) := ⟨Z1, _, by rw [hf], rfl, h1, h2, by omega, fun _ => by rw [← hu]; rfl⟩
theorem hQ_ex {f : Int × Int × rd_Z} {Z : wZ} {Lg : Nat → Nat → Int64} {N : Nat} {X : Nat → Int32} {e : Nat} {x : Int} (hf : f.1 = (e : Int) + 1) (hx : x = (e : Int) + 1) (he : e < 3) (h1 : cR f.2.2 Z) : hQ f Z N X (.inl (some (.int (iI x)))) (mW Z Lg N X) := ⟨Z, Lg, by rw [hf, hx], rfl, h1, mF_r Z, by omega, fun q => by omega⟩
/-- .. of freeze, that has no value -/
def hV (f : Int × Int × rd_Z) (Z : wZ) (N : Nat) (X : Nat → Int32) : am_Q := fun o w1 => ∃ Z1 Lg1, o = .inl (some (.int (iI f.1))) ∧ w1 = mW Z1 Lg1 N X ∧ cR f.2.2 Z1 ∧ mF Z Z1 ∧ (0 ≤ f.1 ∧ f.1 ≤ 3)

theorem s_97 {d : Nat} {Z : wZ} {Lg : Nat → Nat → Int64} {N : Nat} {X : Nat → Int32} {z : rd_Z} (hc : cR z Z) (hz : rd_ok z) (hB : zB z) {a : Int} (ha : iB a) {b : Int} (hb : iB b) {s : Int} (hs : iB s) : am_T am_tabs am_ar (d + 4) 97 [.ref 0, .int (iI a), .int (iI b), .int (iI s), .ref 53] (mW Z Lg N X) (hQ (f_gap z a b s) Z N X) := by
  refine ⟨⟨rfl, rfl⟩, ?_⟩
  show am_X (am_tb op_97) _ _ _
  refine r_aload rfl rfl ?_
  refine r_push rfl ?_
  refine r_aload rfl rfl ?_
  refine r_iload rfl rfl ?_
  refine r_iload rfl rfl ?_
  refine r_iload rfl rfl ?_
  refine r_hq3 rfl rfl rfl rfl rfl (s_1 hc hz hB ha hb hs) (fun hf Z1 g1 g2 => ?_) (fun e E hf hE g1 => ?_)
  · refine r_i2l rfl ?_
    refine q_last rfl rfl (by omega) (by omega) rfl ?_
    refine r_goto rfl ?_
    refine r_push rfl ?_
    refine q_iret rfl rfl rfl ?_
    exact hQ_ok hf rfl g1 g2
  · rcases e with _ | _ | _ | e
    · cases hE
      refine ⟨_, rfl, ?_⟩
      refine r_nstore rfl ?_
      refine r_push rfl ?_
      refine q_iret rfl rfl rfl ?_
      exact hQ_ex hf rfl (by omega) g1
    · cases hE
    · cases hE
    · cases hE

theorem s_98 {d : Nat} {Z : wZ} {Lg : Nat → Nat → Int64} {N : Nat} {X : Nat → Int32} {z : rd_Z} (hc : cR z Z) (hz : rd_ok z) (hB : zB z) {t : Int} (ht : iB t) {e : Int} (he : iB e) {g : Int} (hg : iB g) {l : Int} (hl : iB l) {w : Int} (hw : iB w) : am_T am_tabs am_ar (d + 4) 98 [.ref 0, .int (iI t), .int (iI e), .int (iI g), .int (iI l), .int (iI w), .ref 53] (mW Z Lg N X) (hQ (f_add z t e g l w) Z N X) := by
  refine ⟨⟨rfl, rfl⟩, ?_⟩
  show am_X (am_tb op_98) _ _ _
  refine r_aload rfl rfl ?_
  refine r_push rfl ?_
  refine r_aload rfl rfl ?_
  refine r_iload rfl rfl ?_
  refine r_iload rfl rfl ?_
  refine r_iload rfl rfl ?_
  refine r_iload rfl rfl ?_
  refine r_iload rfl rfl ?_
  refine r_hq5 rfl rfl rfl rfl rfl (s_2 hc hz hB ht he hg hl hw) (fun hf Z1 g1 g2 => ?_) (fun e E hf hE g1 => ?_)
  · refine r_i2l rfl ?_
    refine q_last rfl rfl (by omega) (by omega) rfl ?_
    refine r_goto rfl ?_
    refine r_push rfl ?_
    refine q_iret rfl rfl rfl ?_
    exact hQ_ok hf rfl g1 g2
  · rcases e with _ | _ | _ | e
    · cases hE
      refine ⟨_, rfl, ?_⟩
      refine r_nstore rfl ?_
      refine r_push rfl ?_
      refine q_iret rfl rfl rfl ?_
      exact hQ_ex hf rfl (by omega) g1
    · cases hE
      refine ⟨_, rfl, ?_⟩
      refine r_nstore rfl ?_
      refine r_push rfl ?_
      refine q_iret rfl rfl rfl ?_
      exact hQ_ex hf rfl (by omega) g1
    · cases hE
    · cases hE

theorem s_99 {d : Nat} {Z : wZ} {Lg : Nat → Nat → Int64} {N : Nat} {X : Nat → Int32} {z : rd_Z} (hc : cR z Z) (hz : rd_ok z) (hB : zB z) {m : Int} (hm : iB m) : am_T am_tabs am_ar (d + 5) 99 [.ref 0, .int (iI m), .ref 53] (mW Z Lg N X) (hQ (f_rem z m) Z N X) := by
  refine ⟨⟨rfl, rfl⟩, ?_⟩
  show am_X (am_tb op_99) _ _ _
  refine r_aload rfl rfl ?_
  refine r_push rfl ?_
  refine r_aload rfl rfl ?_
  refine r_iload rfl rfl ?_
  refine r_hq1 rfl rfl rfl rfl rfl (s_3 hc hz hB hm) (fun hf Z1 g1 g2 => ?_) (fun e E hf hE g1 => ?_)
  · refine r_i2l rfl ?_
    refine q_last rfl rfl (by omega) (by omega) rfl ?_
    refine r_goto rfl ?_
    refine r_push rfl ?_
    refine q_iret rfl rfl rfl ?_
    exact hQ_ok hf rfl g1 g2
  · rcases e with _ | _ | _ | e
    · cases hE
      refine ⟨_, rfl, ?_⟩
      refine r_nstore rfl ?_
      refine r_push rfl ?_
      refine q_iret rfl rfl rfl ?_
      exact hQ_ex hf rfl (by omega) g1
    · cases hE
    · cases hE
    · cases hE

theorem s_100 {d : Nat} {Z : wZ} {Lg : Nat → Nat → Int64} {N : Nat} {X : Nat → Int32} {z : rd_Z} (hc : cR z Z) (hz : rd_ok z) (hB : zB z) {m : Int} (hm : iB m) {t : Int} (ht : iB t) : am_T am_tabs am_ar (d + 5) 100 [.ref 0, .int (iI m), .int (iI t), .ref 53] (mW Z Lg N X) (hQ (f_ret z m t) Z N X) := by
  refine ⟨⟨rfl, rfl⟩, ?_⟩
  show am_X (am_tb op_100) _ _ _
  refine r_aload rfl rfl ?_
  refine r_push rfl ?_
  refine r_aload rfl rfl ?_
  refine r_iload rfl rfl ?_
  refine r_iload rfl rfl ?_
  refine r_hq2 rfl rfl rfl rfl rfl (s_4 hc hz hB hm ht) (fun hf Z1 g1 g2 => ?_) (fun e E hf hE g1 => ?_)
  · refine r_i2l rfl ?_
    refine q_last rfl rfl (by omega) (by omega) rfl ?_
    refine r_goto rfl ?_
    refine r_push rfl ?_
    refine q_iret rfl rfl rfl ?_
    exact hQ_ok hf rfl g1 g2
  · rcases e with _ | _ | _ | e
    · cases hE
      refine ⟨_, rfl, ?_⟩
      refine r_nstore rfl ?_
      refine r_push rfl ?_
      refine q_iret rfl rfl rfl ?_
      exact hQ_ex hf rfl (by omega) g1
    · cases hE
      refine ⟨_, rfl, ?_⟩
      refine r_nstore rfl ?_
      refine r_push rfl ?_
      refine q_iret rfl rfl rfl ?_
      exact hQ_ex hf rfl (by omega) g1
    · cases hE
    · cases hE

theorem s_101 {d : Nat} {Z : wZ} {Lg : Nat → Nat → Int64} {N : Nat} {X : Nat → Int32} {z : rd_Z} (hc : cR z Z) (hz : rd_ok z) (hB : zB z) {p : Int} (hp : iB p) : am_T am_tabs am_ar (d + 3) 101 [.ref 0, .int (iI p), .ref 53] (mW Z Lg N X) (hQ (f_lim z p) Z N X) := by
  refine ⟨⟨rfl, rfl⟩, ?_⟩
  show am_X (am_tb op_101) _ _ _
  refine r_aload rfl rfl ?_
  refine r_push rfl ?_
  refine r_aload rfl rfl ?_
  refine r_iload rfl rfl ?_
  refine r_hq1 rfl rfl rfl rfl rfl (s_5 hc hz hB hp) (fun hf Z1 g1 g2 => ?_) (fun e E hf hE g1 => ?_)
  · refine r_i2l rfl ?_
    refine q_last rfl rfl (by omega) (by omega) rfl ?_
    refine r_goto rfl ?_
    refine r_push rfl ?_
    refine q_iret rfl rfl rfl ?_
    exact hQ_ok hf rfl g1 g2
  · rcases e with _ | _ | _ | e
    · cases hE
      refine ⟨_, rfl, ?_⟩
      refine r_nstore rfl ?_
      refine r_push rfl ?_
      refine q_iret rfl rfl rfl ?_
      exact hQ_ex hf rfl (by omega) g1
    · cases hE
    · cases hE
    · cases hE

theorem s_102 {d : Nat} {Z : wZ} {Lg : Nat → Nat → Int64} {N : Nat} {X : Nat → Int32} {z : rd_Z} (hc : cR z Z) (hz : rd_ok z) (hB : zB z) {a : Int} (ha : iB a) {b : Int} (hb : iB b) : am_T am_tabs am_ar (d + 2) 102 [.ref 0, .int (iI a), .int (iI b), .ref 53] (mW Z Lg N X) (hQ (f_clo z a b) Z N X) := by
  refine ⟨⟨rfl, rfl⟩, ?_⟩
  show am_X (am_tb op_102) _ _ _
  refine r_aload rfl rfl ?_
  refine r_push rfl ?_
  refine r_aload rfl rfl ?_
  refine r_iload rfl rfl ?_
  refine r_iload rfl rfl ?_
  refine r_hq2 rfl rfl rfl rfl rfl (s_6 hc hz hB ha hb) (fun hf Z1 g1 g2 => ?_) (fun e E hf hE g1 => ?_)
  · refine r_i2l rfl ?_
    refine q_last rfl rfl (by omega) (by omega) rfl ?_
    refine r_goto rfl ?_
    refine r_push rfl ?_
    refine q_iret rfl rfl rfl ?_
    exact hQ_ok hf rfl g1 g2
  · rcases e with _ | _ | _ | e
    · cases hE
      refine ⟨_, rfl, ?_⟩
      refine r_nstore rfl ?_
      refine r_push rfl ?_
      refine q_iret rfl rfl rfl ?_
      exact hQ_ex hf rfl (by omega) g1
    · cases hE
      refine ⟨_, rfl, ?_⟩
      refine r_nstore rfl ?_
      refine r_push rfl ?_
      refine q_iret rfl rfl rfl ?_
      exact hQ_ex hf rfl (by omega) g1
    · cases hE
    · cases hE

theorem s_103 {d : Nat} {Z : wZ} {Lg : Nat → Nat → Int64} {N : Nat} {X : Nat → Int32} {z : rd_Z} (hc : cR z Z) (hz : rd_ok z) (hB : zB z) {m : Int} (hm : iB m) {s : Int} (hs : iB s) : am_T am_tabs am_ar (d + 5) 103 [.ref 0, .int (iI m), .int (iI s)] (mW Z Lg N X) (hV (f_fre z m s) Z N X) := by
  refine ⟨⟨rfl, rfl⟩, ?_⟩
  show am_X (am_tb op_103) _ _ _
  refine r_aload rfl rfl ?_
  refine r_iload rfl rfl ?_
  refine r_iload rfl rfl ?_
  refine r_hv2 rfl rfl rfl rfl rfl (s_8 hc hz hB hm hs) (fun hf Z1 g1 g2 => ?_) (fun e E hf hE g1 => ?_)
  · refine r_goto rfl ?_
    refine r_push rfl ?_
    refine q_iret rfl rfl rfl ?_
    exact ⟨Z1, Lg, by rw [hf], rfl, g1, g2, by omega⟩
  · rcases e with _ | _ | _ | e
    · cases hE
      refine ⟨_, rfl, ?_⟩
      refine r_nstore rfl ?_
      refine r_push rfl ?_
      refine q_iret rfl rfl rfl ?_
      exact ⟨Z, Lg, by rw [hf]; rfl, rfl, g1, mF_r Z, by omega⟩
    · cases hE
      refine ⟨_, rfl, ?_⟩
      refine r_nstore rfl ?_
      refine r_push rfl ?_
      refine q_iret rfl rfl rfl ?_
      exact ⟨Z, Lg, by rw [hf]; rfl, rfl, g1, mF_r Z, by omega⟩
    · cases hE
      refine ⟨_, rfl, ?_⟩
      refine r_nstore rfl ?_
      refine r_push rfl ?_
      refine q_iret rfl rfl rfl ?_
      exact ⟨Z, Lg, by rw [hf]; rfl, rfl, g1, mF_r Z, by omega⟩
    · cases hE

theorem s_104 {d : Nat} {Z : wZ} {Lg : Nat → Nat → Int64} {N : Nat} {X : Nat → Int32} {z : rd_Z} (hc : cR z Z) (hz : rd_ok z) (hB : zB z) {m : Int} (hm : iB m) : am_T am_tabs am_ar (d + 5) 104 [.ref 0, .int (iI m), .ref 53] (mW Z Lg N X) (hQ (f_tha z m) Z N X) := by
  refine ⟨⟨rfl, rfl⟩, ?_⟩
  show am_X (am_tb op_104) _ _ _
  have htv : (f_tha z m).2.1 = 0 ∨ (f_tha z m).2.1 = 1 := by
    unfold f_tha
    split
    · dsimp only; split <;> omega
    · exact Or.inl rfl
  refine r_aload rfl rfl ?_
  refine r_push rfl ?_
  refine r_aload rfl rfl ?_
  refine r_iload rfl rfl ?_
  refine r_hq1 rfl rfl rfl rfl rfl (s_9 hc hz hB hm) (fun hf Z1 g1 g2 => ?_) (fun e E hf hE g1 => ?_)
  · refine r_z0 rfl (by rcases htv with h | h <;> rw [h] <;> exact ⟨by omega, by omega⟩) (fun h7 => ?_) (fun h7 => ?_)
    · refine r_lpush rfl ?_
      refine q_last rfl rfl (by omega) (by omega) rfl ?_
      refine r_goto rfl ?_
      refine r_push rfl ?_
      refine q_iret rfl rfl rfl ?_
      exact hQ_ok hf (by rw [h7]; rfl) g1 g2
    · refine r_lpush rfl ?_
      refine r_goto rfl ?_
      refine q_last rfl rfl (by omega) (by omega) rfl ?_
      refine r_goto rfl ?_
      refine r_push rfl ?_
      refine q_iret rfl rfl rfl ?_
      exact hQ_ok hf (by rw [htv.resolve_left h7]; rfl) g1 g2
  · rcases e with _ | _ | _ | e
    · cases hE
      refine ⟨_, rfl, ?_⟩
      refine r_nstore rfl ?_
      refine r_push rfl ?_
      refine q_iret rfl rfl rfl ?_
      exact hQ_ex hf rfl (by omega) g1
    · cases hE
    · cases hE
    · cases hE

theorem s_105 {d : Nat} {Z : wZ} {Lg : Nat → Nat → Int64} {N : Nat} {X : Nat → Int32} {z : rd_Z} (hc : cR z Z) (hz : rd_ok z) (hB : zB z) {m : Int} (hm : iB m) {t : Int} (ht : iB t) : am_T am_tabs am_ar (d + 15) 105 [.ref 0, .int (iI m), .int (iI t), .ref 53] (mW Z Lg N X) (hQ (f_wha z m t) Z N X) := by
  refine ⟨⟨rfl, rfl⟩, ?_⟩
  show am_X (am_tb op_105) _ _ _
  refine r_aload rfl rfl ?_
  refine r_push rfl ?_
  refine r_aload rfl rfl ?_
  refine r_iload rfl rfl ?_
  refine r_iload rfl rfl ?_
  refine r_hq2 rfl rfl rfl rfl rfl (s_11 hc hz hB hm ht) (fun hf Z1 g1 g2 => ?_) (fun e E hf hE g1 => ?_)
  · refine r_i2l rfl ?_
    refine q_last rfl rfl (by omega) (by omega) rfl ?_
    refine r_goto rfl ?_
    refine r_push rfl ?_
    refine q_iret rfl rfl rfl ?_
    exact hQ_ok hf rfl g1 g2
  · rcases e with _ | _ | _ | e
    · cases hE
      refine ⟨_, rfl, ?_⟩
      refine r_nstore rfl ?_
      refine r_push rfl ?_
      refine q_iret rfl rfl rfl ?_
      exact hQ_ex hf rfl (by omega) g1
    · cases hE
      refine ⟨_, rfl, ?_⟩
      refine r_nstore rfl ?_
      refine r_push rfl ?_
      refine q_iret rfl rfl rfl ?_
      exact hQ_ex hf rfl (by omega) g1
    · cases hE
    · cases hE

theorem s_106 {d : Nat} {Z : wZ} {Lg : Nat → Nat → Int64} {N : Nat} {X : Nat → Int32} {z : rd_Z} (hc : cR z Z) (hz : rd_ok z) (hB : zB z) {m : Int} (hm : iB m) : am_T am_tabs am_ar (d + 5) 106 [.ref 0, .int (iI m), .ref 53] (mW Z Lg N X) (hQ (f_sec z m) Z N X) := by
  refine ⟨⟨rfl, rfl⟩, ?_⟩
  show am_X (am_tb op_106) _ _ _
  refine r_aload rfl rfl ?_
  refine r_push rfl ?_
  refine r_aload rfl rfl ?_
  refine r_iload rfl rfl ?_
  refine r_hq1 rfl rfl rfl rfl rfl (s_12 hc hz hB hm) (fun hf Z1 g1 g2 => ?_) (fun e E hf hE g1 => ?_)
  · refine r_i2l rfl ?_
    refine q_last rfl rfl (by omega) (by omega) rfl ?_
    refine r_goto rfl ?_
    refine r_push rfl ?_
    refine q_iret rfl rfl rfl ?_
    exact hQ_ok hf rfl g1 g2
  · rcases e with _ | _ | _ | e
    · cases hE
      refine ⟨_, rfl, ?_⟩
      refine r_nstore rfl ?_
      refine r_push rfl ?_
      refine q_iret rfl rfl rfl ?_
      exact hQ_ex hf rfl (by omega) g1
    · cases hE
      refine ⟨_, rfl, ?_⟩
      refine r_nstore rfl ?_
      refine r_push rfl ?_
      refine q_iret rfl rfl rfl ?_
      exact hQ_ex hf rfl (by omega) g1
    · cases hE
    · cases hE

theorem s_107 {d : Nat} {Z : wZ} {Lg : Nat → Nat → Int64} {N : Nat} {X : Nat → Int32} {z : rd_Z} (hc : cR z Z) (hz : rd_ok z) (hB : zB z) {i : Int} (hi : iB i) : am_T am_tabs am_ar (d + 4) 107 [.ref 0, .int (iI i), .ref 53] (mW Z Lg N X) (hQ (f_at z i) Z N X) := by
  refine ⟨⟨rfl, rfl⟩, ?_⟩
  show am_X (am_tb op_107) _ _ _
  refine r_aload rfl rfl ?_
  refine r_push rfl ?_
  refine r_aload rfl rfl ?_
  refine r_iload rfl rfl ?_
  refine r_hq1 rfl rfl rfl rfl rfl (s_13 hc hz hB hi) (fun hf Z1 g1 g2 => ?_) (fun e E hf hE g1 => ?_)
  · refine r_i2l rfl ?_
    refine q_last rfl rfl (by omega) (by omega) rfl ?_
    refine r_goto rfl ?_
    refine r_push rfl ?_
    refine q_iret rfl rfl rfl ?_
    exact hQ_ok hf rfl g1 g2
  · rcases e with _ | _ | _ | e
    · cases hE
      refine ⟨_, rfl, ?_⟩
      refine r_nstore rfl ?_
      refine r_push rfl ?_
      refine q_iret rfl rfl rfl ?_
      exact hQ_ex hf rfl (by omega) g1
    · cases hE
    · cases hE
    · cases hE

theorem s_108 {d : Nat} {Z : wZ} {Lg : Nat → Nat → Int64} {N : Nat} {X : Nat → Int32} {z : rd_Z} (hc : cR z Z) (hz : rd_ok z) (hB : zB z) {m : Int} (hm : iB m) : am_T am_tabs am_ar (d + 5) 108 [.ref 0, .int (iI m), .ref 53] (mW Z Lg N X) (hQ (f_pla z m) Z N X) := by
  refine ⟨⟨rfl, rfl⟩, ?_⟩
  show am_X (am_tb op_108) _ _ _
  refine r_aload rfl rfl ?_
  refine r_push rfl ?_
  refine r_aload rfl rfl ?_
  refine r_iload rfl rfl ?_
  refine r_hq1 rfl rfl rfl rfl rfl (s_14 hc hz hB hm) (fun hf Z1 g1 g2 => ?_) (fun e E hf hE g1 => ?_)
  · refine r_i2l rfl ?_
    refine q_last rfl rfl (by omega) (by omega) rfl ?_
    refine r_goto rfl ?_
    refine r_push rfl ?_
    refine q_iret rfl rfl rfl ?_
    exact hQ_ok hf rfl g1 g2
  · rcases e with _ | _ | _ | e
    · cases hE
      refine ⟨_, rfl, ?_⟩
      refine r_nstore rfl ?_
      refine r_push rfl ?_
      refine q_iret rfl rfl rfl ?_
      exact hQ_ex hf rfl (by omega) g1
    · cases hE
    · cases hE
    · cases hE

theorem s_109 {d : Nat} {Z : wZ} {Lg : Nat → Nat → Int64} {N : Nat} {X : Nat → Int32} {z : rd_Z} (hc : cR z Z) (hz : rd_ok z) (hB : zB z) {m : Int} (hm : iB m) : am_T am_tabs am_ar (d + 8) 109 [.ref 0, .int (iI m), .ref 53] (mW Z Lg N X) (hQ (f_sla z m) Z N X) := by
  refine ⟨⟨rfl, rfl⟩, ?_⟩
  show am_X (am_tb op_109) _ _ _
  refine r_aload rfl rfl ?_
  refine r_push rfl ?_
  refine r_aload rfl rfl ?_
  refine r_iload rfl rfl ?_
  refine r_hq1 rfl rfl rfl rfl rfl (s_18 hc hz hB hm) (fun hf Z1 g1 g2 => ?_) (fun e E hf hE g1 => ?_)
  · refine r_i2l rfl ?_
    refine q_last rfl rfl (by omega) (by omega) rfl ?_
    refine r_goto rfl ?_
    refine r_push rfl ?_
    refine q_iret rfl rfl rfl ?_
    exact hQ_ok hf rfl g1 g2
  · rcases e with _ | _ | _ | e
    · cases hE
      refine ⟨_, rfl, ?_⟩
      refine r_nstore rfl ?_
      refine r_push rfl ?_
      refine q_iret rfl rfl rfl ?_
      exact hQ_ex hf rfl (by omega) g1
    · cases hE
      refine ⟨_, rfl, ?_⟩
      refine r_nstore rfl ?_
      refine r_push rfl ?_
      refine q_iret rfl rfl rfl ?_
      exact hQ_ex hf rfl (by omega) g1
    · cases hE
    · cases hE

theorem s_110 {d : Nat} {Z : wZ} {Lg : Nat → Nat → Int64} {N : Nat} {X : Nat → Int32} {z : rd_Z} (hc : cR z Z) (hz : rd_ok z) (hB : zB z) {k : Int} (hk : iB k) {t : Int} (ht : iB t) : am_T am_tabs am_ar (d + 4) 110 [.ref 0, .int (iI k), .int (iI t), .ref 53] (mW Z Lg N X) (hQ (f_cha z k t) Z N X) := by
  refine ⟨⟨rfl, rfl⟩, ?_⟩
  show am_X (am_tb op_110) _ _ _
  refine r_aload rfl rfl ?_
  refine r_push rfl ?_
  refine r_aload rfl rfl ?_
  refine r_iload rfl rfl ?_
  refine r_iload rfl rfl ?_
  refine r_hq2 rfl rfl rfl rfl rfl (s_20 hc hz hB hk ht) (fun hf Z1 g1 g2 => ?_) (fun e E hf hE g1 => ?_)
  · refine r_i2l rfl ?_
    refine q_last rfl rfl (by omega) (by omega) rfl ?_
    refine r_goto rfl ?_
    refine r_push rfl ?_
    refine q_iret rfl rfl rfl ?_
    exact hQ_ok hf rfl g1 g2
  · rcases e with _ | _ | _ | e
    · cases hE
      refine ⟨_, rfl, ?_⟩
      refine r_nstore rfl ?_
      refine r_push rfl ?_
      refine q_iret rfl rfl rfl ?_
      exact hQ_ex hf rfl (by omega) g1
    · cases hE
      refine ⟨_, rfl, ?_⟩
      refine r_nstore rfl ?_
      refine r_push rfl ?_
      refine q_iret rfl rfl rfl ?_
      exact hQ_ex hf rfl (by omega) g1
    · cases hE
    · cases hE

end LHE
