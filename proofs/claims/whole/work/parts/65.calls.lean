/-! what each call answers, and what it makes of the desk's state: 0 and a value, or the number of its refusal -/
section OPS
def f_gap (z : rd_Z) (a b s : Int) : Int × Int × rd_Z := if 0 ≤ a ∧ a ≤ 5 ∧ 0 ≤ b ∧ b ≤ 5 ∧ 45 ≤ s ∧ s ≤ 300 then (0, z 7 (6 * a.toNat + b.toNat), uZ z 7 (6 * a.toNat + b.toNat) s) else (1, 0, z)
def z_add (z : rd_Z) (m : Nat) (t e g l w : Int) : rd_Z := uZ (uZ (uZ (uZ (uZ (uZ (uZ z 0 m 1) 1 m t) 2 m e) 3 m g) 4 m l) 5 m w) 6 m (-1)
def f_add (z : rd_Z) (t e g l w : Int) : Int × Int × rd_Z := if 0 ≤ t ∧ t ≤ 5 ∧ 0 ≤ e ∧ e ≤ g ∧ g ≤ l ∧ l ≤ 3000 ∧ 0 ≤ w ∧ w ≤ 100 then (match rd_fst (fun m => !rd_th z m) 7 with
  | none => (2, 0, z)
  | some m => (0, m, z_add z m t e g l w)) else (1, 0, z)
def z_rem (z : rd_Z) (m : Nat) : rd_Z := uZ (uZ (uZ z 0 m 0) 11 m (-1)) 12 m (-1)
def f_rem (z : rd_Z) (m : Int) : Int × Int × rd_Z := if 0 ≤ m ∧ m < 7 ∧ rd_th z m.toNat = true then (0, rd_n (z_rem z m.toNat), z_rem z m.toNat) else (1, 0, z)
def f_ret (z : rd_Z) (m t : Int) : Int × Int × rd_Z := if 0 ≤ m ∧ m < 7 ∧ rd_th z m.toNat = true then (if z 2 m.toNat ≤ t ∧ t ≤ z 4 m.toNat then (0, z 3 m.toNat, uZ z 3 m.toNat t) else (2, 0, z)) else (1, 0, z)
def f_lim (z : rd_Z) (p : Int) : Int × Int × rd_Z := if 0 ≤ p ∧ p ≤ 6 then (0, z 10 1, uZ z 10 1 p) else (1, 0, z)
def f_clo (z : rd_Z) (a b : Int) : Int × Int × rd_Z := if 0 ≤ a ∧ a ≤ b ∧ b ≤ 3000 then (if z 10 0 < 4 then (0, z 10 0 + 1, uZ (uZ (uZ z 8 (rd_nc z) a) 9 (rd_nc z) b) 10 0 (z 10 0 + 1)) else (2, 0, z)) else (1, 0, z)
def f_reo (z : rd_Z) : Int × Int × rd_Z := (0, z 10 0, uZ z 10 0 0)
noncomputable def f_fre (z : rd_Z) (m s : Int) : Int × Int × rd_Z := if 0 ≤ m ∧ m < 7 ∧ rd_th z m.toNat = true then (if z 2 m.toNat ≤ s ∧ s ≤ z 4 m.toNat then (if rd_cl z s = true then (3, 0, z) else @ite _ (∃ o, o < 7 ∧ rd_nf z m.toNat s o) (Classical.propDecidable _) (3, 0, z) (0, 0, uZ z 6 m.toNat s)) else (2, 0, z)) else (1, 0, z)
def f_tha (z : rd_Z) (m : Int) : Int × Int × rd_Z := if 0 ≤ m ∧ m < 7 ∧ rd_th z m.toNat = true then (0, if z 6 m.toNat ≠ -1 then 1 else 0, uZ z 6 m.toNat (-1)) else (1, 0, z)
/-- the plan of an order -/
def z_pln (z : rd_Z) (p : rd_P) : rd_Z := fun f j => if f = 11 then (if j < 7 then (rd_lk j p).getD (-1) else z f j) else z f j
def f_sol (z : rd_Z) : Int × Int × rd_Z := match rd_best z with
  | none => (0, -1, z)
  | some a => (0, a.1, z_pln z a.2)
def f_wha (z : rd_Z) (m t : Int) : Int × Int × rd_Z := if 0 ≤ m ∧ m < 7 ∧ rd_th z m.toNat = true then (if z 2 m.toNat ≤ t ∧ t ≤ z 4 m.toNat then (0, bI (uZ z 3 m.toNat t), z) else (2, 0, z)) else (1, 0, z)
def f_sec (z : rd_Z) (m : Int) : Int × Int × rd_Z := if 0 ≤ m ∧ m < 7 ∧ rd_th z m.toNat = true then (if z 11 m.toNat = -1 then (2, 0, z) else (0, z 11 m.toNat, z)) else (1, 0, z)
def p_at (z : rd_Z) (i : Int) (m : Nat) : Bool := decide (z 11 m ≠ -1) && decide ((rd_pi (z 11) m : Int) = i)
def f_at (z : rd_Z) (i : Int) : Int × Int × rd_Z := match rd_fst (p_at z i) 7 with
  | none => (1, 0, z)
  | some m => (0, m, z)
def f_pla (z : rd_Z) (m : Int) : Int × Int × rd_Z := if 0 ≤ m ∧ m < 7 ∧ rd_th z m.toNat = true then (0, rd_pl z m.toNat, z) else (1, 0, z)
def f_ver (z : rd_Z) : Int × Int × rd_Z := (0, oI (rd_lu z (z 11)), z)
def f_fir (z : rd_Z) : Int × Int × rd_Z := (0, rd_fcv z, z)
def f_bou (z : rd_Z) : Int × Int × rd_Z := (0, rd_rdl z (rd_row z []), z)
def f_sla (z : rd_Z) (m : Int) : Int × Int × rd_Z := if 0 ≤ m ∧ m < 7 ∧ rd_th z m.toNat = true then (if rd_lu z (z 11) = none then (0, (rd_gr z (z 11) m.toNat (z 4 m.toNat - z 11 m.toNat).toNat : Nat), z) else (2, 0, z)) else (1, 0, z)
def p_chg (z : rd_Z) (m : Nat) : Bool := decide (z 12 m ≠ z 11 m)
def z_acc (z : rd_Z) : rd_Z := fun f j => if f = 12 then (if j < 7 then z 11 j else z f j) else z f j
def f_acc (z : rd_Z) : Int × Int × rd_Z := (0, (rd_cnt (p_chg z) 7 : Nat), z_acc z)
def p_kth (z : rd_Z) (k : Int) (m : Nat) : Bool := p_chg z m && decide ((rd_cnt (p_chg z) m : Int) = k)
def f_cha (z : rd_Z) (k t : Int) : Int × Int × rd_Z := match rd_fst (p_kth z k) 7 with
  | none => (1, 0, z)
  | some m => if t = 0 then (0, m, z) else if t = 1 then (0, z 12 m, z) else if t = 2 then (0, z 11 m, z) else (2, 0, z)
/-- the reference's cells are as they were -/
def mF (Z Z' : wZ) : Prop := ∀ k j, 34 ≤ k → Z' k j = Z k j
theorem mF_r (Z : wZ) : mF Z Z := fun _ _ _ => rfl
theorem mF_u {Z Z' : wZ} (h : mF Z Z') {k j : Nat} {v : Int} (hk : k < 34) : mF Z (uZ Z' k j v) := fun a b q => (uZ_ne (by omega) b).trans (h a b q)
/-- the desk's answer; ex: which exception belongs to which number -/
def dQ (f : Int × Int × rd_Z) (ex : List Nat) (Z : wZ) (Lg : Nat → Nat → Int64) (N : Nat) (X : Nat → Int32) : am_Q := fun o w1 =>
  (f.1 = 0 ∧ ∃ Z1, o = .inl (some (.int (iI f.2.1))) ∧ w1 = mW Z1 Lg N X ∧ cR f.2.2 Z1 ∧ mF Z Z1) ∨ ∃ (e E : Nat), f.1 = (e : Int) + 1 ∧ ex[e]? = some E ∧ o = .inr E ∧ w1 = mW Z Lg N X ∧ cR f.2.2 Z
def dV (f : Int × Int × rd_Z) (ex : List Nat) (Z : wZ) (Lg : Nat → Nat → Int64) (N : Nat) (X : Nat → Int32) : am_Q := fun o w1 =>
  (f.1 = 0 ∧ ∃ Z1, o = .inl none ∧ w1 = mW Z1 Lg N X ∧ cR f.2.2 Z1 ∧ mF Z Z1) ∨ ∃ (e E : Nat), f.1 = (e : Int) + 1 ∧ ex[e]? = some E ∧ o = .inr E ∧ w1 = mW Z Lg N X ∧ cR f.2.2 Z
theorem dQ_ok {f : Int × Int × rd_Z} {ex : List Nat} {Z Z1 : wZ} {Lg : Nat → Nat → Int64} {N : Nat} {X : Nat → Int32} {v u : Int} {z1 : rd_Z} (hf : f = (0, u, z1)) (hv : v = u) (hc : cR z1 Z1) (hm : mF Z Z1) : dQ f ex Z Lg N X (.inl (some (.int (iI v)))) (mW Z1 Lg N X) := by
  subst hf hv
  exact Or.inl ⟨rfl, Z1, rfl, rfl, hc, hm⟩
theorem dV_ok {f : Int × Int × rd_Z} {ex : List Nat} {Z Z1 : wZ} {Lg : Nat → Nat → Int64} {N : Nat} {X : Nat → Int32} {u : Int} {z1 : rd_Z} (hf : f = (0, u, z1)) (hc : cR z1 Z1) (hm : mF Z Z1) : dV f ex Z Lg N X (.inl none) (mW Z1 Lg N X) := by
  subst hf
  exact Or.inl ⟨rfl, Z1, rfl, rfl, hc, hm⟩
theorem dQ_ex {f : Int × Int × rd_Z} {ex : List Nat} {Z : wZ} {Lg : Nat → Nat → Int64} {N : Nat} {X : Nat → Int32} {z1 : rd_Z} {x : Int} (e : Nat) {E : Nat} (hf : f = (x, 0, z1)) (hx : x = (e : Int) + 1) (hE : ex[e]? = some E) (hc : cR z1 Z) : dQ f ex Z Lg N X (.inr E) (mW Z Lg N X) := by
  subst hf
  exact Or.inr ⟨e, E, hx, hE, rfl, rfl, hc⟩
theorem dV_ex {f : Int × Int × rd_Z} {ex : List Nat} {Z : wZ} {Lg : Nat → Nat → Int64} {N : Nat} {X : Nat → Int32} {z1 : rd_Z} {x : Int} (e : Nat) {E : Nat} (hf : f = (x, 0, z1)) (hx : x = (e : Int) + 1) (hE : ex[e]? = some E) (hc : cR z1 Z) : dV f ex Z Lg N X (.inr E) (mW Z Lg N X) := by
  subst hf
  exact Or.inr ⟨e, E, hx, hE, rfl, rfl, hc⟩
/-- cR, with the count on its own -/
def cRn (c : Int) (z : rd_Z) (Z : wZ) : Prop :=
  (∀ j, Z 2 j = z 0 j) ∧ (∀ j, Z 3 j = z 1 j) ∧ (∀ j, Z 4 j = z 2 j) ∧ (∀ j, Z 5 j = z 3 j) ∧ (∀ j, Z 6 j = z 4 j) ∧ (∀ j, Z 7 j = z 5 j) ∧ (∀ j, Z 8 j = z 6 j) ∧
  (∀ a b, a < 6 → b < 6 → Z (10 + a) b = z 7 (6 * a + b)) ∧ (∀ j, Z 16 j = z 8 j) ∧ (∀ j, Z 17 j = z 9 j) ∧ Z 1 7 = c ∧ Z 1 11 = z 10 0 ∧ Z 1 12 = z 10 1 ∧ (∀ j, Z 31 j = z 11 j) ∧ (∀ j, Z 32 j = z 12 j)
theorem cR_n {z : rd_Z} {Z : wZ} (h : cR z Z) : cRn (rd_n z) z Z := h
theorem cR_m {c : Int} {z : rd_Z} {Z : wZ} (h : cRn c z Z) (e : c = rd_n z) : cR z Z := by subst e; exact h
theorem ugap {Z : wZ} {k j : Nat} {v : Int} {a b : Nat} (h : 10 + a ≠ k) : uZ Z k j v (10 + a) b = Z (10 + a) b := uZ_ne h b

theorem cu_0 {c : Int} {z : rd_Z} {Z : wZ} (h : cRn c z Z) (j : Nat) (v : Int) : cRn c (uZ z 0 j v) (uZ Z 2 j v) := by
  obtain ⟨h0, h1, h2, h3, h4, h5, h6, h7, h8, h9, h10, h11, h12, h13, h14⟩ := h
  exact ⟨fun i => by show (if 2 = 2 then (if i = j then v else Z 2 i) else Z 2 i) = (if 0 = 0 then (if i = j then v else z 0 i) else z 0 i); rw [h0 i]; rfl, h1, h2, h3, h4, h5, h6, fun a b ha hb => (uZ_ne (by omega) b).trans (h7 a b ha hb), h8, h9, h10, h11, h12, h13, h14⟩
theorem cu_1 {c : Int} {z : rd_Z} {Z : wZ} (h : cRn c z Z) (j : Nat) (v : Int) : cRn c (uZ z 1 j v) (uZ Z 3 j v) := by
  obtain ⟨h0, h1, h2, h3, h4, h5, h6, h7, h8, h9, h10, h11, h12, h13, h14⟩ := h
  exact ⟨h0, fun i => by show (if 3 = 3 then (if i = j then v else Z 3 i) else Z 3 i) = (if 1 = 1 then (if i = j then v else z 1 i) else z 1 i); rw [h1 i]; rfl, h2, h3, h4, h5, h6, fun a b ha hb => (uZ_ne (by omega) b).trans (h7 a b ha hb), h8, h9, h10, h11, h12, h13, h14⟩
theorem cu_2 {c : Int} {z : rd_Z} {Z : wZ} (h : cRn c z Z) (j : Nat) (v : Int) : cRn c (uZ z 2 j v) (uZ Z 4 j v) := by
  obtain ⟨h0, h1, h2, h3, h4, h5, h6, h7, h8, h9, h10, h11, h12, h13, h14⟩ := h
  exact ⟨h0, h1, fun i => by show (if 4 = 4 then (if i = j then v else Z 4 i) else Z 4 i) = (if 2 = 2 then (if i = j then v else z 2 i) else z 2 i); rw [h2 i]; rfl, h3, h4, h5, h6, fun a b ha hb => (uZ_ne (by omega) b).trans (h7 a b ha hb), h8, h9, h10, h11, h12, h13, h14⟩
theorem cu_3 {c : Int} {z : rd_Z} {Z : wZ} (h : cRn c z Z) (j : Nat) (v : Int) : cRn c (uZ z 3 j v) (uZ Z 5 j v) := by
  obtain ⟨h0, h1, h2, h3, h4, h5, h6, h7, h8, h9, h10, h11, h12, h13, h14⟩ := h
  exact ⟨h0, h1, h2, fun i => by show (if 5 = 5 then (if i = j then v else Z 5 i) else Z 5 i) = (if 3 = 3 then (if i = j then v else z 3 i) else z 3 i); rw [h3 i]; rfl, h4, h5, h6, fun a b ha hb => (uZ_ne (by omega) b).trans (h7 a b ha hb), h8, h9, h10, h11, h12, h13, h14⟩
theorem cu_4 {c : Int} {z : rd_Z} {Z : wZ} (h : cRn c z Z) (j : Nat) (v : Int) : cRn c (uZ z 4 j v) (uZ Z 6 j v) := by
  obtain ⟨h0, h1, h2, h3, h4, h5, h6, h7, h8, h9, h10, h11, h12, h13, h14⟩ := h
  exact ⟨h0, h1, h2, h3, fun i => by show (if 6 = 6 then (if i = j then v else Z 6 i) else Z 6 i) = (if 4 = 4 then (if i = j then v else z 4 i) else z 4 i); rw [h4 i]; rfl, h5, h6, fun a b ha hb => (uZ_ne (by omega) b).trans (h7 a b ha hb), h8, h9, h10, h11, h12, h13, h14⟩
theorem cu_5 {c : Int} {z : rd_Z} {Z : wZ} (h : cRn c z Z) (j : Nat) (v : Int) : cRn c (uZ z 5 j v) (uZ Z 7 j v) := by
  obtain ⟨h0, h1, h2, h3, h4, h5, h6, h7, h8, h9, h10, h11, h12, h13, h14⟩ := h
  exact ⟨h0, h1, h2, h3, h4, fun i => by show (if 7 = 7 then (if i = j then v else Z 7 i) else Z 7 i) = (if 5 = 5 then (if i = j then v else z 5 i) else z 5 i); rw [h5 i]; rfl, h6, fun a b ha hb => (uZ_ne (by omega) b).trans (h7 a b ha hb), h8, h9, h10, h11, h12, h13, h14⟩
theorem cu_6 {c : Int} {z : rd_Z} {Z : wZ} (h : cRn c z Z) (j : Nat) (v : Int) : cRn c (uZ z 6 j v) (uZ Z 8 j v) := by
  obtain ⟨h0, h1, h2, h3, h4, h5, h6, h7, h8, h9, h10, h11, h12, h13, h14⟩ := h
  exact ⟨h0, h1, h2, h3, h4, h5, fun i => by show (if 8 = 8 then (if i = j then v else Z 8 i) else Z 8 i) = (if 6 = 6 then (if i = j then v else z 6 i) else z 6 i); rw [h6 i]; rfl, fun a b ha hb => (uZ_ne (by omega) b).trans (h7 a b ha hb), h8, h9, h10, h11, h12, h13, h14⟩
theorem cu_8 {c : Int} {z : rd_Z} {Z : wZ} (h : cRn c z Z) (j : Nat) (v : Int) : cRn c (uZ z 8 j v) (uZ Z 16 j v) := by
  obtain ⟨h0, h1, h2, h3, h4, h5, h6, h7, h8, h9, h10, h11, h12, h13, h14⟩ := h
  exact ⟨h0, h1, h2, h3, h4, h5, h6, fun a b ha hb => (uZ_ne (by omega) b).trans (h7 a b ha hb), fun i => by show (if 16 = 16 then (if i = j then v else Z 16 i) else Z 16 i) = (if 8 = 8 then (if i = j then v else z 8 i) else z 8 i); rw [h8 i]; rfl, h9, h10, h11, h12, h13, h14⟩
theorem cu_9 {c : Int} {z : rd_Z} {Z : wZ} (h : cRn c z Z) (j : Nat) (v : Int) : cRn c (uZ z 9 j v) (uZ Z 17 j v) := by
  obtain ⟨h0, h1, h2, h3, h4, h5, h6, h7, h8, h9, h10, h11, h12, h13, h14⟩ := h
  exact ⟨h0, h1, h2, h3, h4, h5, h6, fun a b ha hb => (uZ_ne (by omega) b).trans (h7 a b ha hb), h8, fun i => by show (if 17 = 17 then (if i = j then v else Z 17 i) else Z 17 i) = (if 9 = 9 then (if i = j then v else z 9 i) else z 9 i); rw [h9 i]; rfl, h10, h11, h12, h13, h14⟩
theorem cu_11 {c : Int} {z : rd_Z} {Z : wZ} (h : cRn c z Z) (j : Nat) (v : Int) : cRn c (uZ z 11 j v) (uZ Z 31 j v) := by
  obtain ⟨h0, h1, h2, h3, h4, h5, h6, h7, h8, h9, h10, h11, h12, h13, h14⟩ := h
  exact ⟨h0, h1, h2, h3, h4, h5, h6, fun a b ha hb => (uZ_ne (by omega) b).trans (h7 a b ha hb), h8, h9, h10, h11, h12, fun i => by show (if 31 = 31 then (if i = j then v else Z 31 i) else Z 31 i) = (if 11 = 11 then (if i = j then v else z 11 i) else z 11 i); rw [h13 i]; rfl, h14⟩
theorem cu_12 {c : Int} {z : rd_Z} {Z : wZ} (h : cRn c z Z) (j : Nat) (v : Int) : cRn c (uZ z 12 j v) (uZ Z 32 j v) := by
  obtain ⟨h0, h1, h2, h3, h4, h5, h6, h7, h8, h9, h10, h11, h12, h13, h14⟩ := h
  exact ⟨h0, h1, h2, h3, h4, h5, h6, fun a b ha hb => (uZ_ne (by omega) b).trans (h7 a b ha hb), h8, h9, h10, h11, h12, h13, fun i => by show (if 32 = 32 then (if i = j then v else Z 32 i) else Z 32 i) = (if 12 = 12 then (if i = j then v else z 12 i) else z 12 i); rw [h14 i]; rfl⟩
theorem cu_n {c c' : Int} {z : rd_Z} {Z : wZ} (h : cRn c z Z) : cRn c' z (uZ Z 1 7 c') := by
  obtain ⟨h0, h1, h2, h3, h4, h5, h6, h7, h8, h9, h10, h11, h12, h13, h14⟩ := h
  exact ⟨h0, h1, h2, h3, h4, h5, h6, fun a b ha hb => (uZ_ne (by omega) b).trans (h7 a b ha hb), h8, h9, rfl, h11, h12, h13, h14⟩
theorem cu_c {c : Int} {z : rd_Z} {Z : wZ} (h : cRn c z Z) (v : Int) : cRn c (uZ z 10 0 v) (uZ Z 1 11 v) := by
  obtain ⟨h0, h1, h2, h3, h4, h5, h6, h7, h8, h9, h10, h11, h12, h13, h14⟩ := h
  exact ⟨h0, h1, h2, h3, h4, h5, h6, fun a b ha hb => (uZ_ne (by omega) b).trans (h7 a b ha hb), h8, h9, h10, rfl, h12, h13, h14⟩
theorem cu_l {c : Int} {z : rd_Z} {Z : wZ} (h : cRn c z Z) (v : Int) : cRn c (uZ z 10 1 v) (uZ Z 1 12 v) := by
  obtain ⟨h0, h1, h2, h3, h4, h5, h6, h7, h8, h9, h10, h11, h12, h13, h14⟩ := h
  exact ⟨h0, h1, h2, h3, h4, h5, h6, fun a b ha hb => (uZ_ne (by omega) b).trans (h7 a b ha hb), h8, h9, h10, h11, rfl, h13, h14⟩
theorem cu_7 {c : Int} {z : rd_Z} {Z : wZ} (h : cRn c z Z) {a b : Nat} (ha : a < 6) (hb : b < 6) (v : Int) : cRn c (uZ z 7 (6 * a + b) v) (uZ Z (10 + a) b v) := by
  obtain ⟨h0, h1, h2, h3, h4, h5, h6, h7, h8, h9, h10, h11, h12, h13, h14⟩ := h
  refine ⟨fun j => ?_, fun j => ?_, fun j => ?_, fun j => ?_, fun j => ?_, fun j => ?_, fun j => ?_, fun a' b' ha' hb' => ?_, fun j => ?_, fun j => ?_, ?_, ?_, ?_, fun j => ?_, fun j => ?_⟩
  · exact (uZ_ne (by omega) j).trans (h0 j)
  · exact (uZ_ne (by omega) j).trans (h1 j)
  · exact (uZ_ne (by omega) j).trans (h2 j)
  · exact (uZ_ne (by omega) j).trans (h3 j)
  · exact (uZ_ne (by omega) j).trans (h4 j)
  · exact (uZ_ne (by omega) j).trans (h5 j)
  · exact (uZ_ne (by omega) j).trans (h6 j)
  · show uZ Z (10 + a) b v (10 + a') b' = (if 7 = 7 then (if 6 * a' + b' = 6 * a + b then v else z 7 (6 * a' + b')) else _)
    rw [if_pos rfl]
    by_cases e : a' = a
    · subst e
      by_cases e2 : b' = b
      · subst e2; rw [uZ_eq, if_pos rfl]
      · rw [uZ_nj _ e2, if_neg (by omega)]; exact h7 _ _ ha' hb'
    · rw [uZ_ne (by omega), if_neg (by omega)]; exact h7 _ _ ha' hb'
  · exact (uZ_ne (by omega) j).trans (h8 j)
  · exact (uZ_ne (by omega) j).trans (h9 j)
  · exact (uZ_ne (by omega) _).trans h10
  · exact (uZ_ne (by omega) _).trans h11
  · exact (uZ_ne (by omega) _).trans h12
  · exact (uZ_ne (by omega) j).trans (h13 j)
  · exact (uZ_ne (by omega) j).trans (h14 j)
/-- a call that returns nothing if p, and throws E if not -/
def am_rq (p : Prop) (E : Nat) (w : am_W) : am_Q := fun o w1 => w1 = w ∧ (p ∧ o = .inl none ∨ ¬ p ∧ o = .inr E)
section
variable {tab : Nat → am_Sem} {C : am_C} {Q : am_Q} {pc nx tg a k n : Nat} {ls : List (Option Value)} {st : List Value} {w : am_W} {uc us : Nat} {x y v i : Int}
theorem r_x1 {mj ci jc js mc ms E : Nat} {q : List Nat} {a1 : Value} {p : Prop} (ht : tab pc = am_invX nx mj 1 ci jc js mc ms) (hk : w.1[k]? = some (ci + 4, n, q)) (hr : Nat.ble (st.map fun v => v.category).sum 8 = true) (h1 : Nat.ble (uc + jc) mc = true) (h2 : Nat.ble (us + js) ms = true) (hc : C mj [.ref k, a1] w (am_rq p E w)) (kx : ¬ p → Q (.inr E) w) (kk : p → am_X tab C Q (nx, ls, st, w, uc + jc, us + js)) : am_X tab C Q (pc, ls, a1 :: .ref k :: st, w, uc, us) :=
  r_callX ht (as := [a1]) (r := st) rfl rfl hk (Nat.le_of_ble_eq_true hr) (Nat.le_of_ble_eq_true h1) (Nat.le_of_ble_eq_true h2) hc (fun v w' h => by obtain ⟨h3, ⟨h4, h5⟩ | ⟨h4, h5⟩⟩ := h; cases h5; subst h3; exact kk h4; cases h5) (fun E w' h => by obtain ⟨h3, ⟨h4, h5⟩ | ⟨h4, h5⟩⟩ := h; cases h5; subst h3; cases h5; exact kx h4)
theorem r_x2 {mj ci jc js mc ms E : Nat} {q : List Nat} {a1 a2 : Value} {p : Prop} (ht : tab pc = am_invX nx mj 2 ci jc js mc ms) (hk : w.1[k]? = some (ci + 4, n, q)) (hr : Nat.ble (st.map fun v => v.category).sum 8 = true) (h1 : Nat.ble (uc + jc) mc = true) (h2 : Nat.ble (us + js) ms = true) (hc : C mj [.ref k, a1, a2] w (am_rq p E w)) (kx : ¬ p → Q (.inr E) w) (kk : p → am_X tab C Q (nx, ls, st, w, uc + jc, us + js)) : am_X tab C Q (pc, ls, a2 :: a1 :: .ref k :: st, w, uc, us) :=
  r_callX ht (as := [a1, a2]) (r := st) rfl rfl hk (Nat.le_of_ble_eq_true hr) (Nat.le_of_ble_eq_true h1) (Nat.le_of_ble_eq_true h2) hc (fun v w' h => by obtain ⟨h3, ⟨h4, h5⟩ | ⟨h4, h5⟩⟩ := h; cases h5; subst h3; exact kk h4; cases h5) (fun E w' h => by obtain ⟨h3, ⟨h4, h5⟩ | ⟨h4, h5⟩⟩ := h; cases h5; subst h3; cases h5; exact kx h4)
end

theorem s_21 {d : Nat} {Z : wZ} {Lg : Nat → Nat → Int64} {N : Nat} {X : Nat → Int32} {z : rd_Z} (hc : cR z Z) (hz : rd_ok z) (hB : zB z) {m : Int} (hm : iB m) : am_T am_tabs am_ar (d + 3) 21 [.ref 0, .int (iI m)] (mW Z Lg N X) (am_rq (0 ≤ m ∧ m < 7 ∧ rd_th z m.toNat = true) 2 (mW Z Lg N X)) := by
  refine ⟨⟨rfl, rfl⟩, ?_⟩
  show am_X (am_tb op_21) _ _ _
  refine r_aload rfl rfl ?_
  refine q_getr rfl rfl rfl ?_
  refine r_iload rfl rfl ?_
  refine r_kb1 rfl rfl rfl rfl rfl (s_80 hc hz hB hm) (fun h5 => ?_) (fun h5 => ?_)
  · refine r_t1 rfl (by first | exact iB0 | exact iB1 | exact iBm | exact hB _ _ | exact hT _ (by omega) | exact ⟨by omega, by omega⟩) (by omega) ?_
    refine q_vret rfl rfl rfl ?_
    first | exact ⟨rfl, Or.inl ⟨h5, rfl⟩⟩ | exact ⟨rfl, Or.inr ⟨h5, rfl⟩⟩
  · refine r_f1 rfl (by first | exact iB0 | exact iB1 | exact iBm | exact hB _ _ | exact hT _ (by omega) | exact ⟨by omega, by omega⟩) (by omega) ?_
    refine q_throw rfl rfl rfl rfl ?_
    first | exact ⟨rfl, Or.inl ⟨h5, rfl⟩⟩ | exact ⟨rfl, Or.inr ⟨h5, rfl⟩⟩

theorem s_22 {d : Nat} {Z : wZ} {Lg : Nat → Nat → Int64} {N : Nat} {X : Nat → Int32} {z : rd_Z} (hc : cR z Z) (hz : rd_ok z) (hB : zB z) {m : Nat} (hm : m < 7) {s : Int} (hs : iB s) : am_T am_tabs am_ar (d + 3) 22 [.ref 0, .int (iI m), .int (iI s)] (mW Z Lg N X) (am_rq (z 2 m ≤ s ∧ s ≤ z 4 m) 0 (mW Z Lg N X)) := by
  refine ⟨⟨rfl, rfl⟩, ?_⟩
  show am_X (am_tb op_22) _ _ _
  refine r_aload rfl rfl ?_
  refine q_getr rfl rfl rfl ?_
  refine r_iload rfl rfl ?_
  refine r_iload rfl rfl ?_
  refine r_kb2 rfl rfl rfl rfl rfl (s_82 hc hz hB hm hs) (fun h6 => ?_) (fun h6 => ?_)
  · refine r_t1 rfl (by first | exact iB0 | exact iB1 | exact iBm | exact hB _ _ | exact hT _ (by omega) | exact ⟨by omega, by omega⟩) (by omega) ?_
    refine q_vret rfl rfl rfl ?_
    first | exact ⟨rfl, Or.inl ⟨h6, rfl⟩⟩ | exact ⟨rfl, Or.inr ⟨h6, rfl⟩⟩
  · refine r_f1 rfl (by first | exact iB0 | exact iB1 | exact iBm | exact hB _ _ | exact hT _ (by omega) | exact ⟨by omega, by omega⟩) (by omega) ?_
    refine q_throw rfl rfl rfl rfl ?_
    first | exact ⟨rfl, Or.inl ⟨h6, rfl⟩⟩ | exact ⟨rfl, Or.inr ⟨h6, rfl⟩⟩

theorem s_1 {d : Nat} {Z : wZ} {Lg : Nat → Nat → Int64} {N : Nat} {X : Nat → Int32} {z : rd_Z} (hc : cR z Z) (hz : rd_ok z) (hB : zB z) {a : Int} (ha : iB a) {b : Int} (hb : iB b) {s : Int} (hs : iB s) : am_T am_tabs am_ar (d + 3) 1 [.ref 0, .int (iI a), .int (iI b), .int (iI s)] (mW Z Lg N X) (dQ (f_gap z a b s) [0] Z Lg N X) := by
  refine ⟨⟨rfl, rfl⟩, ?_⟩
  show am_X (am_tb op_1) _ _ _
  refine r_iload rfl rfl ?_
  refine r_sb1 rfl rfl rfl rfl (s_28 ha) (fun h1 => ?_) (fun h1 => ?_)
  · refine r_f0 rfl (by first | exact iB0 | exact iB1 | exact iBm | exact hB _ _ | exact hT _ (by omega) | exact ⟨by omega, by omega⟩) (by omega) ?_
    refine r_iload rfl rfl ?_
    refine r_sb1 rfl rfl rfl rfl (s_28 hb) (fun h8 => ?_) (fun h8 => ?_)
    · refine r_f0 rfl (by first | exact iB0 | exact iB1 | exact iBm | exact hB _ _ | exact hT _ (by omega) | exact ⟨by omega, by omega⟩) (by omega) ?_
      refine r_iload rfl rfl ?_
      refine r_push rfl ?_
      refine r_push rfl ?_
      refine r_sb3 rfl rfl rfl rfl (s_27 hs ⟨by omega, by omega⟩ ⟨by omega, by omega⟩) (fun h20 => ?_) (fun h20 => ?_)
      · refine r_t1 rfl (by first | exact iB0 | exact iB1 | exact iBm | exact hB _ _ | exact hT _ (by omega) | exact ⟨by omega, by omega⟩) (by omega) ?_
        refine r_aload rfl rfl ?_
        refine q_getr rfl rfl rfl ?_
        refine q_getr rfl rfl rfl ?_
        refine r_iload rfl rfl ?_
        refine q_aald rfl rfl (by omega) (by omega) rfl (gq (by omega)) ?_
        refine r_iload rfl rfl ?_
        refine q_iald rfl (gs (by omega)) (by omega) (by omega) rfl (hc.2.2.2.2.2.2.2.1 a.toNat b.toNat (by omega) (by omega)) ?_
        refine r_istore rfl ?_
        refine r_aload rfl rfl ?_
        refine q_getr rfl rfl rfl ?_
        refine q_getr rfl rfl rfl ?_
        refine r_iload rfl rfl ?_
        refine q_aald rfl rfl (by omega) (by omega) rfl (gq (by omega)) ?_
        refine r_iload rfl rfl ?_
        refine r_iload rfl rfl ?_
        refine q_iast rfl (gs (by omega)) (by omega) (by omega) rfl ?_
        refine r_iload rfl rfl ?_
        refine q_iret rfl rfl rfl ?_
        exact dQ_ok (if_pos (by omega)) rfl (cu_7 (cR_n hc) (by omega) (by omega) s) (mF_u (mF_r Z) (by omega))
      · refine r_f1 rfl (by first | exact iB0 | exact iB1 | exact iBm | exact hB _ _ | exact hT _ (by omega) | exact ⟨by omega, by omega⟩) (by omega) ?_
        refine q_throw rfl rfl rfl rfl ?_
        exact dQ_ex 0 (if_neg (by omega)) rfl rfl hc
    · refine r_t0 rfl (by first | exact iB0 | exact iB1 | exact iBm | exact hB _ _ | exact hT _ (by omega) | exact ⟨by omega, by omega⟩) (by omega) ?_
      refine q_throw rfl rfl rfl rfl ?_
      exact dQ_ex 0 (if_neg (by omega)) rfl rfl hc
  · refine r_t0 rfl (by first | exact iB0 | exact iB1 | exact iBm | exact hB _ _ | exact hT _ (by omega) | exact ⟨by omega, by omega⟩) (by omega) ?_
    refine q_throw rfl rfl rfl rfl ?_
    exact dQ_ex 0 (if_neg (by omega)) rfl rfl hc

theorem s_4 {d : Nat} {Z : wZ} {Lg : Nat → Nat → Int64} {N : Nat} {X : Nat → Int32} {z : rd_Z} (hc : cR z Z) (hz : rd_ok z) (hB : zB z) {m : Int} (hm : iB m) {t : Int} (ht_ : iB t) : am_T am_tabs am_ar (d + 4) 4 [.ref 0, .int (iI m), .int (iI t)] (mW Z Lg N X) (dQ (f_ret z m t) [2, 0] Z Lg N X) := by
  refine ⟨⟨rfl, rfl⟩, ?_⟩
  show am_X (am_tb op_4) _ _ _
  refine r_aload rfl rfl ?_
  refine r_iload rfl rfl ?_
  refine r_x1 rfl rfl rfl rfl rfl (s_21 hc hz hB hm) (fun h2 => ?_) (fun h2 => ?_)
  · exact dQ_ex 0 (if_neg h2) rfl rfl hc
  obtain ⟨n, rfl⟩ : ∃ n : Nat, m = n := ⟨m.toNat, by omega⟩
  have hn : n < 7 := by omega
  have ht : rd_th z n = true := h2.2.2
  refine r_aload rfl rfl ?_
  refine r_iload rfl rfl ?_
  refine r_iload rfl rfl ?_
  refine r_x2 rfl rfl rfl rfl rfl (s_22 hc hz hB hn ht_) (fun h8 => ?_) (fun h8 => ?_)
  · exact dQ_ex 1 ((if_pos h2).trans (if_neg h8)) rfl rfl hc
  refine r_aload rfl rfl ?_
  refine q_getr rfl rfl rfl ?_
  refine q_getr rfl rfl rfl ?_
  refine r_iload rfl rfl ?_
  refine q_iald rfl rfl (by omega) (by omega) rfl (hc.2.2.2.1 n) ?_
  refine r_istore rfl ?_
  refine r_aload rfl rfl ?_
  refine q_getr rfl rfl rfl ?_
  refine q_getr rfl rfl rfl ?_
  refine r_iload rfl rfl ?_
  refine r_iload rfl rfl ?_
  refine q_iast rfl rfl (by omega) (by omega) rfl ?_
  refine r_iload rfl rfl ?_
  refine q_iret rfl rfl rfl ?_
  exact dQ_ok ((if_pos h2).trans (if_pos h8)) rfl (cu_3 (cR_n hc) n t) (mF_u (mF_r Z) (by omega))

theorem s_5 {d : Nat} {Z : wZ} {Lg : Nat → Nat → Int64} {N : Nat} {X : Nat → Int32} {z : rd_Z} (hc : cR z Z) (hz : rd_ok z) (hB : zB z) {p : Int} (hp : iB p) : am_T am_tabs am_ar (d + 2) 5 [.ref 0, .int (iI p)] (mW Z Lg N X) (dQ (f_lim z p) [0] Z Lg N X) := by
  refine ⟨⟨rfl, rfl⟩, ?_⟩
  show am_X (am_tb op_5) _ _ _
  refine r_iload rfl rfl ?_
  refine r_push rfl ?_
  refine r_push rfl ?_
  refine r_sb3 rfl rfl rfl rfl (s_27 hp iB0 ⟨by omega, by omega⟩) (fun h4 => ?_) (fun h4 => ?_)
  · refine r_t1 rfl (by first | exact iB0 | exact iB1 | exact iBm | exact hB _ _ | exact hT _ (by omega) | exact ⟨by omega, by omega⟩) (by omega) ?_
    refine r_aload rfl rfl ?_
    refine q_getr rfl rfl rfl ?_
    refine q_geti rfl rfl rfl hc.2.2.2.2.2.2.2.2.2.2.2.2.1 ?_
    refine r_istore rfl ?_
    refine r_aload rfl rfl ?_
    refine q_getr rfl rfl rfl ?_
    refine r_iload rfl rfl ?_
    refine q_puti rfl rfl rfl ?_
    refine r_iload rfl rfl ?_
    refine q_iret rfl rfl rfl ?_
    exact dQ_ok (if_pos h4) rfl (cu_l (cR_n hc) p) (mF_u (mF_r Z) (by omega))
  · refine r_f1 rfl (by first | exact iB0 | exact iB1 | exact iBm | exact hB _ _ | exact hT _ (by omega) | exact ⟨by omega, by omega⟩) (by omega) ?_
    refine q_throw rfl rfl rfl rfl ?_
    exact dQ_ex 0 (if_neg h4) rfl rfl hc

theorem s_6 {d : Nat} {Z : wZ} {Lg : Nat → Nat → Int64} {N : Nat} {X : Nat → Int32} {z : rd_Z} (hc : cR z Z) (hz : rd_ok z) (hB : zB z) {a : Int} (ha : iB a) {b : Int} (hb : iB b) : am_T am_tabs am_ar (d + 1) 6 [.ref 0, .int (iI a), .int (iI b)] (mW Z Lg N X) (dQ (f_clo z a b) [0, 1] Z Lg N X) := by
  refine ⟨⟨rfl, rfl⟩, ?_⟩
  show am_X (am_tb op_6) _ _ _
  have hnc := ok_nc hz
  refine r_iload rfl rfl ?_
  refine r_z2 rfl ha (fun h1 => ?_) (fun h1 => ?_)
  · refine q_throw rfl rfl rfl rfl ?_
    exact dQ_ex 0 (if_neg (by omega)) rfl rfl hc
  · refine r_iload rfl rfl ?_
    refine r_push rfl ?_
    refine r_c4 rfl hb ⟨by omega, by omega⟩ (fun h8 => ?_) (fun h8 => ?_)
    · refine q_throw rfl rfl rfl rfl ?_
      exact dQ_ex 0 (if_neg (by omega)) rfl rfl hc
    · refine r_iload rfl rfl ?_
      refine r_iload rfl rfl ?_
      refine r_c5 rfl ha hb (fun h13 => ?_) (fun h13 => ?_)
      · refine r_aload rfl rfl ?_
        refine q_getr rfl rfl rfl ?_
        refine q_geti rfl rfl rfl hc.2.2.2.2.2.2.2.2.2.2.2.1 ?_
        refine r_push rfl ?_
        refine r_c2 rfl (by first | exact iB0 | exact iB1 | exact iBm | exact hB _ _ | exact hT _ (by omega) | exact ⟨by omega, by omega⟩) (by first | exact iB0 | exact iB1 | exact iBm | exact hB _ _ | exact hT _ (by omega) | exact ⟨by omega, by omega⟩) (fun h32 => ?_) (fun h32 => ?_)
        · refine r_aload rfl rfl ?_
          refine q_getr rfl rfl rfl ?_
          refine q_getr rfl rfl rfl ?_
          refine r_aload rfl rfl ?_
          refine q_getr rfl rfl rfl ?_
          refine q_geti rfl rfl rfl hc.2.2.2.2.2.2.2.2.2.2.2.1 ?_
          refine r_iload rfl rfl ?_
          refine q_iast rfl rfl (by omega) (by omega) rfl ?_
          refine r_aload rfl rfl ?_
          refine q_getr rfl rfl rfl ?_
          refine q_getr rfl rfl rfl ?_
          refine r_aload rfl rfl ?_
          refine q_getr rfl rfl rfl ?_
          refine q_geti rfl rfl rfl ((uZ_ne (by omega) _).trans hc.2.2.2.2.2.2.2.2.2.2.2.1) ?_
          refine r_iload rfl rfl ?_
          refine q_iast rfl rfl (by omega) (by omega) rfl ?_
          refine r_aload rfl rfl ?_
          refine q_getr rfl rfl rfl ?_
          refine r_dupr rfl ?_
          refine q_geti rfl rfl rfl ((uZ_ne (by omega) _).trans ((uZ_ne (by omega) _).trans hc.2.2.2.2.2.2.2.2.2.2.2.1)) ?_
          refine r_push rfl ?_
          refine r_iadd rfl ?_
          refine q_puti rfl rfl rfl ?_
          refine r_aload rfl rfl ?_
          refine q_getr rfl rfl rfl ?_
          refine q_geti rfl rfl rfl (uZ_eq _ _ _ _) ?_
          refine q_iret rfl rfl rfl ?_
          exact dQ_ok ((if_pos (by omega)).trans (if_pos (by omega))) rfl (cu_c (cu_9 (cu_8 (cR_n hc) _ a) _ b) _) (mF_u (mF_u (mF_u (mF_r Z) (by omega)) (by omega)) (by omega))
        · refine q_throw rfl rfl rfl rfl ?_
          exact dQ_ex 1 ((if_pos (by omega)).trans (if_neg (by omega))) rfl rfl hc
      · refine q_throw rfl rfl rfl rfl ?_
        exact dQ_ex 0 (if_neg (by omega)) rfl rfl hc

theorem s_7 {d : Nat} {Z : wZ} {Lg : Nat → Nat → Int64} {N : Nat} {X : Nat → Int32} {z : rd_Z} (hc : cR z Z) (hz : rd_ok z) (hB : zB z)  : am_T am_tabs am_ar (d + 1) 7 [.ref 0] (mW Z Lg N X) (dQ (f_reo z) [] Z Lg N X) := by
  refine ⟨⟨rfl, rfl⟩, ?_⟩
  show am_X (am_tb op_7) _ _ _
  refine r_aload rfl rfl ?_
  refine q_getr rfl rfl rfl ?_
  refine q_geti rfl rfl rfl hc.2.2.2.2.2.2.2.2.2.2.2.1 ?_
  refine r_istore rfl ?_
  refine r_aload rfl rfl ?_
  refine q_getr rfl rfl rfl ?_
  refine r_push rfl ?_
  refine q_puti rfl rfl rfl ?_
  refine r_iload rfl rfl ?_
  refine q_iret rfl rfl rfl ?_
  exact dQ_ok rfl rfl (cu_c (cR_n hc) 0) (mF_u (mF_r Z) (by omega))

theorem s_12 {d : Nat} {Z : wZ} {Lg : Nat → Nat → Int64} {N : Nat} {X : Nat → Int32} {z : rd_Z} (hc : cR z Z) (hz : rd_ok z) (hB : zB z) {m : Int} (hm : iB m) : am_T am_tabs am_ar (d + 4) 12 [.ref 0, .int (iI m)] (mW Z Lg N X) (dQ (f_sec z m) [2, 1] Z Lg N X) := by
  refine ⟨⟨rfl, rfl⟩, ?_⟩
  show am_X (am_tb op_12) _ _ _
  refine r_aload rfl rfl ?_
  refine r_iload rfl rfl ?_
  refine r_x1 rfl rfl rfl rfl rfl (s_21 hc hz hB hm) (fun h2 => ?_) (fun h2 => ?_)
  · exact dQ_ex 0 (if_neg h2) rfl rfl hc
  obtain ⟨n, rfl⟩ : ∃ n : Nat, m = n := ⟨m.toNat, by omega⟩
  have hn : n < 7 := by omega
  have ht : rd_th z n = true := h2.2.2
  refine r_aload rfl rfl ?_
  refine q_getr rfl rfl rfl ?_
  refine r_iload rfl rfl ?_
  refine q_iald rfl rfl (by omega) (by omega) rfl (hc.2.2.2.2.2.2.2.2.2.2.2.2.2.1 n) ?_
  refine r_push rfl ?_
  refine r_c1 rfl (by first | exact iB0 | exact iB1 | exact iBm | exact hB _ _ | exact hT _ (by omega) | exact ⟨by omega, by omega⟩) (by first | exact iB0 | exact iB1 | exact iBm | exact hB _ _ | exact hT _ (by omega) | exact ⟨by omega, by omega⟩) (fun h12 => ?_) (fun h12 => ?_)
  · refine r_aload rfl rfl ?_
    refine q_getr rfl rfl rfl ?_
    refine r_iload rfl rfl ?_
    refine q_iald rfl rfl (by omega) (by omega) rfl (hc.2.2.2.2.2.2.2.2.2.2.2.2.2.1 n) ?_
    refine q_iret rfl rfl rfl ?_
    exact dQ_ok ((if_pos h2).trans (if_neg h12)) rfl hc (mF_r Z)
  · refine q_throw rfl rfl rfl rfl ?_
    exact dQ_ex 1 ((if_pos h2).trans (if_pos h12)) rfl rfl hc

theorem s_14 {d : Nat} {Z : wZ} {Lg : Nat → Nat → Int64} {N : Nat} {X : Nat → Int32} {z : rd_Z} (hc : cR z Z) (hz : rd_ok z) (hB : zB z) {m : Int} (hm : iB m) : am_T am_tabs am_ar (d + 4) 14 [.ref 0, .int (iI m)] (mW Z Lg N X) (dQ (f_pla z m) [2] Z Lg N X) := by
  refine ⟨⟨rfl, rfl⟩, ?_⟩
  show am_X (am_tb op_14) _ _ _
  refine r_aload rfl rfl ?_
  refine r_iload rfl rfl ?_
  refine r_x1 rfl rfl rfl rfl rfl (s_21 hc hz hB hm) (fun h2 => ?_) (fun h2 => ?_)
  · exact dQ_ex 0 (if_neg h2) rfl rfl hc
  obtain ⟨n, rfl⟩ : ∃ n : Nat, m = n := ⟨m.toNat, by omega⟩
  have hn : n < 7 := by omega
  have ht : rd_th z n = true := h2.2.2
  refine r_aload rfl rfl ?_
  refine q_getr rfl rfl rfl ?_
  refine r_iload rfl rfl ?_
  refine r_ki1 rfl rfl rfl rfl rfl (s_86 hc hz hB hn) ?_
  refine q_iret rfl rfl rfl ?_
  exact dQ_ok (if_pos h2) rfl hc (mF_r Z)

theorem s_9 {d : Nat} {Z : wZ} {Lg : Nat → Nat → Int64} {N : Nat} {X : Nat → Int32} {z : rd_Z} (hc : cR z Z) (hz : rd_ok z) (hB : zB z) {m : Int} (hm : iB m) : am_T am_tabs am_ar (d + 4) 9 [.ref 0, .int (iI m)] (mW Z Lg N X) (dQ (f_tha z m) [2] Z Lg N X) := by
  refine ⟨⟨rfl, rfl⟩, ?_⟩
  show am_X (am_tb op_9) _ _ _
  refine r_aload rfl rfl ?_
  refine r_iload rfl rfl ?_
  refine r_x1 rfl rfl rfl rfl rfl (s_21 hc hz hB hm) (fun h2 => ?_) (fun h2 => ?_)
  · exact dQ_ex 0 (if_neg h2) rfl rfl hc
  obtain ⟨n, rfl⟩ : ∃ n : Nat, m = n := ⟨m.toNat, by omega⟩
  have hn : n < 7 := by omega
  have ht : rd_th z n = true := h2.2.2
  refine r_aload rfl rfl ?_
  refine q_getr rfl rfl rfl ?_
  refine r_iload rfl rfl ?_
  refine r_kb1 rfl rfl rfl rfl rfl (s_83 hc hz hB hn) (fun h10 => ?_) (fun h10 => ?_)
  · refine r_istore rfl ?_
    refine r_aload rfl rfl ?_
    refine q_getr rfl rfl rfl ?_
    refine q_getr rfl rfl rfl ?_
    refine r_iload rfl rfl ?_
    refine r_push rfl ?_
    refine q_iast rfl rfl (by omega) (by omega) rfl ?_
    refine r_iload rfl rfl ?_
    refine q_zret rfl rfl rfl (by omega) ?_
    first
    | exact dQ_ok (if_pos h2) (if_pos h10).symm (cu_6 (cR_n hc) n (-1)) (mF_u (mF_r Z) (by omega))
    | exact dQ_ok (if_pos h2) (if_neg h10).symm (cu_6 (cR_n hc) n (-1)) (mF_u (mF_r Z) (by omega))
  · refine r_istore rfl ?_
    refine r_aload rfl rfl ?_
    refine q_getr rfl rfl rfl ?_
    refine q_getr rfl rfl rfl ?_
    refine r_iload rfl rfl ?_
    refine r_push rfl ?_
    refine q_iast rfl rfl (by omega) (by omega) rfl ?_
    refine r_iload rfl rfl ?_
    refine q_zret rfl rfl rfl (by omega) ?_
    first
    | exact dQ_ok (if_pos h2) (if_pos h10).symm (cu_6 (cR_n hc) n (-1)) (mF_u (mF_r Z) (by omega))
    | exact dQ_ok (if_pos h2) (if_neg h10).symm (cu_6 (cR_n hc) n (-1)) (mF_u (mF_r Z) (by omega))

theorem s_8 {d : Nat} {Z : wZ} {Lg : Nat → Nat → Int64} {N : Nat} {X : Nat → Int32} {z : rd_Z} (hc : cR z Z) (hz : rd_ok z) (hB : zB z) {m : Int} (hm : iB m) {s : Int} (hs : iB s) : am_T am_tabs am_ar (d + 4) 8 [.ref 0, .int (iI m), .int (iI s)] (mW Z Lg N X) (dV (f_fre z m s) [2, 0, 1] Z Lg N X) := by
  refine ⟨⟨rfl, rfl⟩, ?_⟩
  show am_X (am_tb op_8) _ _ _
  refine r_aload rfl rfl ?_
  refine r_iload rfl rfl ?_
  refine r_x1 rfl rfl rfl rfl rfl (s_21 hc hz hB hm) (fun h2 => ?_) (fun h2 => ?_)
  · exact dV_ex 0 (if_neg h2) rfl rfl hc
  obtain ⟨n, rfl⟩ : ∃ n : Nat, m = n := ⟨m.toNat, by omega⟩
  have hn : n < 7 := by omega
  have ht : rd_th z n = true := h2.2.2
  have hrg := ok_rg hz hn
  refine r_aload rfl rfl ?_
  refine r_iload rfl rfl ?_
  refine r_iload rfl rfl ?_
  refine r_x2 rfl rfl rfl rfl rfl (s_22 hc hz hB hn hs) (fun h8 => ?_) (fun h8 => ?_)
  · exact dV_ex 1 ((if_pos h2).trans (if_neg h8)) rfl rfl hc
  refine r_aload rfl rfl ?_
  refine q_getr rfl rfl rfl ?_
  refine r_iload rfl rfl ?_
  refine r_kb1 rfl rfl rfl rfl rfl (s_88 hc hz hB hs) (fun h16 => ?_) (fun h16 => ?_)
  · refine r_t1 rfl (by first | exact iB0 | exact iB1 | exact iBm | exact hB _ _ | exact hT _ (by omega) | exact ⟨by omega, by omega⟩) (by omega) ?_
    refine q_throw rfl rfl rfl rfl ?_
    first
    | exact dV_ex 2 ((if_pos h2).trans ((if_pos h8).trans (if_pos h16))) rfl rfl hc
    | exact dV_ex 2 ((if_pos h2).trans ((if_pos h8).trans ((if_neg h16).trans (if_pos h28)))) rfl rfl hc
  · refine r_f1 rfl (by first | exact iB0 | exact iB1 | exact iBm | exact hB _ _ | exact hT _ (by omega) | exact ⟨by omega, by omega⟩) (by omega) ?_
    refine r_aload rfl rfl ?_
    refine q_getr rfl rfl rfl ?_
    refine r_iload rfl rfl ?_
    refine r_iload rfl rfl ?_
    refine r_kb2 rfl rfl rfl rfl rfl (s_92 hc hz hB hn ⟨by omega, by omega⟩) (fun h28 => ?_) (fun h28 => ?_)
    · refine r_f0 rfl (by first | exact iB0 | exact iB1 | exact iBm | exact hB _ _ | exact hT _ (by omega) | exact ⟨by omega, by omega⟩) (by omega) ?_
      refine q_throw rfl rfl rfl rfl ?_
      first
      | exact dV_ex 2 ((if_pos h2).trans ((if_pos h8).trans (if_pos h16))) rfl rfl hc
      | exact dV_ex 2 ((if_pos h2).trans ((if_pos h8).trans ((if_neg h16).trans (if_pos h28)))) rfl rfl hc
    · refine r_t0 rfl (by first | exact iB0 | exact iB1 | exact iBm | exact hB _ _ | exact hT _ (by omega) | exact ⟨by omega, by omega⟩) (by omega) ?_
      refine r_aload rfl rfl ?_
      refine q_getr rfl rfl rfl ?_
      refine q_getr rfl rfl rfl ?_
      refine r_iload rfl rfl ?_
      refine r_iload rfl rfl ?_
      refine q_iast rfl rfl (by omega) (by omega) rfl ?_
      refine q_vret rfl rfl rfl ?_
      exact dV_ok ((if_pos h2).trans ((if_pos h8).trans ((if_neg h16).trans (if_neg h28)))) (cu_6 (cR_n hc) n s) (mF_u (mF_r Z) (by omega))

end OPS
