/-! rows for walks of the small machine, in whole numbers -/
section AMW
variable {tab : Nat → am_Sem} {C : am_C} {Q : am_Q} {pc nx tg a k n : Nat} {ls : List (Option Value)} {st : List Value} {w : am_W} {uc us : Nat} {x y v i : Int}
/-- a list of instructions by their places -/
def am_tb : List (Nat × am_Sem) → Nat → am_Sem
  | [], _ => am_halt
  | q :: l, pc => if q.1 = pc then q.2 else am_tb l pc
theorem am_tb_all {P : Nat → am_Sem → Prop} (h0 : ∀ pc, P pc am_halt) : ∀ (l : List (Nat × am_Sem)), (∀ q ∈ l, P q.1 q.2) → ∀ pc, P pc (am_tb l pc)
  | [], _, pc => h0 pc
  | q :: l, h, pc => by
    unfold am_tb
    split
    · rename_i e
      rw [← e]
      exact h q List.mem_cons_self
    · exact am_tb_all h0 l (fun r hr => h r (List.mem_cons_of_mem _ hr)) pc
/-- a comparison, of whole numbers -/
def am_cI (c : Nat) (x y : Int) : Prop := match c with
  | 0 => x = y
  | 1 => ¬ x = y
  | 2 => x < y
  | 3 => y ≤ x
  | 4 => y < x
  | _ => x ≤ y
theorem am_cond_iff {c : Nat} (hx : iB x) (hy : iB y) : am_cond c (iI x) (iI y) ↔ am_cI c x y := by
  match c with
  | 0 => exact iI_eq hx hy
  | 1 => exact not_congr (iI_eq hx hy)
  | 2 => exact iI_lt hx hy
  | 3 => exact iI_le hy hx
  | 4 => exact iI_lt hy hx
  | _ + 5 => exact iI_le hx hy
theorem iI_0 : (0 : Int32) = iI 0 := by decide
theorem iB0 : iB 0 := ⟨by omega, by omega⟩
theorem r_push {u : Int32} (ht : tab pc = am_push nx u) (kk : am_X tab C Q (nx, ls, .int u :: st, w, uc, us)) : am_X tab C Q (pc, ls, st, w, uc, us) := am_go ht kk
theorem r_lpush {u : Int64} (ht : tab pc = am_lpush nx u) (kk : am_X tab C Q (nx, ls, .long u :: st, w, uc, us)) : am_X tab C Q (pc, ls, st, w, uc, us) := am_go ht kk
theorem r_iload {u : Int32} (ht : tab pc = am_iload nx a) (hl : ls[a]? = some (some (.int u))) (kk : am_X tab C Q (nx, ls, .int u :: st, w, uc, us)) : am_X tab C Q (pc, ls, st, w, uc, us) := am_go ht ⟨u, hl, kk⟩
theorem r_aload (ht : tab pc = am_aload nx a) (hl : ls[a]? = some (some (.ref k))) (kk : am_X tab C Q (nx, ls, .ref k :: st, w, uc, us)) : am_X tab C Q (pc, ls, st, w, uc, us) := am_go ht ⟨_, hl, Or.inl ⟨k, rfl⟩, kk⟩
theorem r_scload (ht : tab pc = am_aload nx a) (hl : ls[a]? = some (some (.retAddr k))) (kk : am_X tab C Q (nx, ls, .retAddr k :: st, w, uc, us)) : am_X tab C Q (pc, ls, st, w, uc, us) := am_go ht ⟨_, hl, Or.inr ⟨k, rfl⟩, kk⟩
theorem r_istore {u : Int32} (ht : tab pc = am_istore nx a) (kk : am_X tab C Q (nx, am_set ls a (.int u), st, w, uc, us)) : am_X tab C Q (pc, ls, .int u :: st, w, uc, us) := am_go ht ⟨u, st, rfl, kk⟩
theorem r_astore (ht : tab pc = am_astore nx a) (kk : am_X tab C Q (nx, am_set ls a (.ref k), st, w, uc, us)) : am_X tab C Q (pc, ls, .ref k :: st, w, uc, us) := am_go ht ⟨_, st, rfl, Or.inl ⟨k, rfl⟩, kk⟩
theorem r_nstore (ht : tab pc = am_astore nx a) (kk : am_X tab C Q (nx, am_set ls a .null, st, w, uc, us)) : am_X tab C Q (pc, ls, .null :: st, w, uc, us) := am_go ht ⟨_, st, rfl, Or.inr rfl, kk⟩
theorem r_iinc (ht : tab pc = am_iinc nx a (iI v)) (hl : ls[a]? = some (some (.int (iI x)))) (kk : am_X tab C Q (nx, am_set ls a (.int (iI (x + v))), st, w, uc, us)) : am_X tab C Q (pc, ls, st, w, uc, us) := am_go ht ⟨iI x, hl, by rw [iI_add]; exact kk⟩
theorem r_iadd (ht : tab pc = am_iadd nx) (kk : am_X tab C Q (nx, ls, .int (iI (x + y)) :: st, w, uc, us)) : am_X tab C Q (pc, ls, .int (iI y) :: .int (iI x) :: st, w, uc, us) := am_go ht ⟨iI x, iI y, st, rfl, by rw [iI_add]; exact kk⟩
theorem r_isub (ht : tab pc = am_isub nx) (kk : am_X tab C Q (nx, ls, .int (iI (x - y)) :: st, w, uc, us)) : am_X tab C Q (pc, ls, .int (iI y) :: .int (iI x) :: st, w, uc, us) := am_go ht ⟨iI x, iI y, st, rfl, by rw [iI_sub]; exact kk⟩
theorem r_imul (ht : tab pc = am_imul nx) (kk : am_X tab C Q (nx, ls, .int (iI (x * y)) :: st, w, uc, us)) : am_X tab C Q (pc, ls, .int (iI y) :: .int (iI x) :: st, w, uc, us) := am_go ht ⟨iI x, iI y, st, rfl, by rw [iI_mul]; exact kk⟩
theorem r_ineg (ht : tab pc = am_ineg nx) (kk : am_X tab C Q (nx, ls, .int (iI (-x)) :: st, w, uc, us)) : am_X tab C Q (pc, ls, .int (iI x) :: st, w, uc, us) := am_go ht ⟨iI x, st, rfl, by rw [iI_neg]; exact kk⟩
theorem r_if {c : Nat} (ht : tab pc = am_if nx tg c) (hx : iB x) (kt : am_cI c x 0 → am_X tab C Q (tg, ls, st, w, uc, us)) (kf : ¬ am_cI c x 0 → am_X tab C Q (nx, ls, st, w, uc, us)) : am_X tab C Q (pc, ls, .int (iI x) :: st, w, uc, us) :=
  am_go ht ⟨iI x, st, rfl, fun h => kt ((am_cond_iff hx iB0).mp h), fun h => kf (fun q => h ((am_cond_iff hx iB0).mpr q))⟩
theorem r_icmp {c : Nat} (ht : tab pc = am_icmp nx tg c) (hx : iB x) (hy : iB y) (kt : am_cI c x y → am_X tab C Q (tg, ls, st, w, uc, us)) (kf : ¬ am_cI c x y → am_X tab C Q (nx, ls, st, w, uc, us)) : am_X tab C Q (pc, ls, .int (iI y) :: .int (iI x) :: st, w, uc, us) :=
  am_go ht ⟨iI x, iI y, st, rfl, fun h => kt ((am_cond_iff hx hy).mp h), fun h => kf (fun q => h ((am_cond_iff hx hy).mpr q))⟩
theorem r_goto (ht : tab pc = am_goto tg) (kk : am_X tab C Q (tg, ls, st, w, uc, us)) : am_X tab C Q (pc, ls, st, w, uc, us) := am_go ht kk
theorem r_iald {q : List Nat} (ht : tab pc = am_iald nx) (hc : w.1[k]? = some (0, n, q)) (h0 : 0 ≤ i) (h1 : i < n) (hn : n ≤ 1000) (hv : w.2.1 k i.toNat = iI v) (kk : am_X tab C Q (nx, ls, .int (iI v) :: st, w, uc, us)) : am_X tab C Q (pc, ls, .int (iI i) :: .ref k :: st, w, uc, us) :=
  am_go ht ⟨iI i, k, st, n, q, rfl, hc, iI_in h0 h1 (by omega), by rw [iI_cl ⟨by omega, by omega⟩, hv]; exact kk⟩
theorem r_zald {q : List Nat} (ht : tab pc = am_zald nx) (hc : w.1[k]? = some (1, n, q)) (h0 : 0 ≤ i) (h1 : i < n) (hn : n ≤ 1000) (hv : w.2.1 k i.toNat = iI v) (kk : am_X tab C Q (nx, ls, .int (iI v) :: st, w, uc, us)) : am_X tab C Q (pc, ls, .int (iI i) :: .ref k :: st, w, uc, us) :=
  am_go ht ⟨iI i, k, st, n, q, rfl, hc, iI_in h0 h1 (by omega), by rw [iI_cl ⟨by omega, by omega⟩, hv]; exact kk⟩
theorem r_aald {q : List Nat} {z : Nat} (ht : tab pc = am_aald nx) (hc : w.1[k]? = some (3, n, q)) (h0 : 0 ≤ i) (h1 : i < n) (hn : n ≤ 1000) (hv : q[i.toNat]? = some z) (kk : am_X tab C Q (nx, ls, .ref z :: st, w, uc, us)) : am_X tab C Q (pc, ls, .int (iI i) :: .ref k :: st, w, uc, us) :=
  am_go ht ⟨iI i, k, st, n, q, z, rfl, hc, iI_in h0 h1 (by omega), by rw [iI_cl ⟨by omega, by omega⟩]; exact hv, kk⟩
theorem r_lald {q : List Nat} {g : Int64} (ht : tab pc = am_lald nx) (hc : w.1[k]? = some (2, n, q)) (h0 : 0 ≤ i) (h1 : i < n) (hn : n ≤ 1000) (hv : w.2.2.1 k i.toNat = g) (kk : am_X tab C Q (nx, ls, .long g :: st, w, uc, us)) : am_X tab C Q (pc, ls, .int (iI i) :: .ref k :: st, w, uc, us) :=
  am_go ht ⟨iI i, k, st, n, q, rfl, hc, iI_in h0 h1 (by omega), by rw [iI_cl ⟨by omega, by omega⟩, hv]; exact kk⟩
theorem r_iast {q : List Nat} {u : Int32} (ht : tab pc = am_iast nx) (hc : w.1[k]? = some (0, n, q)) (h0 : 0 ≤ i) (h1 : i < n) (hn : n ≤ 1000) (kk : am_X tab C Q (nx, ls, st, (w.1, am_u2 w.2.1 k i.toNat u, w.2.2), uc, us)) : am_X tab C Q (pc, ls, .int u :: .int (iI i) :: .ref k :: st, w, uc, us) :=
  am_go ht ⟨u, iI i, k, st, n, q, rfl, hc, iI_in h0 h1 (by omega), by rw [iI_cl ⟨by omega, by omega⟩]; exact kk⟩
theorem r_zast {q : List Nat} {u : Int32} (ht : tab pc = am_zast nx) (hc : w.1[k]? = some (1, n, q)) (h0 : 0 ≤ i) (h1 : i < n) (hn : n ≤ 1000) (hu : u = 0 ∨ u = 1) (kk : am_X tab C Q (nx, ls, st, (w.1, am_u2 w.2.1 k i.toNat u, w.2.2), uc, us)) : am_X tab C Q (pc, ls, .int u :: .int (iI i) :: .ref k :: st, w, uc, us) :=
  am_go ht ⟨u, iI i, k, st, n, q, rfl, hc, iI_in h0 h1 (by omega), hu, by rw [iI_cl ⟨by omega, by omega⟩]; exact kk⟩
theorem r_last {q : List Nat} {u : Int64} (ht : tab pc = am_last nx) (hc : w.1[k]? = some (2, n, q)) (h0 : 0 ≤ i) (h1 : i < n) (hn : n ≤ 1000) (kk : am_X tab C Q (nx, ls, st, (w.1, w.2.1, am_u2 w.2.2.1 k i.toNat u, w.2.2.2), uc, us)) : am_X tab C Q (pc, ls, .long u :: .int (iI i) :: .ref k :: st, w, uc, us) :=
  am_go ht ⟨u, iI i, k, st, n, q, rfl, hc, iI_in h0 h1 (by omega), by rw [iI_cl ⟨by omega, by omega⟩]; exact kk⟩
theorem r_lcmp {g h : Int64} (ht : tab pc = am_lcmp nx) (kk : am_X tab C Q (nx, ls, .int (lg_cmp g h) :: st, w, uc, us)) : am_X tab C Q (pc, ls, .long h :: .long g :: st, w, uc, us) := am_go ht ⟨g, h, st, rfl, kk⟩
theorem r_i2l {u : Int32} (ht : tab pc = am_i2l nx) (kk : am_X tab C Q (nx, ls, .long u.toInt64 :: st, w, uc, us)) : am_X tab C Q (pc, ls, .int u :: st, w, uc, us) := am_go ht ⟨u, st, rfl, kk⟩
theorem r_dup {u : Int32} (ht : tab pc = am_dup nx) (kk : am_X tab C Q (nx, ls, .int u :: .int u :: st, w, uc, us)) : am_X tab C Q (pc, ls, .int u :: st, w, uc, us) := am_go ht ⟨_, st, rfl, Or.inl ⟨u, rfl⟩, kk⟩
theorem r_dupr (ht : tab pc = am_dup nx) (kk : am_X tab C Q (nx, ls, .ref k :: .ref k :: st, w, uc, us)) : am_X tab C Q (pc, ls, .ref k :: st, w, uc, us) := am_go ht ⟨_, st, rfl, Or.inr ⟨k, rfl⟩, kk⟩
theorem r_pop {u : Int32} (ht : tab pc = am_pop nx) (kk : am_X tab C Q (nx, ls, st, w, uc, us)) : am_X tab C Q (pc, ls, .int u :: st, w, uc, us) := am_go ht ⟨u, st, rfl, kk⟩
theorem r_alen {q : List Nat} (ht : tab pc = am_alen nx) (hc : w.1[k]? = some (0, n, q)) (kk : am_X tab C Q (nx, ls, .int (iI n) :: st, w, uc, us)) : am_X tab C Q (pc, ls, .ref k :: st, w, uc, us) := am_go ht ⟨k, st, n, q, rfl, hc, by rw [iI_nat]; exact kk⟩
theorem r_slen (ht : tab pc = am_slen nx) (kk : am_X tab C Q (nx, ls, .int (iI w.2.2.2.1) :: st, w, uc, us)) : am_X tab C Q (pc, ls, .retAddr k :: st, w, uc, us) := am_go ht ⟨k, st, rfl, by rw [iI_nat]; exact kk⟩
theorem r_sald (ht : tab pc = am_sald nx) (h0 : 0 ≤ i) (h1 : i < w.2.2.2.1) (hn : w.2.2.2.1 ≤ 100000) (kk : am_X tab C Q (nx, ls, .int (w.2.2.2.2 i.toNat) :: st, w, uc, us)) : am_X tab C Q (pc, ls, .int (iI i) :: .retAddr k :: st, w, uc, us) :=
  am_go ht ⟨iI i, k, st, rfl, iI_in h0 h1 (by omega), by rw [iI_cl ⟨by omega, by omega⟩]; exact kk⟩
theorem r_geti {ci j : Nat} {q : List Nat} (ht : tab pc = am_geti nx ci j) (hc : w.1[k]? = some (ci + 4, n, q)) (hq : q[j]? = some 0) (hv : w.2.1 k j = iI v) (kk : am_X tab C Q (nx, ls, .int (iI v) :: st, w, uc, us)) : am_X tab C Q (pc, ls, .ref k :: st, w, uc, us) :=
  am_go ht ⟨k, st, n, q, rfl, hc, hq, by rw [hv]; exact kk⟩
theorem r_getr {ci j z : Nat} {q : List Nat} (ht : tab pc = am_getr nx ci j) (hc : w.1[k]? = some (ci + 4, n, q)) (hq : q[j]? = some (z + 2)) (kk : am_X tab C Q (nx, ls, .ref z :: st, w, uc, us)) : am_X tab C Q (pc, ls, .ref k :: st, w, uc, us) :=
  am_go ht ⟨k, st, n, q, z, rfl, hc, hq, kk⟩
theorem r_puti {ci j : Nat} {q : List Nat} {u : Int32} (ht : tab pc = am_puti nx ci j) (hc : w.1[k]? = some (ci + 4, n, q)) (hq : q[j]? = some 0) (kk : am_X tab C Q (nx, ls, st, (w.1, am_u2 w.2.1 k j u, w.2.2), uc, us)) : am_X tab C Q (pc, ls, .int u :: .ref k :: st, w, uc, us) :=
  am_go ht ⟨u, k, st, n, q, rfl, hc, hq, kk⟩
theorem r_max {mc ms : Nat} (ht : tab pc = am_max nx mc ms) (hr : (st.map fun v => v.category).sum ≤ 8) (h1 : uc ≤ mc) (h2 : us ≤ ms) (hx : iB x) (hy : iB y) (kk : am_X tab C Q (nx, ls, .int (iI (max x y)) :: st, w, uc, us)) : am_X tab C Q (pc, ls, .int (iI y) :: .int (iI x) :: st, w, uc, us) := by
  refine am_go ht ⟨iI x, iI y, st, rfl, hr, h1, h2, ?_⟩
  have e : (if iI x < iI y then iI y else iI x) = iI (max x y) := by
    by_cases h : x < y
    · rw [if_pos ((iI_lt hx hy).mpr h)]; congr 1; omega
    · rw [if_neg (fun q => h ((iI_lt hx hy).mp q))]; congr 1; omega
  rw [e]
  exact kk
theorem r_abs {mc ms : Nat} (ht : tab pc = am_abs nx mc ms) (hr : (st.map fun v => v.category).sum ≤ 8) (h1 : uc ≤ mc) (h2 : us ≤ ms) (hx : iB x) (kk : am_X tab C Q (nx, ls, .int (iI (max x (-x))) :: st, w, uc, us)) : am_X tab C Q (pc, ls, .int (iI x) :: st, w, uc, us) := by
  refine am_go ht ⟨iI x, st, rfl, hr, h1, h2, ?_⟩
  have e : (if 0 ≤ iI x then iI x else 0 - iI x) = iI (max x (-x)) := by
    rw [iI_0]
    by_cases h : 0 ≤ x
    · rw [if_pos ((iI_le iB0 hx).mpr h)]; congr 1; omega
    · rw [if_neg (fun q => h ((iI_le iB0 hx).mp q)), iI_sub]; congr 1; omega
  rw [e]
  exact kk
/-- an answer -/
def am_ret (u : Int32) (w : am_W) : am_Q := fun o w' => o = .inl (some (.int u)) ∧ w' = w
theorem r_iret {mc ms : Nat} {u : Int32} (ht : tab pc = am_iret mc ms) (h1 : uc ≤ mc) (h2 : us ≤ ms) (hq : Q (.inl (some (.int u))) w) : am_X tab C Q (pc, ls, [.int u], w, uc, us) := am_go ht ⟨u, rfl, h1, h2, hq⟩
theorem r_zret {mc ms : Nat} {u : Int32} (ht : tab pc = am_zret mc ms) (h1 : uc ≤ mc) (h2 : us ≤ ms) (h01 : u = 0 ∨ u = 1) (hq : Q (.inl (some (.int u))) w) : am_X tab C Q (pc, ls, [.int u], w, uc, us) := am_go ht ⟨u, rfl, h1, h2, h01, hq⟩
theorem r_vret {mc ms : Nat} (ht : tab pc = am_vret mc ms) (h1 : uc ≤ mc) (h2 : us ≤ ms) (hq : Q (.inl none) w) : am_X tab C Q (pc, ls, [], w, uc, us) := am_go ht ⟨rfl, h1, h2, hq⟩
theorem r_throw {E mc ms : Nat} (ht : tab pc = am_throw E mc ms) (hr : (st.map fun v => v.category).sum ≤ 8) (h1 : uc + 1 ≤ mc) (h2 : us + 6 ≤ ms) (hq : Q (.inr E) w) : am_X tab C Q (pc, ls, st, w, uc, us) := am_go ht ⟨hr, h1, h2, hq⟩
/-- a call -/
theorem r_call {mj na jc js mc ms : Nat} {as r : List Value} {Q' : am_Q} (ht : tab pc = am_inv nx mj na jc js mc ms) (hst : st = as.reverse ++ r) (hn : as.length = na) (hr : (r.map fun v => v.category).sum ≤ 8) (h1 : uc + jc ≤ mc) (h2 : us + js ≤ ms) (hc : C mj as w Q')
    (kk : ∀ v w', Q' (.inl v) w' → am_X tab C Q (nx, ls, v.toList ++ r, w', uc + jc, us + js)) (kx : ∀ E w', ¬ Q' (.inr E) w') : am_X tab C Q (pc, ls, st, w, uc, us) := am_go ht ⟨as, r, Q', hst, hn, hr, h1, h2, hc, kk, kx⟩
theorem r_callV {mj na ci jc js mc ms : Nat} {q : List Nat} {as r : List Value} {Q' : am_Q} (ht : tab pc = am_invV nx mj na ci jc js mc ms) (hst : st = as.reverse ++ .ref k :: r) (hn : as.length = na) (hk : w.1[k]? = some (ci + 4, n, q)) (hr : (r.map fun v => v.category).sum ≤ 8) (h1 : uc + jc ≤ mc) (h2 : us + js ≤ ms) (hc : C mj (.ref k :: as) w Q')
    (kk : ∀ v w', Q' (.inl v) w' → am_X tab C Q (nx, ls, v.toList ++ r, w', uc + jc, us + js)) (kx : ∀ E w', ¬ Q' (.inr E) w') : am_X tab C Q (pc, ls, st, w, uc, us) := am_go ht ⟨k, n, q, as, r, Q', hst, hn, hk, hr, h1, h2, hc, kk, kx⟩
/-- .. that returns a number -/
theorem r_calli {mj na jc js mc ms : Nat} {as r : List Value} {u : Int32} {w1 : am_W} (ht : tab pc = am_inv nx mj na jc js mc ms) (hst : st = as.reverse ++ r) (hn : as.length = na) (hr : (r.map fun v => v.category).sum ≤ 8) (h1 : uc + jc ≤ mc) (h2 : us + js ≤ ms) (hc : C mj as w (am_ret u w1))
    (kk : am_X tab C Q (nx, ls, .int u :: r, w1, uc + jc, us + js)) : am_X tab C Q (pc, ls, st, w, uc, us) := by
  refine r_call ht hst hn hr h1 h2 hc (fun v w' h => ?_) (fun E w' h => ?_)
  · obtain ⟨h3, h4⟩ := h
    cases h3
    subst h4
    exact kk
  · obtain ⟨h3, -⟩ := h
    cases h3
theorem r_callVi {mj na ci jc js mc ms : Nat} {q : List Nat} {as r : List Value} {u : Int32} {w1 : am_W} (ht : tab pc = am_invV nx mj na ci jc js mc ms) (hst : st = as.reverse ++ .ref k :: r) (hn : as.length = na) (hk : w.1[k]? = some (ci + 4, n, q)) (hr : (r.map fun v => v.category).sum ≤ 8) (h1 : uc + jc ≤ mc) (h2 : us + js ≤ ms) (hc : C mj (.ref k :: as) w (am_ret u w1))
    (kk : am_X tab C Q (nx, ls, .int u :: r, w1, uc + jc, us + js)) : am_X tab C Q (pc, ls, st, w, uc, us) := by
  refine r_callV ht hst hn hk hr h1 h2 hc (fun v w' h => ?_) (fun E w' h => ?_)
  · obtain ⟨h3, h4⟩ := h
    cases h3
    subst h4
    exact kk
  · obtain ⟨h3, -⟩ := h
    cases h3
theorem r_callX {mj na ci jc js mc ms : Nat} {q : List Nat} {as r : List Value} {Q' : am_Q} (ht : tab pc = am_invX nx mj na ci jc js mc ms) (hst : st = as.reverse ++ .ref k :: r) (hn : as.length = na) (hk : w.1[k]? = some (ci + 4, n, q)) (hr : (r.map fun v => v.category).sum ≤ 8) (h1 : uc + jc ≤ mc) (h2 : us + js ≤ ms) (hc : C mj (.ref k :: as) w Q')
    (kk : ∀ v w', Q' (.inl v) w' → am_X tab C Q (nx, ls, v.toList ++ r, w', uc + jc, us + js)) (kx : ∀ E w', Q' (.inr E) w' → Q (.inr E) w') : am_X tab C Q (pc, ls, st, w, uc, us) := am_go ht ⟨k, n, q, as, r, Q', hst, hn, hk, hr, h1, h2, hc, kk, kx⟩
theorem r_callH {mj na ci jc js mc ms : Nat} {hh : List (Nat × Nat)} {q : List Nat} {as r : List Value} {Q' : am_Q} (ht : tab pc = am_invH nx mj na ci jc js mc ms hh) (hst : st = as.reverse ++ .ref k :: r) (hn : as.length = na) (hk : w.1[k]? = some (ci + 4, n, q)) (hr : (r.map fun v => v.category).sum ≤ 8) (h1 : uc + jc ≤ mc) (h2 : us + js ≤ ms) (hc : C mj (.ref k :: as) w Q')
    (kk : ∀ v w', Q' (.inl v) w' → am_X tab C Q (nx, ls, v.toList ++ r, w', uc + jc, us + js)) (kx : ∀ E w', Q' (.inr E) w' → ∃ h, am_hand E hh = some h ∧ am_X tab C Q (h, ls, [.null], w', uc + jc, us + js)) : am_X tab C Q (pc, ls, st, w, uc, us) := am_go ht ⟨k, n, q, as, r, Q', hst, hn, hk, hr, h1, h2, hc, kk, kx⟩
end AMW
