/-! the constructors -/
section CON
set_option maxRecDepth 16384
/-- a world of any cells, its numbers as whole numbers -/
def wc (cs : List am_Cl) (Z : wZ) (Lg : Nat → Nat → Int64) (N : Nat) (X : Nat → Int32) : am_W := (cs, fun k j => iI (Z k j), Lg, N, X)
section
variable {tab : Nat → am_Sem} {C : am_C} {Q : am_Q} {pc nx tg a k n : Nat} {ls : List (Option Value)} {st : List Value} {w : am_W} {uc us : Nat} {x y v i : Int} {Z : wZ} {Lg : Nat → Nat → Int64} {N : Nat} {X : Nat → Int32} {cs : List am_Cl}
theorem wc_u (k j : Nat) (v : Int) : ((wc cs Z Lg N X).1, am_u2 (wc cs Z Lg N X).2.1 k j (iI v), (wc cs Z Lg N X).2.2) = wc cs (uZ Z k j v) Lg N X := by
  unfold wc
  refine congrArg (fun f => (cs, f, Lg, N, X)) ?_
  funext a b
  unfold am_u2 uZ
  split
  · split
    · rfl
    · rfl
  · rfl
theorem c_aald {q : List Nat} {c : Nat} (ht : tab pc = am_aald nx) (hc : cs[k]? = some (3, n, q)) (h0 : 0 ≤ i) (h1 : i < n) (hn : Nat.ble n 1000 = true) (hv : q[i.toNat]? = some c) (kk : am_X tab C Q (nx, ls, .ref c :: st, wc cs Z Lg N X, uc, us)) : am_X tab C Q (pc, ls, .int (iI i) :: .ref k :: st, wc cs Z Lg N X, uc, us) := r_aald ht hc h0 h1 (Nat.le_of_ble_eq_true hn) hv kk
theorem c_iast {q : List Nat} (ht : tab pc = am_iast nx) (hc : cs[k]? = some (0, n, q)) (h0 : 0 ≤ i) (h1 : i < n) (hn : Nat.ble n 1000 = true) (kk : am_X tab C Q (nx, ls, st, wc cs (uZ Z k i.toNat v) Lg N X, uc, us)) : am_X tab C Q (pc, ls, .int (iI v) :: .int (iI i) :: .ref k :: st, wc cs Z Lg N X, uc, us) := r_iast ht hc h0 h1 (Nat.le_of_ble_eq_true hn) (by rw [wc_u]; exact kk)
theorem c_getr {ci j c : Nat} {q : List Nat} (ht : tab pc = am_getr nx ci j) (hc : cs[k]? = some (ci + 4, n, q)) (hq : q[j]? = some (c + 2)) (kk : am_X tab C Q (nx, ls, .ref c :: st, wc cs Z Lg N X, uc, us)) : am_X tab C Q (pc, ls, .ref k :: st, wc cs Z Lg N X, uc, us) := r_getr ht hc hq kk
theorem c_puti {ci j : Nat} {q : List Nat} (ht : tab pc = am_puti nx ci j) (hc : cs[k]? = some (ci + 4, n, q)) (hq : q[j]? = some 0) (kk : am_X tab C Q (nx, ls, st, wc cs (uZ Z k j v) Lg N X, uc, us)) : am_X tab C Q (pc, ls, .int (iI v) :: .ref k :: st, wc cs Z Lg N X, uc, us) := r_puti ht hc hq (by rw [wc_u]; exact kk)
theorem c_oinit (ht : tab pc = am_oinit nx) (hr : Nat.ble (st.map fun v => v.category).sum 8 = true) (kk : am_X tab C Q (nx, ls, st, w, uc, us)) : am_X tab C Q (pc, ls, .ref k :: st, w, uc, us) := am_go ht ⟨k, st, rfl, Nat.le_of_ble_eq_true hr, kk⟩
theorem c_putr {ci j x : Nat} {q : List Nat} (ht : tab pc = am_putr nx ci j) (hc : cs[k]? = some (ci + 4, n, q)) (hq : q[j]? = some 1) (hx : Nat.blt x cs.length = true) (kk : am_X tab C Q (nx, ls, st, wc (cs.set k (ci + 4, n, q.set j (x + 2))) Z Lg N X, uc, us)) : am_X tab C Q (pc, ls, .ref x :: .ref k :: st, wc cs Z Lg N X, uc, us) :=
  am_go ht ⟨x, k, st, n, q, rfl, hc, hq, Nat.le_of_ble_eq_true (show Nat.ble (x + 1) cs.length = true from hx), kk⟩
theorem u1_zero (f : Nat → Nat → Int32) (k : Nat) (h : ∀ j, f k j = 0) : am_u1 f k (fun _ => 0) = f := by
  funext a b
  unfold am_u1
  split
  · rename_i e; rw [e, h b]
  · rfl
theorem u1_zeroL (f : Nat → Nat → Int64) (k : Nat) (h : ∀ j, f k j = 0) : am_u1 f k (fun _ => 0) = f := by
  funext a b
  unfold am_u1
  split
  · rename_i e; rw [e, h b]
  · rfl
theorem iI_00 : iI 0 = 0 := by decide
theorem c_new {ci m : Nat} {df : List Nat} {mc ms : Nat} (ht : tab pc = am_new nx ci df mc ms) (hn : cs.length = m) (h1 : Nat.ble (uc + 1) mc = true) (h2 : Nat.ble (us + df.length) ms = true) (h0 : ∀ a j, m ≤ a → Z a j = 0) (kk : am_X tab C Q (nx, ls, .ref m :: st, wc (cs ++ [(ci + 4, df.length, df)]) Z Lg N X, uc + 1, us + df.length)) : am_X tab C Q (pc, ls, st, wc cs Z Lg N X, uc, us) := by
  subst hn
  refine am_go ht ⟨Nat.le_of_ble_eq_true h1, Nat.le_of_ble_eq_true h2, ?_⟩
  have e : am_u1 (wc cs Z Lg N X).2.1 (wc cs Z Lg N X).1.length (fun _ => 0) = (wc cs Z Lg N X).2.1 := u1_zero _ _ (fun j => by show iI (Z cs.length j) = 0; rw [h0 _ j (Nat.le_refl _), iI_00])
  rw [e]
  exact kk
theorem c_newa {kd m p : Nat} {mc ms : Nat} (ht : tab pc = am_newa nx kd mc ms) (hn : cs.length = m) (hp : p ≤ 1000) (h1 : Nat.ble (uc + 1) mc = true) (h2 : Nat.ble (us + p) ms = true) (h0 : ∀ a j, m ≤ a → Z a j = 0) (hL : ∀ a j, Lg a j = 0) (kk : am_X tab C Q (nx, ls, .ref m :: st, wc (cs ++ [(kd, p, [])]) Z Lg N X, uc + 1, us + p)) : am_X tab C Q (pc, ls, .int (iI (p : Int)) :: st, wc cs Z Lg N X, uc, us) := by
  subst hn
  refine am_go ht ⟨p, st, by rw [iI_nat], hp, Nat.le_of_ble_eq_true h1, Nat.le_of_ble_eq_true h2, ?_⟩
  have e : am_u1 (wc cs Z Lg N X).2.1 (wc cs Z Lg N X).1.length (fun _ => 0) = (wc cs Z Lg N X).2.1 := u1_zero _ _ (fun j => by show iI (Z cs.length j) = 0; rw [h0 _ j (Nat.le_refl _), iI_00])
  have e2 : am_u1 (wc cs Z Lg N X).2.2.1 (wc cs Z Lg N X).1.length (fun _ => 0) = (wc cs Z Lg N X).2.2.1 := u1_zeroL _ _ (fun j => hL _ j)
  rw [e, e2]
  exact kk
theorem c_newa2 {kd m p : Nat} {mc ms : Nat} {cs' : List am_Cl} (ht : tab pc = am_newa nx kd mc ms) (hn : cs.length = m) (hp : p ≤ 1000) (h1 : Nat.ble (uc + 1) mc = true) (h2 : Nat.ble (us + p) ms = true) (h0 : ∀ a j, m ≤ a → Z a j = 0) (hL : ∀ a j, Lg a j = 0) (e : cs ++ [(kd, p, [])] = cs') (kk : am_X tab C Q (nx, ls, .ref m :: st, wc cs' Z Lg N X, uc + 1, us + p)) : am_X tab C Q (pc, ls, .int (iI (p : Int)) :: st, wc cs Z Lg N X, uc, us) := c_newa ht hn hp h1 h2 h0 hL (e ▸ kk)
theorem c_putr2 {ci j x : Nat} {q : List Nat} {cs' : List am_Cl} (ht : tab pc = am_putr nx ci j) (hc : cs[k]? = some (ci + 4, n, q)) (hq : q[j]? = some 1) (hx : Nat.blt x cs.length = true) (e : cs.set k (ci + 4, n, q.set j (x + 2)) = cs') (kk : am_X tab C Q (nx, ls, st, wc cs' Z Lg N X, uc, us)) : am_X tab C Q (pc, ls, .ref x :: .ref k :: st, wc cs Z Lg N X, uc, us) := c_putr ht hc hq hx (e ▸ kk)
theorem c_mna {m p q : Nat} {mc ms : Nat} (ht : tab pc = am_mna nx mc ms) (hn : cs.length = m) (hp : Nat.ble p 1000 = true) (hq : Nat.ble q 1000 = true) (h1 : Nat.ble (uc + 1 + p) mc = true) (h2 : Nat.ble (us + p + p * q) ms = true) (h0 : ∀ a j, m ≤ a → Z a j = 0) (kk : am_X tab C Q (nx, ls, .ref m :: st, wc (cs ++ (3, p, (List.range p).map (fun i => m + 1 + i)) :: List.replicate p (0, q, [])) Z Lg N X, uc + 1 + p, us + p + p * q)) : am_X tab C Q (pc, ls, .int (iI (q : Int)) :: .int (iI (p : Int)) :: st, wc cs Z Lg N X, uc, us) := by
  subst hn
  refine am_go ht ⟨p, q, st, by rw [iI_nat, iI_nat], Nat.le_of_ble_eq_true hp, Nat.le_of_ble_eq_true hq, Nat.le_of_ble_eq_true h1, Nat.le_of_ble_eq_true h2, ?_⟩
  have e : (fun a b => if (wc cs Z Lg N X).1.length ≤ a then 0 else (wc cs Z Lg N X).2.1 a b) = (wc cs Z Lg N X).2.1 := by
    funext a b
    split
    · rename_i h
      show 0 = iI (Z a b)
      rw [h0 a b h, iI_00]
    · rfl
  rw [e]
  exact kk
end

theorem s_112 {d : Nat} {Z : wZ} {Lg : Nat → Nat → Int64} {N : Nat} {X : Nat → Int32} {cs : List am_Cl} {k n : Nat} {v : Int} (hk : cs[k]? = some (0, n, [])) (hnb : Nat.ble n 1000 = true) : am_T am_tabs am_ar (d + 1) 112 [.ref k, .int (iI v)] (wc cs Z Lg N X) (am_vd (fun w1 => w1 = wc cs (flZ Z k n v) Lg N X)) := by
  refine ⟨⟨rfl, rfl⟩, ?_⟩
  show am_X (am_tb op_112) _ _ _
  have hn2 : n ≤ 1000 := Nat.le_of_ble_eq_true hnb
  refine r_push rfl ?_
  refine r_istore rfl ?_
  refine r_aload rfl rfl ?_
  refine r_alen rfl hk ?_
  refine r_istore rfl ?_
  refine am_X_of (σ := (5, [some (.ref k), some (.int (iI v)), some (.int (iI 0)), some (.int (iI (n : Int)))], [], wc cs (flZ Z k 0 v) Lg N X, 0, 0)) ?_ (by rw [flZ_0]; rfl)
  refine r_loop (fun o => (5, [some (.ref k), some (.int (iI v)), some (.int (iI o)), some (.int (iI (n : Int)))], [], wc cs (flZ Z k o v) Lg N X, 0, 0)) (fun _ => True) n trivial (fun o ho hi hn => ?_) (fun hi => ?_)
  · (try dsimp only at hn); (try dsimp only)
    refine r_iload rfl rfl ?_
    refine r_iload rfl rfl ?_
    refine r_c3 rfl (by first | exact iB0 | exact iB1 | exact iBm | exact hB _ _ | exact hT _ (by omega) | exact ⟨by omega, by omega⟩) (by first | exact iB0 | exact iB1 | exact iBm | exact hB _ _ | exact hT _ (by omega) | exact ⟨by omega, by omega⟩) (fun h7 => ?_) (fun h7 => ?_)
    · exfalso; omega
    · refine r_aload rfl rfl ?_
      refine r_iload rfl rfl ?_
      refine r_iload rfl rfl ?_
      refine c_iast rfl hk (by omega) (by omega) (by assumption) ?_
      refine r_iinc rfl rfl ?_
      refine r_goto rfl ?_
      exact am_X_of (hn trivial) (by rw [← flZ_succ]; rfl)
  · (try dsimp only)
    refine r_iload rfl rfl ?_
    refine r_iload rfl rfl ?_
    refine r_c3 rfl (by first | exact iB0 | exact iB1 | exact iBm | exact hB _ _ | exact hT _ (by omega) | exact ⟨by omega, by omega⟩) (by first | exact iB0 | exact iB1 | exact iBm | exact hB _ _ | exact hT _ (by omega) | exact ⟨by omega, by omega⟩) (fun h7 => ?_) (fun h7 => ?_)
    · refine q_vret rfl rfl rfl ?_
      exact ⟨rfl, rfl⟩
    · exfalso; omega

def zS (a : Nat) : wZ := fun k j => if k = 1 then (if j = 12 then 6 else 0) else if 10 ≤ k ∧ k < 10 + a ∧ j < 6 then 60 else 0
theorem zS_0 : uZ (fun _ _ => 0) 1 12 6 = zS 0 := by
  funext k j
  unfold uZ zS
  split
  · rfl
  · rw [if_neg (by omega)]
theorem zS_s (a : Nat) : flZ (zS a) (10 + a) 6 60 = zS (a + 1) := by
  funext k j
  unfold flZ zS
  by_cases h : k = 10 + a
  · rw [if_pos h]
    by_cases h2 : j < 6
    · rw [if_pos h2, if_neg (by omega), if_pos (by omega)]
    · rw [if_neg h2, if_neg (by omega), if_neg (by omega), if_neg (by omega), if_neg (by omega)]
  · rw [if_neg h]
    by_cases h3 : k = 1
    · rw [if_pos h3, if_pos h3]
    · rw [if_neg h3, if_neg h3]
      by_cases h4 : 10 ≤ k ∧ k < 10 + a ∧ j < 6
      · rw [if_pos h4, if_pos (by omega)]
      · rw [if_neg h4, if_neg (by omega)]
def SH18 : List am_Cl := [(6, 5, [1, 1, 1, 1, 1]), (5, 13, [4, 5, 6, 7, 8, 9, 10, 0, 11, 18, 19, 0, 0]),
  (1, 7, []), (0, 7, []), (0, 7, []), (0, 7, []), (0, 7, []), (0, 7, []), (0, 7, []), (3, 6, [10, 11, 12, 13, 14, 15]),
  (0, 6, []), (0, 6, []), (0, 6, []), (0, 6, []), (0, 6, []), (0, 6, []), (0, 4, []), (0, 4, [])]
theorem gs18 {n : Nat} (h : n < 6) : SH18[10 + n]? = some (0, 6, []) := by
  rcases n with _ | _ | _ | _ | _ | _ | n <;> first | rfl | omega

theorem s_79 {d : Nat} {Lg : Nat → Nat → Int64} {N : Nat} {X : Nat → Int32} (hL : ∀ a j, Lg a j = 0) : am_T am_tabs am_ar (d + 2) 79 [.ref 1] (wc [(6, 5, df_2), (5, 13, df_1)] (fun _ _ => 0) Lg N X) (am_vd (fun w1 => w1 = wc SH18 (zS 6) Lg N X)) := by
  refine ⟨⟨rfl, rfl⟩, ?_⟩
  show am_X (am_tb op_79) _ _ _
  have hZ : ∀ m a j, m ≤ a → (fun _ _ => 0 : wZ) a j = 0 := fun _ _ _ _ => rfl
  refine r_aload rfl rfl ?_
  refine c_oinit rfl rfl ?_
  refine r_aload rfl rfl ?_
  refine r_push rfl ?_
  refine c_newa rfl rfl (by decide) rfl rfl (hZ _) hL ?_
  refine c_putr rfl rfl rfl rfl ?_
  refine r_aload rfl rfl ?_
  refine r_push rfl ?_
  refine c_newa rfl rfl (by decide) rfl rfl (hZ _) hL ?_
  refine c_putr rfl rfl rfl rfl ?_
  refine r_aload rfl rfl ?_
  refine r_push rfl ?_
  refine c_newa rfl rfl (by decide) rfl rfl (hZ _) hL ?_
  refine c_putr rfl rfl rfl rfl ?_
  refine r_aload rfl rfl ?_
  refine r_push rfl ?_
  refine c_newa rfl rfl (by decide) rfl rfl (hZ _) hL ?_
  refine c_putr rfl rfl rfl rfl ?_
  refine r_aload rfl rfl ?_
  refine r_push rfl ?_
  refine c_newa rfl rfl (by decide) rfl rfl (hZ _) hL ?_
  refine c_putr rfl rfl rfl rfl ?_
  refine r_aload rfl rfl ?_
  refine r_push rfl ?_
  refine c_newa rfl rfl (by decide) rfl rfl (hZ _) hL ?_
  refine c_putr rfl rfl rfl rfl ?_
  refine r_aload rfl rfl ?_
  refine r_push rfl ?_
  refine c_newa rfl rfl (by decide) rfl rfl (hZ _) hL ?_
  refine c_putr rfl rfl rfl rfl ?_
  refine r_aload rfl rfl ?_
  refine r_push rfl ?_
  refine r_push rfl ?_
  refine c_mna rfl rfl rfl rfl rfl rfl (hZ _) ?_
  refine c_putr rfl rfl rfl rfl ?_
  refine r_aload rfl rfl ?_
  refine r_push rfl ?_
  refine c_newa rfl rfl (by decide) rfl rfl (hZ _) hL ?_
  refine c_putr rfl rfl rfl rfl ?_
  refine r_aload rfl rfl ?_
  refine r_push rfl ?_
  refine c_newa rfl rfl (by decide) rfl rfl (hZ _) hL ?_
  refine c_putr rfl rfl rfl rfl ?_
  refine r_aload rfl rfl ?_
  refine r_push rfl ?_
  refine c_puti rfl rfl rfl ?_
  refine r_push rfl ?_
  refine r_istore rfl ?_
  refine am_X_of (σ := (94, [some (.ref 1), some (.int (iI 0))], [], wc SH18 (zS 0) Lg N X, 16, 99)) ?_ (by rw [← zS_0]; rfl)
  refine r_loop (fun o => (94, [some (.ref 1), some (.int (iI o))], [], wc SH18 (zS o) Lg N X, 16, 99)) (fun _ => True) 6 trivial (fun o ho hi hn => ?_) (fun hi => ?_)
  · (try dsimp only at hn); (try dsimp only)
    refine r_iload rfl rfl ?_
    refine r_push rfl ?_
    refine r_c3 rfl (by first | exact iB0 | exact iB1 | exact iBm | exact hB _ _ | exact hT _ (by omega) | exact ⟨by omega, by omega⟩) (by first | exact iB0 | exact iB1 | exact iBm | exact hB _ _ | exact hT _ (by omega) | exact ⟨by omega, by omega⟩) (fun h97 => ?_) (fun h97 => ?_)
    · exfalso; omega
    · refine r_aload rfl rfl ?_
      refine c_getr rfl rfl rfl ?_
      refine r_iload rfl rfl ?_
      refine c_aald rfl rfl (by omega) (by omega) rfl (gq (by omega)) ?_
      refine r_push rfl ?_
      refine r_sv2 rfl rfl rfl rfl (s_112 (gs18 (by omega)) rfl) (fun w1 h108 => ?_)
      subst h108
      rw [show flZ (zS o) (10 + (o : Int).toNat) 6 60 = zS (o + 1) from zS_s o]
      refine r_iinc rfl rfl ?_
      refine r_goto rfl ?_
      exact hn trivial
  · (try dsimp only)
    refine r_iload rfl rfl ?_
    refine r_push rfl ?_
    refine r_c3 rfl (by first | exact iB0 | exact iB1 | exact iBm | exact hB _ _ | exact hT _ (by omega) | exact ⟨by omega, by omega⟩) (by first | exact iB0 | exact iB1 | exact iBm | exact hB _ _ | exact hT _ (by omega) | exact ⟨by omega, by omega⟩) (fun h97 => ?_) (fun h97 => ?_)
    · refine q_vret rfl rfl rfl ?_
      exact ⟨rfl, rfl⟩
    · exfalso; omega

def SH19 : List am_Cl := [(6, 5, [3, 1, 1, 1, 1]), (5, 13, [4, 5, 6, 7, 8, 9, 10, 0, 11, 18, 19, 0, 0]), (1, 7, []), (0, 7, []), (0, 7, []), (0, 7, []), (0, 7, []), (0, 7, []), (0, 7, []), (3, 6, [10, 11, 12, 13, 14, 15]), (0, 6, []), (0, 6, []), (0, 6, []), (0, 6, []), (0, 6, []), (0, 6, []), (0, 4, []), (0, 4, []), (4, 5, df_0)]
def SH31 : List am_Cl := [(6, 5, [3, 1, 1, 1, 1]), (5, 13, [4, 5, 6, 7, 8, 9, 10, 0, 11, 18, 19, 0, 0]), (1, 7, []), (0, 7, []), (0, 7, []), (0, 7, []), (0, 7, []), (0, 7, []), (0, 7, []), (3, 6, [10, 11, 12, 13, 14, 15]), (0, 6, []), (0, 6, []), (0, 6, []), (0, 6, []), (0, 6, []), (0, 6, []), (0, 4, []), (0, 4, []), (4, 5, [21, 30, 31, 32, 0]), (3, 8, [20, 21, 22, 23, 24, 25, 26, 27]), (0, 7, []), (0, 7, []), (0, 7, []), (0, 7, []), (0, 7, []), (0, 7, []), (0, 7, []), (0, 7, []), (0, 7, []), (1, 7, []), (0, 7, [])]
def SH34 : List am_Cl := [(6, 5, [3, 20, 33, 34, 35]), (5, 13, [4, 5, 6, 7, 8, 9, 10, 0, 11, 18, 19, 0, 0]), (1, 7, []), (0, 7, []), (0, 7, []), (0, 7, []), (0, 7, []), (0, 7, []), (0, 7, []), (3, 6, [10, 11, 12, 13, 14, 15]), (0, 6, []), (0, 6, []), (0, 6, []), (0, 6, []), (0, 6, []), (0, 6, []), (0, 4, []), (0, 4, []), (4, 5, [21, 30, 31, 32, 0]), (3, 8, [20, 21, 22, 23, 24, 25, 26, 27]), (0, 7, []), (0, 7, []), (0, 7, []), (0, 7, []), (0, 7, []), (0, 7, []), (0, 7, []), (0, 7, []), (0, 7, []), (1, 7, []), (0, 7, []), (0, 7, []), (0, 7, []), (0, 7, [])]
theorem zS_z (m a j : Nat) (h : 16 ≤ a) (hm : m ≤ a) : zS 6 a j = 0 := by
  unfold zS
  rw [if_neg (by omega), if_neg (by omega)]

theorem s_69 {d : Nat} {Lg : Nat → Nat → Int64} {N : Nat} {X : Nat → Int32} (hL : ∀ a j, Lg a j = 0) : am_T am_tabs am_ar (d + 1) 69 [.ref 18] (wc SH19 (zS 6) Lg N X) (am_vd (fun w1 => w1 = wc SH31 (zS 6) Lg N X)) := by
  refine ⟨⟨rfl, rfl⟩, ?_⟩
  show am_X (am_tb op_69) _ _ _
  have hZ : ∀ m, 16 ≤ m → ∀ a j, m ≤ a → zS 6 a j = 0 := fun m h a j q => zS_z m a j (by omega) q
  refine r_aload rfl rfl ?_
  refine c_oinit rfl rfl ?_
  refine r_aload rfl rfl ?_
  refine r_push rfl ?_
  refine r_push rfl ?_
  refine c_mna rfl rfl rfl rfl rfl rfl (hZ _ (by decide)) ?_
  refine c_putr rfl rfl rfl rfl ?_
  refine r_aload rfl rfl ?_
  refine r_push rfl ?_
  refine c_newa rfl rfl (by decide) rfl rfl (hZ _ (by decide)) hL ?_
  refine c_putr rfl rfl rfl rfl ?_
  refine r_aload rfl rfl ?_
  refine r_push rfl ?_
  refine c_newa rfl rfl (by decide) rfl rfl (hZ _ (by decide)) hL ?_
  refine c_putr rfl rfl rfl rfl ?_
  refine r_aload rfl rfl ?_
  refine r_push rfl ?_
  refine c_newa rfl rfl (by decide) rfl rfl (hZ _ (by decide)) hL ?_
  refine c_putr rfl rfl rfl rfl ?_
  refine q_vret rfl rfl rfl ?_
  exact ⟨rfl, rfl⟩

theorem s_0 {d : Nat} {Lg : Nat → Nat → Int64} {N : Nat} {X : Nat → Int32} (hL : ∀ a j, Lg a j = 0) : am_T am_tabs am_ar (d + 3) 0 [.ref 0] (wc [(6, 5, df_2)] (fun _ _ => 0) Lg N X) (am_vd (fun w1 => w1 = wc SH34 (flZ (flZ (zS 6) 31 7 (-1)) 32 7 (-1)) Lg N X)) := by
  refine ⟨⟨rfl, rfl⟩, ?_⟩
  show am_X (am_tb op_0) _ _ _
  have hZ : ∀ m, 16 ≤ m → ∀ a j, m ≤ a → zS 6 a j = 0 := fun m h a j q => zS_z m a j (by omega) q
  refine r_aload rfl rfl ?_
  refine c_oinit rfl rfl ?_
  refine r_aload rfl rfl ?_
  refine c_new rfl rfl rfl rfl (fun _ _ _ => rfl) ?_
  refine r_dupr rfl ?_
  refine r_kv0 rfl rfl rfl rfl rfl (s_79 hL) (fun w1 h9 => ?_)
  subst h9
  refine c_putr rfl rfl rfl rfl ?_
  refine r_aload rfl rfl ?_
  refine c_new rfl rfl rfl rfl (hZ _ (by decide)) ?_
  refine r_dupr rfl ?_
  refine r_kv0 rfl rfl rfl rfl rfl (s_69 hL) (fun w1 h20 => ?_)
  subst h20
  refine c_putr rfl rfl rfl rfl ?_
  refine r_aload rfl rfl ?_
  refine r_push rfl ?_
  refine c_newa rfl rfl (by decide) rfl rfl (hZ _ (by decide)) hL ?_
  refine c_putr rfl rfl rfl rfl ?_
  refine r_aload rfl rfl ?_
  refine r_push rfl ?_
  refine c_newa rfl rfl (by decide) rfl rfl (hZ _ (by decide)) hL ?_
  refine c_putr rfl rfl rfl rfl ?_
  refine r_aload rfl rfl ?_
  refine r_push rfl ?_
  refine c_newa rfl rfl (by decide) rfl rfl (hZ _ (by decide)) hL ?_
  refine c_putr rfl rfl rfl rfl ?_
  refine r_aload rfl rfl ?_
  refine c_getr rfl rfl rfl ?_
  refine r_push rfl ?_
  refine r_sv2 rfl rfl rfl rfl (s_112 (k := 31) rfl rfl) (fun w1 h55 => ?_)
  subst h55
  refine r_aload rfl rfl ?_
  refine c_getr rfl rfl rfl ?_
  refine r_push rfl ?_
  refine r_sv2 rfl rfl rfl rfl (s_112 (k := 32) rfl rfl) (fun w1 h63 => ?_)
  subst h63
  refine q_vret rfl rfl rfl ?_
  exact ⟨rfl, rfl⟩

def SH35 : List am_Cl := SH34 ++ [(7, 22, df_3)]
def SH53 : List am_Cl := SH34 ++ [(7, 22, [0, 37, 38, 39, 40, 41, 42, 43, 44, 0, 45, 46, 0, 47, 48, 0, 49, 50, 51, 52, 53, 54]), (1, 7, []), (0, 7, []), (0, 7, []), (0, 7, []), (0, 7, []), (0, 7, []), (0, 7, []), (0, 36, []), (0, 4, []), (0, 4, []), (0, 7, []), (0, 7, []), (0, 7, []), (0, 8, []), (1, 7, []), (0, 7, []), (0, 8, []), (0, 7, [])]
def zM (Z : wZ) (o : Nat) : wZ := fun k j => if k = 45 ∨ k = 46 ∨ k = 41 then (if j < o then -1 else Z k j) else Z k j
theorem zM_0 (Z : wZ) : zM Z 0 = Z := by
  funext k j
  unfold zM
  split
  · rfl
  · rfl
theorem zM_s (Z : wZ) (o : Nat) : uZ (uZ (uZ (zM Z o) 45 o (-1)) 46 o (-1)) 41 o (-1) = zM Z (o + 1) := by
  funext k j
  unfold uZ zM
  by_cases h : k = 45 ∨ k = 46 ∨ k = 41
  · rw [if_pos h, if_pos h]
    by_cases e : j = o
    · rw [if_pos (show j < o + 1 by omega)]
      rcases h with h | h | h <;> simp [h, e]
    · by_cases e2 : j < o
      · rw [if_pos (show j < o + 1 by omega)]
        simp [e, e2]
      · rw [if_neg (show ¬ j < o + 1 by omega)]
        simp [e, e2]
  · rw [if_neg h, if_neg h, if_neg (by omega), if_neg (by omega), if_neg (by omega)]

theorem s_31 {d : Nat} {Z : wZ} {Lg : Nat → Nat → Int64} {N : Nat} {X : Nat → Int32} (hL : ∀ a j, Lg a j = 0) (hZ0 : ∀ a j, 34 ≤ a → Z a j = 0) : am_T am_tabs am_ar (d + 2) 31 [.ref 34] (wc SH35 Z Lg N X) (am_vd (fun w1 => w1 = wc SH53 (zM (flZ (uZ Z 34 12 6) 42 36 60) 7) Lg N X)) := by
  refine ⟨⟨rfl, rfl⟩, ?_⟩
  show am_X (am_tb op_31) _ _ _
  have hZ : ∀ m, 35 ≤ m → ∀ a j, m ≤ a → Z a j = 0 := fun m h a j q => hZ0 a j (by omega)
  have hY : ∀ m, 35 ≤ m → ∀ a j, m ≤ a → uZ Z 34 12 6 a j = 0 := fun m h a j q => (uZ_ne (by omega) j).trans (hZ0 a j (by omega))
  refine r_aload rfl rfl ?_
  refine c_oinit rfl rfl ?_
  refine r_aload rfl rfl ?_
  refine r_push rfl ?_
  refine c_newa2 (cs' := SH34 ++ [(7, 22, [0, 1, 1, 1, 1, 1, 1, 1, 1, 0, 1, 1, 0, 1, 1, 0, 1, 1, 1, 1, 1, 1]), (1, 7, [])]) rfl rfl (by decide) rfl rfl (hZ _ (by decide)) hL rfl ?_
  refine c_putr2 (cs' := SH34 ++ [(7, 22, [0, 37, 1, 1, 1, 1, 1, 1, 1, 0, 1, 1, 0, 1, 1, 0, 1, 1, 1, 1, 1, 1]), (1, 7, [])]) rfl rfl rfl rfl rfl ?_
  refine r_aload rfl rfl ?_
  refine r_push rfl ?_
  refine c_newa2 (cs' := SH34 ++ [(7, 22, [0, 37, 1, 1, 1, 1, 1, 1, 1, 0, 1, 1, 0, 1, 1, 0, 1, 1, 1, 1, 1, 1]), (1, 7, []), (0, 7, [])]) rfl rfl (by decide) rfl rfl (hZ _ (by decide)) hL rfl ?_
  refine c_putr2 (cs' := SH34 ++ [(7, 22, [0, 37, 38, 1, 1, 1, 1, 1, 1, 0, 1, 1, 0, 1, 1, 0, 1, 1, 1, 1, 1, 1]), (1, 7, []), (0, 7, [])]) rfl rfl rfl rfl rfl ?_
  refine r_aload rfl rfl ?_
  refine r_push rfl ?_
  refine c_newa2 (cs' := SH34 ++ [(7, 22, [0, 37, 38, 1, 1, 1, 1, 1, 1, 0, 1, 1, 0, 1, 1, 0, 1, 1, 1, 1, 1, 1]), (1, 7, []), (0, 7, []), (0, 7, [])]) rfl rfl (by decide) rfl rfl (hZ _ (by decide)) hL rfl ?_
  refine c_putr2 (cs' := SH34 ++ [(7, 22, [0, 37, 38, 39, 1, 1, 1, 1, 1, 0, 1, 1, 0, 1, 1, 0, 1, 1, 1, 1, 1, 1]), (1, 7, []), (0, 7, []), (0, 7, [])]) rfl rfl rfl rfl rfl ?_
  refine r_aload rfl rfl ?_
  refine r_push rfl ?_
  refine c_newa2 (cs' := SH34 ++ [(7, 22, [0, 37, 38, 39, 1, 1, 1, 1, 1, 0, 1, 1, 0, 1, 1, 0, 1, 1, 1, 1, 1, 1]), (1, 7, []), (0, 7, []), (0, 7, []), (0, 7, [])]) rfl rfl (by decide) rfl rfl (hZ _ (by decide)) hL rfl ?_
  refine c_putr2 (cs' := SH34 ++ [(7, 22, [0, 37, 38, 39, 40, 1, 1, 1, 1, 0, 1, 1, 0, 1, 1, 0, 1, 1, 1, 1, 1, 1]), (1, 7, []), (0, 7, []), (0, 7, []), (0, 7, [])]) rfl rfl rfl rfl rfl ?_
  refine r_aload rfl rfl ?_
  refine r_push rfl ?_
  refine c_newa2 (cs' := SH34 ++ [(7, 22, [0, 37, 38, 39, 40, 1, 1, 1, 1, 0, 1, 1, 0, 1, 1, 0, 1, 1, 1, 1, 1, 1]), (1, 7, []), (0, 7, []), (0, 7, []), (0, 7, []), (0, 7, [])]) rfl rfl (by decide) rfl rfl (hZ _ (by decide)) hL rfl ?_
  refine c_putr2 (cs' := SH34 ++ [(7, 22, [0, 37, 38, 39, 40, 41, 1, 1, 1, 0, 1, 1, 0, 1, 1, 0, 1, 1, 1, 1, 1, 1]), (1, 7, []), (0, 7, []), (0, 7, []), (0, 7, []), (0, 7, [])]) rfl rfl rfl rfl rfl ?_
  refine r_aload rfl rfl ?_
  refine r_push rfl ?_
  refine c_newa2 (cs' := SH34 ++ [(7, 22, [0, 37, 38, 39, 40, 41, 1, 1, 1, 0, 1, 1, 0, 1, 1, 0, 1, 1, 1, 1, 1, 1]), (1, 7, []), (0, 7, []), (0, 7, []), (0, 7, []), (0, 7, []), (0, 7, [])]) rfl rfl (by decide) rfl rfl (hZ _ (by decide)) hL rfl ?_
  refine c_putr2 (cs' := SH34 ++ [(7, 22, [0, 37, 38, 39, 40, 41, 42, 1, 1, 0, 1, 1, 0, 1, 1, 0, 1, 1, 1, 1, 1, 1]), (1, 7, []), (0, 7, []), (0, 7, []), (0, 7, []), (0, 7, []), (0, 7, [])]) rfl rfl rfl rfl rfl ?_
  refine r_aload rfl rfl ?_
  refine r_push rfl ?_
  refine c_newa2 (cs' := SH34 ++ [(7, 22, [0, 37, 38, 39, 40, 41, 42, 1, 1, 0, 1, 1, 0, 1, 1, 0, 1, 1, 1, 1, 1, 1]), (1, 7, []), (0, 7, []), (0, 7, []), (0, 7, []), (0, 7, []), (0, 7, []), (0, 7, [])]) rfl rfl (by decide) rfl rfl (hZ _ (by decide)) hL rfl ?_
  refine c_putr2 (cs' := SH34 ++ [(7, 22, [0, 37, 38, 39, 40, 41, 42, 43, 1, 0, 1, 1, 0, 1, 1, 0, 1, 1, 1, 1, 1, 1]), (1, 7, []), (0, 7, []), (0, 7, []), (0, 7, []), (0, 7, []), (0, 7, []), (0, 7, [])]) rfl rfl rfl rfl rfl ?_
  refine r_aload rfl rfl ?_
  refine r_push rfl ?_
  refine c_newa2 (cs' := SH34 ++ [(7, 22, [0, 37, 38, 39, 40, 41, 42, 43, 1, 0, 1, 1, 0, 1, 1, 0, 1, 1, 1, 1, 1, 1]), (1, 7, []), (0, 7, []), (0, 7, []), (0, 7, []), (0, 7, []), (0, 7, []), (0, 7, []), (0, 36, [])]) rfl rfl (by decide) rfl rfl (hZ _ (by decide)) hL rfl ?_
  refine c_putr2 (cs' := SH34 ++ [(7, 22, [0, 37, 38, 39, 40, 41, 42, 43, 44, 0, 1, 1, 0, 1, 1, 0, 1, 1, 1, 1, 1, 1]), (1, 7, []), (0, 7, []), (0, 7, []), (0, 7, []), (0, 7, []), (0, 7, []), (0, 7, []), (0, 36, [])]) rfl rfl rfl rfl rfl ?_
  refine r_aload rfl rfl ?_
  refine r_push rfl ?_
  refine c_newa2 (cs' := SH34 ++ [(7, 22, [0, 37, 38, 39, 40, 41, 42, 43, 44, 0, 1, 1, 0, 1, 1, 0, 1, 1, 1, 1, 1, 1]), (1, 7, []), (0, 7, []), (0, 7, []), (0, 7, []), (0, 7, []), (0, 7, []), (0, 7, []), (0, 36, []), (0, 4, [])]) rfl rfl (by decide) rfl rfl (hZ _ (by decide)) hL rfl ?_
  refine c_putr2 (cs' := SH34 ++ [(7, 22, [0, 37, 38, 39, 40, 41, 42, 43, 44, 0, 45, 1, 0, 1, 1, 0, 1, 1, 1, 1, 1, 1]), (1, 7, []), (0, 7, []), (0, 7, []), (0, 7, []), (0, 7, []), (0, 7, []), (0, 7, []), (0, 36, []), (0, 4, [])]) rfl rfl rfl rfl rfl ?_
  refine r_aload rfl rfl ?_
  refine r_push rfl ?_
  refine c_newa2 (cs' := SH34 ++ [(7, 22, [0, 37, 38, 39, 40, 41, 42, 43, 44, 0, 45, 1, 0, 1, 1, 0, 1, 1, 1, 1, 1, 1]), (1, 7, []), (0, 7, []), (0, 7, []), (0, 7, []), (0, 7, []), (0, 7, []), (0, 7, []), (0, 36, []), (0, 4, []), (0, 4, [])]) rfl rfl (by decide) rfl rfl (hZ _ (by decide)) hL rfl ?_
  refine c_putr2 (cs' := SH34 ++ [(7, 22, [0, 37, 38, 39, 40, 41, 42, 43, 44, 0, 45, 46, 0, 1, 1, 0, 1, 1, 1, 1, 1, 1]), (1, 7, []), (0, 7, []), (0, 7, []), (0, 7, []), (0, 7, []), (0, 7, []), (0, 7, []), (0, 36, []), (0, 4, []), (0, 4, [])]) rfl rfl rfl rfl rfl ?_
  refine r_aload rfl rfl ?_
  refine r_push rfl ?_
  refine c_puti rfl rfl rfl ?_
  refine r_aload rfl rfl ?_
  refine r_push rfl ?_
  refine c_newa2 (cs' := SH34 ++ [(7, 22, [0, 37, 38, 39, 40, 41, 42, 43, 44, 0, 45, 46, 0, 1, 1, 0, 1, 1, 1, 1, 1, 1]), (1, 7, []), (0, 7, []), (0, 7, []), (0, 7, []), (0, 7, []), (0, 7, []), (0, 7, []), (0, 36, []), (0, 4, []), (0, 4, []), (0, 7, [])]) rfl rfl (by decide) rfl rfl (hY _ (by decide)) hL rfl ?_
  refine c_putr2 (cs' := SH34 ++ [(7, 22, [0, 37, 38, 39, 40, 41, 42, 43, 44, 0, 45, 46, 0, 47, 1, 0, 1, 1, 1, 1, 1, 1]), (1, 7, []), (0, 7, []), (0, 7, []), (0, 7, []), (0, 7, []), (0, 7, []), (0, 7, []), (0, 36, []), (0, 4, []), (0, 4, []), (0, 7, [])]) rfl rfl rfl rfl rfl ?_
  refine r_aload rfl rfl ?_
  refine r_push rfl ?_
  refine c_newa2 (cs' := SH34 ++ [(7, 22, [0, 37, 38, 39, 40, 41, 42, 43, 44, 0, 45, 46, 0, 47, 1, 0, 1, 1, 1, 1, 1, 1]), (1, 7, []), (0, 7, []), (0, 7, []), (0, 7, []), (0, 7, []), (0, 7, []), (0, 7, []), (0, 36, []), (0, 4, []), (0, 4, []), (0, 7, []), (0, 7, [])]) rfl rfl (by decide) rfl rfl (hY _ (by decide)) hL rfl ?_
  refine c_putr2 (cs' := SH34 ++ [(7, 22, [0, 37, 38, 39, 40, 41, 42, 43, 44, 0, 45, 46, 0, 47, 48, 0, 1, 1, 1, 1, 1, 1]), (1, 7, []), (0, 7, []), (0, 7, []), (0, 7, []), (0, 7, []), (0, 7, []), (0, 7, []), (0, 36, []), (0, 4, []), (0, 4, []), (0, 7, []), (0, 7, [])]) rfl rfl rfl rfl rfl ?_
  refine r_aload rfl rfl ?_
  refine r_push rfl ?_
  refine c_newa2 (cs' := SH34 ++ [(7, 22, [0, 37, 38, 39, 40, 41, 42, 43, 44, 0, 45, 46, 0, 47, 48, 0, 1, 1, 1, 1, 1, 1]), (1, 7, []), (0, 7, []), (0, 7, []), (0, 7, []), (0, 7, []), (0, 7, []), (0, 7, []), (0, 36, []), (0, 4, []), (0, 4, []), (0, 7, []), (0, 7, []), (0, 7, [])]) rfl rfl (by decide) rfl rfl (hY _ (by decide)) hL rfl ?_
  refine c_putr2 (cs' := SH34 ++ [(7, 22, [0, 37, 38, 39, 40, 41, 42, 43, 44, 0, 45, 46, 0, 47, 48, 0, 49, 1, 1, 1, 1, 1]), (1, 7, []), (0, 7, []), (0, 7, []), (0, 7, []), (0, 7, []), (0, 7, []), (0, 7, []), (0, 36, []), (0, 4, []), (0, 4, []), (0, 7, []), (0, 7, []), (0, 7, [])]) rfl rfl rfl rfl rfl ?_
  refine r_aload rfl rfl ?_
  refine r_push rfl ?_
  refine c_newa2 (cs' := SH34 ++ [(7, 22, [0, 37, 38, 39, 40, 41, 42, 43, 44, 0, 45, 46, 0, 47, 48, 0, 49, 1, 1, 1, 1, 1]), (1, 7, []), (0, 7, []), (0, 7, []), (0, 7, []), (0, 7, []), (0, 7, []), (0, 7, []), (0, 36, []), (0, 4, []), (0, 4, []), (0, 7, []), (0, 7, []), (0, 7, []), (0, 8, [])]) rfl rfl (by decide) rfl rfl (hY _ (by decide)) hL rfl ?_
  refine c_putr2 (cs' := SH34 ++ [(7, 22, [0, 37, 38, 39, 40, 41, 42, 43, 44, 0, 45, 46, 0, 47, 48, 0, 49, 50, 1, 1, 1, 1]), (1, 7, []), (0, 7, []), (0, 7, []), (0, 7, []), (0, 7, []), (0, 7, []), (0, 7, []), (0, 36, []), (0, 4, []), (0, 4, []), (0, 7, []), (0, 7, []), (0, 7, []), (0, 8, [])]) rfl rfl rfl rfl rfl ?_
  refine r_aload rfl rfl ?_
  refine r_push rfl ?_
  refine c_newa2 (cs' := SH34 ++ [(7, 22, [0, 37, 38, 39, 40, 41, 42, 43, 44, 0, 45, 46, 0, 47, 48, 0, 49, 50, 1, 1, 1, 1]), (1, 7, []), (0, 7, []), (0, 7, []), (0, 7, []), (0, 7, []), (0, 7, []), (0, 7, []), (0, 36, []), (0, 4, []), (0, 4, []), (0, 7, []), (0, 7, []), (0, 7, []), (0, 8, []), (1, 7, [])]) rfl rfl (by decide) rfl rfl (hY _ (by decide)) hL rfl ?_
  refine c_putr2 (cs' := SH34 ++ [(7, 22, [0, 37, 38, 39, 40, 41, 42, 43, 44, 0, 45, 46, 0, 47, 48, 0, 49, 50, 51, 1, 1, 1]), (1, 7, []), (0, 7, []), (0, 7, []), (0, 7, []), (0, 7, []), (0, 7, []), (0, 7, []), (0, 36, []), (0, 4, []), (0, 4, []), (0, 7, []), (0, 7, []), (0, 7, []), (0, 8, []), (1, 7, [])]) rfl rfl rfl rfl rfl ?_
  refine r_aload rfl rfl ?_
  refine r_push rfl ?_
  refine c_newa2 (cs' := SH34 ++ [(7, 22, [0, 37, 38, 39, 40, 41, 42, 43, 44, 0, 45, 46, 0, 47, 48, 0, 49, 50, 51, 1, 1, 1]), (1, 7, []), (0, 7, []), (0, 7, []), (0, 7, []), (0, 7, []), (0, 7, []), (0, 7, []), (0, 36, []), (0, 4, []), (0, 4, []), (0, 7, []), (0, 7, []), (0, 7, []), (0, 8, []), (1, 7, []), (0, 7, [])]) rfl rfl (by decide) rfl rfl (hY _ (by decide)) hL rfl ?_
  refine c_putr2 (cs' := SH34 ++ [(7, 22, [0, 37, 38, 39, 40, 41, 42, 43, 44, 0, 45, 46, 0, 47, 48, 0, 49, 50, 51, 52, 1, 1]), (1, 7, []), (0, 7, []), (0, 7, []), (0, 7, []), (0, 7, []), (0, 7, []), (0, 7, []), (0, 36, []), (0, 4, []), (0, 4, []), (0, 7, []), (0, 7, []), (0, 7, []), (0, 8, []), (1, 7, []), (0, 7, [])]) rfl rfl rfl rfl rfl ?_
  refine r_aload rfl rfl ?_
  refine r_push rfl ?_
  refine c_newa2 (cs' := SH34 ++ [(7, 22, [0, 37, 38, 39, 40, 41, 42, 43, 44, 0, 45, 46, 0, 47, 48, 0, 49, 50, 51, 52, 1, 1]), (1, 7, []), (0, 7, []), (0, 7, []), (0, 7, []), (0, 7, []), (0, 7, []), (0, 7, []), (0, 36, []), (0, 4, []), (0, 4, []), (0, 7, []), (0, 7, []), (0, 7, []), (0, 8, []), (1, 7, []), (0, 7, []), (0, 8, [])]) rfl rfl (by decide) rfl rfl (hY _ (by decide)) hL rfl ?_
  refine c_putr2 (cs' := SH34 ++ [(7, 22, [0, 37, 38, 39, 40, 41, 42, 43, 44, 0, 45, 46, 0, 47, 48, 0, 49, 50, 51, 52, 53, 1]), (1, 7, []), (0, 7, []), (0, 7, []), (0, 7, []), (0, 7, []), (0, 7, []), (0, 7, []), (0, 36, []), (0, 4, []), (0, 4, []), (0, 7, []), (0, 7, []), (0, 7, []), (0, 8, []), (1, 7, []), (0, 7, []), (0, 8, [])]) rfl rfl rfl rfl rfl ?_
  refine r_aload rfl rfl ?_
  refine r_push rfl ?_
  refine c_newa2 (cs' := SH34 ++ [(7, 22, [0, 37, 38, 39, 40, 41, 42, 43, 44, 0, 45, 46, 0, 47, 48, 0, 49, 50, 51, 52, 53, 1]), (1, 7, []), (0, 7, []), (0, 7, []), (0, 7, []), (0, 7, []), (0, 7, []), (0, 7, []), (0, 36, []), (0, 4, []), (0, 4, []), (0, 7, []), (0, 7, []), (0, 7, []), (0, 8, []), (1, 7, []), (0, 7, []), (0, 8, []), (0, 7, [])]) rfl rfl (by decide) rfl rfl (hY _ (by decide)) hL rfl ?_
  refine c_putr2 (cs' := SH34 ++ [(7, 22, [0, 37, 38, 39, 40, 41, 42, 43, 44, 0, 45, 46, 0, 47, 48, 0, 49, 50, 51, 52, 53, 54]), (1, 7, []), (0, 7, []), (0, 7, []), (0, 7, []), (0, 7, []), (0, 7, []), (0, 7, []), (0, 36, []), (0, 4, []), (0, 4, []), (0, 7, []), (0, 7, []), (0, 7, []), (0, 8, []), (1, 7, []), (0, 7, []), (0, 8, []), (0, 7, [])]) rfl rfl rfl rfl rfl ?_
  refine r_push rfl ?_
  refine r_istore rfl ?_
  refine am_X_of (σ := (154, [some (.ref 34), some (.int (iI 0))], [], wc SH53 (flZ (uZ Z 34 12 6) 42 0 60) Lg N X, 18, 151)) ?_ (by rw [flZ_0]; rfl)
  refine r_loop (fun o => (154, [some (.ref 34), some (.int (iI o))], [], wc SH53 (flZ (uZ Z 34 12 6) 42 o 60) Lg N X, 18, 151)) (fun _ => True) 36 trivial (fun o ho hi hn => ?_) (fun hi => ?_)
  · (try dsimp only at hn); (try dsimp only)
    refine r_iload rfl rfl ?_
    refine r_push rfl ?_
    refine r_c3 rfl (by first | exact iB0 | exact iB1 | exact iBm | exact hB _ _ | exact hT _ (by omega) | exact ⟨by omega, by omega⟩) (by first | exact iB0 | exact iB1 | exact iBm | exact hB _ _ | exact hT _ (by omega) | exact ⟨by omega, by omega⟩) (fun h157 => ?_) (fun h157 => ?_)
    · exfalso; omega
    · refine r_aload rfl rfl ?_
      refine c_getr rfl rfl rfl ?_
      refine r_iload rfl rfl ?_
      refine r_push rfl ?_
      refine c_iast rfl rfl (by omega) (by omega) rfl ?_
      refine r_iinc rfl rfl ?_
      refine r_goto rfl ?_
      exact am_X_of (hn trivial) (by rw [← flZ_succ]; rfl)
  · (try dsimp only)
    refine r_iload rfl rfl ?_
    refine r_push rfl ?_
    refine r_c3 rfl (by first | exact iB0 | exact iB1 | exact iBm | exact hB _ _ | exact hT _ (by omega) | exact ⟨by omega, by omega⟩) (by first | exact iB0 | exact iB1 | exact iBm | exact hB _ _ | exact hT _ (by omega) | exact ⟨by omega, by omega⟩) (fun h157 => ?_) (fun h157 => ?_)
    · refine r_push rfl ?_
      refine r_istore rfl ?_
      refine am_X_of (σ := (176, [some (.ref 34), some (.int (iI 0))], [], wc SH53 (zM (flZ (uZ Z 34 12 6) 42 36 60) 0) Lg N X, 18, 151)) ?_ (by rw [zM_0]; rfl)
      refine r_loop (fun o => (176, [some (.ref 34), some (.int (iI o))], [], wc SH53 (zM (flZ (uZ Z 34 12 6) 42 36 60) o) Lg N X, 18, 151)) (fun _ => True) 7 trivial (fun o ho hi hn => ?_) (fun hi => ?_)
      · (try dsimp only at hn); (try dsimp only)
        refine r_iload rfl rfl ?_
        refine r_push rfl ?_
        refine r_c3 rfl (by first | exact iB0 | exact iB1 | exact iBm | exact hB _ _ | exact hT _ (by omega) | exact ⟨by omega, by omega⟩) (by first | exact iB0 | exact iB1 | exact iBm | exact hB _ _ | exact hT _ (by omega) | exact ⟨by omega, by omega⟩) (fun h179 => ?_) (fun h179 => ?_)
        · exfalso; omega
        · refine r_aload rfl rfl ?_
          refine c_getr rfl rfl rfl ?_
          refine r_iload rfl rfl ?_
          refine r_push rfl ?_
          refine c_iast rfl rfl (by omega) (by omega) rfl ?_
          refine r_aload rfl rfl ?_
          refine c_getr rfl rfl rfl ?_
          refine r_iload rfl rfl ?_
          refine r_push rfl ?_
          refine c_iast rfl rfl (by omega) (by omega) rfl ?_
          refine r_aload rfl rfl ?_
          refine c_getr rfl rfl rfl ?_
          refine r_iload rfl rfl ?_
          refine r_push rfl ?_
          refine c_iast rfl rfl (by omega) (by omega) rfl ?_
          refine r_iinc rfl rfl ?_
          refine r_goto rfl ?_
          exact am_X_of (hn trivial) (by rw [← zM_s]; rfl)
      · (try dsimp only)
        refine r_iload rfl rfl ?_
        refine r_push rfl ?_
        refine r_c3 rfl (by first | exact iB0 | exact iB1 | exact iBm | exact hB _ _ | exact hT _ (by omega) | exact ⟨by omega, by omega⟩) (by first | exact iB0 | exact iB1 | exact iBm | exact hB _ _ | exact hT _ (by omega) | exact ⟨by omega, by omega⟩) (fun h179 => ?_) (fun h179 => ?_)
        · refine q_vret rfl rfl rfl ?_
          exact ⟨rfl, rfl⟩
        · exfalso; omega
    · exfalso; omega

end CON
