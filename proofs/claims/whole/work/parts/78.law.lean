/-! the law -/
section LAW
set_option maxRecDepth 16384
theorem r_iand {tab : Nat → am_Sem} {C : am_C} {Q : am_Q} {pc nx : Nat} {ls : List (Option Value)} {st : List Value} {w : am_W} {uc us : Nat} {x y v : Int} (ht : tab pc = am_iand nx) (e : iI x &&& iI y = iI v) (kk : am_X tab C Q (nx, ls, .int (iI v) :: st, w, uc, us)) : am_X tab C Q (pc, ls, .int (iI y) :: .int (iI x) :: st, w, uc, us) := am_go ht ⟨iI x, iI y, st, rfl, by rw [e]; exact kk⟩
theorem q_slen {tab : Nat → am_Sem} {C : am_C} {Q : am_Q} {pc nx k : Nat} {ls : List (Option Value)} {st : List Value} {uc us : Nat} {Z : wZ} {Lg : Nat → Nat → Int64} {N : Nat} {X : Nat → Int32} (ht : tab pc = am_slen nx) (kk : am_X tab C Q (nx, ls, .int (iI (N : Int)) :: st, mW Z Lg N X, uc, us)) : am_X tab C Q (pc, ls, .retAddr k :: st, mW Z Lg N X, uc, us) := r_slen ht kk
theorem flZ_ne {Z : wZ} {k n : Nat} {v : Int} {a : Nat} (h : a ≠ k) (b : Nat) : flZ Z k n v a b = Z a b := by unfold flZ; rw [if_neg h]
theorem zM_ne {Z : wZ} {o a : Nat} (h : ¬ (a = 45 ∨ a = 46 ∨ a = 41)) (b : Nat) : zM Z o a b = Z a b := by unfold zM; rw [if_neg h]
/-- a new desk's state -/
def z0 : rd_Z := fun f j => if f = 7 then 60 else if f = 10 then (if j = 1 then 6 else 0) else if f = 11 ∨ f = 12 then (if j < 7 then -1 else 0) else 0
def Zi : wZ := zM (flZ (uZ (flZ (flZ (zS 6) 31 7 (-1)) 32 7 (-1)) 34 12 6) 42 36 60) 7
theorem z0_B : zB z0 := fun f j => by
  unfold z0
  repeat' split
  all_goals exact ⟨by omega, by omega⟩
theorem z0_ok : rd_ok z0 := by
  refine ⟨fun m hm => ?_, fun k hk => ?_, by decide, by decide, by decide, by decide, fun k hk => ?_⟩
  · have e11 : z0 11 m = -1 := by
      show (if m < 7 then (-1 : Int) else 0) = -1
      rw [if_pos hm]
    have e12 : z0 12 m = -1 := by
      show (if m < 7 then (-1 : Int) else 0) = -1
      rw [if_pos hm]
    rw [e11, e12]
    have a1 : z0 1 m = 0 := rfl
    have a2 : z0 2 m = 0 := rfl
    have a3 : z0 3 m = 0 := rfl
    have a4 : z0 4 m = 0 := rfl
    have a5 : z0 5 m = 0 := rfl
    have a6 : z0 6 m = 0 := rfl
    exact ⟨Or.inl rfl, by omega, by omega, by omega, by omega, by omega, by omega, by omega, by omega, by omega, by omega, by omega, by omega, by omega, by omega, by omega, fun _ => ⟨rfl, rfl⟩⟩
  · show 45 ≤ (60 : Int) ∧ (60 : Int) ≤ 300
    omega
  · have hk : k < (0 : Int).toNat := hk
    simp at hk
theorem Zi_c : cR z0 Zi := by
  refine ⟨fun j => rfl, fun j => rfl, fun j => rfl, fun j => rfl, fun j => rfl, fun j => rfl, fun j => rfl, fun a b ha hb => ?_, fun j => rfl, fun j => rfl, ?_, rfl, rfl, fun j => ?_, fun j => ?_⟩
  · show Zi (10 + a) b = 60
    have e : zS 6 (10 + a) b = 60 := by
      unfold zS
      rw [if_neg (by omega), if_pos (by omega)]
    exact (zM_ne (by omega) b).trans ((flZ_ne (by omega) b).trans ((uZ_ne (by omega) b).trans ((flZ_ne (by omega) b).trans ((flZ_ne (by omega) b).trans e))))
  · show (0 : Int) = ((rd_n z0 : Nat) : Int)
    rw [show rd_n z0 = 0 from rd_cnt_zero (fun i hi => rfl)]
    rfl
  · show (if j < 7 then (-1 : Int) else zS 6 31 j) = (if j < 7 then -1 else 0)
    rfl
  · show (if j < 7 then (-1 : Int) else zS 6 32 j) = (if j < 7 then -1 else 0)
    rfl
theorem Zi_m : mR z0 Zi := by
  refine ⟨fun j => rfl, fun j => rfl, fun j => rfl, fun j => rfl, fun j => rfl, fun j => rfl, fun j hj q => absurd rfl q, fun j hj => ?_, fun j => rfl, fun j => rfl, rfl, rfl, fun j => rfl, fun j => rfl⟩
  show (if j < 36 then (60 : Int) else _) = 60
  rw [if_pos hj]

theorem law_loop {N : Nat} {X : Nat → Int32} (hN : N ≤ 3072) {σ : am_S} (h0 : ∃ (z : rd_Z) (Z : wZ) (Lg : Nat → Nat → Int64) (tl : List (Option Value)) (uc us : Nat), rd_ok z ∧ zB z ∧ cR z Z ∧ mR z Z ∧ uc ≤ 54 + 3 * 0 ∧ us ≤ 402 + 18 * 0 ∧ σ = (23, some (.retAddr 0) :: some (.ref 0) :: some (.ref 34) :: some (.ref 53) :: some (.int (iI ((6 * 0 : Nat) : Int))) :: tl, [], mW Z Lg N X, uc, us)) : am_X (am_tb op_111) (am_T am_tabs am_ar 30) (fun o _ => o = .inl (some (.int 1))) σ := by
  refine r_loopS (fun o σ => ∃ (z : rd_Z) (Z : wZ) (Lg : Nat → Nat → Int64) (tl : List (Option Value)) (uc us : Nat), rd_ok z ∧ zB z ∧ cR z Z ∧ mR z Z ∧ uc ≤ 54 + 3 * o ∧ us ≤ 402 + 18 * o ∧ σ = (23, some (.retAddr 0) :: some (.ref 0) :: some (.ref 34) :: some (.ref 53) :: some (.int (iI ((6 * o : Nat) : Int))) :: tl, [], mW Z Lg N X, uc, us)) (N / 6) (fun o σ ho hs hn => ?_) (fun σ hs => ?_) h0
  · obtain ⟨z, Z, Lg, tl, uc, us, hz, hB, hc, hd, hu, hv, rfl⟩ := hs
    obtain ⟨i, hi⟩ : ∃ i, 6 * o = i := ⟨_, rfl⟩
    rw [hi]
    obtain ⟨p0, b0, e0⟩ := iI_ex (X i)
    obtain ⟨c, bc, ec⟩ := iI_ex (iI p0 &&& iI 31)
    have hK : lawK (fun o _ => o = .inl (some (.int 1))) N X i uc us := fun z' Z' Lg' tl' uc' us' k1 k2 k3 k4 k5 k6 => by
      refine r_iinc rfl rfl ?_
      refine r_goto rfl ?_
      refine hn _ ⟨z', Z', Lg', tl', uc', us', k1, k2, k3, k4, by omega, by omega, ?_⟩
      rw [show (((6 * (o + 1) : Nat) : Nat) : Int) = (i : Int) + 6 by omega]
      rfl
    refine r_iload rfl rfl ?_
    refine r_scload rfl rfl ?_
    refine q_slen rfl ?_
    refine r_push rfl ?_
    refine r_isub rfl ?_
    refine r_c4 rfl ⟨by omega, by omega⟩ ⟨by omega, by omega⟩ (fun h30 => ?_) (fun h30 => ?_)
    · exfalso; omega
    · refine r_scload rfl rfl ?_
      refine r_iload rfl rfl ?_
      refine q_sald rfl (by omega) (by omega) (by omega) e0 ?_
      refine r_push rfl ?_
      refine r_iand rfl ec ?_
      refine r_switch rfl bc (fun h => ?_) (fun k' tg hk' htg => ?_)
      · exact hK z Z Lg tl uc us hz hB hc hd (by omega) (by omega)
      · rcases k' with _ | _ | _ | _ | _ | _ | _ | _ | _ | _ | _ | _ | _ | _ | _ | _ | _ | _ | _ | _ | k'
        · cases htg; exact law_136 hz hB hc hd hN (by omega) (by omega) (by omega) hK
        · cases htg; exact law_216 hz hB hc hd hN (by omega) (by omega) (by omega) hK
        · cases htg; exact law_320 hz hB hc hd hN (by omega) (by omega) (by omega) hK
        · cases htg; exact law_376 hz hB hc hd hN (by omega) (by omega) (by omega) hK
        · cases htg; exact law_444 hz hB hc hd hN (by omega) (by omega) (by omega) hK
        · cases htg; exact law_500 hz hB hc hd hN (by omega) (by omega) (by omega) hK
        · cases htg; exact law_568 hz hB hc hd hN (by omega) (by omega) (by omega) hK
        · cases htg; exact law_581 hz hB hc hd hN (by omega) (by omega) (by omega) hK
        · cases htg; exact law_629 hz hB hc hd hN (by omega) (by omega) (by omega) hK
        · cases htg; exact law_692 hz hB hc hd hN (by omega) (by omega) (by omega) hK
        · cases htg; exact law_705 hz hB hc hd hN (by omega) (by omega) (by omega) hK
        · cases htg; exact law_773 hz hB hc hd hN (by omega) (by omega) (by omega) hK
        · cases htg; exact law_829 hz hB hc hd hN (by omega) (by omega) (by omega) hK
        · cases htg; exact law_885 hz hB hc hd hN (by omega) (by omega) (by omega) hK
        · cases htg; exact law_941 hz hB hc hd hN (by omega) (by omega) (by omega) hK
        · cases htg; exact law_954 hz hB hc hd hN (by omega) (by omega) (by omega) hK
        · cases htg; exact law_967 hz hB hc hd hN (by omega) (by omega) (by omega) hK
        · cases htg; exact law_980 hz hB hc hd hN (by omega) (by omega) (by omega) hK
        · cases htg; exact law_1036 hz hB hc hd hN (by omega) (by omega) (by omega) hK
        · cases htg; exact law_1049 hz hB hc hd hN (by omega) (by omega) (by omega) hK
        · cases htg
  · obtain ⟨z, Z, Lg, tl, uc, us, hz, hB, hc, hd, hu, hv, rfl⟩ := hs
    obtain ⟨i, hi⟩ : ∃ i, 6 * (N / 6) = i := ⟨_, rfl⟩
    rw [hi]
    refine r_iload rfl rfl ?_
    refine r_scload rfl rfl ?_
    refine q_slen rfl ?_
    refine r_push rfl ?_
    refine r_isub rfl ?_
    refine r_c4 rfl ⟨by omega, by omega⟩ ⟨by omega, by omega⟩ (fun h30 => ?_) (fun h30 => ?_)
    · refine r_push rfl ?_
      refine q_zret rfl (Nat.ble_eq_true_of_le (by omega)) (Nat.ble_eq_true_of_le (by omega)) (by omega) ?_
      show _ = _
      rw [show iI 1 = 1 by decide]
    · exfalso; omega

theorem whole_pure (L : Nat) (xs : Nat → Int32) (hLN : L ≤ 3072) : am_X (am_tb op_111) (am_T am_tabs am_ar 30) (fun o _ => o = .inl (some (.int 1))) (0, [some (.retAddr 0)], [], am_w0 L xs, 0, 0) := by
  have hw : am_w0 L xs = wc [] (fun _ _ => 0) (fun _ _ => 0) L xs := by
    have e : (fun (_ _ : Nat) => (0 : Int32)) = fun k j => iI ((fun (_ _ : Nat) => (0 : Int)) k j) := by
      funext k j
      exact iI_00.symm
    exact congrArg (fun f => (([] : List am_Cl), f, (fun (_ _ : Nat) => (0 : Int64)), L, xs)) e
  have hL : ∀ a j, (fun _ _ => 0 : Nat → Nat → Int64) a j = 0 := fun _ _ => rfl
  have hZ0 : ∀ a j, 34 ≤ a → flZ (flZ (zS 6) 31 7 (-1)) 32 7 (-1) a j = 0 := fun a j h => by
    exact (flZ_ne (by omega) j).trans ((flZ_ne (by omega) j).trans (zS_z 0 a j (by omega) (by omega)))
  have hZ1 : ∀ a j, 53 ≤ a → zM (flZ (uZ (flZ (flZ (zS 6) 31 7 (-1)) 32 7 (-1)) 34 12 6) 42 36 60) 7 a j = 0 := fun a j h => by
    exact (zM_ne (by omega) j).trans ((flZ_ne (by omega) j).trans ((uZ_ne (by omega) j).trans ((flZ_ne (by omega) j).trans ((flZ_ne (by omega) j).trans (zS_z 0 a j (by omega) (by omega))))))
  rw [hw]
  refine c_new rfl rfl rfl rfl (fun _ _ _ => rfl) ?_
  refine r_dupr rfl ?_
  refine r_kv0 rfl rfl rfl rfl rfl (s_0 hL) (fun w1 h4 => ?_)
  subst h4
  refine r_astore rfl ?_
  refine c_new rfl rfl rfl rfl (fun a j q => hZ0 a j q) ?_
  refine r_dupr rfl ?_
  refine r_kv0 rfl rfl rfl rfl rfl (s_31 hL hZ0) (fun w1 h12 => ?_)
  subst h12
  refine r_astore rfl ?_
  refine r_push rfl ?_
  refine c_newa rfl rfl (by decide) rfl rfl hZ1 hL ?_
  refine r_astore rfl ?_
  refine r_push rfl ?_
  refine r_istore rfl ?_
  refine am_X_of (σ := (23, [some (.retAddr 0), some (.ref 0), some (.ref 34), some (.ref 53), some (.int (iI 0))], [], mW Zi (fun _ _ => 0) L xs, 54, 402)) ?_ rfl
  exact law_loop hLN ⟨z0, Zi, fun _ _ => 0, [], 54, 402, z0_ok, z0_B, Zi_c, Zi_m, by omega, by omega, rfl⟩

end LAW
