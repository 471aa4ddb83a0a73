/-! a method's contract out of its walk on the small machine -/
section AMM
theorem am_V_one {ad : List Nat} {bS : Nat} : ∀ {r r' : List Value}, am_V ad bS r r' → (r.all fun v => v.category == 1) = true → (r'.all fun v => v.category == 1) = true
  | [], [], _, _ => rfl
  | _ :: _, _ :: _, h, hc => by
    simp only [List.all_cons, Bool.and_eq_true, beq_iff_eq] at hc ⊢
    exact ⟨by rw [am_v_cat h.1]; exact hc.1, am_V_one h.2 hc.2⟩
  | [], _ :: _, h, _ => h.elim
  | _ :: _, [], h, _ => h.elim
theorem am_V_get {ad : List Nat} {bS : Nat} : ∀ {r r' : List Value} {i : Nat} {v : Value}, am_V ad bS r r' → r[i]? = some v → ∃ cv, r'[i]? = some cv ∧ am_v ad bS v cv
  | [], [], _, _, _, h => by simp at h
  | _ :: _, c :: _, 0, _, h, hi => by
    simp only [List.getElem?_cons_zero, Option.some.injEq] at hi
    subst hi
    exact ⟨c, rfl, h.1⟩
  | _ :: _, _ :: _, i + 1, _, h, hi => by
    simp only [List.getElem?_cons_succ] at hi ⊢
    exact am_V_get h.2 hi
  | [], _ :: _, _, _, h, _ => h.elim
  | _ :: _, [], _, _, h, _ => h.elim
theorem am_sl_len : ∀ {vs : List Value}, (vs.all fun v => v.category == 1) = true → (lg_sl vs).length = vs.length
  | [], _ => rfl
  | v :: r, h => by
    simp only [List.all_cons, Bool.and_eq_true, beq_iff_eq] at h
    have ih := am_sl_len h.2
    simp only [lg_sl] at ih ⊢
    simp [h.1, ih]
theorem am_args_mem : ∀ {vs : List Value} {i j : Nat} {v : Value}, (vs.all fun v => v.category == 1) = true → vs[i]? = some v → (j + i, v) ∈ lv_args j vs
  | [], _, _, _, _, h => by simp at h
  | u :: r, 0, j, v, _, h => by
    simp only [List.getElem?_cons_zero, Option.some.injEq] at h
    subst h
    exact List.mem_cons_self
  | u :: r, i + 1, j, v, hc, h => by
    simp only [List.all_cons, Bool.and_eq_true, beq_iff_eq] at hc
    simp only [List.getElem?_cons_succ] at h
    have ih := am_args_mem (j := j + 1) hc.2 h
    simp only [lv_args, hc.1]
    refine List.mem_cons_of_mem _ ?_
    rw [show j + (i + 1) = j + 1 + i by omega]
    exact ih
theorem am_entry {ad : List Nat} {bS n : Nat} {as cas : List Value} (h : am_V ad bS as cas) (hc : (as.all fun v => v.category == 1) = true) (hn : as.length ≤ n) :
    am_L ad bS n (as.map some) ((lg_sl cas ++ List.replicate (n - (lg_sl cas).length) Slot.unset).toArray) := by
  have hc2 := am_V_one h hc
  have hl := am_sl_len hc2
  have h1 := lv_entry cas (n := n) (by rw [hl, am_V_len h]; exact hn)
  refine ⟨h1.1, h1.2.1, fun i v hv => ?_⟩
  rw [List.getElem?_map] at hv
  cases hi : as[i]? with
  | none => rw [hi] at hv; cases hv
  | some u =>
    rw [hi] at hv
    cases hv
    obtain ⟨cv, g1, g2⟩ := am_V_get h hi
    have hv1 : v.category = 1 := by
      have := List.all_eq_true.mp hc v (List.mem_of_getElem? hi)
      simpa using this
    refine ⟨hv1, cv, ?_, g2⟩
    have := h1.2.2 (0 + i, cv) (am_args_mem hc2 g1)
    simpa using this
/-- the true machine's walk out of the small one's -/
theorem am_run {p : Program} {l : Launch} {e : Env} {R : Room} {s : State} {m : MethodId} {below : List Frame} {meth : Method} {c : Code} {ex : Nat → String} {D : va_G} {cl : List vw_C} {bS : Nat} {nL mc ms : Nat} {Q : am_Q} {C : am_C} {ops : List (Nat × am_Sem)} {as cas : List Value} {w : am_W} {ws : va_W} {tys : List (ClassId × FieldType)}
    (hX : am_X (am_tb ops) C Q (0, as.map some, [], w, 0, 0)) (hv : am_V (ws.map Prod.fst) bS as cas) (hc : (as.all fun v => v.category == 1) = true) (hn : as.length ≤ nL) (hR : am_R w ws tys) (hP : va_P D cl ws s.heap) (hK : va_K D cl tys s) (hD : va_D (va_A ws s.heap.size) ws) (hscr : va_X bS w.2.2.2.1 w.2.2.2.2 s s.heap)
    (hops : ∀ q ∈ ops, am_Snd (am_Good p l e R s m cas.toArray below meth c ex D cl (va_A ws s.heap.size) bS (ws.map Prod.fst) nL mc ms Q) C Q q.1 q.2) :
    W p l e R s m cas.toArray below meth c s.heap [] 0 0 (ax_MQ below (am_Po ex D cl (va_A ws s.heap.size) bS (ws.map Prod.fst) Q) cas.toArray s mc ms (va_A ws s.heap.size)) (entryFrame m cas.toArray nL) := by
  rw [lg_entry_eq]
  refine hX (am_Good p l e R s m cas.toArray below meth c ex D cl (va_A ws s.heap.size) bS (ws.map Prod.fst) nL mc ms Q) (fun pc ls st w uc us Z hZ h => ?_) s.heap [] ws tys _ [] hR hP hK hD va_S.rf (List.prefix_refl _) (am_entry hv hc hn) trivial hscr
  exact am_tb_all (P := fun pc f => am_Snd (am_Good p l e R s m cas.toArray below meth c ex D cl (va_A ws s.heap.size) bS (ws.map Prod.fst) nL mc ms Q) C Q pc f) (fun _ => ok_halt) ops hops pc Z ls st w uc us hZ h
end AMM
