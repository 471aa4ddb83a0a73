/-! new int[n][k]: sound (by the library's Stand.multianewarray2F) -/
theorem vr_outer (c : ClassId) (N h0 : Nat) : ∀ i : Nat, Jvm.Free.Multi.outerC c N h0 i = arrV c N (fun j => va_rf (if j < i then some (h0 + 1 + j) else none))
  | 0 => by
    show ({ cls := c, slots := Array.replicate N .null, vm := .none } : Cell) = _
    rw [arrV_new]
    refine congrArg (arrV c N) (funext fun j => ?_)
    simp [va_rf]
  | i + 1 => by
    show (Jvm.Free.Multi.outerC c N h0 i).setSlot i (.ref (h0 + 1 + i)) = _
    rw [vr_outer c N h0 i, arrV_store]
    refine congrArg (arrV c N) (funext fun j => ?_)
    by_cases e : j = i
    · subst e
      simp [updV, va_rf]
    · by_cases h : j < i
      · simp [updV, e, h, Nat.lt_succ_of_lt h]
      · simp [updV, e, h, show ¬ j < i + 1 by omega]
section AMY
variable {p : Program} {l : Launch} {e : Env} {R : Room} {s : State} {m : MethodId} {args : Array Value} {below : List Frame} {meth : Method} {c : Code}
variable {s0 : State} {ex : Nat → String} {D : va_G} {cl : List vw_C} {A : Nat → Prop} {bS : Nat} {ad0 : List Nat} {nL mc ms : Nat} {Q : am_Q} {C : am_C} {cc : ByteArray} {pc nx : Nat} {Ts : List Cond} {own : String}
theorem ok_mna {index : Nat} (hx : p.tables.exec = Jvm.exec) (hb : c.code = cc) (hts : ∀ w ∈ Ts, w.before args s = true) (hown : s.vm.findClass own = some m.cls) (hA : ∀ q, s.heap.size ≤ q → A q) (hmc : R.cells = mc) (hms : R.slots = ms) (hcl : Cond.classLink own index "[[I" ∈ Ts) (hov : Cond.arrayOver (.array .int) ∈ Ts) (harr : Cond.arrayClass .int ∈ Ts) (hd : decode cc pc = .ok (.multianewarray index 2, 4)) :
    am_Snd (am_Good p l e R s m args below meth c ex D cl A bS ad0 nL mc ms Q) C Q pc (am_mna (pc + 4) mc ms) := by
  rintro Z ls st w uc us hZ ⟨n, k, r, rfl, hn, hk, h1, h2, h⟩ H locs ws tys lc sc hR hP hK hD hS ha hl hs hX
  dsimp only at hR hs hl hX ⊢
  obtain ⟨r', rfl, hs1⟩ := am_V_int hs
  obtain ⟨r', rfl, hs2⟩ := am_V_int hs1
  intro T hT X
  have hn31 : n < 2 ^ 31 := by omega
  have hk31 : k < 2 ^ 31 := by omega
  have en : (Int32.ofNat n).toNatClampNeg = n := nI_clamp hn31
  have ek : (Int32.ofNat k).toNatClampNeg = k := nI_clamp hk31
  obtain ⟨vm₁, cA, comp, -, fA, fC, hO, hI, X', step⟩ := X.multianewarray2F hx (ty := .int) hown (hts _ hcl) (hts _ hov) (hts _ harr) (g := F0 m pc lc (.int (Int32.ofNat k) :: .int (Int32.ofNat n) :: r')) rfl (by rw [hb]; exact hd) rfl (nI_pos hn31) (nI_pos hk31) (by rw [en]; omega) (by rw [ek]; show k * 4 ≤ _; omega) (by rw [ek]; omega) rfl rfl (by rw [en]; omega) (by rw [en, ek]; omega)
  rw [en, ek] at X' step
  generalize hF : Jvm.Free.Multi.fill (T.setVm vm₁) cA comp n k (defaultValue .int) n = F at X' step
  have hTh : (T.setVm vm₁).heap = H := hT
  obtain ⟨f1, f2, -, -⟩ := Jvm.Free.Multi.fill_facts (T.setVm vm₁) cA comp n k (defaultValue .int) n
  rw [hF, hTh] at f1 f2
  have hold : ∀ x : Nat, x < H.size → F.heap[x]? = H[x]? := fun x hx9 => by
    have := Jvm.Free.Multi.fill_old (T.setVm vm₁) cA comp n k (defaultValue .int) (a := x) (by rw [hTh]; exact hx9) n
    rw [hF, hTh] at this
    exact this
  have hrow : ∀ j : Nat, j < n → F.heap[H.size + 1 + j]? = some (vp_cell comp (k, .inl (fun _ => 0))) := fun j hj => by
    have := Jvm.Free.Multi.fill_inner (T.setVm vm₁) cA comp n k (defaultValue .int) n j hj
    rw [hF, hTh] at this
    rw [this, vp_cell_i]
    show some ({ cls := comp, slots := Array.replicate k (.int 0), vm := .none } : Cell) = _
    rw [arrV_new]
  rw [vr_outer] at f2
  -- the new world
  obtain ⟨ws', hws⟩ : ∃ z : va_W, z = ws ++ ((H.size, .inl (cA, n, .inr (.inr (.inr (.inr (fun j => if j < n then some (H.size + 1 + j) else none)))))) :: (List.range n).map (fun i => (H.size + 1 + i, .inl (comp, k, .inl (fun _ => 0))))) := ⟨_, rfl⟩
  have hp : ws.map Prod.fst <+: ws'.map Prod.fst := by rw [hws, List.map_append]; exact List.prefix_append _ _
  have hlen : ws.length = w.1.length := hR.1.symm
  have hget : ∀ (i : Nat) (q : Nat × va_E), ws'[i]? = some q → (i < ws.length ∧ ws[i]? = some q) ∨ (i = ws.length ∧ q = (H.size, .inl (cA, n, .inr (.inr (.inr (.inr (fun j => if j < n then some (H.size + 1 + j) else none))))))) ∨ (ws.length < i ∧ i - ws.length - 1 < n ∧ q = (H.size + 1 + (i - ws.length - 1), .inl (comp, k, .inl (fun _ => 0)))) := by
    intro i q hi
    rw [hws] at hi
    rcases Nat.lt_or_ge i ws.length with hlt | hge
    · rw [List.getElem?_append_left hlt] at hi
      exact Or.inl ⟨hlt, hi⟩
    · rw [List.getElem?_append_right hge] at hi
      rcases Nat.lt_or_ge ws.length i with h9 | h9
      · obtain ⟨j, hj⟩ : ∃ j, i - ws.length = j + 1 := ⟨i - ws.length - 1, by omega⟩
        rw [hj, List.getElem?_cons_succ, List.getElem?_map] at hi
        have hjn : j < n := by
          rcases Nat.lt_or_ge j n with h8 | h8
          · exact h8
          · rw [List.getElem?_eq_none (by simpa using h8)] at hi
            cases hi
        rw [List.getElem?_range hjn] at hi
        cases hi
        exact Or.inr (Or.inr ⟨h9, by omega, by rw [show i - ws.length - 1 = j by omega]⟩)
      · have : i = ws.length := by omega
        subst this
        rw [Nat.sub_self, List.getElem?_cons_zero] at hi
        cases hi
        exact Or.inr (Or.inl ⟨rfl, rfl⟩)
  have hput : ∀ (i : Nat), i < n → ws'[ws.length + 1 + i]? = some (H.size + 1 + i, .inl (comp, k, .inl (fun _ => 0))) := by
    intro i hi
    rw [hws, List.getElem?_append_right (by omega), show ws.length + 1 + i - ws.length = i + 1 by omega, List.getElem?_cons_succ, List.getElem?_map, List.getElem?_range hi]
    rfl
  have hput0 : ws'[ws.length]? = some (H.size, .inl (cA, n, .inr (.inr (.inr (.inr (fun j => if j < n then some (H.size + 1 + j) else none)))))) := by
    rw [hws, List.getElem?_append_right (Nat.le_refl _), Nat.sub_self]
    rfl
  have hPn : va_P D cl ws' F.heap := by
    intro i q hi
    rcases hget i q hi with ⟨-, h9⟩ | ⟨-, rfl⟩ | ⟨-, h9, rfl⟩
    · exact (hP i q h9).kept (hold q.1 (hP i q h9).lt)
    · exact f2
    · exact hrow _ h9
  have hlt : ∀ (i : Nat) (q : Nat × va_E), ws[i]? = some q → q.1 < H.size := fun i q hi => (hP i q hi).lt
  have hDn : va_D A ws' := by
    refine ⟨fun i j x y hi hj hxy => ?_, fun i q hi => ?_⟩
    · rcases hget i x hi with ⟨q1, q2⟩ | ⟨q1, rfl⟩ | ⟨q1, q2, rfl⟩ <;> rcases hget j y hj with ⟨g1, g2⟩ | ⟨g1, rfl⟩ | ⟨g1, g2, rfl⟩
      · exact hD.1 i j x y q2 g2 hxy
      · have := hlt i x q2; dsimp only at hxy; omega
      · have := hlt i x q2; dsimp only at hxy; omega
      · have := hlt j y g2; dsimp only at hxy; omega
      · omega
      · dsimp only at hxy; omega
      · have := hlt j y g2; dsimp only at hxy; omega
      · dsimp only at hxy; omega
      · dsimp only at hxy; omega
    · rcases hget i q hi with ⟨-, h9⟩ | ⟨-, rfl⟩ | ⟨-, -, rfl⟩
      · exact hD.2 i q h9
      · exact hA _ hS.1
      · exact hA _ (by have := hS.1; show s.heap.size ≤ H.size + 1 + _; omega)
  have hSn : va_S A s.heap F.heap locs := ⟨by rw [f1]; have := hS.1; omega, fun q q1 q2 => by rw [hold q (Nat.lt_of_lt_of_le q1 hS.1)]; exact hS.2.1 q q1 q2, hS.2.2⟩
  have hKn : va_K D cl (tys ++ [(cA, .array .int), (comp, .int)]) s := by
    refine hK.app ⟨hK.1, fun i q hi => ?_⟩
    match i, hi with
    | 0, hi =>
      cases hi
      exact ⟨fun N z => ⟨fun _ h9 => (by cases h9), (hO 0 0 0).1.2⟩, fA⟩
    | 1, hi =>
      cases hi
      exact ⟨fun N z => ⟨fun _ h9 => (by cases h9), (hI 0 .null).1.2⟩, fC⟩
    | _ + 2, hi => simp at hi
  have hRn : am_R (w.1 ++ (3, n, (List.range n).map (fun i => w.1.length + 1 + i)) :: List.replicate n (0, k, []), (fun a b => if w.1.length ≤ a then 0 else w.2.1 a b), w.2.2) ws' (tys ++ [(cA, .array .int), (comp, .int)]) := by
    refine ⟨by rw [hws]; simp [hlen], fun i ci hi => ?_⟩
    dsimp only at hi ⊢
    rcases Nat.lt_or_ge i w.1.length with hlt9 | hge9
    · rw [List.getElem?_append_left hlt9] at hi
      obtain ⟨a9, e9, g1, g2⟩ := hR.2 i ci hi
      refine ⟨a9, e9, by rw [hws, List.getElem?_append_left (by omega)]; exact g1, am_E_mono hp (List.prefix_append _ _) g2 ?_ rfl⟩
      funext b
      simp [show ¬ w.1.length ≤ i by omega]
    · rw [List.getElem?_append_right hge9] at hi
      rcases Nat.lt_or_ge w.1.length i with h9 | h9
      · obtain ⟨j, hj⟩ : ∃ j, i = w.1.length + 1 + j := ⟨i - w.1.length - 1, by omega⟩
        subst hj
        rw [show w.1.length + 1 + j - w.1.length = j + 1 by omega, List.getElem?_cons_succ] at hi
        have hjn : j < n := by
          rcases Nat.lt_or_ge j n with h8 | h8
          · exact h8
          · rw [List.getElem?_eq_none (by simpa using h8)] at hi
            cases hi
        rw [List.getElem?_replicate_of_lt hjn] at hi
        cases hi
        refine ⟨_, _, by rw [← hlen]; exact hput j hjn, comp, tys.length + 1, ?_, by rw [List.getElem?_append_right (by omega)]; simp⟩
        congr 4
        funext b
        simp [show w.1.length ≤ w.1.length + 1 + j by omega]
      · have : i = w.1.length := by omega
        subst this
        rw [Nat.sub_self, List.getElem?_cons_zero] at hi
        cases hi
        refine ⟨_, _, by rw [← hlen]; exact hput0, cA, tys.length, _, rfl, by rw [List.getElem?_append_right (by omega)]; simp, fun j x hj => ?_⟩
        dsimp only at hj
        rw [List.getElem?_map] at hj
        have hjn : j < n := by
          rcases Nat.lt_or_ge j n with h8 | h8
          · exact h8
          · rw [List.getElem?_eq_none (by simpa using h8)] at hj
            cases hj
        rw [List.getElem?_range hjn] at hj
        cases hj
        exact ⟨H.size + 1 + j, by rw [← hlen]; exact am_at (hput j hjn), by simp [hjn]⟩
  obtain ⟨t, a1, b1⟩ := hZ _ h F.heap locs ws' _ lc (.ref H.size :: r') hRn hPn hKn hDn hSn (ha.trans hp) (am_L_mono hp hl) ⟨⟨H.size, by rw [← hlen]; exact am_at hput0, rfl⟩, am_V_mono hp hs2⟩ hX F rfl (by rw [show uc + 1 + n = uc + 1 + n from rfl]; exact X')
  exact ⟨t, step t (by rw [hT]; exact a1), b1⟩
end AMY
