/-! calls, throws, catching: sound -/
section AMK
variable {p : Program} {l : Launch} {e : Env} {R : Room} {s : State} {m : MethodId} {args : Array Value} {below : List Frame} {meth : Method} {c : Code}
/-- a method's start -/
def am_Pre (s0 : State) (D : va_G) (cl : List vw_C) (bS : Nat) (ws : va_W) (tys : List (ClassId × FieldType)) (w : am_W) (sz : Nat) : State → Prop := fun U =>
  U.heap.size = sz ∧ va_P D cl ws U.heap ∧ va_K D cl tys U ∧ va_D (fun _ => True) ws ∧ va_X bS w.2.2.2.1 w.2.2.2.2 U U.heap ∧ am_Root s0 U
theorem am_Pre.blind {s0 : State} {D : va_G} {cl : List vw_C} {bS : Nat} {ws : va_W} {tys : List (ClassId × FieldType)} {w : am_W} {sz : Nat} {cas : List Value} : FrameBlind (va_Pc cas (am_Pre s0 D cl bS ws tys w sz)) := by
  intro a U g mk q
  obtain ⟨q0, q1, qP, qK, qD, qX, qU⟩ := q
  have ha : U.vm.Alike (U.calling g mk a).vm := Vm.Alike.refl U.vm
  exact ⟨q0, q1, qP, va_K.moved ha qK, qD, va_X.moved ha qX, qU.1, qU.2⟩
/-- a method's contract, by the small machine's words -/
def am_Con (l : Launch) (s0 : State) (ex : Nat → String) (cl : List vw_C) (y : MethodName) (wy : List Cond) (rm : Room) (mc ms : Nat) (as : List Value) (w : am_W) (Q : am_Q) : Prop :=
  ∀ (D : va_G) (bS sz : Nat) (ws : va_W) (tys : List (ClassId × FieldType)) (cas : List Value), am_R w ws tys → am_V (ws.map Prod.fst) bS as cas → ¬ va_A ws sz bS →
    ax_Met l y wy rm (va_Pc cas (am_Pre s0 D cl bS ws tys w sz)) (am_Po ex D cl (va_A ws sz) bS (ws.map Prod.fst) Q) mc ms (va_A ws sz)
theorem am_Con.met {s0 : State} {ex : Nat → String} {cl : List vw_C} {y : MethodName} {wy : List Cond} {rm : Room} {jc js : Nat} {as : List Value} {w : am_W} {Q' : am_Q} (h : am_Con l s0 ex cl y wy rm jc js as w Q') (hq : ∀ E w', ¬ Q' (.inr E) w') {D : va_G} {bS sz : Nat} {ws : va_W} {tys : List (ClassId × FieldType)} {cas : List Value} (hR : am_R w ws tys) (hv : am_V (ws.map Prod.fst) bS as cas) (hn : ¬ va_A ws sz bS) :
    Met l y wy rm (va_Pc cas (am_Pre s0 D cl bS ws tys w sz)) (am_Po ex D cl (va_A ws sz) bS (ws.map Prod.fst) Q') jc js (va_A ws sz) := by
  refine MetFree.mono (h D bS sz ws tys cas hR hv hn) (fun _ _ h => h) (fun _ _ _ _ _ h => h) (fun a st o t _ h => ?_)
  obtain ⟨hpo, hW, L, hsame, hL⟩ := h
  obtain ⟨w', ws', tys', hE, ⟨v, cv, ho, h1⟩ | ⟨n, q, ce, -, h9, -⟩⟩ := id hpo
  · exact ⟨hpo, L, ⟨⟨cv, ho⟩, hW, hsame⟩, hL⟩
  · exact (hq _ _ h9).elim
variable {s0 : State} {ex : Nat → String} {D : va_G} {cl : List vw_C} {A : Nat → Prop} {bS : Nat} {ad0 : List Nat} {nL mc ms : Nat} {Q : am_Q} {C : am_C} {cc : ByteArray} {pc nx : Nat} {Ts : List Cond} {own : String}
theorem am_AA {ws : va_W} {H : Heap} {locs : List Loc} (hA : ∀ q, s.heap.size ≤ q → A q) (hD : va_D A ws) (hS : va_S A s.heap H locs) : ∀ q, va_A ws H.size q → A q := by
  intro q h
  rcases h with ⟨k, e9, h⟩ | h
  · exact hD.2 k _ h
  · exact hA q (Nat.le_trans hS.1 h)
/-- what a callee leaves, seen by the caller -/
theorem am_keep {H H1 : Heap} {locs L : List Loc} {ws : va_W} {st t : State} (hA : ∀ q, s.heap.size ≤ q → A q) (hD : va_D A ws) (hS : va_S A s.heap H locs) (hL : ∀ q ∈ L, va_A ws H.size q.base) (h0 : st.heap = H) (h1 : t.heap = H1) (hF : va_F (va_A ws H.size) st t) : va_S A s.heap H1 (locs ++ L) := by
  have hAA := am_AA hA hD hS
  obtain ⟨f1, f2⟩ := hF
  rw [h0, h1] at f1 f2
  refine ⟨Nat.le_trans hS.1 f1, fun q q1 q2 => ?_, fun q hq => ?_⟩
  · rw [f2 q (Nat.lt_of_lt_of_le q1 hS.1) (fun z => q2 (hAA q z))]
    exact hS.2.1 q q1 q2
  · rcases List.mem_append.mp hq with h | h
    · exact hS.2.2 q h
    · exact hAA _ (hL q h)
/-- the caller's world behind a call -/
theorem am_behind {H1 : Heap} {locs1 : List Loc} {ws ws' : va_W} {tys' : List (ClassId × FieldType)} {w' : am_W} {st t : State} {sz : Nat} (hb1 : bS < s.heap.size) (hb2 : ¬ A bS) (hAA : ∀ q, va_A ws sz q → A q) (hS1 : va_S A s.heap H1 locs1) (h1 : t.heap = H1) (hal : s.vm.Alike t.vm)
    (hE : am_End D cl (va_A ws sz) bS (ws.map Prod.fst) w' ws' tys' st t) : am_R w' ws' tys' ∧ va_P D cl ws' H1 ∧ va_K D cl tys' s ∧ va_D A ws' ∧ ws.map Prod.fst <+: ws'.map Prod.fst ∧ va_X bS w'.2.2.2.1 w'.2.2.2.2 s s.heap := by
  obtain ⟨hR, hP, hK, hD, hp, hX, -⟩ := hE
  exact ⟨hR, by rw [← h1]; exact hP, va_K.moved hal.symm hK, hD.weaken (fun k x _ h => hAA x.1 h), hp, (va_X.moved hal.symm hX).kept (by rw [h1]; exact (hS1.2.1 bS hb1 hb2).symm)⟩
/-- a call that returns -/
theorem am_callW {Qw : State → Prop} {Q' : am_Q} {H : Heap} {locs : List Loc} {ws : va_W} {lc : Array Slot} {sc cr : List Value} {uc us jc js : Nat} {a : Array Value}
    (hr : va_Run p l e R s m args below meth c H locs uc us jc js (F0 m pc lc sc) cr (am_Po ex D cl (va_A ws H.size) bS (ws.map Prod.fst) Q' a) (va_A ws H.size))
    (hb1 : bS < s.heap.size) (hb2 : ¬ A bS) (hA : ∀ q, s.heap.size ≤ q → A q) (hD : va_D A ws) (hS : va_S A s.heap H locs)
    (kk : ∀ (v cv : Option Value) (w' : am_W) (ws' : va_W) (tys' : List (ClassId × FieldType)) (H1 : Heap) (locs1 : List Loc), Q' (.inl v) w' → am_V (ws'.map Prod.fst) bS v.toList cv.toList → am_R w' ws' tys' → va_P D cl ws' H1 → va_K D cl tys' s → va_D A ws' → va_S A s.heap H1 locs1 → ws.map Prod.fst <+: ws'.map Prod.fst → va_X bS w'.2.2.2.1 w'.2.2.2.2 s s.heap →
      W p l e R s m args below meth c H1 locs1 (uc + jc) (us + js) Qw (F0 m (pc + 3) lc (cv.toList ++ cr))) :
    W p l e R s m args below meth c H locs uc us Qw (F0 m pc lc sc) := by
  intro T hT X
  obtain ⟨v, st₀, t, T', L, h0, X', hL, e1, e2, ⟨w', ws', tys', hE, ho⟩, st⟩ := hr T hT X
  rcases ho with ⟨v', cv, ho, hv, hq⟩ | ⟨n, q, ce, ho, -⟩
  · cases ho
    have hal : s.vm.Alike t.vm := by rw [← e2]; exact X'.warmed.alike
    have hS1 := am_keep hA hD hS hL h0 e1.symm hE.2.2.2.2.2.2
    obtain ⟨g1, g2, g3, g4, g5, g6⟩ := am_behind hb1 hb2 (am_AA hA hD hS) hS1 e1.symm hal hE
    obtain ⟨t2, a1, b1⟩ := kk v' v w' ws' tys' T'.heap (locs ++ L) hq hv g1 g2 g3 g4 hS1 g5 g6 T' rfl X'
    exact ⟨t2, st t2 a1, b1⟩
  · cases ho
/-- what a callee's start asks, out of the caller's state -/
theorem am_start {H : Heap} {locs : List Loc} {ws : va_W} {tys : List (ClassId × FieldType)} {w : am_W} {U : State} {cas : List Value} (hroot : am_Root s0 s) (hAs : ∀ (q : Nat) (cell : Cell), s.heap[q]? = some cell → cell.vm.isStatics = true → ¬ A q) (hb1 : bS < s.heap.size) (hb2 : ¬ A bS)
    (hP : va_P D cl ws H) (hK : va_K D cl tys s) (hD : va_D A ws) (hS : va_S A s.heap H locs) (hX : va_X bS w.2.2.2.1 w.2.2.2.2 s s.heap) (hh : U.heap = H) (hW : s.WarmedH U.vm) :
    va_Pc cas (am_Pre s0 D cl bS ws tys w H.size) cas.toArray U := by
  refine ⟨rfl, by rw [hh], by rw [hh]; exact hP, va_K.moved hW.alike hK, hD.weaken (fun _ _ _ _ => trivial), ?_, hroot.step hW fun q cell h1 h2 => ?_⟩
  · exact (va_X.moved hW.alike hX).kept (by rw [hh]; exact hS.2.1 bS hb1 hb2)
  · rw [hh, hS.2.1 q (Array.getElem?_eq_some_iff.mp h1).1 (hAs q cell h1 h2)]
    exact h1
/-- a call of a method that doesn't throw: static, or a constructor -/
theorem ok_inv {y : MethodName} {wy : List Cond} {rm : Room} {mj na jc js : Nat} (hml : c.maxLocals = nL) (hb1 : bS < s.heap.size) (hb2 : ¬ A bS) (hA : ∀ q, s.heap.size ≤ q → A q) (hroot : am_Root s0 s) (hAs : ∀ (q : Nat) (cell : Cell), s.heap[q]? = some cell → cell.vm.isStatics = true → ¬ A q) (hmc : R.cells = mc) (hms : R.slots = ms)
    (hC : ∀ as w Q', C mj as w Q' → am_Con l s0 ex cl y wy rm jc js as w Q')
    (hrun : ∀ (Pc : Array Value → State → Prop) (Qc : Array Value → State → Outcome → State → Prop) (free : Addr → Prop) (H : Heap) (locs : List Loc) (uc us : Nat) (lc : Array Slot) (cas cr : List Value), Met l y wy rm Pc Qc jc js free → FrameBlind Pc → (∀ U : State, U.heap = H → s.WarmedH U.vm → Pc cas.toArray U) → cas.length = na → lc.size = nL → (cr.map fun v => v.category).sum ≤ 8 → uc + jc ≤ R.cells → us + js ≤ R.slots →
      va_Run p l e R s m args below meth c H locs uc us jc js (F0 m pc lc (cas.reverse ++ cr)) cr (Qc cas.toArray) free) :
    am_Snd (am_Good p l e R s m args below meth c ex D cl A bS ad0 nL mc ms Q) C Q pc (am_inv (pc + 3) mj na jc js mc ms) := by
  rintro Z ls st w uc us hZ ⟨as, r, Q', rfl, hn, hr, h1, h2, hc, kk, kx⟩ H locs ws tys lc sc hR hP hK hD hS ha hl hs hX
  dsimp only at hs ⊢
  obtain ⟨q1, cr, rfl, hv1, hs1⟩ := am_V_app hs
  have hv := am_V_rev hv1
  rw [List.reverse_reverse] at hv
  have hM := (hC as w Q' hc).met kx (D := D) (bS := bS) (sz := H.size) hR hv (fun q => hb2 (am_AA hA hD hS _ q))
  have hgo := hrun _ _ _ H locs uc us lc q1.reverse cr hM am_Pre.blind (fun U hU9 hW => am_start hroot hAs hb1 hb2 hP hK hD hS hX hU9 hW) (by rw [am_V_len hv]; exact hn) hl.1 (by rw [am_V_cat hs1]; exact hr) (by omega) (by omega)
  rw [List.reverse_reverse] at hgo
  exact am_callW hgo hb1 hb2 hA hD hS fun v cv w' ws' tys' H1 locs1 hq hv9 hR9 hP9 hK9 hD9 hS9 hp9 hX9 => hZ _ (kk v w' hq) H1 locs1 ws' tys' lc _ hR9 hP9 hK9 hD9 hS9 (ha.trans hp9) (am_L_mono hp9 hl) (am_V_join hv9 (am_V_mono hp9 hs1)) hX9
/-- .. on an object of class ci -/
theorem ok_invV {y : MethodName} {wy : List Cond} {rm : Room} {mj na ci jc js : Nat} {r0 : vw_C} (hml : c.maxLocals = nL) (hb1 : bS < s.heap.size) (hb2 : ¬ A bS) (hA : ∀ q, s.heap.size ≤ q → A q) (hroot : am_Root s0 s) (hAs : ∀ (q : Nat) (cell : Cell), s.heap[q]? = some cell → cell.vm.isStatics = true → ¬ A q) (hmc : R.cells = mc) (hms : R.slots = ms)
    (hcl : cl[ci]? = some r0) (hC : ∀ as w Q', C mj as w Q' → am_Con l s0 ex cl y wy rm jc js as w Q')
    (hrun : ∀ (Pc : Array Value → State → Prop) (Qc : Array Value → State → Outcome → State → Prop) (free : Addr → Prop) (H : Heap) (locs : List Loc) (uc us : Nat) (lc : Array Slot) (b : Nat) (cas cr : List Value), Met l y wy rm Pc Qc jc js free → PreV s H r0.1 b Pc cas → cas.length = na → lc.size = nL → (cr.map fun v => v.category).sum ≤ 8 → uc + jc ≤ R.cells → us + js ≤ R.slots →
      va_Run p l e R s m args below meth c H locs uc us jc js (F0 m pc lc (cas.reverse ++ .ref b :: cr)) cr (Qc (Value.ref b :: cas).toArray) free) :
    am_Snd (am_Good p l e R s m args below meth c ex D cl A bS ad0 nL mc ms Q) C Q pc (am_invV (pc + 3) mj na ci jc js mc ms) := by
  rintro Z ls st w uc us hZ ⟨k, n, q9, as, r, Q', rfl, hn, hk, hr, h1, h2, hc, kk, kx⟩ H locs ws tys lc sc hR hP hK hD hS ha hl hs hX
  dsimp only at hs ⊢
  obtain ⟨q1, cr0, rfl, hv1, hs1⟩ := am_V_app hs
  obtain ⟨b, cr, rfl, hb9, hs2⟩ := am_V_ref hs1
  obtain ⟨e9, h3, fs, rfl, -, -⟩ := am_R_at hR hk hb9
  have hv0 := am_V_rev hv1
  rw [List.reverse_reverse] at hv0
  have hv : am_V (ws.map Prod.fst) bS (.ref k :: as) (.ref b :: q1.reverse) := ⟨⟨b, hb9, rfl⟩, hv0⟩
  have hM := (hC (.ref k :: as) w Q' hc).met kx (D := D) (bS := bS) (sz := H.size) hR hv (fun q => hb2 (am_AA hA hD hS _ q))
  have hgo := hrun _ _ _ H locs uc us lc b q1.reverse cr hM ⟨am_Pre.blind, va_recv hK hP hcl h3, fun U hU9 hW => am_start hroot hAs hb1 hb2 hP hK hD hS hX hU9 hW⟩ (by rw [am_V_len hv0]; exact hn) hl.1 (by rw [am_V_cat hs2]; exact hr) (by omega) (by omega)
  rw [List.reverse_reverse] at hgo
  exact am_callW hgo hb1 hb2 hA hD hS fun v cv w' ws' tys' H1 locs1 hq hv9 hR9 hP9 hK9 hD9 hS9 hp9 hX9 => hZ _ (kk v w' hq) H1 locs1 ws' tys' lc _ hR9 hP9 hK9 hD9 hS9 (ha.trans hp9) (am_L_mono hp9 hl) (am_V_join hv9 (am_V_mono hp9 hs2)) hX9
end AMK
