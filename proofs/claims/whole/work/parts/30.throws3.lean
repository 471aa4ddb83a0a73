/-! calls of methods that may throw: sound, with handlers and without -/
section AMU
variable {p : Program} {l : Launch} {e : Env} {R : Room} {s : State} {m : MethodId} {args : Array Value} {below : List Frame} {meth : Method} {c : Code}
variable {s0 : State} {ex : Nat → String} {D : va_G} {cl : List vw_C} {A : Nat → Prop} {bS : Nat} {ad0 : List Nat} {nL mc ms : Nat} {Q : am_Q} {C : am_C} {cc : ByteArray} {pc nx : Nat} {Ts : List Cond} {own : String}
/-- the method's frame g, with q thrown over it -/
def ax_W (p : Program) (l : Launch) (e : Env) (R : Room) (s : State) (m : MethodId) (args : Array Value) (below : List Frame) (meth : Method) (c : Code) (H : Heap) (locs : List Loc) (cells slots : Nat) (Q : State → Prop) (g : JFrame) (q : Addr) : Prop :=
  ∀ T : State, T.heap = H → Stand p l e R s m args below meth c T locs cells slots → ∃ t, Steps p.tables e below ((T.setTop g).pushFrame (.throwing q)) t ∧ Q t
theorem am_callX {Qw : State → Prop} {Q' : am_Q} {y : MethodName} {wy : List Cond} {rm : Room} {bytes : ByteArray} {maxL index na jc js k : Nat} {ret : Option FieldType} {r0 : String} {as : List Value} {w : am_W} {H : Heap} {locs : List Loc} {ws : va_W} {tys : List (ClassId × FieldType)} {lc : Array Slot} {b : Nat} {cas cr : List Value} {uc us : Nat}
    (hx : p.tables.exec = Jvm.exec) (hb : c.code = cc) (hml : c.maxLocals = nL) (hown : s.vm.findClass own = some m.cls) (hb1 : bS < s.heap.size) (hb2 : ¬ A bS) (hA : ∀ q, s.heap.size ≤ q → A q) (hroot : am_Root s0 s) (hAs : ∀ (q : Nat) (cell : Cell), s.heap[q]? = some cell → cell.vm.isStatics = true → ¬ A q)
    (hCon : am_Con l s0 ex cl y wy rm jc js (.ref k :: as) w Q') (cw : CallW R s args own r0 index y bytes maxL ret wy rm jc js na) (hd : decode cc pc = .ok (.invokevirtual index, 3))
    (hR : am_R w ws tys) (hP : va_P D cl ws H) (hK : va_K D cl tys s) (hD : va_D A ws) (hS : va_S A s.heap H locs) (hX : va_X bS w.2.2.2.1 w.2.2.2.2 s s.heap)
    (hv : am_V (ws.map Prod.fst) bS (.ref k :: as) (.ref b :: cas)) (hrecv : ∃ cellB : Cell, H[b]? = some cellB ∧ cellB.vm.isStatics = false ∧ s.vm.findClass r0 = some cellB.cls) (hn : cas.length = na) (hsz : lc.size = nL) (hcat : (cr.map fun v => v.category).sum ≤ 8) (h1 : uc + jc ≤ R.cells) (h2 : us + js ≤ R.slots)
    (kk : ∀ (v cv : Option Value) (w' : am_W) (ws' : va_W) (tys' : List (ClassId × FieldType)) (H1 : Heap) (locs1 : List Loc), Q' (.inl v) w' → am_V (ws'.map Prod.fst) bS v.toList cv.toList → am_R w' ws' tys' → va_P D cl ws' H1 → va_K D cl tys' s → va_D A ws' → va_S A s.heap H1 locs1 → ws.map Prod.fst <+: ws'.map Prod.fst → va_X bS w'.2.2.2.1 w'.2.2.2.2 s s.heap →
      W p l e R s m args below meth c H1 locs1 (uc + jc) (us + js) Qw (F0 m (pc + 3) lc (cv.toList ++ cr)))
    (kx : ∀ (n : Nat) (w' : am_W) (ws' : va_W) (tys' : List (ClassId × FieldType)) (H1 : Heap) (locs1 : List Loc) (q : Addr) (ce : Cell), Q' (.inr n) w' → am_R w' ws' tys' → va_P D cl ws' H1 → va_K D cl tys' s → va_D A ws' → va_S A s.heap H1 locs1 → ws.map Prod.fst <+: ws'.map Prod.fst → va_X bS w'.2.2.2.1 w'.2.2.2.2 s s.heap →
      H1[q]? = some ce → ce.vm = .none → s.vm.findClass (ex n) = some ce.cls → ax_W p l e R s m args below meth c H1 locs1 (uc + jc) (us + js) Qw (F0 m pc lc cr) q) :
    W p l e R s m args below meth c H locs uc us Qw (F0 m pc lc (cas.reverse ++ .ref b :: cr)) := by
  intro T hT X
  obtain ⟨⟨hrc, hrs, hfr, hlo, hws, hcw, hcode, hini, hy, hlen, hl⟩, hin, hse⟩ := cw
  obtain ⟨cellB, hcB, hoB, hclB⟩ := hrecv
  obtain ⟨mk, methM, hnamed, hmethM, hstM, habM⟩ := Cond.instanceMethod_spec hin
  obtain ⟨methM', cM, hmethM', -, -, -, -, -, -, hsigM⟩ := Cond.code_spec hnamed hcode
  cases hmethM.symm.trans hmethM'
  obtain ⟨c2, r2, m2, q1, q2, q3, q4, kP, hkP, hkPi⟩ := Cond.selects_spec hse
  cases hclB.symm.trans q1
  cases (State.methodFound?_of_named hnamed hy).symm.trans q2
  cases hnamed.symm.trans q3
  have hselP : selectMethod e.platform s.vm cellB.cls mk = .method mk := by rw [Launch.admits_selectMethod X.admits]; exact q4
  obtain ⟨vm₁, X₁, hstep₁⟩ := X.invokevirtual hx hown hl hnamed hmethM hstM hkP hkPi hy (a := b) (cell := cellB) (by rw [hT]; exact hcB) (fun z h => by rw [h] at hoB; cases hoB) hselP hmethM habM hkP hkPi (g := F0 m pc lc (cas.reverse ++ .ref b :: cr)) rfl (argsL := cas) (rest := cr) (hn.trans (hlen _ hsigM)) rfl (by rw [hb]; exact hd)
  have hM := hCon D bS H.size ws tys (.ref b :: cas) hR hv (fun q => hb2 (am_AA hA hD hS _ q))
  have hst0 : va_Pc (.ref b :: cas) (am_Pre s0 D cl bS ws tys w H.size) (Value.ref b :: cas).toArray (T.setVm vm₁) := am_start hroot hAs hb1 hb2 hP hK hD hS hX (by exact hT) X₁.warmed
  obtain ⟨o, t, L, hpo, hL, X2, hsteps⟩ := ax_into hM X₁ (g := F0 m pc lc cr) rfl (by rw [hml]; exact hsz) (by rw [hb]; exact hd) (X₁.named hnamed) (by show 2 * 0 + (cr.map fun v => v.category).sum ≤ 8; omega) hfr hlo (by rw [hrc]; exact h1) (by rw [hrs]; exact h2)
    (fun w hw => hws w hw _ _ X₁.warmed) (hws _ hcw _ _ X₁.warmed) (word_at X₁.warmed (Or.inl (by first | rfl | simp [Cond.onTables, Cond.keeps, Cond.steady])) hini) (am_Pre.blind _ _ _ _ hst0)
  generalize hV : (({ (T.setVm vm₁) with heap := t.heap, slotsUsed := t.slotsUsed } : State).setVm t.vm) = V at X2 hsteps
  have hVh : V.heap = t.heap := by rw [← hV]; rfl
  have hVv : V.vm = t.vm := by rw [← hV]; rfl
  obtain ⟨w', ws', tys', hE, ho⟩ := hpo
  have hal : s.vm.Alike t.vm := by rw [← hVv]; exact X2.warmed.alike
  have hS1 : va_S A s.heap t.heap (locs ++ L) := am_keep hA hD hS hL (by show T.heap = H; exact hT) rfl hE.2.2.2.2.2.2
  obtain ⟨g1, g2, g3, g4, g5, g6⟩ := am_behind hb1 hb2 (am_AA hA hD hS) hS1 rfl hal hE
  rcases ho with ⟨v, cv, rfl, hv9, hq⟩ | ⟨n, q, ce, rfl, hq, hce, hcv, hcl⟩
  · rcases hsteps with ⟨v9, ho9, st9⟩ | ⟨q9, ho9, -⟩
    · cases ho9
      obtain ⟨t2, a1, b1⟩ := kk v cv w' ws' tys' t.heap (locs ++ L) hq hv9 g1 g2 g3 g4 hS1 g5 g6 V hVh X2
      exact ⟨t2, hstep₁ _ fun acts => by rw [doInvoke_state]; exact st9.trans a1, b1⟩
    · cases ho9
  · rcases hsteps with ⟨v9, ho9, -⟩ | ⟨q9, ho9, st9⟩
    · cases ho9
    · cases ho9
      obtain ⟨t2, a1, b1⟩ := kx n w' ws' tys' t.heap (locs ++ L) q ce hq g1 g2 g3 g4 hS1 g5 g6 hce hcv (by rw [← hal.findClass]; exact hcl) V hVh X2
      exact ⟨t2, hstep₁ _ fun acts => by rw [doInvoke_state]; exact st9.trans a1, b1⟩
/-- a call that may throw, no handler here -/
theorem ok_invX {y : MethodName} {wy : List Cond} {rm : Room} {bytes : ByteArray} {maxL index mj na ci jc js : Nat} {ret : Option FieldType} {r0 : vw_C} (hx : p.tables.exec = Jvm.exec) (hb : c.code = cc) (hml : c.maxLocals = nL) (hown : s.vm.findClass own = some m.cls) (hlocks : meth.locks = false) (hout : c.exceptionTable.toList = []) (hb1 : bS < s.heap.size) (hb2 : ¬ A bS) (hA : ∀ q, s.heap.size ≤ q → A q) (hroot : am_Root s0 s) (hAs : ∀ (q : Nat) (cell : Cell), s.heap[q]? = some cell → cell.vm.isStatics = true → ¬ A q) (hmc : R.cells = mc) (hms : R.slots = ms)
    (hcl : cl[ci]? = some r0) (hC : ∀ as w Q', C mj as w Q' → am_Con l s0 ex cl y wy rm jc js as w Q') (cw : CallW R s args own r0.1 index y bytes maxL ret wy rm jc js na) (hd : decode cc pc = .ok (.invokevirtual index, 3)) :
    am_Snd (am_Good p l e R s m args below meth c ex D cl A bS ad0 nL mc ms Q) C Q pc (am_invX (pc + 3) mj na ci jc js mc ms) := by
  rintro Z ls st w uc us hZ ⟨k, n, q9, as, r, Q', rfl, hn, hk, hr, h1, h2, hc, kk, kx⟩ H locs ws tys lc sc hR hP hK hD hS ha hl hs hX
  dsimp only at hs ⊢
  obtain ⟨q1, cr0, rfl, hv1, hs1⟩ := am_V_app hs
  obtain ⟨b, cr, rfl, hb9, hs2⟩ := am_V_ref hs1
  obtain ⟨e9, h3, fs, rfl, -, -⟩ := am_R_at hR hk hb9
  have hv0 := am_V_rev hv1
  rw [List.reverse_reverse] at hv0
  have hv : am_V (ws.map Prod.fst) bS (.ref k :: as) (.ref b :: q1.reverse) := ⟨⟨b, hb9, rfl⟩, hv0⟩
  have hgo := am_callX (cas := q1.reverse) (cr := cr) (lc := lc) (uc := uc) (us := us) (Qw := ax_MQ below (am_Po ex D cl A bS ad0 Q) args s mc ms A) hx hb hml hown hb1 hb2 hA hroot hAs (hC _ w Q' hc) cw hd hR hP hK hD hS hX hv (va_recv hK hP hcl h3) (by rw [am_V_len hv0]; exact hn) hl.1 (by rw [am_V_cat hs2]; exact hr) (by omega) (by omega)
    (fun v cv w' ws' tys' H1 locs1 hq hv9 hR9 hP9 hK9 hD9 hS9 hp9 hX9 => hZ _ (kk v w' hq) H1 locs1 ws' tys' lc _ hR9 hP9 hK9 hD9 hS9 (ha.trans hp9) (am_L_mono hp9 hl) (am_V_join hv9 (am_V_mono hp9 hs2)) hX9)
    (fun n w' ws' tys' H1 locs1 q ce hq hR9 hP9 hK9 hD9 hS9 hp9 hX9 g1 g2 g3 T9 hT9 X9 => by
      obtain ⟨st9, hrun, hend, hW9, hsame⟩ := X9.leaveThrown q (g := F0 m pc lc cr) rfl rfl rfl (fun x hx9 => by rw [hout] at hx9; cases hx9) hlocks
      have hh : (T9.setFrames (.throwing q :: below)).heap = H1 := hT9
      exact ⟨_, st9, .threw q, hrun, hend, ⟨w', ws', tys', am_end hb1 hb2 hR9 hP9 hK9 hD9 hS9 (ha.trans hp9) hX9 hh hW9.alike, Or.inr ⟨n, q, ce, rfl, kx n w' hq, by rw [hh]; exact g1, g2, by rw [hW9.alike.findClass]; exact g3⟩⟩, hW9, _, hsame.mono (by omega) (by omega), hS9.2.2⟩)
  rw [List.reverse_reverse] at hgo
  exact hgo
end AMU
