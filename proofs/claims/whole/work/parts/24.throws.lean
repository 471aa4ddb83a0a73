/-! methods that return or throw: their contracts, their calls (by the library's Steps.callFree), throw new E() (by the library's Stand.ctorThrow0), catching (by the library's Stand.thenCaughtThrough) -/
section AXA
/-- a method's end: Po of its outcome; the tables; what is new; what was written -/
def ax_E (Po : Array Value → State → Outcome → State → Prop) (mc ms : Nat) (free : Addr → Prop) : Array Value → State → Outcome → State → Prop := fun a st o t =>
  Po a st o t ∧ st.WarmedH t.vm ∧ ∃ L : List Loc, st.sameButNew ({ t with vm := st.vm } : State) L mc ms ∧ ∀ q ∈ L, free q.base
def ax_Met (l : Launch) (y : MethodName) (ws : List Cond) (rm : Room) (Pc : Array Value → State → Prop) (Po : Array Value → State → Outcome → State → Prop) (mc ms : Nat) (free : Addr → Prop) : Prop :=
  MetFree l y (headSpec ws rm) Pc (fun _ _ _ _ _ => True) (ax_E Po mc ms free)
def ax_MQ (below : List Frame) (Po : Array Value → State → Outcome → State → Prop) (a : Array Value) (s : State) (mc ms : Nat) (free : Addr → Prop) : State → Prop := fun t =>
  ∃ o, t.status = .running ∧ Ended t below o ∧ ax_E Po mc ms free a s o t
theorem ax_ofW {l : Launch} {y : MethodName} {ws ws' : List Cond} {rm : Room} {Pc : Array Value → State → Prop} {Po : Array Value → State → Outcome → State → Prop} {mc ms : Nat} {free : Addr → Prop} {cc : ByteArray} {maxL : Nat} {ret : Option FieldType}
    (hy : plainName y.cls = true) (hw : ws = Cond.code y cc maxL ret :: ws')
    (body : ∀ p e s m args below meth c s₁, BodyLoose p l y (headSpec ws rm) cc maxL ret e s m args below meth c s₁ → c.maxLocals = maxL → c.exceptionTable.toList = [] → Pc args s →
      W p l e (headSpec ws rm).room s m args below meth c s.heap [] 0 0 (ax_MQ below Po args s mc ms free) (entryFrame m args maxL)) : ax_Met l y ws rm Pc Po mc ms free := by
  have hin : Cond.code y cc maxL ret ∈ ws := by rw [hw]; exact List.mem_cons_self
  refine MetFree.of_bodyS (code := cc) (maxLocals := maxL) (ret := ret) hy (fun args s m h hn => ?_) (fun p e s m args below meth c s₁ B hml hP _ => ?_)
  · obtain ⟨meth, c, h1, h2, h3, h4, h5, h6, -⟩ := Cond.code_spec hn (atoms_spec (ws := ws) h _ hin)
    exact ⟨meth, c, h1, h2, h3, h4, h5, h6⟩
  · have ht := B.noHandlers (atoms_spec (ws := ws) B.pre _ hin)
    have hs : s₁.heap = s.heap := by rw [B.state]; rfl
    obtain ⟨t, a1, o, b1, b2, b3⟩ := body p e s m args below meth c s₁ B hml (by rw [Array.isEmpty_iff.mp ht]) hP s₁ hs (Stand.of_body B)
    exact ⟨t, o, a1, b1, b2, b3⟩
theorem ax_ofWH {l : Launch} {y : MethodName} {ws ws' : List Cond} {rm : Room} {Pc : Array Value → State → Prop} {Po : Array Value → State → Outcome → State → Prop} {mc ms : Nat} {free : Addr → Prop} {cc : ByteArray} {maxL : Nat} {ret : Option FieldType} {hh : List (Nat × Nat × Nat × Nat)}
    (hy : plainName y.cls = true) (hw : ws = Cond.codeWith y cc maxL ret hh :: ws')
    (body : ∀ p e s m args below meth c s₁, BodyLoose p l y (headSpec ws rm) cc maxL ret e s m args below meth c s₁ → c.maxLocals = maxL → c.exceptionTable.toList = tableOf hh → Pc args s →
      W p l e (headSpec ws rm).room s m args below meth c s.heap [] 0 0 (ax_MQ below Po args s mc ms free) (entryFrame m args maxL)) : ax_Met l y ws rm Pc Po mc ms free := by
  have hin : Cond.codeWith y cc maxL ret hh ∈ ws := by rw [hw]; exact List.mem_cons_self
  refine MetFree.of_bodyS (code := cc) (maxLocals := maxL) (ret := ret) hy (fun args s m h hn => ?_) (fun p e s m args below meth c s₁ B hml hP _ => ?_)
  · obtain ⟨m9, meth, c, hn9, h1, h2, h3, h4, -, h5, h6, -⟩ := Cond.codeWith_spec (atoms_spec (ws := ws) h _ hin)
    cases hn.symm.trans hn9
    exact ⟨meth, c, h1, h2, h3, h4, h5, h6⟩
  · have ht : c.exceptionTable.toList = tableOf hh := by
      obtain ⟨m9, meth9, c9, hn9, h1, h2, -, -, h6, -⟩ := Cond.codeWith_spec (atoms_spec (ws := ws) B.pre _ hin)
      cases hn9.symm.trans B.named
      cases h1.symm.trans B.method
      cases h2.symm.trans (Stand.of_body B).code
      rw [← h6, table_eq]
    have hs : s₁.heap = s.heap := by rw [B.state]; rfl
    obtain ⟨t, a1, o, b1, b2, b3⟩ := body p e s m args below meth c s₁ B hml ht hP s₁ hs (Stand.of_body B)
    exact ⟨t, o, a1, b1, b2, b3⟩
section AXB
variable {p : Program} {l : Launch} {e : Env} {R : Room} {s : State} {m : MethodId} {args : Array Value} {below : List Frame} {meth : Method} {c : Code} {H : Heap} {locs : List Loc} {cells slots : Nat} {Po : Array Value → State → Outcome → State → Prop} {free : Addr → Prop} {mc ms : Nat}
/-- a return -/
theorem ax_ret {g : JFrame} (k : W p l e R s m args below meth c H locs cells slots (MQ below Po args s mc ms free) g) : W p l e R s m args below meth c H locs cells slots (ax_MQ below Po args s mc ms free) g := by
  intro T hT X
  obtain ⟨t, a1, o, b1, b2, b3, L, ⟨-, h1, h2⟩, h3⟩ := k T hT X
  exact ⟨t, a1, o, b1, b2, b3, h1, L, h2, h3⟩
theorem W.imp {Q Q' : State → Prop} {g : JFrame} (h : ∀ t, Q t → Q' t) (k : W p l e R s m args below meth c H locs cells slots Q g) : W p l e R s m args below meth c H locs cells slots Q' g := by
  intro T hT X
  obtain ⟨t, a1, b1⟩ := k T hT X
  exact ⟨t, a1, h t b1⟩
/-- a method that returns or throws is entered: how the caller stands behind it -/
theorem ax_into {y : MethodName} {ws : List Cond} {rm : Room} {Pc : Array Value → State → Prop} {bytes : ByteArray} {maxL len : Nat} {ret : Option FieldType} {U : State} {g : JFrame} {ig : Instr} {mk : MethodId} {a : Array Value}
    (hM : ax_Met l y ws rm Pc Po mc ms free) (X : Stand p l e R s m args below meth c U locs cells slots) (hg : g.method = m) (hsize : g.locals.size = c.maxLocals) (hdg : decode c.code g.pc = .ok (ig, len)) (hn : U.methodNamed? y = some mk)
    (hW : 2 * g.monitorRoom + (g.stack.map fun v => v.category).sum ≤ 8) (hfr : rm.frames + 1 ≤ R.frames) (hlo : 8 + (maxL + 11) + rm.locals ≤ R.locals) (hce : cells + rm.cells ≤ R.cells) (hsl : slots + rm.slots ≤ R.slots)
    (hpre : ∀ w ∈ ws, w.before a U = true) (hcode : (Cond.code y bytes maxL ret).before a U = true) (hini : (Cond.initialized y.cls).before a U = true) (hP : Pc a (U.calling g mk a)) :
    ∃ (o : Outcome) (t : State) (L : List Loc), Po a (U.calling g mk a) o t ∧ (∀ q ∈ L, free q.base) ∧ Stand p l e R s m args below meth c (({ U with heap := t.heap, slotsUsed := t.slotsUsed } : State).setVm t.vm) (locs ++ L) (cells + mc) (slots + ms) ∧
      ((∃ v, o = .returned v ∧ Steps p.tables e below (doInvoke e (U.setTop g) [] mk a).1 ((({ U with heap := t.heap, slotsUsed := t.slotsUsed } : State).setVm t.vm).setTop { g with pc := g.pc + len, stack := v.toList ++ g.stack })) ∨
       (∃ q, o = .threw q ∧ Steps p.tables e below (doInvoke e (U.setTop g) [] mk a).1 (((({ U with heap := t.heap, slotsUsed := t.slotsUsed } : State).setVm t.vm).setTop g).pushFrame (.throwing q)))) := by
  subst hg
  have h := X.here
  obtain ⟨methY, cY, hmY, hcY, -, hlY, -⟩ := Cond.code_spec hn hcode
  obtain ⟨kY, hkY, -⟩ := className_of_methodNamed hn
  have hroom := X.room_calling (g := g) (R' := (headSpec ws rm).room) (args' := a) hsize hmY hcY hfr (by rw [hlY]; show _ + _ + rm.locals ≤ _; omega) hce hsl
  have happ : (headSpec ws rm).appliesLoose y e.platform (U.calling g mk a) = true := Spec.appliesLoose_calling (g := g) h hdg hn hkY (Cond.initialized_spec (findClass_of_methodNamed hn) hkY hini) hroom (atoms_intro hpre)
  obtain ⟨mid, hmid⟩ := h.above
  obtain ⟨o, t, hsteps, -, hend, hq⟩ := Steps.callFree hM p X.admits X.cas X.clock (s := U.setTop g) (acts := []) (mid := .java g :: mid) (below := below) (by rw [State.frames_setTop' g h.top, hmid]; rfl) happ hP trivial
  obtain ⟨hpo, hWt, L, hsame, hL⟩ := (show ax_E Po mc ms free a (U.calling g mk a) o t from hq)
  rw [State.frames_setTop' g h.top] at hend
  obtain ⟨g₀, hg0⟩ := Option.isSome_iff_exists.mp h.top
  obtain ⟨r, hr⟩ := State.topJava?_eq_some.mp hg0
  obtain ⟨e2, q2⟩ := id hsame
  obtain ⟨V, hV⟩ : ∃ V, V = ({ U with heap := t.heap, slotsUsed := t.slotsUsed } : State).setVm t.vm := ⟨_, rfl⟩
  have hVf : V.frames = .java g₀ :: r := by rw [hV]; exact hr
  have ht : t = V.setFrames t.frames := by
    have e3 : t = ({ t with vm := (U.calling g mk a).vm } : State).setVm t.vm := rfl
    rw [e2, State.calling_eq h.top] at e3
    refine e3.trans ?_
    rw [State.setFrames_setFrames, hV]
    rfl
  have hsameU : U.sameButNew ({ U with heap := t.heap, slotsUsed := t.slotsUsed } : State) L mc ms := by
    refine ⟨?_, q2⟩
    obtain ⟨th, hth, -⟩ := State.frames_cons hr
    show ({ U with heap := t.heap, slotsUsed := t.slotsUsed } : State) = { U.setFrames U.frames with heap := t.heap, slotsUsed := t.slotsUsed }
    rw [State.setFrames_self hth]
  have hWU : U.WarmedH t.vm := hWt
  refine ⟨o, t, L, hpo, hL, ?_, ?_⟩
  · exact ⟨X.admits, X.cas, X.clock, X.frames, X.room, X.hears, X.method, X.code, (X.here.setHeapUsed t.heap t.slotsUsed).setVm hWU.alike, X.tail, State.WarmedH.trans X.warmed hWU, X.limits, X.bytes, X.same.trans (hsameU.setVm s.vm)⟩
  · rw [← hV]
    cases o with
    | returned v =>
      refine Or.inl ⟨v, rfl, ?_⟩
      obtain ⟨c₂, i₂, len₂, hc₂, hd₂, hf₂⟩ := hend
      have hcc : c₂ = c := by
        have h1 : t.code? g.method = U.code? g.method := by rw [State.code?_eq, State.code?_eq, hWU.alike.method?]
        exact Option.some.inj (hc₂.symm.trans (h1.trans h.code))
      subst hcc
      have hlen : len₂ = len := by rw [hdg] at hd₂; cases hd₂; rfl
      subst hlen
      have e9 : V.setTop { g with pc := g.pc + len₂, stack := v.toList ++ g.stack } = t := by
        rw [State.setTop_of_frames _ hVf]
        refine Eq.trans ?_ ht.symm
        rw [hf₂, hr]
        rfl
      rw [e9]
      exact hsteps
    | threw q =>
      refine Or.inr ⟨q, rfl, ?_⟩
      have hf₂ : t.frames = .throwing q :: .java g :: U.frames.tail := hend
      have e9 : (V.setTop g).pushFrame (.throwing q) = t := by
        rw [State.pushFrame, State.frames_setTop _ hVf, State.setTop_of_frames _ hVf, State.setFrames_setFrames]
        refine Eq.trans ?_ ht.symm
        rw [hf₂, hr]
        rfl
      rw [e9]
      exact hsteps
end AXB
end AXA
