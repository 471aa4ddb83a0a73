/-! a method's contract out of the soundness of its instructions -/
section AMN
/-- the law's start: every word of the tables, two statics that are references, pairs of classes that aren't castable -/
def am_W0 (s0 : State) : Prop := ∃ a0 : Array Value, (∀ w ∈ lw_tbl, w.before a0 s0 = true) ∧ (Cond.isRef (.static "java/lang/Throwable" "UNASSIGNED_STACK" "[Ljava/lang/StackTraceElement;")).before a0 s0 = true ∧ (Cond.isRef (.static "java/lang/Throwable" "SUPPRESSED_SENTINEL" "Ljava/util/List;")).before a0 s0 = true ∧
  ∀ q ∈ [("java/lang/IllegalStateException", "java/lang/IllegalArgumentException"), ("java/lang/IllegalArgumentException", "java/util/NoSuchElementException"), ("java/lang/IllegalStateException", "java/util/NoSuchElementException"), ("java/lang/IllegalArgumentException", "java/lang/IndexOutOfBoundsException")], (Cond.not (.castable q.1 q.2)).before a0 s0 = true
theorem am_hts {s0 s : State} (h0 : am_W0 s0) (hroot : am_Root s0 s) {args : Array Value} : ∀ w ∈ am_ws, w.before args s = true := by
  obtain ⟨a0, h, -⟩ := h0
  intro w hw
  obtain ⟨h1, h2⟩ := List.mem_filter.mp hw
  exact am_moved hroot w h2 (h w h1)
/-- what is known in a method's body -/
abbrev am_Ct (p : Program) (R : Room) (s : State) (m : MethodId) (args : Array Value) (meth : Method) (c : Code) (s0 : State) (A : Nat → Prop) (bS : Nat) (cc : ByteArray) (own nm : String) (ret : Option FieldType) (nL mc ms : Nat) : Prop :=
  p.tables.exec = Jvm.exec ∧ c.code = cc ∧ c.maxLocals = nL ∧ s.vm.findClass own = some m.cls ∧ (∀ w ∈ am_ws, w.before args s = true) ∧ bS < s.heap.size ∧ ¬ A bS ∧ (∀ q, s.heap.size ≤ q → A q) ∧ am_Root s0 s ∧ (∀ (q : Nat) (cell : Cell), s.heap[q]? = some cell → cell.vm.isStatics = true → ¬ A q) ∧ R.cells = mc ∧ R.slots = ms ∧ meth.locks = false ∧ meth.sig.returnType = ret ∧ meth.name = nm
theorem am_method {l : Launch} {s0 : State} {ex : Nat → String} {cl : List vw_C} {y : MethodName} {cc : ByteArray} {maxL : Nat} {ret : Option FieldType} {rm : Room} {ops : List (Nat × am_Sem)} {C : am_C} {ar : Nat} (h0 : am_W0 s0) (hy : plainName y.cls = true) (har : ar ≤ maxL)
    (hops : ∀ (p : Program) (e : Env) (s : State) (m : MethodId) (args : Array Value) (below : List Frame) (meth : Method) (c : Code) (D : va_G) (A : Nat → Prop) (bS : Nat) (ad0 : List Nat) (Q : am_Q), am_Ct p rm s m args meth c s0 A bS cc y.cls y.name ret maxL rm.cells rm.slots → c.exceptionTable.toList = [] →
      ∀ q ∈ ops, am_Snd (am_Good p l e rm s m args below meth c ex D cl A bS ad0 maxL rm.cells rm.slots Q) C Q q.1 q.2) :
    ∀ (as : List Value) (w : am_W) (Q : am_Q), ((as.length = ar ∧ (as.all fun v => v.category == 1) = true) ∧ am_X (am_tb ops) C Q (0, as.map some, [], w, 0, 0)) → am_Con l s0 ex cl y [Cond.code y cc maxL ret] rm rm.cells rm.slots as w Q := by
  intro as w Q hT D bS sz ws tys cas hR hv hbS
  obtain ⟨⟨hlen, hcat⟩, hX⟩ := hT
  refine ax_ofW (cc := cc) (maxL := maxL) (ret := ret) hy rfl fun p e s m args below meth c s₁ B hml htab hPc => ?_
  obtain ⟨rfl, hsz, hP, hK, hD0, hscr, hroot⟩ := hPc
  subst hsz
  have hb1 : bS < s.heap.size := by
    obtain ⟨scr, h1, -⟩ := hscr
    exact (Array.getElem?_eq_some_iff.mp h1).1
  exact am_run hX hv hcat (by omega) hR hP hK hD0.self hscr (hops p e s m cas.toArray below meth c D (va_A ws s.heap.size) bS (ws.map Prod.fst) Q
    ⟨B.exec, B.bytes, hml, findClass_of_methodNamed B.named, am_hts h0 hroot, hb1, hbS, fun q h => Or.inr h, hroot, fun q cell h1 h2 => am_nostat hP h1 h2, rfl, rfl, B.notSynchronized, B.returns, (name_of_methodNamed B.named B.method).1⟩ htab)
/-- .. of a method with handlers -/
theorem am_methodH {l : Launch} {s0 : State} {ex : Nat → String} {cl : List vw_C} {y : MethodName} {cc : ByteArray} {maxL : Nat} {ret : Option FieldType} {hh : List (Nat × Nat × Nat × Nat)} {rm : Room} {ops : List (Nat × am_Sem)} {C : am_C} {ar : Nat} (h0 : am_W0 s0) (hy : plainName y.cls = true) (har : ar ≤ maxL)
    (hops : ∀ (p : Program) (e : Env) (s : State) (m : MethodId) (args : Array Value) (below : List Frame) (meth : Method) (c : Code) (D : va_G) (A : Nat → Prop) (bS : Nat) (ad0 : List Nat) (Q : am_Q), am_Ct p rm s m args meth c s0 A bS cc y.cls y.name ret maxL rm.cells rm.slots → c.exceptionTable.toList = tableOf hh →
      ∀ q ∈ ops, am_Snd (am_Good p l e rm s m args below meth c ex D cl A bS ad0 maxL rm.cells rm.slots Q) C Q q.1 q.2) :
    ∀ (as : List Value) (w : am_W) (Q : am_Q), ((as.length = ar ∧ (as.all fun v => v.category == 1) = true) ∧ am_X (am_tb ops) C Q (0, as.map some, [], w, 0, 0)) → am_Con l s0 ex cl y [Cond.codeWith y cc maxL ret hh] rm rm.cells rm.slots as w Q := by
  intro as w Q hT D bS sz ws tys cas hR hv hbS
  obtain ⟨⟨hlen, hcat⟩, hX⟩ := hT
  refine ax_ofWH (cc := cc) (maxL := maxL) (ret := ret) (hh := hh) hy rfl fun p e s m args below meth c s₁ B hml htab hPc => ?_
  obtain ⟨rfl, hsz, hP, hK, hD0, hscr, hroot⟩ := hPc
  subst hsz
  have hb1 : bS < s.heap.size := by
    obtain ⟨scr, h1, -⟩ := hscr
    exact (Array.getElem?_eq_some_iff.mp h1).1
  exact am_run hX hv hcat (by omega) hR hP hK hD0.self hscr (hops p e s m cas.toArray below meth c D (va_A ws s.heap.size) bS (ws.map Prod.fst) Q
    ⟨B.exec, B.bytes, hml, findClass_of_methodNamed B.named, am_hts h0 hroot, hb1, hbS, fun q h => Or.inr h, hroot, fun q cell h1 h2 => am_nostat hP h1 h2, rfl, rfl, B.notSynchronized, B.returns, (name_of_methodNamed B.named B.method).1⟩ htab)
end AMN
