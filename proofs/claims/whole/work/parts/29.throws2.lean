/-! throws, calls of methods that throw, switches: sound -/
section AMT
variable {p : Program} {l : Launch} {e : Env} {R : Room} {s : State} {m : MethodId} {args : Array Value} {below : List Frame} {meth : Method} {c : Code}
variable {s0 : State} {ex : Nat → String} {D : va_G} {cl : List vw_C} {A : Nat → Prop} {bS : Nat} {ad0 : List Nat} {nL mc ms : Nat} {Q : am_Q} {C : am_C} {cc : ByteArray} {pc nx : Nat} {Ts : List Cond} {own : String}
theorem ok_switch {dflt lo hi : Int} {offs : Array Int} {len : Nat} {tgs : List Nat} {dt : Nat} (hx : p.tables.exec = Jvm.exec) (hb : c.code = cc) (hd : decode cc pc = .ok (.tableswitch dflt lo hi offs, len)) (hhi : hi + 1 = lo + tgs.length) (hdt : (pc : Int) + dflt = (dt : Int)) (ht : ∀ (k tg : Nat), tgs[k]? = some tg → ∃ off : Int, offs[k]? = some off ∧ (pc : Int) + off = (tg : Int)) :
    am_Snd (am_Good p l e R s m args below meth c ex D cl A bS ad0 nL mc ms Q) C Q pc (am_switch lo tgs dt) := by
  rintro Z ls st w uc us hZ ⟨x, r, rfl, h1, h2⟩ H locs ws tys lc sc hR hP hK hD hS ha hl hs hX
  obtain ⟨r', rfl, hs1⟩ := am_V_int hs
  by_cases ho : x.toInt < lo ∨ lo + tgs.length ≤ x.toInt
  · exact lv_tableOut hx hb hd (by omega) hdt (hZ _ (h1 ho) H locs ws tys lc _ hR hP hK hD hS ha hl hs1 hX)
  · have hk : (x.toInt - lo).toNat < tgs.length := by omega
    obtain ⟨off, h3, h4⟩ := ht _ _ (List.getElem?_eq_getElem hk)
    exact lv_tableIn hx hb hd (by omega) (by omega) h3 h4 (hZ _ (h2 (x.toInt - lo).toNat _ (by omega) (List.getElem?_eq_getElem hk)) H locs ws tys lc _ hR hP hK hD hS ha hl hs1 hX)
/-- the walked frame, as if its method had been called in the heap that is there now -/
theorem ax_rebase {T : State} {locs : List Loc} {cells slots : Nat} (X : Stand p l e R s m args below meth c T locs cells slots) {R' : Room} (hf : R'.frames ≤ R.frames) (hl : R'.locals ≤ R.locals) (hc : cells + R'.cells ≤ R.cells) (hs : slots + R'.slots ≤ R.slots) :
    Stand p l e R' ((T.setVm s.vm).setFrames (.invoking m args :: below)) m args below meth c T [] 0 0 := by
  have htop : (T.setVm s.vm).topJava?.isSome := X.here.top
  have hF : ((T.setVm s.vm).setFrames (.invoking m args :: below)).frames = .invoking m args :: below := State.frames_setFrames _ (State.cur_lt_of_top htop)
  have hlim : e.platform.stackLimits (T.setVm s.vm).me = e.platform.stackLimits s.me := X.limits
  have hbyt : (T.setVm s.vm).me.stackBytes = s.me.stackBytes := X.bytes
  have hin : ((T.setVm s.vm).setFrames (.invoking m args :: below)).localsInUse = s.localsInUse := by
    rw [State.localsInUse_invoking hF (meth := meth) (c := c) X.method X.code, State.localsInUse_invoking X.frames X.method X.code]
  have hnew : (T.heap.toList.drop T.heap.size) = [] := List.drop_eq_nil_of_le (Nat.le_of_eq Array.length_toList)
  refine { admits := X.admits, cas := X.cas, clock := X.clock, frames := hF, room := ?_, hears := X.hears, method := X.method, code := X.code, here := X.here, tail := X.tail, warmed := X.warmed, limits := ?_, bytes := ?_, same := ⟨?_, Nat.le_refl _, Nat.le_refl _, ?_, ?_, fun a c9 h9 => ⟨c9, h9, rfl, rfl, fun _ _ => rfl⟩⟩ }
  · have hr := X.room
    have q1 := X.heapSize
    have q2 := X.used
    have hlen : s.frames.length = below.length + 1 := by rw [X.frames]; rfl
    simp only [State.hasRoom, Bool.and_eq_true, decide_eq_true_eq] at hr ⊢
    simp only [hF, hin, List.length_cons, State.stackLimits_setFrames, State.stackBytes_setFrames, hlim, hbyt]
    obtain ⟨⟨⟨⟨r1, r2, r3, r4, r5, r6⟩, r7⟩, r8⟩, -⟩ := hr
    refine ⟨⟨⟨⟨by omega, by omega, by omega, by omega, by omega, r6⟩, ?_⟩, ?_⟩, X.book⟩
    · show T.heap.size + R'.cells ≤ _
      omega
    · show T.slotsUsed + R'.slots ≤ _
      omega
  · rw [State.stackLimits_setFrames]; rfl
  · rw [State.stackBytes_setFrames]; rfl
  · obtain ⟨g₀, hg0⟩ := Option.isSome_iff_exists.mp htop
    obtain ⟨r, hr⟩ := State.topJava?_eq_some.mp hg0
    obtain ⟨t, ht, -⟩ := State.frames_cons hr
    show T.setVm s.vm = { ((T.setVm s.vm).setFrames (.invoking m args :: below)).setFrames (T.setVm s.vm).frames with heap := T.heap, slotsUsed := T.slotsUsed }
    rw [State.setFrames_setFrames, State.setFrames_self ht]
    rfl
  · show T.slotsUsed = T.slotsUsed + ((T.heap.toList.drop T.heap.size).map (·.slots.size)).sum
    rw [hnew]; rfl
  · show ((T.heap.toList.drop T.heap.size).map (·.slots.size)).sum ≤ 0
    rw [hnew]; exact Nat.le_refl _
/-- nothing written: the old cells stay -/
theorem ax_same {st U : State} {k n : Nat} (h : st.sameButNew ({ U with vm := st.vm } : State) [] k n) : st.heap.size ≤ U.heap.size ∧ ∀ q : Nat, q < st.heap.size → U.heap[q]? = st.heap[q]? := by
  obtain ⟨-, h2, -, -, -, h6⟩ := h
  refine ⟨h2, fun q hq => ?_⟩
  obtain ⟨c9, e1, e2, e3, e4⟩ := h6 q _ (Array.getElem?_eq_getElem hq)
  have hsl : c9.slots = (st.heap[q]).slots := Array.ext_getElem? fun i => e4 i (fun hm => by cases hm)
  have h9 : c9 = st.heap[q] := by
    rw [hsl] at e2
    exact e2
  have e5 : U.heap[q]? = some c9 := e1
  rw [e5, h9, Array.getElem?_eq_getElem hq]
/-- throw new E() -/
theorem ok_throw {cls : String} {names : List String} {ik ic E : Nat} (hx : p.tables.exec = Jvm.exec) (hb : c.code = cc) (hst : l.stackTraces = false) (hts : ∀ U : State, am_Root s0 U → ∀ w ∈ Ts, w.before args U = true) (hown : s.vm.findClass own = some m.cls) (hml : c.maxLocals = nL) (hlocks : meth.locks = false) (hout : c.exceptionTable.toList = []) (hmc : R.cells = mc) (hms : R.slots = ms) (hb1 : bS < s.heap.size) (hb2 : ¬ A bS) (hroot : am_Root s0 s) (hAs : ∀ (q : Nat) (cell : Cell), s.heap[q]? = some cell → cell.vm.isStatics = true → ¬ A q)
    (hex : ex E = cls) (hcls : Bundle.fit cls = true) (hnames : ∀ n ∈ names, Bundle.fit n = true) (hk : Cond.classLink own ik cls ∈ Ts) (hini : Cond.initialized cls ∈ Ts) (hinst : Cond.instantiable cls 6 ∈ Ts) (hat : ∀ U : State, am_Root s0 U → ∀ w ∈ Bundle.ownAtoms0 own ic cls names, w.before args U = true)
    (hRf : names.length + 3 < R.frames) (hRl : 8 + (13 * (names.length + 1) + 42) ≤ R.locals) (d0 : decode cc pc = .ok (.new ik, 3)) (d3 : decode cc (pc + 3) = .ok (.dup, 1)) (d4 : decode cc (pc + 4) = .ok (.invokespecial ic, 3)) (d7 : decode cc (pc + 7) = .ok (.athrow, 1)) :
    am_Snd (am_Good p l e R s m args below meth c ex D cl A bS ad0 nL mc ms Q) C Q pc (am_throw E mc ms) := by
  rintro Z ls st w uc us hZ ⟨h1, h2, h3, h⟩ H locs ws tys lc sc hR hP hK hD hS ha hl hs hX
  dsimp only at hR hs hl hX ⊢
  intro T hT X
  have htr : e.platform.stackTraces = false := (show e.platform.stackTraces = l.stackTraces by rw [X.admits.platform]).trans hst
  have Y := ax_rebase X (R' := { frames := R.frames, locals := R.locals, cells := 1, slots := 6 }) (Nat.le_refl _) (Nat.le_refl _) (by show uc + 1 ≤ _; omega) (by show us + 6 ≤ _; omega)
  obtain ⟨s', hs'⟩ : ∃ z, z = (T.setVm s.vm).setFrames (.invoking m args :: below) := ⟨_, rfl⟩
  rw [← hs'] at Y
  have hvm : s'.vm = s.vm := by rw [hs']; rfl
  have hhp : s'.heap = H := by rw [hs']; exact hT
  have hW0 : s.WarmedH s'.vm := by rw [hvm]; exact State.WarmedH.refl s
  have hroot' : am_Root s0 s' := hroot.step hW0 fun q cell q1 q2 => by
    rw [hhp, hS.2.1 q (Array.getElem?_eq_some_iff.mp q1).1 (hAs q cell q1 q2)]
    exact q1
  have hown' : s'.vm.findClass own = some m.cls := by rw [hvm]; exact hown
  obtain ⟨vm₁, cX, kX, hfX, hkX, -, -, X₁, st1⟩ := Y.newCold hx (own := own) (C := cls) (index := ik) (n := 6) hown' (hts s' hroot' _ hk) (hts s' hroot' _ hinst) (hts s' hroot' _ hini) (g := F0 m pc lc sc) rfl (by rw [hb]; exact d0) (Nat.le_refl _) (Nat.le_refl _)
  obtain ⟨T1, hT1⟩ : ∃ z, z = (T.setVm vm₁).pushCell { cls := cX, slots := kX.instanceTypes.map defaultValue, vm := .none } := ⟨_, rfl⟩
  rw [← hT1] at X₁ st1
  have hcell : T1.heap[T.heap.size]? = some (freshCell cX kX) := by rw [hT1]; exact State.heap_pushCell_size _ _
  have d3' : decode c.code (pc + 3) = .ok (.dup, 1) := by rw [hb]; exact d3
  obtain ⟨U, hsteps, hrun, hend, hW, hsame, ce, hce, hO⟩ := X₁.ctorThrow0 hx htr (own := own) (cls := cls) (names := names) (ic := ic) hown' hcls hnames (hat s' hroot') (fun x hx9 => nomatch hx9) hfX hkX hcell (by rw [hhp, hT]; exact Nat.le_refl _)
    (g := { method := m, pc := pc + 4, locals := lc, stack := .ref T.heap.size :: .ref T.heap.size :: sc, locked := none }) rfl (by rw [hml]; exact hl.1) rfl rfl (rest := sc) rfl
    (by rw [hb]; exact d4) (by rw [hb]; exact d7) (fun x hx9 => by rw [hout] at hx9; cases hx9) hRf (by rw [List.map_cons, List.sum_cons, am_V_cat hs]; show 2 * 0 + (1 + _) + _ ≤ R.locals; omega) hlocks
  obtain ⟨f1, f2⟩ := ax_same hsame
  rw [hhp] at f1 f2
  have hWs : s.WarmedH U.vm := State.WarmedH.trans hW0 hW
  have hall : s.sameButNew ({ U with vm := s.vm } : State) locs mc ms := by
    subst hs'
    obtain ⟨e1, e2⟩ := hsame
    rw [State.setFrames_setFrames] at e1
    have g2 : (T.setVm s.vm).sameButNew ({ U with vm := s.vm } : State) [] (0 + 1) (0 + 6) := ⟨e1, e2⟩
    have g3 := X.same.trans g2
    rw [List.append_nil] at g3
    exact g3.mono (by omega) (by omega)
  have hSU : va_S A s.heap U.heap locs := ⟨Nat.le_trans hS.1 f1, fun q q1 q2 => by rw [f2 q (Nat.lt_of_lt_of_le q1 hS.1)]; exact hS.2.1 q q1 q2, hS.2.2⟩
  have hcl : U.vm.findClass (ex E) = some ce.cls := by
    have h9 := hO.cls
    rw [hex, hWs.alike.findClass, ← hvm]
    exact h9
  refine ⟨U, st1 _ ?_, .threw T.heap.size, hrun, hend, ⟨w, ws, tys, am_end hb1 hb2 hR (hP.kept fun k x hx9 => f2 x.1 (hP k x hx9).lt) hK hD hSU ha hX rfl hWs.alike, Or.inr ⟨E, T.heap.size, ce, rfl, h, hce, hO.vm, hcl⟩⟩, hWs, locs, hall, hS.2.2⟩
  show Steps p.tables e below (T1.setTop { method := m, pc := pc + 3, locals := lc, stack := .ref T.heap.size :: sc, locked := none }) _
  jvm_step X₁.here [X₁.here.top, hx, d3', Value.category]
  exact hsteps
end AMT
