/-! a call under handlers; new int[n][k]: sound -/
section AMV
variable {p : Program} {l : Launch} {e : Env} {R : Room} {s : State} {m : MethodId} {args : Array Value} {below : List Frame} {meth : Method} {c : Code}
variable {s0 : State} {ex : Nat → String} {D : va_G} {cl : List vw_C} {A : Nat → Prop} {bS : Nat} {ad0 : List Nat} {nL mc ms : Nat} {Q : am_Q} {C : am_C} {cc : ByteArray} {pc nx : Nat} {Ts : List Cond} {own : String}
theorem ok_invH {y : MethodName} {wy : List Cond} {rm : Room} {bytes : ByteArray} {maxL index mj na ci jc js : Nat} {ret : Option FieldType} {r0 : vw_C} {hh : List (Nat × Nat)} (hx : p.tables.exec = Jvm.exec) (hb : c.code = cc) (hml : c.maxLocals = nL) (hown : s.vm.findClass own = some m.cls) (hb1 : bS < s.heap.size) (hb2 : ¬ A bS) (hA : ∀ q, s.heap.size ≤ q → A q) (hroot : am_Root s0 s) (hAs : ∀ (q : Nat) (cell : Cell), s.heap[q]? = some cell → cell.vm.isStatics = true → ¬ A q) (hmc : R.cells = mc) (hms : R.slots = ms)
    (hcl : cl[ci]? = some r0) (hC : ∀ as w Q', C mj as w Q' → am_Con l s0 ex cl y wy rm jc js as w Q') (cw : CallW R s args own r0.1 index y bytes maxL ret wy rm jc js na) (hd : decode cc pc = .ok (.invokevirtual index, 3))
    (hcatch : ∀ E h : Nat, am_hand E hh = some h → ∃ (pre : List ExceptionTableEntry) (x : ExceptionTableEntry) (suf : List ExceptionTableEntry), c.exceptionTable.toList = pre ++ x :: suf ∧ covers x pc = true ∧ x.handlerPc = h ∧ x.catchType ≠ 0 ∧ (Cond.classLink own x.catchType (ex E)).before args s = true ∧ (Cond.castable (ex E) (ex E)).before args s = true ∧
      ∀ z ∈ pre, z.catchType ≠ 0 ∧ ∃ nm : String, (Cond.classLink own z.catchType nm).before args s = true ∧ va_Nc (ex E) nm s) :
    am_Snd (am_Good p l e R s m args below meth c ex D cl A bS ad0 nL mc ms Q) C Q pc (am_invH (pc + 3) mj na ci jc js mc ms hh) := by
  rintro Z ls st w uc us hZ ⟨k, n, q9, as, r, Q', rfl, hn, hk, hr, h1, h2, hc, kk, kx⟩ H locs ws tys lc sc hR hP hK hD hS ha hl hs hX
  dsimp only at hs ⊢
  obtain ⟨q1, cr0, rfl, hv1, hs1⟩ := am_V_app hs
  obtain ⟨b, cr, rfl, hb9, hs2⟩ := am_V_ref hs1
  obtain ⟨e9, h3, fs, rfl, -, -⟩ := am_R_at hR hk hb9
  have hv0 := am_V_rev hv1
  rw [List.reverse_reverse] at hv0
  have hv : am_V (ws.map Prod.fst) bS (.ref k :: as) (.ref b :: q1.reverse) := ⟨⟨b, hb9, rfl⟩, hv0⟩
  have hgo := am_callX (cas := q1.reverse) (cr := cr) (lc := lc) (uc := uc) (us := us) (Qw := ax_MQ below (am_Po ex D cl A bS ad0 Q) args s mc ms A) hx hb hml hown hb1 hb2 hA hroot hAs (hC _ w Q' hc) cw hd hR hP hK hD hS hX hv (va_recv hK hP hcl h3) (by rw [am_V_len hv0]; exact hn) hl.1 (by rw [am_V_cat hs2]; exact hr) (by omega) (by omega)
    (fun v cv w' ws' tys' H1 locs1 hq hv9 hR9 hP9 hK9 hD9 hS9 hp9 hX9 => hZ _ (kk v w' hq) H1 locs1 ws' tys' lc _ hR9 hP9 hK9 hD9 hS9 (ha.trans hp9) (am_L_mono hp9 hl) (am_V_join hv9 (am_V_mono hp9 hs2)) hX9)
    (fun n w' ws' tys' H1 locs1 q ce hq hR9 hP9 hK9 hD9 hS9 hp9 hX9 g1 g2 g3 T9 hT9 X9 => by
      obtain ⟨h, hh1, hY⟩ := kx n w' hq
      obtain ⟨pre, x, suf, hsplit, hcov, hpcx, h0, hlink, hcast, hpass⟩ := hcatch n h hh1
      have hpl : e.platform.magicAccessors = ({} : Platform).magicAccessors := by rw [X9.admits.platform]
      obtain ⟨c3, c4, hc3, hc4, hasg⟩ := Cond.castable_spec hcast
      cases Option.some.inj (hc3.symm.trans g3)
      obtain ⟨c5, hc5, hcl5⟩ := Cond.classLink_spec hown hlink e.platform hpl
      cases Option.some.inj (hc4.symm.trans hc5)
      obtain ⟨vm', X', st9⟩ := X9.thenCaughtThrough q (g := F0 m pc lc cr) rfl (Steps.refl _) (by rw [hT9]; exact g1) (by rw [g2]; rfl) (by obtain ⟨k9, h9, -⟩ := Vm.findClass_spec g3; exact ⟨k9, h9⟩) pre x suf hsplit
        (fun z hz => by
          obtain ⟨hz0, nm, hl1, a8, b8, k1, k2, k3⟩ := hpass z hz
          obtain ⟨c6, hc6, hcl6⟩ := Cond.classLink_spec hown hl1 e.platform hpl
          cases Option.some.inj (k1.symm.trans g3)
          cases Option.some.inj (k2.symm.trans hc6)
          exact Or.inr ⟨hz0, _, hcl6, k3⟩) hcov (Or.inr ⟨h0, c4, hcl5, hasg⟩)
      obtain ⟨t2, a1, b1⟩ := hZ _ hY H1 locs1 ws' tys' lc [.ref q] hR9 hP9 hK9 hD9 hS9 (ha.trans hp9) (am_L_mono hp9 hl) ⟨Or.inr ⟨q, rfl⟩, trivial⟩ hX9 (T9.setVm vm') hT9 X'
      refine ⟨t2, st9.trans ?_, b1⟩
      rw [hpcx]
      exact a1)
  rw [List.reverse_reverse] at hgo
  exact hgo
end AMV
