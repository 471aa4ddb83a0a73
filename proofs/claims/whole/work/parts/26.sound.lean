/-! each instruction of the small machine is sound -/
section AMG
/-- the world at a method's end -/
def am_End (D : va_G) (cl : List vw_C) (A : Nat → Prop) (bS : Nat) (ad0 : List Nat) (w : am_W) (ws : va_W) (tys : List (ClassId × FieldType)) (st t : State) : Prop :=
  am_R w ws tys ∧ va_P D cl ws t.heap ∧ va_K D cl tys t ∧ va_D A ws ∧ ad0 <+: ws.map Prod.fst ∧ va_X bS w.2.2.2.1 w.2.2.2.2 t t.heap ∧ va_F A st t
/-- a method's end, by the small machine's words -/
def am_Po (ex : Nat → String) (D : va_G) (cl : List vw_C) (A : Nat → Prop) (bS : Nat) (ad0 : List Nat) (Q : am_Q) : Array Value → State → Outcome → State → Prop := fun _ st o t =>
  ∃ (w : am_W) (ws : va_W) (tys : List (ClassId × FieldType)), am_End D cl A bS ad0 w ws tys st t ∧
    ((∃ v cv : Option Value, o = .returned cv ∧ am_V (ws.map Prod.fst) bS v.toList cv.toList ∧ Q (.inl v) w) ∨
     (∃ (n : Nat) (q : Addr) (ce : Cell), o = .threw q ∧ Q (.inr n) w ∧ t.heap[q]? = some ce ∧ ce.vm = .none ∧ t.vm.findClass (ex n) = some ce.cls))
variable {p : Program} {l : Launch} {e : Env} {R : Room} {s : State} {m : MethodId} {args : Array Value} {below : List Frame} {meth : Method} {c : Code}
/-- the true machine goes well from each state that the small one's state pictures -/
def am_Good (p : Program) (l : Launch) (e : Env) (R : Room) (s : State) (m : MethodId) (args : Array Value) (below : List Frame) (meth : Method) (c : Code) (ex : Nat → String) (D : va_G) (cl : List vw_C) (A : Nat → Prop) (bS : Nat) (ad0 : List Nat) (nL mc ms : Nat) (Q : am_Q) (σ : am_S) : Prop :=
  ∀ (H : Heap) (locs : List Loc) (ws : va_W) (tys : List (ClassId × FieldType)) (lc : Array Slot) (sc : List Value), am_R σ.2.2.2.1 ws tys → va_P D cl ws H → va_K D cl tys s → va_D A ws → va_S A s.heap H locs → ad0 <+: ws.map Prod.fst →
    am_L (ws.map Prod.fst) bS nL σ.2.1 lc → am_V (ws.map Prod.fst) bS σ.2.2.1 sc → va_X bS σ.2.2.2.1.2.2.2.1 σ.2.2.2.1.2.2.2.2 s s.heap →
    W p l e R s m args below meth c H locs σ.2.2.2.2.1 σ.2.2.2.2.2 (ax_MQ below (am_Po ex D cl A bS ad0 Q) args s mc ms A) (F0 m σ.1 lc sc)
variable {ex : Nat → String} {D : va_G} {cl : List vw_C} {A : Nat → Prop} {bS : Nat} {ad0 : List Nat} {nL mc ms : Nat} {Q : am_Q} {C : am_C} {cc : ByteArray} {pc nx : Nat}
def am_Snd (G : am_S → Prop) (C : am_C) (Q : am_Q) (pc : Nat) (f : am_Sem) : Prop := ∀ (Z : am_S → Prop) (ls : List (Option Value)) (st : List Value) (w : am_W) (uc us : Nat), (∀ τ, Z τ → G τ) → f C Q Z ls st w uc us → G (pc, ls, st, w, uc, us)
theorem am_end {H : Heap} {locs : List Loc} {w : am_W} {ws : va_W} {tys : List (ClassId × FieldType)} {t : State} (hb1 : bS < s.heap.size) (hb2 : ¬ A bS) (hR : am_R w ws tys) (hP : va_P D cl ws H) (hK : va_K D cl tys s) (hD : va_D A ws) (hS : va_S A s.heap H locs) (ha : ad0 <+: ws.map Prod.fst) (hX : va_X bS w.2.2.2.1 w.2.2.2.2 s s.heap) (ht : t.heap = H) (hvm : s.vm.Alike t.vm) : am_End D cl A bS ad0 w ws tys s t :=
  ⟨hR, by rw [ht]; exact hP, va_K.moved hvm hK, hD, ha, (va_X.moved hvm hX).kept (by rw [ht]; exact hS.2.1 bS hb1 hb2), hS.F ht⟩
theorem ok_halt {G : am_S → Prop} : am_Snd G C Q pc am_halt := fun _ _ _ _ _ _ _ h => h.elim
theorem ok_iconst {n : Int} {v : Int32} (hx : p.tables.exec = Jvm.exec) (hb : c.code = cc) (hd : decode cc pc = .ok (.iconst n, 1)) (hv : Int32.ofInt n = v) : am_Snd (am_Good p l e R s m args below meth c ex D cl A bS ad0 nL mc ms Q) C Q pc (am_push (pc + 1) v) := by
  intro Z ls st w uc us hZ h H locs ws tys lc sc hR hP hK hD hS ha hl hs hX
  exact lv_iconst hx hb hd hv (hZ _ h H locs ws tys lc _ hR hP hK hD hS ha hl ⟨rfl, hs⟩ hX)
theorem ok_bipush {n : Int} {v : Int32} (hx : p.tables.exec = Jvm.exec) (hb : c.code = cc) (hd : decode cc pc = .ok (.bipush n, 2)) (hv : (Int8.ofInt n).toInt32 = v) : am_Snd (am_Good p l e R s m args below meth c ex D cl A bS ad0 nL mc ms Q) C Q pc (am_push (pc + 2) v) := by
  intro Z ls st w uc us hZ h H locs ws tys lc sc hR hP hK hD hS ha hl hs hX
  exact lv_bipush hx hb hd hv (hZ _ h H locs ws tys lc _ hR hP hK hD hS ha hl ⟨rfl, hs⟩ hX)
theorem ok_sipush {n : Int} {v : Int32} (hx : p.tables.exec = Jvm.exec) (hb : c.code = cc) (hd : decode cc pc = .ok (.sipush n, 3)) (hv : (Int16.ofInt n).toInt32 = v) : am_Snd (am_Good p l e R s m args below meth c ex D cl A bS ad0 nL mc ms Q) C Q pc (am_push (pc + 3) v) := by
  intro Z ls st w uc us hZ h H locs ws tys lc sc hR hP hK hD hS ha hl hs hX
  exact lv_sipush hx hb hd hv (hZ _ h H locs ws tys lc _ hR hP hK hD hS ha hl ⟨rfl, hs⟩ hX)
theorem ok_lconst {n : Fin 2} {v : Int64} (hx : p.tables.exec = Jvm.exec) (hb : c.code = cc) (hd : decode cc pc = .ok (.lconst n, 1)) (hv : Int64.ofNat (n : Nat) = v) : am_Snd (am_Good p l e R s m args below meth c ex D cl A bS ad0 nL mc ms Q) C Q pc (am_lpush (pc + 1) v) := by
  intro Z ls st w uc us hZ h H locs ws tys lc sc hR hP hK hD hS ha hl hs hX
  exact lv_lconst hx hb hd hv (hZ _ h H locs ws tys lc _ hR hP hK hD hS ha hl ⟨rfl, hs⟩ hX)
theorem ok_iload_n {k : Fin 4} {a : Nat} (hx : p.tables.exec = Jvm.exec) (hb : c.code = cc) (hd : decode cc pc = .ok (.iload_n k, 1)) (hk : (k : Nat) = a) : am_Snd (am_Good p l e R s m args below meth c ex D cl A bS ad0 nL mc ms Q) C Q pc (am_iload (pc + 1) a) := by
  rintro Z ls st w uc us hZ ⟨x, hx1, h⟩ H locs ws tys lc sc hR hP hK hD hS ha hl hs hX
  obtain ⟨-, cv, h2, h3⟩ := hl.2.2 a _ hx1
  cases h3
  exact lv_iload_n hx hb hd hk h2 (hZ _ h H locs ws tys lc _ hR hP hK hD hS ha hl ⟨rfl, hs⟩ hX)
theorem ok_iload {a : Nat} (hx : p.tables.exec = Jvm.exec) (hb : c.code = cc) (hd : decode cc pc = .ok (.iload a, 2)) : am_Snd (am_Good p l e R s m args below meth c ex D cl A bS ad0 nL mc ms Q) C Q pc (am_iload (pc + 2) a) := by
  rintro Z ls st w uc us hZ ⟨x, hx1, h⟩ H locs ws tys lc sc hR hP hK hD hS ha hl hs hX
  obtain ⟨-, cv, h2, h3⟩ := hl.2.2 a _ hx1
  cases h3
  exact lv_iload hx hb hd h2 (hZ _ h H locs ws tys lc _ hR hP hK hD hS ha hl ⟨rfl, hs⟩ hX)
theorem ok_aload_n {k : Fin 4} {a : Nat} (hx : p.tables.exec = Jvm.exec) (hb : c.code = cc) (hd : decode cc pc = .ok (.aload_n k, 1)) (hk : (k : Nat) = a) : am_Snd (am_Good p l e R s m args below meth c ex D cl A bS ad0 nL mc ms Q) C Q pc (am_aload (pc + 1) a) := by
  rintro Z ls st w uc us hZ ⟨x, hx1, hv, h⟩ H locs ws tys lc sc hR hP hK hD hS ha hl hs hX
  obtain ⟨-, cv, h2, h3⟩ := hl.2.2 a _ hx1
  rcases hv with ⟨y, rfl⟩ | ⟨y, rfl⟩
  · obtain ⟨q, h4, rfl⟩ := h3
    exact lv_aload_n hx hb hd hk h2 (hZ _ h H locs ws tys lc _ hR hP hK hD hS ha hl ⟨⟨q, h4, rfl⟩, hs⟩ hX)
  · cases h3
    exact lv_aload_n hx hb hd hk h2 (hZ _ h H locs ws tys lc _ hR hP hK hD hS ha hl ⟨rfl, hs⟩ hX)
theorem ok_aload {a : Nat} (hx : p.tables.exec = Jvm.exec) (hb : c.code = cc) (hd : decode cc pc = .ok (.aload a, 2)) : am_Snd (am_Good p l e R s m args below meth c ex D cl A bS ad0 nL mc ms Q) C Q pc (am_aload (pc + 2) a) := by
  rintro Z ls st w uc us hZ ⟨x, hx1, hv, h⟩ H locs ws tys lc sc hR hP hK hD hS ha hl hs hX
  obtain ⟨-, cv, h2, h3⟩ := hl.2.2 a _ hx1
  rcases hv with ⟨y, rfl⟩ | ⟨y, rfl⟩
  · obtain ⟨q, h4, rfl⟩ := h3
    exact lv_aload hx hb hd h2 (hZ _ h H locs ws tys lc _ hR hP hK hD hS ha hl ⟨⟨q, h4, rfl⟩, hs⟩ hX)
  · cases h3
    exact lv_aload hx hb hd h2 (hZ _ h H locs ws tys lc _ hR hP hK hD hS ha hl ⟨rfl, hs⟩ hX)
theorem ok_istore_n {k : Fin 4} {a : Nat} (hx : p.tables.exec = Jvm.exec) (hb : c.code = cc) (hd : decode cc pc = .ok (.istore_n k, 1)) (hk : (k : Nat) = a) (hn : a < nL) : am_Snd (am_Good p l e R s m args below meth c ex D cl A bS ad0 nL mc ms Q) C Q pc (am_istore (pc + 1) a) := by
  rintro Z ls st w uc us hZ ⟨x, r, rfl, h⟩ H locs ws tys lc sc hR hP hK hD hS ha hl hs hX
  obtain ⟨r', rfl, hs1⟩ := am_V_int hs
  refine lv_istore_n hx hb hd hk (am_all_has hl.1 hl.2.1) hn rfl fun lc' h' => ?_
  exact hZ _ h H locs ws tys lc' _ hR hP hK hD hS ha (am_L_set hl rfl rfl h') hs1 hX
theorem ok_istore {a : Nat} (hx : p.tables.exec = Jvm.exec) (hb : c.code = cc) (hd : decode cc pc = .ok (.istore a, 2)) (hn : a < nL) : am_Snd (am_Good p l e R s m args below meth c ex D cl A bS ad0 nL mc ms Q) C Q pc (am_istore (pc + 2) a) := by
  rintro Z ls st w uc us hZ ⟨x, r, rfl, h⟩ H locs ws tys lc sc hR hP hK hD hS ha hl hs hX
  obtain ⟨r', rfl, hs1⟩ := am_V_int hs
  refine lv_istore hx hb hd (am_all_has hl.1 hl.2.1) hn rfl fun lc' h' => ?_
  exact hZ _ h H locs ws tys lc' _ hR hP hK hD hS ha (am_L_set hl rfl rfl h') hs1 hX
theorem ok_astore_n {k : Fin 4} {a : Nat} (hx : p.tables.exec = Jvm.exec) (hb : c.code = cc) (hd : decode cc pc = .ok (.astore_n k, 1)) (hk : (k : Nat) = a) (hn : a < nL) : am_Snd (am_Good p l e R s m args below meth c ex D cl A bS ad0 nL mc ms Q) C Q pc (am_astore (pc + 1) a) := by
  rintro Z ls st w uc us hZ ⟨x, r, rfl, hv, h⟩ H locs ws tys lc sc hR hP hK hD hS ha hl hs hX
  obtain ⟨cv, r', rfl, h1, hs1⟩ := am_V_cons hs
  rcases hv with ⟨y, rfl⟩ | rfl
  · obtain ⟨q, h4, rfl⟩ := h1
    refine lv_astore_n hx hb hd hk (am_all_has hl.1 hl.2.1) hn rfl fun lc' h' => ?_
    exact hZ _ h H locs ws tys lc' _ hR hP hK hD hS ha (am_L_set hl ⟨q, h4, rfl⟩ rfl h') hs1 hX
  · rcases h1 with rfl | ⟨q, rfl⟩
    · refine lv_astore_nN hx hb hd hk (am_all_has hl.1 hl.2.1) hn rfl fun lc' h' => ?_
      exact hZ _ h H locs ws tys lc' _ hR hP hK hD hS ha (am_L_set hl (Or.inl rfl) rfl h') hs1 hX
    · refine lv_astore_n hx hb hd hk (am_all_has hl.1 hl.2.1) hn rfl fun lc' h' => ?_
      exact hZ _ h H locs ws tys lc' _ hR hP hK hD hS ha (am_L_set hl (Or.inr ⟨q, rfl⟩) rfl h') hs1 hX
theorem ok_astore {a : Nat} (hx : p.tables.exec = Jvm.exec) (hb : c.code = cc) (hd : decode cc pc = .ok (.astore a, 2)) (hn : a < nL) : am_Snd (am_Good p l e R s m args below meth c ex D cl A bS ad0 nL mc ms Q) C Q pc (am_astore (pc + 2) a) := by
  rintro Z ls st w uc us hZ ⟨x, r, rfl, hv, h⟩ H locs ws tys lc sc hR hP hK hD hS ha hl hs hX
  obtain ⟨cv, r', rfl, h1, hs1⟩ := am_V_cons hs
  rcases hv with ⟨y, rfl⟩ | rfl
  · obtain ⟨q, h4, rfl⟩ := h1
    refine lv_astore hx hb hd (am_all_has hl.1 hl.2.1) hn rfl fun lc' h' => ?_
    exact hZ _ h H locs ws tys lc' _ hR hP hK hD hS ha (am_L_set hl ⟨q, h4, rfl⟩ rfl h') hs1 hX
  · rcases h1 with rfl | ⟨q, rfl⟩
    · refine lv_astoreN hx hb hd (am_all_has hl.1 hl.2.1) hn rfl fun lc' h' => ?_
      exact hZ _ h H locs ws tys lc' _ hR hP hK hD hS ha (am_L_set hl (Or.inl rfl) rfl h') hs1 hX
    · refine lv_astore hx hb hd (am_all_has hl.1 hl.2.1) hn rfl fun lc' h' => ?_
      exact hZ _ h H locs ws tys lc' _ hR hP hK hD hS ha (am_L_set hl (Or.inr ⟨q, rfl⟩) rfl h') hs1 hX
theorem ok_iinc {a : Nat} {n : Int} {v : Int32} (hx : p.tables.exec = Jvm.exec) (hb : c.code = cc) (hd : decode cc pc = .ok (.iinc a n, 3)) (hv : Int32.ofInt n = v) (hn : a < nL) : am_Snd (am_Good p l e R s m args below meth c ex D cl A bS ad0 nL mc ms Q) C Q pc (am_iinc (pc + 3) a v) := by
  rintro Z ls st w uc us hZ ⟨x, hx1, h⟩ H locs ws tys lc sc hR hP hK hD hS ha hl hs hX
  obtain ⟨-, cv, h2, h3⟩ := hl.2.2 a _ hx1
  cases h3
  subst hv
  obtain ⟨k, hk⟩ := List.getElem?_of_mem (am_all_mem h2 rfl)
  refine lv_iinc hx hb hd (am_all_has hl.1 hl.2.1) hk rfl hn rfl fun lc' h' => ?_
  exact hZ _ h H locs ws tys lc' _ hR hP hK hD hS ha (am_L_set hl rfl rfl h') hs hX
theorem ok_iadd (hx : p.tables.exec = Jvm.exec) (hb : c.code = cc) (hd : decode cc pc = .ok (.iadd, 1)) : am_Snd (am_Good p l e R s m args below meth c ex D cl A bS ad0 nL mc ms Q) C Q pc (am_iadd (pc + 1)) := by
  rintro Z ls st w uc us hZ ⟨x, y, r, rfl, h⟩ H locs ws tys lc sc hR hP hK hD hS ha hl hs hX
  obtain ⟨r', rfl, hs1⟩ := am_V_int hs
  obtain ⟨r', rfl, hs2⟩ := am_V_int hs1
  exact lv_iadd hx hb hd (hZ _ h H locs ws tys lc _ hR hP hK hD hS ha hl ⟨rfl, hs2⟩ hX)
theorem ok_isub (hx : p.tables.exec = Jvm.exec) (hb : c.code = cc) (hd : decode cc pc = .ok (.isub, 1)) : am_Snd (am_Good p l e R s m args below meth c ex D cl A bS ad0 nL mc ms Q) C Q pc (am_isub (pc + 1)) := by
  rintro Z ls st w uc us hZ ⟨x, y, r, rfl, h⟩ H locs ws tys lc sc hR hP hK hD hS ha hl hs hX
  obtain ⟨r', rfl, hs1⟩ := am_V_int hs
  obtain ⟨r', rfl, hs2⟩ := am_V_int hs1
  exact lv_isub hx hb hd (hZ _ h H locs ws tys lc _ hR hP hK hD hS ha hl ⟨rfl, hs2⟩ hX)
theorem ok_imul (hx : p.tables.exec = Jvm.exec) (hb : c.code = cc) (hd : decode cc pc = .ok (.imul, 1)) : am_Snd (am_Good p l e R s m args below meth c ex D cl A bS ad0 nL mc ms Q) C Q pc (am_imul (pc + 1)) := by
  rintro Z ls st w uc us hZ ⟨x, y, r, rfl, h⟩ H locs ws tys lc sc hR hP hK hD hS ha hl hs hX
  obtain ⟨r', rfl, hs1⟩ := am_V_int hs
  obtain ⟨r', rfl, hs2⟩ := am_V_int hs1
  exact lv_imul hx hb hd (hZ _ h H locs ws tys lc _ hR hP hK hD hS ha hl ⟨rfl, hs2⟩ hX)
theorem ok_iand (hx : p.tables.exec = Jvm.exec) (hb : c.code = cc) (hd : decode cc pc = .ok (.iand, 1)) : am_Snd (am_Good p l e R s m args below meth c ex D cl A bS ad0 nL mc ms Q) C Q pc (am_iand (pc + 1)) := by
  rintro Z ls st w uc us hZ ⟨x, y, r, rfl, h⟩ H locs ws tys lc sc hR hP hK hD hS ha hl hs hX
  obtain ⟨r', rfl, hs1⟩ := am_V_int hs
  obtain ⟨r', rfl, hs2⟩ := am_V_int hs1
  exact lv_iand hx hb hd (hZ _ h H locs ws tys lc _ hR hP hK hD hS ha hl ⟨rfl, hs2⟩ hX)
theorem ok_ineg (hx : p.tables.exec = Jvm.exec) (hb : c.code = cc) (hd : decode cc pc = .ok (.ineg, 1)) : am_Snd (am_Good p l e R s m args below meth c ex D cl A bS ad0 nL mc ms Q) C Q pc (am_ineg (pc + 1)) := by
  rintro Z ls st w uc us hZ ⟨x, r, rfl, h⟩ H locs ws tys lc sc hR hP hK hD hS ha hl hs hX
  obtain ⟨r', rfl, hs1⟩ := am_V_int hs
  exact lv_ineg hx hb hd (hZ _ h H locs ws tys lc _ hR hP hK hD hS ha hl ⟨rfl, hs1⟩ hX)
theorem ok_goto {off : Int} {tg : Nat} (hx : p.tables.exec = Jvm.exec) (hb : c.code = cc) (hd : decode cc pc = .ok (.goto off, 3)) (ht : (pc : Int) + off = (tg : Int)) : am_Snd (am_Good p l e R s m args below meth c ex D cl A bS ad0 nL mc ms Q) C Q pc (am_goto tg) := by
  intro Z ls st w uc us hZ h H locs ws tys lc sc hR hP hK hD hS ha hl hs hX
  exact lv_goto hx hb hd ht (hZ _ h H locs ws tys lc _ hR hP hK hD hS ha hl hs hX)
theorem ok_if_eq {off : Int} {tg : Nat} (hx : p.tables.exec = Jvm.exec) (hb : c.code = cc) (hd : decode cc pc = .ok (.ifCond .eq off, 3)) (ht : (pc : Int) + off = (tg : Int)) : am_Snd (am_Good p l e R s m args below meth c ex D cl A bS ad0 nL mc ms Q) C Q pc (am_if (pc + 3) tg 0) := by
  rintro Z ls st w uc us hZ ⟨x, r, rfl, h1, h2⟩ H locs ws tys lc sc hR hP hK hD hS ha hl hs hX
  obtain ⟨r', rfl, hs1⟩ := am_V_int hs
  exact lv_if_eq hx hb hd ht (fun q => hZ _ (h1 q) H locs ws tys lc _ hR hP hK hD hS ha hl hs1 hX) (fun q => hZ _ (h2 q) H locs ws tys lc _ hR hP hK hD hS ha hl hs1 hX)
theorem ok_icmp_eq {off : Int} {tg : Nat} (hx : p.tables.exec = Jvm.exec) (hb : c.code = cc) (hd : decode cc pc = .ok (.if_icmp .eq off, 3)) (ht : (pc : Int) + off = (tg : Int)) : am_Snd (am_Good p l e R s m args below meth c ex D cl A bS ad0 nL mc ms Q) C Q pc (am_icmp (pc + 3) tg 0) := by
  rintro Z ls st w uc us hZ ⟨x, y, r, rfl, h1, h2⟩ H locs ws tys lc sc hR hP hK hD hS ha hl hs hX
  obtain ⟨r', rfl, hs1⟩ := am_V_int hs
  obtain ⟨r', rfl, hs2⟩ := am_V_int hs1
  exact lv_icmp_eq hx hb hd ht (fun q => hZ _ (h1 q) H locs ws tys lc _ hR hP hK hD hS ha hl hs2 hX) (fun q => hZ _ (h2 q) H locs ws tys lc _ hR hP hK hD hS ha hl hs2 hX)
theorem ok_if_ne {off : Int} {tg : Nat} (hx : p.tables.exec = Jvm.exec) (hb : c.code = cc) (hd : decode cc pc = .ok (.ifCond .ne off, 3)) (ht : (pc : Int) + off = (tg : Int)) : am_Snd (am_Good p l e R s m args below meth c ex D cl A bS ad0 nL mc ms Q) C Q pc (am_if (pc + 3) tg 1) := by
  rintro Z ls st w uc us hZ ⟨x, r, rfl, h1, h2⟩ H locs ws tys lc sc hR hP hK hD hS ha hl hs hX
  obtain ⟨r', rfl, hs1⟩ := am_V_int hs
  exact lv_if_ne hx hb hd ht (fun q => hZ _ (h1 q) H locs ws tys lc _ hR hP hK hD hS ha hl hs1 hX) (fun q => hZ _ (h2 (fun z => z q)) H locs ws tys lc _ hR hP hK hD hS ha hl hs1 hX)
theorem ok_icmp_ne {off : Int} {tg : Nat} (hx : p.tables.exec = Jvm.exec) (hb : c.code = cc) (hd : decode cc pc = .ok (.if_icmp .ne off, 3)) (ht : (pc : Int) + off = (tg : Int)) : am_Snd (am_Good p l e R s m args below meth c ex D cl A bS ad0 nL mc ms Q) C Q pc (am_icmp (pc + 3) tg 1) := by
  rintro Z ls st w uc us hZ ⟨x, y, r, rfl, h1, h2⟩ H locs ws tys lc sc hR hP hK hD hS ha hl hs hX
  obtain ⟨r', rfl, hs1⟩ := am_V_int hs
  obtain ⟨r', rfl, hs2⟩ := am_V_int hs1
  exact lv_icmp_ne hx hb hd ht (fun q => hZ _ (h1 q) H locs ws tys lc _ hR hP hK hD hS ha hl hs2 hX) (fun q => hZ _ (h2 (fun z => z q)) H locs ws tys lc _ hR hP hK hD hS ha hl hs2 hX)
theorem ok_if_lt {off : Int} {tg : Nat} (hx : p.tables.exec = Jvm.exec) (hb : c.code = cc) (hd : decode cc pc = .ok (.ifCond .lt off, 3)) (ht : (pc : Int) + off = (tg : Int)) : am_Snd (am_Good p l e R s m args below meth c ex D cl A bS ad0 nL mc ms Q) C Q pc (am_if (pc + 3) tg 2) := by
  rintro Z ls st w uc us hZ ⟨x, r, rfl, h1, h2⟩ H locs ws tys lc sc hR hP hK hD hS ha hl hs hX
  obtain ⟨r', rfl, hs1⟩ := am_V_int hs
  exact lv_if_lt hx hb hd ht (fun q => hZ _ (h1 q) H locs ws tys lc _ hR hP hK hD hS ha hl hs1 hX) (fun q => hZ _ (h2 q) H locs ws tys lc _ hR hP hK hD hS ha hl hs1 hX)
theorem ok_icmp_lt {off : Int} {tg : Nat} (hx : p.tables.exec = Jvm.exec) (hb : c.code = cc) (hd : decode cc pc = .ok (.if_icmp .lt off, 3)) (ht : (pc : Int) + off = (tg : Int)) : am_Snd (am_Good p l e R s m args below meth c ex D cl A bS ad0 nL mc ms Q) C Q pc (am_icmp (pc + 3) tg 2) := by
  rintro Z ls st w uc us hZ ⟨x, y, r, rfl, h1, h2⟩ H locs ws tys lc sc hR hP hK hD hS ha hl hs hX
  obtain ⟨r', rfl, hs1⟩ := am_V_int hs
  obtain ⟨r', rfl, hs2⟩ := am_V_int hs1
  exact lv_icmp_lt hx hb hd ht (fun q => hZ _ (h1 q) H locs ws tys lc _ hR hP hK hD hS ha hl hs2 hX) (fun q => hZ _ (h2 q) H locs ws tys lc _ hR hP hK hD hS ha hl hs2 hX)
theorem ok_if_ge {off : Int} {tg : Nat} (hx : p.tables.exec = Jvm.exec) (hb : c.code = cc) (hd : decode cc pc = .ok (.ifCond .ge off, 3)) (ht : (pc : Int) + off = (tg : Int)) : am_Snd (am_Good p l e R s m args below meth c ex D cl A bS ad0 nL mc ms Q) C Q pc (am_if (pc + 3) tg 3) := by
  rintro Z ls st w uc us hZ ⟨x, r, rfl, h1, h2⟩ H locs ws tys lc sc hR hP hK hD hS ha hl hs hX
  obtain ⟨r', rfl, hs1⟩ := am_V_int hs
  exact lv_if_ge hx hb hd ht (fun q => hZ _ (h1 q) H locs ws tys lc _ hR hP hK hD hS ha hl hs1 hX) (fun q => hZ _ (h2 q) H locs ws tys lc _ hR hP hK hD hS ha hl hs1 hX)
theorem ok_icmp_ge {off : Int} {tg : Nat} (hx : p.tables.exec = Jvm.exec) (hb : c.code = cc) (hd : decode cc pc = .ok (.if_icmp .ge off, 3)) (ht : (pc : Int) + off = (tg : Int)) : am_Snd (am_Good p l e R s m args below meth c ex D cl A bS ad0 nL mc ms Q) C Q pc (am_icmp (pc + 3) tg 3) := by
  rintro Z ls st w uc us hZ ⟨x, y, r, rfl, h1, h2⟩ H locs ws tys lc sc hR hP hK hD hS ha hl hs hX
  obtain ⟨r', rfl, hs1⟩ := am_V_int hs
  obtain ⟨r', rfl, hs2⟩ := am_V_int hs1
  exact lv_icmp_ge hx hb hd ht (fun q => hZ _ (h1 q) H locs ws tys lc _ hR hP hK hD hS ha hl hs2 hX) (fun q => hZ _ (h2 q) H locs ws tys lc _ hR hP hK hD hS ha hl hs2 hX)
theorem ok_if_gt {off : Int} {tg : Nat} (hx : p.tables.exec = Jvm.exec) (hb : c.code = cc) (hd : decode cc pc = .ok (.ifCond .gt off, 3)) (ht : (pc : Int) + off = (tg : Int)) : am_Snd (am_Good p l e R s m args below meth c ex D cl A bS ad0 nL mc ms Q) C Q pc (am_if (pc + 3) tg 4) := by
  rintro Z ls st w uc us hZ ⟨x, r, rfl, h1, h2⟩ H locs ws tys lc sc hR hP hK hD hS ha hl hs hX
  obtain ⟨r', rfl, hs1⟩ := am_V_int hs
  exact lv_if_gt hx hb hd ht (fun q => hZ _ (h1 q) H locs ws tys lc _ hR hP hK hD hS ha hl hs1 hX) (fun q => hZ _ (h2 q) H locs ws tys lc _ hR hP hK hD hS ha hl hs1 hX)
theorem ok_icmp_gt {off : Int} {tg : Nat} (hx : p.tables.exec = Jvm.exec) (hb : c.code = cc) (hd : decode cc pc = .ok (.if_icmp .gt off, 3)) (ht : (pc : Int) + off = (tg : Int)) : am_Snd (am_Good p l e R s m args below meth c ex D cl A bS ad0 nL mc ms Q) C Q pc (am_icmp (pc + 3) tg 4) := by
  rintro Z ls st w uc us hZ ⟨x, y, r, rfl, h1, h2⟩ H locs ws tys lc sc hR hP hK hD hS ha hl hs hX
  obtain ⟨r', rfl, hs1⟩ := am_V_int hs
  obtain ⟨r', rfl, hs2⟩ := am_V_int hs1
  exact lv_icmp_gt hx hb hd ht (fun q => hZ _ (h1 q) H locs ws tys lc _ hR hP hK hD hS ha hl hs2 hX) (fun q => hZ _ (h2 q) H locs ws tys lc _ hR hP hK hD hS ha hl hs2 hX)
theorem ok_if_le {off : Int} {tg : Nat} (hx : p.tables.exec = Jvm.exec) (hb : c.code = cc) (hd : decode cc pc = .ok (.ifCond .le off, 3)) (ht : (pc : Int) + off = (tg : Int)) : am_Snd (am_Good p l e R s m args below meth c ex D cl A bS ad0 nL mc ms Q) C Q pc (am_if (pc + 3) tg 5) := by
  rintro Z ls st w uc us hZ ⟨x, r, rfl, h1, h2⟩ H locs ws tys lc sc hR hP hK hD hS ha hl hs hX
  obtain ⟨r', rfl, hs1⟩ := am_V_int hs
  exact lv_if_le hx hb hd ht (fun q => hZ _ (h1 q) H locs ws tys lc _ hR hP hK hD hS ha hl hs1 hX) (fun q => hZ _ (h2 q) H locs ws tys lc _ hR hP hK hD hS ha hl hs1 hX)
theorem ok_icmp_le {off : Int} {tg : Nat} (hx : p.tables.exec = Jvm.exec) (hb : c.code = cc) (hd : decode cc pc = .ok (.if_icmp .le off, 3)) (ht : (pc : Int) + off = (tg : Int)) : am_Snd (am_Good p l e R s m args below meth c ex D cl A bS ad0 nL mc ms Q) C Q pc (am_icmp (pc + 3) tg 5) := by
  rintro Z ls st w uc us hZ ⟨x, y, r, rfl, h1, h2⟩ H locs ws tys lc sc hR hP hK hD hS ha hl hs hX
  obtain ⟨r', rfl, hs1⟩ := am_V_int hs
  obtain ⟨r', rfl, hs2⟩ := am_V_int hs1
  exact lv_icmp_le hx hb hd ht (fun q => hZ _ (h1 q) H locs ws tys lc _ hR hP hK hD hS ha hl hs2 hX) (fun q => hZ _ (h2 q) H locs ws tys lc _ hR hP hK hD hS ha hl hs2 hX)
theorem ok_iald (hx : p.tables.exec = Jvm.exec) (hb : c.code = cc) (hd : decode cc pc = .ok (.iaload, 1)) : am_Snd (am_Good p l e R s m args below meth c ex D cl A bS ad0 nL mc ms Q) C Q pc (am_iald (pc + 1)) := by
  rintro Z ls st w uc us hZ ⟨i, k, r, n, q, rfl, hc, hi, h⟩ H locs ws tys lc sc hR hP hK hD hS ha hl hs hX
  obtain ⟨r', rfl, hs1⟩ := am_V_int hs
  obtain ⟨a, r', rfl, h1, hs2⟩ := am_V_ref hs1
  obtain ⟨e9, h2, cA, t0, rfl, ht⟩ := am_R_at hR hc h1
  exact va_iald hx hb hK hP k t0 h2 ht hi hd (hZ _ h H locs ws tys lc _ hR hP hK hD hS ha hl ⟨rfl, hs2⟩ hX)
theorem ok_zald (hx : p.tables.exec = Jvm.exec) (hb : c.code = cc) (hd : decode cc pc = .ok (.baload, 1)) : am_Snd (am_Good p l e R s m args below meth c ex D cl A bS ad0 nL mc ms Q) C Q pc (am_zald (pc + 1)) := by
  rintro Z ls st w uc us hZ ⟨i, k, r, n, q, rfl, hc, hi, h⟩ H locs ws tys lc sc hR hP hK hD hS ha hl hs hX
  obtain ⟨r', rfl, hs1⟩ := am_V_int hs
  obtain ⟨a, r', rfl, h1, hs2⟩ := am_V_ref hs1
  obtain ⟨e9, h2, cA, t0, rfl, ht⟩ := am_R_at hR hc h1
  exact va_zald hx hb hK hP k t0 h2 ht hi hd (hZ _ h H locs ws tys lc _ hR hP hK hD hS ha hl ⟨rfl, hs2⟩ hX)
theorem ok_lald (hx : p.tables.exec = Jvm.exec) (hb : c.code = cc) (hd : decode cc pc = .ok (.laload, 1)) : am_Snd (am_Good p l e R s m args below meth c ex D cl A bS ad0 nL mc ms Q) C Q pc (am_lald (pc + 1)) := by
  rintro Z ls st w uc us hZ ⟨i, k, r, n, q, rfl, hc, hi, h⟩ H locs ws tys lc sc hR hP hK hD hS ha hl hs hX
  obtain ⟨r', rfl, hs1⟩ := am_V_int hs
  obtain ⟨a, r', rfl, h1, hs2⟩ := am_V_ref hs1
  obtain ⟨e9, h2, cA, t0, rfl, ht⟩ := am_R_at hR hc h1
  exact va_lald hx hb hK hP k t0 h2 ht hi hd (hZ _ h H locs ws tys lc _ hR hP hK hD hS ha hl ⟨rfl, hs2⟩ hX)
theorem ok_sald (hx : p.tables.exec = Jvm.exec) (hb : c.code = cc) (hb1 : bS < s.heap.size) (hb2 : ¬ A bS) (hd : decode cc pc = .ok (.iaload, 1)) : am_Snd (am_Good p l e R s m args below meth c ex D cl A bS ad0 nL mc ms Q) C Q pc (am_sald (pc + 1)) := by
  rintro Z ls st w uc us hZ ⟨i, k, r, rfl, hi, h⟩ H locs ws tys lc sc hR hP hK hD hS ha hl hs hX
  obtain ⟨r', rfl, hs1⟩ := am_V_int hs
  obtain ⟨r', rfl, hs2⟩ := am_V_scr hs1
  exact va_sld hx hb hX hb1 hb2 hS hi hd (hZ _ h H locs ws tys lc _ hR hP hK hD hS ha hl ⟨rfl, hs2⟩ hX)
theorem ok_slen (hx : p.tables.exec = Jvm.exec) (hb : c.code = cc) (hb1 : bS < s.heap.size) (hb2 : ¬ A bS) (hd : decode cc pc = .ok (.arraylength, 1)) : am_Snd (am_Good p l e R s m args below meth c ex D cl A bS ad0 nL mc ms Q) C Q pc (am_slen (pc + 1)) := by
  rintro Z ls st w uc us hZ ⟨k, r, rfl, h⟩ H locs ws tys lc sc hR hP hK hD hS ha hl hs hX
  obtain ⟨r', rfl, hs1⟩ := am_V_scr hs
  exact va_slen hx hb hX hb1 hb2 hS hd (hZ _ h H locs ws tys lc _ hR hP hK hD hS ha hl ⟨rfl, hs1⟩ hX)
theorem ok_alen (hx : p.tables.exec = Jvm.exec) (hb : c.code = cc) (hd : decode cc pc = .ok (.arraylength, 1)) : am_Snd (am_Good p l e R s m args below meth c ex D cl A bS ad0 nL mc ms Q) C Q pc (am_alen (pc + 1)) := by
  rintro Z ls st w uc us hZ ⟨k, r, n, q, rfl, hc, h⟩ H locs ws tys lc sc hR hP hK hD hS ha hl hs hX
  obtain ⟨a, r', rfl, h1, hs1⟩ := am_V_ref hs
  obtain ⟨e9, h2, cA, t0, rfl, ht⟩ := am_R_at hR hc h1
  exact va_alen hx hb hK hP k t0 h2 ht rfl hd (hZ _ h H locs ws tys lc _ hR hP hK hD hS ha hl ⟨rfl, hs1⟩ hX)
theorem ok_iast (hx : p.tables.exec = Jvm.exec) (hb : c.code = cc) (hd : decode cc pc = .ok (.iastore, 1)) : am_Snd (am_Good p l e R s m args below meth c ex D cl A bS ad0 nL mc ms Q) C Q pc (am_iast (pc + 1)) := by
  rintro Z ls st w uc us hZ ⟨x, i, k, r, n, q, rfl, hc, hi, h⟩ H locs ws tys lc sc hR hP hK hD hS ha hl hs hX
  obtain ⟨r', rfl, hs1⟩ := am_V_int hs
  obtain ⟨r', rfl, hs2⟩ := am_V_int hs1
  obtain ⟨a, r', rfl, h1, hs3⟩ := am_V_ref hs2
  obtain ⟨e9, h2, cA, t0, rfl, ht⟩ := am_R_at hR hc h1
  refine va_iast hx hb hK hP hD hS k t0 h2 ht hi hd fun H1 locs1 hP1 hD1 hS1 => ?_
  have em := am_map_set (e := .inl (cA, n, .inl (upd (w.2.1 k) i.toNatClampNeg x))) h2
  refine hZ _ h H1 locs1 _ tys lc _ (am_R_set (L' := w.2.2.1) hR h2 hc ⟨cA, t0, ?_, ht⟩ (fun j hj => am_u2_ne hj) (fun _ _ => rfl)) hP1 hK hD1 hS1 (by rw [em]; exact ha) (by rw [em]; exact hl) (by rw [em]; exact hs3) hX
  rw [am_u2_self]
  rfl
theorem ok_zast (hx : p.tables.exec = Jvm.exec) (hb : c.code = cc) (hd : decode cc pc = .ok (.bastore, 1)) : am_Snd (am_Good p l e R s m args below meth c ex D cl A bS ad0 nL mc ms Q) C Q pc (am_zast (pc + 1)) := by
  rintro Z ls st w uc us hZ ⟨x, i, k, r, n, q, rfl, hc, hi, h01, h⟩ H locs ws tys lc sc hR hP hK hD hS ha hl hs hX
  obtain ⟨r', rfl, hs1⟩ := am_V_int hs
  obtain ⟨r', rfl, hs2⟩ := am_V_int hs1
  obtain ⟨a, r', rfl, h1, hs3⟩ := am_V_ref hs2
  obtain ⟨e9, h2, cA, t0, rfl, ht⟩ := am_R_at hR hc h1
  have hn : vp_nar .boolean x = x := by rcases h01 with rfl | rfl <;> decide
  refine va_zast hx hb hK hP hD hS k t0 h2 ht hi hd fun H1 locs1 hP1 hD1 hS1 => ?_
  rw [hn] at hP1 hD1
  have em := am_map_set (e := .inl (cA, n, .inl (upd (w.2.1 k) i.toNatClampNeg x))) h2
  refine hZ _ h H1 locs1 _ tys lc _ (am_R_set (L' := w.2.2.1) hR h2 hc ⟨cA, t0, ?_, ht⟩ (fun j hj => am_u2_ne hj) (fun _ _ => rfl)) hP1 hK hD1 hS1 (by rw [em]; exact ha) (by rw [em]; exact hl) (by rw [em]; exact hs3) hX
  rw [am_u2_self]
  rfl
theorem ok_last (hx : p.tables.exec = Jvm.exec) (hb : c.code = cc) (hd : decode cc pc = .ok (.lastore, 1)) : am_Snd (am_Good p l e R s m args below meth c ex D cl A bS ad0 nL mc ms Q) C Q pc (am_last (pc + 1)) := by
  rintro Z ls st w uc us hZ ⟨x, i, k, r, n, q, rfl, hc, hi, h⟩ H locs ws tys lc sc hR hP hK hD hS ha hl hs hX
  obtain ⟨r', rfl, hs1⟩ := am_V_long hs
  obtain ⟨r', rfl, hs2⟩ := am_V_int hs1
  obtain ⟨a, r', rfl, h1, hs3⟩ := am_V_ref hs2
  obtain ⟨e9, h2, cA, t0, rfl, ht⟩ := am_R_at hR hc h1
  refine va_last hx hb hK hP hD hS k t0 h2 ht hi hd fun H1 locs1 hP1 hD1 hS1 => ?_
  have em := am_map_set (e := .inl (cA, n, .inr (.inl (vp_updL (w.2.2.1 k) i.toNatClampNeg x)))) h2
  refine hZ _ h H1 locs1 _ tys lc _ (am_R_set (I' := w.2.1) hR h2 hc ⟨cA, t0, ?_, ht⟩ (fun _ _ => rfl) (fun j hj => am_u2_ne hj)) hP1 hK hD1 hS1 (by rw [em]; exact ha) (by rw [em]; exact hl) (by rw [em]; exact hs3) hX
  rw [am_u2_self]
  rfl
theorem ok_lcmp (hx : p.tables.exec = Jvm.exec) (hb : c.code = cc) (hd : decode cc pc = .ok (.lcmp, 1)) : am_Snd (am_Good p l e R s m args below meth c ex D cl A bS ad0 nL mc ms Q) C Q pc (am_lcmp (pc + 1)) := by
  rintro Z ls st w uc us hZ ⟨x, y, r, rfl, h⟩ H locs ws tys lc sc hR hP hK hD hS ha hl hs hX
  obtain ⟨r', rfl, hs1⟩ := am_V_long hs
  obtain ⟨r', rfl, hs2⟩ := am_V_long hs1
  exact W.lcmp hx hb hd (hZ _ h H locs ws tys lc _ hR hP hK hD hS ha hl ⟨rfl, hs2⟩ hX)
theorem ok_i2l (hx : p.tables.exec = Jvm.exec) (hb : c.code = cc) (hd : decode cc pc = .ok (.i2l, 1)) : am_Snd (am_Good p l e R s m args below meth c ex D cl A bS ad0 nL mc ms Q) C Q pc (am_i2l (pc + 1)) := by
  rintro Z ls st w uc us hZ ⟨x, r, rfl, h⟩ H locs ws tys lc sc hR hP hK hD hS ha hl hs hX
  obtain ⟨r', rfl, hs1⟩ := am_V_int hs
  exact lv_i2l hx hb hd rfl (hZ _ h H locs ws tys lc _ hR hP hK hD hS ha hl ⟨rfl, hs1⟩ hX)
theorem ok_dup (hx : p.tables.exec = Jvm.exec) (hb : c.code = cc) (hd : decode cc pc = .ok (.dup, 1)) : am_Snd (am_Good p l e R s m args below meth c ex D cl A bS ad0 nL mc ms Q) C Q pc (am_dup (pc + 1)) := by
  rintro Z ls st w uc us hZ ⟨v, r, rfl, hv, h⟩ H locs ws tys lc sc hR hP hK hD hS ha hl hs hX
  obtain ⟨cv, r', rfl, h1, hs1⟩ := am_V_cons hs
  exact lv_dup hx hb hd (by rw [am_v_cat h1]; rcases hv with ⟨x, rfl⟩ | ⟨k, rfl⟩ <;> rfl) (hZ _ h H locs ws tys lc _ hR hP hK hD hS ha hl ⟨h1, h1, hs1⟩ hX)
theorem ok_pop (hx : p.tables.exec = Jvm.exec) (hb : c.code = cc) (hd : decode cc pc = .ok (.pop, 1)) : am_Snd (am_Good p l e R s m args below meth c ex D cl A bS ad0 nL mc ms Q) C Q pc (am_pop (pc + 1)) := by
  rintro Z ls st w uc us hZ ⟨x, r, rfl, h⟩ H locs ws tys lc sc hR hP hK hD hS ha hl hs hX
  obtain ⟨r', rfl, hs1⟩ := am_V_int hs
  exact lv_pop hx hb hd rfl (hZ _ h H locs ws tys lc _ hR hP hK hD hS ha hl hs1 hX)
theorem ok_iret (hx : p.tables.exec = Jvm.exec) (hb : c.code = cc) (hb1 : bS < s.heap.size) (hb2 : ¬ A bS) (hr : meth.sig.returnType = some .int) (hlocks : meth.locks = false) (hd : decode cc pc = .ok (.ireturn, 1)) : am_Snd (am_Good p l e R s m args below meth c ex D cl A bS ad0 nL mc ms Q) C Q pc (am_iret mc ms) := by
  rintro Z ls st w uc us hZ ⟨x, rfl, h1, h2, h⟩ H locs ws tys lc sc hR hP hK hD hS ha hl hs hX
  obtain ⟨r', rfl, hs1⟩ := am_V_int hs
  cases am_V_nil hs1
  refine ax_ret (W.widen h1 h2 ?_)
  exact W.iret hx hb hr (fun t ht hW => ⟨w, ws, tys, am_end hb1 hb2 hR hP hK hD hS ha hX ht hW.alike, Or.inl ⟨some (.int x), some (.int x), rfl, ⟨rfl, trivial⟩, h⟩⟩) hS.2.2 hd
theorem ok_zret (hx : p.tables.exec = Jvm.exec) (hb : c.code = cc) (hb1 : bS < s.heap.size) (hb2 : ¬ A bS) (hr : meth.sig.returnType = some .boolean) (hlocks : meth.locks = false) (hd : decode cc pc = .ok (.ireturn, 1)) : am_Snd (am_Good p l e R s m args below meth c ex D cl A bS ad0 nL mc ms Q) C Q pc (am_zret mc ms) := by
  rintro Z ls st w uc us hZ ⟨x, rfl, h1, h2, h01, h⟩ H locs ws tys lc sc hR hP hK hD hS ha hl hs hX
  obtain ⟨r', rfl, hs1⟩ := am_V_int hs
  cases am_V_nil hs1
  have hn : narrow .boolean (.int x) = .int x := by rcases h01 with rfl | rfl <;> decide
  refine ax_ret (W.widen h1 h2 ?_)
  exact W.zret hx hb hr hn (fun t ht hW => ⟨w, ws, tys, am_end hb1 hb2 hR hP hK hD hS ha hX ht hW.alike, Or.inl ⟨some (.int x), some (.int x), rfl, ⟨rfl, trivial⟩, h⟩⟩) hS.2.2 hd
theorem ok_vret (hx : p.tables.exec = Jvm.exec) (hb : c.code = cc) (hb1 : bS < s.heap.size) (hb2 : ¬ A bS) (hr : meth.sig.returnType = none) (hlocks : meth.locks = false) (hd : decode cc pc = .ok (.return_, 1)) : am_Snd (am_Good p l e R s m args below meth c ex D cl A bS ad0 nL mc ms Q) C Q pc (am_vret mc ms) := by
  rintro Z ls st w uc us hZ ⟨rfl, h1, h2, h⟩ H locs ws tys lc sc hR hP hK hD hS ha hl hs hX
  cases am_V_nil hs
  refine ax_ret (W.widen h1 h2 ?_)
  exact W.vret hx hb hr (fun t ht hW => ⟨w, ws, tys, am_end hb1 hb2 hR hP hK hD hS ha hX ht hW.alike, Or.inl ⟨none, none, rfl, trivial, h⟩⟩) hS.2.2 hd
end AMG
