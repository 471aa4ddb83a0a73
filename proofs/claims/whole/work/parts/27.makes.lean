/-! fields, new objects, new arrays, members of the JDK: sound -/
section AMF
variable {p : Program} {l : Launch} {e : Env} {R : Room} {s : State} {m : MethodId} {args : Array Value} {below : List Frame} {meth : Method} {c : Code}
variable {ex : Nat → String} {D : va_G} {cl : List vw_C} {A : Nat → Prop} {bS : Nat} {ad0 : List Nat} {nL mc ms : Nat} {Q : am_Q} {C : am_C} {cc : ByteArray} {pc nx : Nat} {Ts : List Cond} {own : String}
theorem ok_geti {Cn : String} {T : u_T} {N ci j index : Nat} (hx : p.tables.exec = Jvm.exec) (hb : c.code = cc) (hts : ∀ w ∈ Ts, w.before args s = true) (hown : s.vm.findClass own = some m.cls) (hin : ∀ w ∈ u_ws Cn T N, w ∈ Ts) (hc : cl[ci]? = some (Cn, T, N)) (hj : j < N) (hlink : Cond.fieldLink own index (T j).1 (T j).2.1 (T j).2.2.1 ∈ Ts) (hd : decode cc pc = .ok (.getfield index, 3)) :
    am_Snd (am_Good p l e R s m args below meth c ex D cl A bS ad0 nL mc ms Q) C Q pc (am_geti (pc + 3) ci j) := by
  rintro Z ls st w uc us hZ ⟨k, r, n, q, rfl, hk, hq, h⟩ H locs ws tys lc sc hR hP hK hD hS ha hl hs hX
  obtain ⟨a, r', rfl, h1, hs1⟩ := am_V_ref hs
  obtain ⟨e9, h2, fs, rfl, hlen, hf⟩ := am_R_at hR hk h1
  obtain ⟨v, hv, h0, -, -⟩ := hf j 0 hq
  cases h0 rfl
  exact va_get hx hb hts hin hown hK hP k h2 hc j hj (hts _ hlink) (fun _ h9 => h9) hv hd (hZ _ h H locs ws tys lc _ hR hP hK hD hS ha hl ⟨rfl, hs1⟩ hX)
theorem ok_getr {Cn : String} {T : u_T} {N ci j index : Nat} (hx : p.tables.exec = Jvm.exec) (hb : c.code = cc) (hts : ∀ w ∈ Ts, w.before args s = true) (hown : s.vm.findClass own = some m.cls) (hin : ∀ w ∈ u_ws Cn T N, w ∈ Ts) (hc : cl[ci]? = some (Cn, T, N)) (hj : j < N) (hlink : Cond.fieldLink own index (T j).1 (T j).2.1 (T j).2.2.1 ∈ Ts) (hd : decode cc pc = .ok (.getfield index, 3)) :
    am_Snd (am_Good p l e R s m args below meth c ex D cl A bS ad0 nL mc ms Q) C Q pc (am_getr (pc + 3) ci j) := by
  rintro Z ls st w uc us hZ ⟨k, r, n, q, x, rfl, hk, hq, h⟩ H locs ws tys lc sc hR hP hK hD hS ha hl hs hX
  obtain ⟨a, r', rfl, h1, hs1⟩ := am_V_ref hs
  obtain ⟨e9, h2, fs, rfl, hlen, hf⟩ := am_R_at hR hk h1
  obtain ⟨v, hv, -, -, h0⟩ := hf j _ hq
  obtain ⟨b, h3, rfl⟩ := h0 x rfl
  exact va_get hx hb hts hin hown hK hP k h2 hc j hj (hts _ hlink) (fun _ h9 => h9) hv hd (hZ _ h H locs ws tys lc _ hR hP hK hD hS ha hl ⟨⟨b, h3, rfl⟩, hs1⟩ hX)
theorem ok_puti {Cn : String} {T : u_T} {N ci j index : Nat} (hx : p.tables.exec = Jvm.exec) (hb : c.code = cc) (hts : ∀ w ∈ Ts, w.before args s = true) (hown : s.vm.findClass own = some m.cls) (hin : ∀ w ∈ u_ws Cn T N, w ∈ Ts) (ty0 : Nat → FieldType) (hty : ∀ k, k < N → parseFieldDescriptor (T k).2.2.1 = some (ty0 k)) (hnm : ∀ a, a < N → ∀ b, b < N → a ≠ b → (T a).2.1 ≠ (T b).2.1) (hc : cl[ci]? = some (Cn, T, N)) (hj : j < N) (hlink : Cond.fieldLink own index (T j).1 (T j).2.1 (T j).2.2.1 ∈ Ts) (hfin : (T j).2.2.2 = false) (hdI : parseFieldDescriptor (T j).2.2.1 = some .int) (hd : decode cc pc = .ok (.putfield index, 3)) :
    am_Snd (am_Good p l e R s m args below meth c ex D cl A bS ad0 nL mc ms Q) C Q pc (am_puti (pc + 3) ci j) := by
  rintro Z ls st w uc us hZ ⟨x, k, r, n, q, rfl, hk, hq, h⟩ H locs ws tys lc sc hR hP hK hD hS ha hl hs hX
  obtain ⟨r', rfl, hs1⟩ := am_V_int hs
  obtain ⟨a, r', rfl, h1, hs2⟩ := am_V_ref hs1
  obtain ⟨e9, h2, fs, rfl, hlen, hf⟩ := am_R_at hR hk h1
  have hql : j < q.length := (List.getElem?_eq_some_iff.mp hq).1
  dsimp only at hlen
  refine va_put hx hb hts hin ty0 hty hnm hown hK hP hD hS k h2 hc j hj (hts _ hlink) (fun _ h9 => h9) hfin hdI (v := .int x) rfl rfl (by omega) hd fun H1 locs1 hP1 hD1 hS1 => ?_
  have em := am_map_set (e := .inr (ci, fs.set j (.int x))) h2
  refine hZ _ h H1 locs1 _ tys lc _ (am_R_set (L' := w.2.2.1) hR h2 hk ⟨fs.set j (.int x), rfl, by simp [hlen], fun i t hi => ?_⟩ (fun i hi => am_u2_ne hi) (fun _ _ => rfl)) hP1 hK hD1 hS1 (by rw [em]; exact ha) (by rw [em]; exact hl) (by rw [em]; exact hs2) hX
  by_cases hij : i = j
  · subst hij
    cases Option.some.inj (hi.symm.trans hq)
    exact ⟨.int x, by rw [List.getElem?_set_self (by omega)], fun _ => by rw [am_u2_self]; simp, fun e8 => by omega, fun y hy => by omega⟩
  · obtain ⟨v, g1, g2, g3, g4⟩ := hf i t hi
    exact ⟨v, by rw [List.getElem?_set_ne (Ne.symm hij)]; exact g1, fun e8 => by rw [am_u2_self]; simp only [if_neg hij]; exact g2 e8, g3, g4⟩
theorem ok_putr {Cn : String} {T : u_T} {N ci j index : Nat} {ty : FieldType} (hx : p.tables.exec = Jvm.exec) (hb : c.code = cc) (hts : ∀ w ∈ Ts, w.before args s = true) (hown : s.vm.findClass own = some m.cls) (hin : ∀ w ∈ u_ws Cn T N, w ∈ Ts) (ty0 : Nat → FieldType) (hty : ∀ k, k < N → parseFieldDescriptor (T k).2.2.1 = some (ty0 k)) (hnm : ∀ a, a < N → ∀ b, b < N → a ≠ b → (T a).2.1 ≠ (T b).2.1) (hc : cl[ci]? = some (Cn, T, N)) (hj : j < N) (hlink : Cond.fieldLink own index (T j).1 (T j).2.1 (T j).2.2.1 ∈ Ts) (hfin : (T j).2.2.2 = true) (hini : meth.name = "<init>") (hdecl : (T j).1 = own)
    (hdI : parseFieldDescriptor (T j).2.2.1 = some ty) (hn1 : ∀ b, narrow ty (.ref b) = .ref b) (hn2 : ∀ b, fits ty (.ref b) = true) (hd : decode cc pc = .ok (.putfield index, 3)) :
    am_Snd (am_Good p l e R s m args below meth c ex D cl A bS ad0 nL mc ms Q) C Q pc (am_putr (pc + 3) ci j) := by
  rintro Z ls st w uc us hZ ⟨x, k, r, n, q, rfl, hk, hq, hxl, h⟩ H locs ws tys lc sc hR hP hK hD hS ha hl hs hX
  obtain ⟨ax, r', rfl, h9, hs1⟩ := am_V_ref hs
  obtain ⟨a, r', rfl, h1, hs2⟩ := am_V_ref hs1
  obtain ⟨e9, h2, fs, rfl, hlen, hf⟩ := am_R_at hR hk h1
  have hql : j < q.length := (List.getElem?_eq_some_iff.mp hq).1
  dsimp only at hlen
  refine va_putF hx hb hts hin ty0 hty hnm hown hK hP hD hS k h2 hc j hj (hts _ hlink) (fun _ h9 => h9) hfin hini hdecl hdI (v := .ref ax) (hn1 ax) (hn2 ax) (by omega) hd fun H1 locs1 hP1 hD1 hS1 => ?_
  have em := am_map_set (e := .inr (ci, fs.set j (.ref ax))) h2
  exact hZ _ h H1 locs1 _ tys lc _ (am_R_setr hR h2 hk hq h9) hP1 hK hD1 hS1 (by rw [em]; exact ha) (by rw [em]; exact hl) (by rw [em]; exact hs2) hX
theorem ok_new {Cn : String} {T : u_T} {N ci index : Nat} {df : List Nat} (hx : p.tables.exec = Jvm.exec) (hb : c.code = cc) (hts : ∀ w ∈ Ts, w.before args s = true) (hown : s.vm.findClass own = some m.cls) (hA : ∀ q, s.heap.size ≤ q → A q) (hin : ∀ w ∈ u_ws Cn T N, w ∈ Ts) (ty0 : Nat → FieldType) (hty : ∀ k, k < N → parseFieldDescriptor (T k).2.2.1 = some (ty0 k)) (hc : cl[ci]? = some (Cn, T, N)) (hcl : Cond.classLink own index Cn ∈ Ts) (hinst : Cond.instantiable Cn N ∈ Ts) (hini : Cond.initialized Cn ∈ Ts) (hdf : df.length = N) (hd0 : ∀ t ∈ df, t = 0 ∨ t = 1)
    (hfs : ∀ j, j < N → defaultValue (ty0 j) = vp_V (df.map fun t => if t = 0 then .int 0 else .null) j) (hmc : R.cells = mc) (hms : R.slots = ms) (hd : decode cc pc = .ok (.new index, 3)) :
    am_Snd (am_Good p l e R s m args below meth c ex D cl A bS ad0 nL mc ms Q) C Q pc (am_new (pc + 3) ci df mc ms) := by
  rintro Z ls st w uc us hZ ⟨h1, h2, h⟩ H locs ws tys lc sc hR hP hK hD hS ha hl hs hX
  dsimp only
  subst hdf
  refine va_new hx hb hts hin ty0 hty hown (hts _ hcl) (hts _ hinst) (hts _ hini) hK hP hD hS hA hc hfs (by omega) (by omega) hd fun q H1 hP1 hD1 hS1 => ?_
  have hp : ws.map Prod.fst <+: (ws ++ [(q, Sum.inr (ci, df.map fun t => if t = 0 then Value.int 0 else .null))]).map Prod.fst := by rw [List.map_append]; exact List.prefix_append _ _
  refine hZ _ h H1 locs _ tys lc _ (am_R_push (L' := w.2.2.1) hR (List.prefix_refl _) ⟨_, rfl, by simp, fun j t hj => ?_⟩ (fun j hj => am_u1_ne hj) (fun _ _ => rfl)) hP1 hK hD1 hS1 (ha.trans hp) (am_L_mono hp hl) ⟨⟨q, ?_, rfl⟩, am_V_mono hp hs⟩ hX
  · dsimp only at hj
    refine ⟨if t = 0 then .int 0 else .null, by rw [List.getElem?_map, hj]; rfl, fun e9 => by subst e9; rw [am_u1_self]; rfl, fun e9 => by subst e9; rfl, fun x hx => ?_⟩
    rcases hd0 t (List.mem_of_getElem? hj) with e9 | e9 <;> omega
  · rw [hR.1, List.map_append, List.getElem?_append_right (by simp)]
    simp
theorem ok_newa_int (hx : p.tables.exec = Jvm.exec) (hb : c.code = cc) (hts : ∀ w ∈ Ts, w.before args s = true) (hA : ∀ q, s.heap.size ≤ q → A q) (harr : Cond.arrayClass .int ∈ Ts) (hmc : R.cells = mc) (hms : R.slots = ms) (hd : decode cc pc = .ok (.newarray .int, 2)) :
    am_Snd (am_Good p l e R s m args below meth c ex D cl A bS ad0 nL mc ms Q) C Q pc (am_newa (pc + 2) 0 mc ms) := by
  rintro Z ls st w uc us hZ ⟨n, r, rfl, hn, h1, h2, h⟩ H locs ws tys lc sc hR hP hK hD hS ha hl hs hX
  dsimp only
  obtain ⟨r', rfl, hs1⟩ := am_V_int hs
  have hn31 : n < 2 ^ 31 := by omega
  refine va_newa hx hb (atype := .int) (hts _ harr) rfl hK hP hD hS hA (N' := n) (a0 := (n, .inl (fun _ => 0))) (fun cA => rfl) (nI_pos hn31) (nI_clamp hn31) (by show n * 4 ≤ _; omega) (by omega) (by omega) hd fun q cA H1 hK1 hP1 hD1 hS1 => ?_
  have hp : ws.map Prod.fst <+: (ws ++ [(q, Sum.inl (cA, ((n, .inl (fun _ => 0)) : vp_A)))]).map Prod.fst := by rw [List.map_append]; exact List.prefix_append _ _
  refine hZ _ h H1 locs _ (tys ++ [(cA, .int)]) lc _ (am_R_push hR (List.prefix_append _ _) ⟨cA, tys.length, ?_, by simp⟩ (fun j hj => am_u1_ne hj) (fun j hj => am_u1_ne hj)) hP1 hK1 hD1 hS1 (ha.trans hp) (am_L_mono hp hl) ⟨⟨q, ?_, rfl⟩, am_V_mono hp hs1⟩ hX
  · rw [am_u1_self]
  · rw [hR.1, List.map_append, List.getElem?_append_right (by simp)]
    simp
theorem ok_newa_boolean (hx : p.tables.exec = Jvm.exec) (hb : c.code = cc) (hts : ∀ w ∈ Ts, w.before args s = true) (hA : ∀ q, s.heap.size ≤ q → A q) (harr : Cond.arrayClass .boolean ∈ Ts) (hmc : R.cells = mc) (hms : R.slots = ms) (hd : decode cc pc = .ok (.newarray .boolean, 2)) :
    am_Snd (am_Good p l e R s m args below meth c ex D cl A bS ad0 nL mc ms Q) C Q pc (am_newa (pc + 2) 1 mc ms) := by
  rintro Z ls st w uc us hZ ⟨n, r, rfl, hn, h1, h2, h⟩ H locs ws tys lc sc hR hP hK hD hS ha hl hs hX
  dsimp only
  obtain ⟨r', rfl, hs1⟩ := am_V_int hs
  have hn31 : n < 2 ^ 31 := by omega
  refine va_newa hx hb (atype := .boolean) (hts _ harr) rfl hK hP hD hS hA (N' := n) (a0 := (n, .inl (fun _ => 0))) (fun cA => rfl) (nI_pos hn31) (nI_clamp hn31) (by show n * 1 ≤ _; omega) (by omega) (by omega) hd fun q cA H1 hK1 hP1 hD1 hS1 => ?_
  have hp : ws.map Prod.fst <+: (ws ++ [(q, Sum.inl (cA, ((n, .inl (fun _ => 0)) : vp_A)))]).map Prod.fst := by rw [List.map_append]; exact List.prefix_append _ _
  refine hZ _ h H1 locs _ (tys ++ [(cA, .boolean)]) lc _ (am_R_push hR (List.prefix_append _ _) ⟨cA, tys.length, ?_, by simp⟩ (fun j hj => am_u1_ne hj) (fun j hj => am_u1_ne hj)) hP1 hK1 hD1 hS1 (ha.trans hp) (am_L_mono hp hl) ⟨⟨q, ?_, rfl⟩, am_V_mono hp hs1⟩ hX
  · rw [am_u1_self]
  · rw [hR.1, List.map_append, List.getElem?_append_right (by simp)]
    simp
theorem ok_newa_long (hx : p.tables.exec = Jvm.exec) (hb : c.code = cc) (hts : ∀ w ∈ Ts, w.before args s = true) (hA : ∀ q, s.heap.size ≤ q → A q) (harr : Cond.arrayClass .long ∈ Ts) (hmc : R.cells = mc) (hms : R.slots = ms) (hd : decode cc pc = .ok (.newarray .long, 2)) :
    am_Snd (am_Good p l e R s m args below meth c ex D cl A bS ad0 nL mc ms Q) C Q pc (am_newa (pc + 2) 2 mc ms) := by
  rintro Z ls st w uc us hZ ⟨n, r, rfl, hn, h1, h2, h⟩ H locs ws tys lc sc hR hP hK hD hS ha hl hs hX
  dsimp only
  obtain ⟨r', rfl, hs1⟩ := am_V_int hs
  have hn31 : n < 2 ^ 31 := by omega
  refine va_newa hx hb (atype := .long) (hts _ harr) rfl hK hP hD hS hA (N' := n) (a0 := (n, .inr (.inl (fun _ => 0)))) (fun cA => rfl) (nI_pos hn31) (nI_clamp hn31) (by show n * 8 ≤ _; omega) (by omega) (by omega) hd fun q cA H1 hK1 hP1 hD1 hS1 => ?_
  have hp : ws.map Prod.fst <+: (ws ++ [(q, Sum.inl (cA, ((n, .inr (.inl (fun _ => 0))) : vp_A)))]).map Prod.fst := by rw [List.map_append]; exact List.prefix_append _ _
  refine hZ _ h H1 locs _ (tys ++ [(cA, .long)]) lc _ (am_R_push hR (List.prefix_append _ _) ⟨cA, tys.length, ?_, by simp⟩ (fun j hj => am_u1_ne hj) (fun j hj => am_u1_ne hj)) hP1 hK1 hD1 hS1 (ha.trans hp) (am_L_mono hp hl) ⟨⟨q, ?_, rfl⟩, am_V_mono hp hs1⟩ hX
  · rw [am_u1_self]
  · rw [hR.1, List.map_append, List.getElem?_append_right (by simp)]
    simp
theorem ok_aald (hx : p.tables.exec = Jvm.exec) (hb : c.code = cc) (hd : decode cc pc = .ok (.aaload, 1)) : am_Snd (am_Good p l e R s m args below meth c ex D cl A bS ad0 nL mc ms Q) C Q pc (am_aald (pc + 1)) := by
  rintro Z ls st w uc us hZ ⟨i, k, r, n, q, x, rfl, hc, hi, hq, h⟩ H locs ws tys lc sc hR hP hK hD hS ha hl hs hX
  obtain ⟨r', rfl, hs1⟩ := am_V_int hs
  obtain ⟨a, r', rfl, h1, hs2⟩ := am_V_ref hs1
  obtain ⟨e9, h2, cA, t0, f, rfl, ht, hf⟩ := am_R_at hR hc h1
  obtain ⟨b, h3, h4⟩ := hf _ _ hq
  have hlt : i.toNatClampNeg < n := Nat.not_le.mp fun q => hi (Or.inr q)
  refine W.aald (v := va_rf (f i.toNatClampNeg)) (ty := .array .int) hx hb (hP k _ h2) ((hK.2 t0 _ ht).1 n (fun j => va_rf (f j))) rfl (fun q => by cases q) (by show ¬ (i < 0 ∨ (arrV _ _ _).slots.size ≤ _); rw [arrV_size]; exact hi) (by show (arrV _ _ _).slots[_]? = _; rw [arrV_read _ _ hlt]) rfl rfl hd ?_
  rw [h4]
  exact hZ _ h H locs ws tys lc _ hR hP hK hD hS ha hl ⟨⟨b, h3, rfl⟩, hs2⟩ hX
theorem ok_oinit {index : Nat} {oc : ByteArray} (hx : p.tables.exec = Jvm.exec) (hb : c.code = cc) (hts : ∀ w ∈ Ts, w.before args s = true) (hown : s.vm.findClass own = some m.cls) (hml : c.maxLocals = nL) (hlink : Cond.methodLink own index objectInit ∈ Ts) (hinst : Cond.instanceMethod objectInit ∈ Ts) (hcode : Cond.code objectInit oc 1 none ∈ Ts) (hoc : oc = ⟨#[0xb1]⟩) (hfr : 1 ≤ R.frames) (hlo : 20 ≤ R.locals) (hd : decode cc pc = .ok (.invokespecial index, 3)) : am_Snd (am_Good p l e R s m args below meth c ex D cl A bS ad0 nL mc ms Q) C Q pc (am_oinit (pc + 3)) := by
  rintro Z ls st w uc us hZ ⟨k, r, rfl, hr, h⟩ H locs ws tys lc sc hR hP hK hD hS ha hl hs hX
  obtain ⟨a, r', rfl, h1, hs1⟩ := am_V_ref hs
  subst hoc
  refine W.objInit hx hb hown (hts _ hlink) (hts _ hinst) (hts _ hcode) rfl (by rw [hml]; exact hl.1) rfl hd hfr (by show 2 * 0 + _ + 12 ≤ _; rw [am_V_cat hs1]; omega) ?_
  exact hZ _ h H locs ws tys lc _ hR hP hK hD hS ha hl hs1 hX
theorem ok_max {index : Nat} {oc : ByteArray} (hx : p.tables.exec = Jvm.exec) (hb : c.code = cc) (hts : ∀ w ∈ Ts, w.before args s = true) (hown : s.vm.findClass own = some m.cls) (hml : c.maxLocals = nL) (hmc : R.cells = mc) (hms : R.slots = ms) (hlink : Cond.methodLink own index Lib.Math.max.name ∈ Ts) (hstat : Cond.static Lib.Math.max.name ∈ Ts) (hini : Cond.initialized "java/lang/Math" ∈ Ts) (hcode : Cond.code Lib.Math.max.name oc 2 (some .int) ∈ Ts) (hoc : oc = Lib.Math.max.code) (hfr : 1 ≤ R.frames) (hlo : 21 ≤ R.locals) (hd : decode cc pc = .ok (.invokestatic index, 3)) : am_Snd (am_Good p l e R s m args below meth c ex D cl A bS ad0 nL mc ms Q) C Q pc (am_max (pc + 3) mc ms) := by
  rintro Z ls st w uc us hZ ⟨x, y, r, rfl, hr, h1, h2, h⟩ H locs ws tys lc sc hR hP hK hD hS ha hl hs hX
  dsimp only
  obtain ⟨r', rfl, hs1⟩ := am_V_int hs
  obtain ⟨r', rfl, hs2⟩ := am_V_int hs1
  subst hoc
  exact va_mmax hx hb (by rw [hml]; exact hl.1.symm) hown (hts _ hlink) (hts _ hstat) (hts _ hini) (hts _ hcode) hfr (by rw [am_V_cat hs2]; omega) (by omega) (by omega) hd (hZ _ h H locs ws tys lc _ hR hP hK hD hS ha hl ⟨rfl, hs2⟩ hX)
theorem ok_abs {index : Nat} {oc : ByteArray} (hx : p.tables.exec = Jvm.exec) (hb : c.code = cc) (hts : ∀ w ∈ Ts, w.before args s = true) (hown : s.vm.findClass own = some m.cls) (hml : c.maxLocals = nL) (hmc : R.cells = mc) (hms : R.slots = ms) (hlink : Cond.methodLink own index Lib.Math.abs.name ∈ Ts) (hstat : Cond.static Lib.Math.abs.name ∈ Ts) (hini : Cond.initialized "java/lang/Math" ∈ Ts) (hcode : Cond.code Lib.Math.abs.name oc 1 (some .int) ∈ Ts) (hoc : oc = Lib.Math.abs.code) (hfr : 1 ≤ R.frames) (hlo : 21 ≤ R.locals) (hd : decode cc pc = .ok (.invokestatic index, 3)) : am_Snd (am_Good p l e R s m args below meth c ex D cl A bS ad0 nL mc ms Q) C Q pc (am_abs (pc + 3) mc ms) := by
  rintro Z ls st w uc us hZ ⟨x, r, rfl, hr, h1, h2, h⟩ H locs ws tys lc sc hR hP hK hD hS ha hl hs hX
  dsimp only
  obtain ⟨r', rfl, hs1⟩ := am_V_int hs
  subst hoc
  exact va_mabs hx hb (by rw [hml]; exact hl.1.symm) hown (hts _ hlink) (hts _ hstat) (hts _ hini) (hts _ hcode) hfr (by rw [am_V_cat hs1]; omega) (by omega) (by omega) hd (hZ _ h H locs ws tys lc _ hR hP hK hD hS ha hl ⟨rfl, hs1⟩ hX)
theorem ok_copy {index : Nat} (hx : p.tables.exec = Jvm.exec) (hb : c.code = cc) (hts : ∀ w ∈ Ts, w.before args s = true) (hown : s.vm.findClass own = some m.cls) (hml : c.maxLocals = nL) (hlink : Cond.methodLink own index arraycopyName ∈ Ts) (hnat : Cond.native arraycopyName ∈ Ts) (hstat : Cond.static arraycopyName ∈ Ts) (hini : Cond.initialized "java/lang/System" ∈ Ts) (hfr : 1 ≤ R.frames) (hlo : 8 + (nativeFrameWords "java/lang/System" "arraycopy" 5 + 11) ≤ R.locals) (hd : decode cc pc = .ok (.invokestatic index, 3)) : am_Snd (am_Good p l e R s m args below meth c ex D cl A bS ad0 nL mc ms Q) C Q pc (am_copy (pc + 3)) := by
  rintro Z ls st w uc us hZ ⟨n, dp, d, sp, s9, r, n0, q0, n1, q1, rfl, hr, hc0, hc1, h1, h2, h3, h4, h5, h⟩ H locs ws tys lc sc hR hP hK hD hS ha hl hs hX
  obtain ⟨r', rfl, hs1⟩ := am_V_int hs
  obtain ⟨r', rfl, hs2⟩ := am_V_int hs1
  obtain ⟨ad, r', rfl, k1, hs3⟩ := am_V_ref hs2
  obtain ⟨r', rfl, hs4⟩ := am_V_int hs3
  obtain ⟨as, r', rfl, k0, hs5⟩ := am_V_ref hs4
  obtain ⟨e9, g0, cA, t0, rfl, ht0⟩ := am_R_at hR hc0 k0
  obtain ⟨e8, g1, cB, t1, rfl, ht1⟩ := am_R_at hR hc1 k1
  refine va_copyi hx hb (by rw [hml]; exact hl.1.symm) hown (hts _ hlink) (hts _ hnat) (hts _ hstat) (hts _ hini) hK hP hD hS s9 d t0 t1 g0 g1 ht0 ht1 rfl h1 h2 h3 h4 h5 (fun _ _ => rfl) hfr (by rw [am_V_cat hs5]; omega) hd fun H1 locs1 hP1 hD1 hS1 => ?_
  have em := am_map_set (e := .inl (cB, n1, .inl (va_cpy (w.2.1 s9) (w.2.1 d) sp.toNatClampNeg dp.toNatClampNeg n.toNatClampNeg))) g1
  refine hZ _ h H1 locs1 _ tys lc _ (am_R_set (L' := w.2.2.1) hR g1 hc1 ⟨cB, t1, ?_, ht1⟩ (fun j hj => am_u1_ne hj) (fun _ _ => rfl)) hP1 hK hD1 hS1 (by rw [em]; exact ha) (by rw [em]; exact hl) (by rw [em]; exact hs5) hX
  rw [am_u1_self]
end AMF
