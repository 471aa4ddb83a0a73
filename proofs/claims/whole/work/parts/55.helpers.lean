/-! contracts: 55.helpers (laid by wip/whole/gen.py) -/
theorem dk_97_0 : decode method_3_code 0 = .ok (.aload 4, 2) := by decide +kernel
theorem dk_97_2 : decode method_3_code 2 = .ok (.iconst (0), 1) := by decide +kernel
theorem dk_97_3 : decode method_3_code 3 = .ok (.aload_n 0, 1) := by decide +kernel
theorem dk_97_4 : decode method_3_code 4 = .ok (.iload_n 1, 1) := by decide +kernel
theorem dk_97_5 : decode method_3_code 5 = .ok (.iload_n 2, 1) := by decide +kernel
theorem dk_97_6 : decode method_3_code 6 = .ok (.iload_n 3, 1) := by decide +kernel
theorem dk_97_7 : decode method_3_code 7 = .ok (.invokevirtual 7, 3) := by decide +kernel
theorem dk_97_10 : decode method_3_code 10 = .ok (.i2l, 1) := by decide +kernel
theorem dk_97_11 : decode method_3_code 11 = .ok (.lastore, 1) := by decide +kernel
theorem dk_97_12 : decode method_3_code 12 = .ok (.goto (7), 3) := by decide +kernel
theorem dk_97_15 : decode method_3_code 15 = .ok (.astore 5, 2) := by decide +kernel
theorem dk_97_17 : decode method_3_code 17 = .ok (.iconst (1), 1) := by decide +kernel
theorem dk_97_18 : decode method_3_code 18 = .ok (.ireturn, 1) := by decide +kernel
theorem dk_97_19 : decode method_3_code 19 = .ok (.iconst (0), 1) := by decide +kernel
theorem dk_97_20 : decode method_3_code 20 = .ok (.ireturn, 1) := by decide +kernel
theorem hc_97 {s0 s : State} {c : Code} {args : Array Value} (h0 : am_W0 s0) (hroot : am_Root s0 s) (htab : c.exceptionTable.toList = tableOf [(0, 12, 15, 13)]) : ∀ E h : Nat, am_hand E [(15, 0)] = some h → ∃ (pre : List ExceptionTableEntry) (x : ExceptionTableEntry) (suf : List ExceptionTableEntry), c.exceptionTable.toList = pre ++ x :: suf ∧ covers x 7 = true ∧ x.handlerPc = h ∧ x.catchType ≠ 0 ∧ (Cond.classLink "RunwayDeskLaw" x.catchType (am_ex E)).before args s = true ∧ (Cond.castable (am_ex E) (am_ex E)).before args s = true ∧ ∀ z ∈ pre, z.catchType ≠ 0 ∧ ∃ nm : String, (Cond.classLink "RunwayDeskLaw" z.catchType nm).before args s = true ∧ va_Nc (am_ex E) nm s := by
  intro E h hh
  have hts := am_hts h0 hroot (args := args)
  simp only [am_hand] at hh
  by_cases e0 : 0 = E
  · subst e0
    simp at hh
    subst hh
    refine ⟨[], ⟨0, 12, 15, 13⟩, [], htab, by decide, rfl, by decide, hts _ tw_273, hts _ tw_284, ?_⟩
    exact fun _ h => absurd h List.not_mem_nil
  rw [if_neg e0] at hh
  cases hh
set_option maxRecDepth 100000 in
set_option maxHeartbeats 4000000 in
theorem cc_97 {l : Launch} {s0 : State} (hst : l.stackTraces = false) (h0 : am_W0 s0) {d : Nat} (hall : ∀ mi ∈ am_idx, am_CC l s0 d mi) : am_CC l s0 (d + 1) 97 :=
  am_methodH (y := y_97) (cc := method_3_code) (maxL := 6) (ret := (some .int)) (hh := [(0, 12, 15, 13)]) (rm := am_rm (d + 1) 1 6) (ops := op_97) (C := am_T am_tabs am_ar d) (ar := 5) h0 (by decide) (by decide) fun p e s m args below meth c D A bS ad0 Q hct htab => by
    obtain ⟨hx, hb, hml, hown, hts, hb1, hb2, hA, hroot, hAs, -, -, hlocks, hr, hnm⟩ := hct
    exact List.forall_mem_cons.mpr ⟨ok_aload hx hb dk_97_0,
    List.forall_mem_cons.mpr ⟨ok_iconst hx hb dk_97_2 rfl,
    List.forall_mem_cons.mpr ⟨ok_aload_n hx hb dk_97_3 rfl,
    List.forall_mem_cons.mpr ⟨ok_iload_n hx hb dk_97_4 rfl,
    List.forall_mem_cons.mpr ⟨ok_iload_n hx hb dk_97_5 rfl,
    List.forall_mem_cons.mpr ⟨ok_iload_n hx hb dk_97_6 rfl,
    List.forall_mem_cons.mpr ⟨ok_invH hx hb hml hown hb1 hb2 hA hroot hAs rfl rfl rfl (hcal_1 hall) ⟨am_cB hts tw_274 tw_277 tw_1 nm_1 rfl rfl (by show d + 8 + 1 ≤ d + 1 + 8; omega) (by show 8 + (5 + 11) + (200 + 60 * d) ≤ 200 + 60 * (d + 1); omega), hts _ tw_275, hts _ tw_276⟩ dk_97_7 (hc_97 h0 hroot htab),
    List.forall_mem_cons.mpr ⟨ok_i2l hx hb dk_97_10,
    List.forall_mem_cons.mpr ⟨ok_last hx hb dk_97_11,
    List.forall_mem_cons.mpr ⟨ok_goto hx hb dk_97_12 (by decide),
    List.forall_mem_cons.mpr ⟨ok_astore hx hb dk_97_15 (by decide),
    List.forall_mem_cons.mpr ⟨ok_iconst hx hb dk_97_17 rfl,
    List.forall_mem_cons.mpr ⟨ok_iret hx hb hb1 hb2 hr hlocks dk_97_18,
    List.forall_mem_cons.mpr ⟨ok_iconst hx hb dk_97_19 rfl,
    List.forall_mem_cons.mpr ⟨ok_iret hx hb hb1 hb2 hr hlocks dk_97_20,
    fun _ h => absurd h List.not_mem_nil⟩⟩⟩⟩⟩⟩⟩⟩⟩⟩⟩⟩⟩⟩⟩
theorem dk_98_0 : decode method_4_code 0 = .ok (.aload 6, 2) := by decide +kernel
theorem dk_98_2 : decode method_4_code 2 = .ok (.iconst (0), 1) := by decide +kernel
theorem dk_98_3 : decode method_4_code 3 = .ok (.aload_n 0, 1) := by decide +kernel
theorem dk_98_4 : decode method_4_code 4 = .ok (.iload_n 1, 1) := by decide +kernel
theorem dk_98_5 : decode method_4_code 5 = .ok (.iload_n 2, 1) := by decide +kernel
theorem dk_98_6 : decode method_4_code 6 = .ok (.iload_n 3, 1) := by decide +kernel
theorem dk_98_7 : decode method_4_code 7 = .ok (.iload 4, 2) := by decide +kernel
theorem dk_98_9 : decode method_4_code 9 = .ok (.iload 5, 2) := by decide +kernel
theorem dk_98_11 : decode method_4_code 11 = .ok (.invokevirtual 15, 3) := by decide +kernel
theorem dk_98_14 : decode method_4_code 14 = .ok (.i2l, 1) := by decide +kernel
theorem dk_98_15 : decode method_4_code 15 = .ok (.lastore, 1) := by decide +kernel
theorem dk_98_16 : decode method_4_code 16 = .ok (.goto (11), 3) := by decide +kernel
theorem dk_98_19 : decode method_4_code 19 = .ok (.astore 7, 2) := by decide +kernel
theorem dk_98_21 : decode method_4_code 21 = .ok (.iconst (1), 1) := by decide +kernel
theorem dk_98_22 : decode method_4_code 22 = .ok (.ireturn, 1) := by decide +kernel
theorem dk_98_23 : decode method_4_code 23 = .ok (.astore 7, 2) := by decide +kernel
theorem dk_98_25 : decode method_4_code 25 = .ok (.iconst (2), 1) := by decide +kernel
theorem dk_98_26 : decode method_4_code 26 = .ok (.ireturn, 1) := by decide +kernel
theorem dk_98_27 : decode method_4_code 27 = .ok (.iconst (0), 1) := by decide +kernel
theorem dk_98_28 : decode method_4_code 28 = .ok (.ireturn, 1) := by decide +kernel
theorem hc_98 {s0 s : State} {c : Code} {args : Array Value} (h0 : am_W0 s0) (hroot : am_Root s0 s) (htab : c.exceptionTable.toList = tableOf [(0, 16, 19, 13), (0, 16, 23, 19)]) : ∀ E h : Nat, am_hand E [(19, 0), (23, 1)] = some h → ∃ (pre : List ExceptionTableEntry) (x : ExceptionTableEntry) (suf : List ExceptionTableEntry), c.exceptionTable.toList = pre ++ x :: suf ∧ covers x 11 = true ∧ x.handlerPc = h ∧ x.catchType ≠ 0 ∧ (Cond.classLink "RunwayDeskLaw" x.catchType (am_ex E)).before args s = true ∧ (Cond.castable (am_ex E) (am_ex E)).before args s = true ∧ ∀ z ∈ pre, z.catchType ≠ 0 ∧ ∃ nm : String, (Cond.classLink "RunwayDeskLaw" z.catchType nm).before args s = true ∧ va_Nc (am_ex E) nm s := by
  intro E h hh
  have hts := am_hts h0 hroot (args := args)
  simp only [am_hand] at hh
  by_cases e0 : 0 = E
  · subst e0
    simp at hh
    subst hh
    refine ⟨[], ⟨0, 16, 19, 13⟩, [⟨0, 16, 23, 19⟩], htab, by decide, rfl, by decide, hts _ tw_273, hts _ tw_284, ?_⟩
    exact fun _ h => absurd h List.not_mem_nil
  rw [if_neg e0] at hh
  by_cases e1 : 1 = E
  · subst e1
    simp at hh
    subst hh
    refine ⟨[⟨0, 16, 19, 13⟩], ⟨0, 16, 23, 19⟩, [], htab, by decide, rfl, by decide, hts _ tw_349, hts _ tw_360, ?_⟩
    exact List.forall_mem_cons.mpr ⟨⟨by decide, "java/lang/IllegalArgumentException", hts _ tw_273, va_Nc.of (args := args) (am_moved hroot _ rfl (h0.choose_spec.2.2.2 ("java/lang/IllegalStateException", "java/lang/IllegalArgumentException") (by decide)))⟩, fun _ h => absurd h List.not_mem_nil⟩
  rw [if_neg e1] at hh
  cases hh
set_option maxRecDepth 100000 in
set_option maxHeartbeats 4000000 in
theorem cc_98 {l : Launch} {s0 : State} (hst : l.stackTraces = false) (h0 : am_W0 s0) {d : Nat} (hall : ∀ mi ∈ am_idx, am_CC l s0 d mi) : am_CC l s0 (d + 1) 98 :=
  am_methodH (y := y_98) (cc := method_4_code) (maxL := 8) (ret := (some .int)) (hh := [(0, 16, 19, 13), (0, 16, 23, 19)]) (rm := am_rm (d + 1) 2 12) (ops := op_98) (C := am_T am_tabs am_ar d) (ar := 7) h0 (by decide) (by decide) fun p e s m args below meth c D A bS ad0 Q hct htab => by
    obtain ⟨hx, hb, hml, hown, hts, hb1, hb2, hA, hroot, hAs, -, -, hlocks, hr, hnm⟩ := hct
    exact List.forall_mem_cons.mpr ⟨ok_aload hx hb dk_98_0,
    List.forall_mem_cons.mpr ⟨ok_iconst hx hb dk_98_2 rfl,
    List.forall_mem_cons.mpr ⟨ok_aload_n hx hb dk_98_3 rfl,
    List.forall_mem_cons.mpr ⟨ok_iload_n hx hb dk_98_4 rfl,
    List.forall_mem_cons.mpr ⟨ok_iload_n hx hb dk_98_5 rfl,
    List.forall_mem_cons.mpr ⟨ok_iload_n hx hb dk_98_6 rfl,
    List.forall_mem_cons.mpr ⟨ok_iload hx hb dk_98_7,
    List.forall_mem_cons.mpr ⟨ok_iload hx hb dk_98_9,
    List.forall_mem_cons.mpr ⟨ok_invH hx hb hml hown hb1 hb2 hA hroot hAs rfl rfl rfl (hcal_2 hall) ⟨am_cB hts tw_350 tw_353 tw_1 nm_2 rfl rfl (by show d + 8 + 1 ≤ d + 1 + 8; omega) (by show 8 + (8 + 11) + (200 + 60 * d) ≤ 200 + 60 * (d + 1); omega), hts _ tw_351, hts _ tw_352⟩ dk_98_11 (hc_98 h0 hroot htab),
    List.forall_mem_cons.mpr ⟨ok_i2l hx hb dk_98_14,
    List.forall_mem_cons.mpr ⟨ok_last hx hb dk_98_15,
    List.forall_mem_cons.mpr ⟨ok_goto hx hb dk_98_16 (by decide),
    List.forall_mem_cons.mpr ⟨ok_astore hx hb dk_98_19 (by decide),
    List.forall_mem_cons.mpr ⟨ok_iconst hx hb dk_98_21 rfl,
    List.forall_mem_cons.mpr ⟨ok_iret hx hb hb1 hb2 hr hlocks dk_98_22,
    List.forall_mem_cons.mpr ⟨ok_astore hx hb dk_98_23 (by decide),
    List.forall_mem_cons.mpr ⟨ok_iconst hx hb dk_98_25 rfl,
    List.forall_mem_cons.mpr ⟨ok_iret hx hb hb1 hb2 hr hlocks dk_98_26,
    List.forall_mem_cons.mpr ⟨ok_iconst hx hb dk_98_27 rfl,
    List.forall_mem_cons.mpr ⟨ok_iret hx hb hb1 hb2 hr hlocks dk_98_28,
    fun _ h => absurd h List.not_mem_nil⟩⟩⟩⟩⟩⟩⟩⟩⟩⟩⟩⟩⟩⟩⟩⟩⟩⟩⟩⟩
theorem dk_99_0 : decode method_5_code 0 = .ok (.aload_n 2, 1) := by decide +kernel
theorem dk_99_1 : decode method_5_code 1 = .ok (.iconst (0), 1) := by decide +kernel
theorem dk_99_2 : decode method_5_code 2 = .ok (.aload_n 0, 1) := by decide +kernel
theorem dk_99_3 : decode method_5_code 3 = .ok (.iload_n 1, 1) := by decide +kernel
theorem dk_99_4 : decode method_5_code 4 = .ok (.invokevirtual 21, 3) := by decide +kernel
theorem dk_99_7 : decode method_5_code 7 = .ok (.i2l, 1) := by decide +kernel
theorem dk_99_8 : decode method_5_code 8 = .ok (.lastore, 1) := by decide +kernel
theorem dk_99_9 : decode method_5_code 9 = .ok (.goto (6), 3) := by decide +kernel
theorem dk_99_12 : decode method_5_code 12 = .ok (.astore_n 3, 1) := by decide +kernel
theorem dk_99_13 : decode method_5_code 13 = .ok (.iconst (1), 1) := by decide +kernel
theorem dk_99_14 : decode method_5_code 14 = .ok (.ireturn, 1) := by decide +kernel
theorem dk_99_15 : decode method_5_code 15 = .ok (.iconst (0), 1) := by decide +kernel
theorem dk_99_16 : decode method_5_code 16 = .ok (.ireturn, 1) := by decide +kernel
theorem hc_99 {s0 s : State} {c : Code} {args : Array Value} (h0 : am_W0 s0) (hroot : am_Root s0 s) (htab : c.exceptionTable.toList = tableOf [(0, 9, 12, 25)]) : ∀ E h : Nat, am_hand E [(12, 2)] = some h → ∃ (pre : List ExceptionTableEntry) (x : ExceptionTableEntry) (suf : List ExceptionTableEntry), c.exceptionTable.toList = pre ++ x :: suf ∧ covers x 4 = true ∧ x.handlerPc = h ∧ x.catchType ≠ 0 ∧ (Cond.classLink "RunwayDeskLaw" x.catchType (am_ex E)).before args s = true ∧ (Cond.castable (am_ex E) (am_ex E)).before args s = true ∧ ∀ z ∈ pre, z.catchType ≠ 0 ∧ ∃ nm : String, (Cond.classLink "RunwayDeskLaw" z.catchType nm).before args s = true ∧ va_Nc (am_ex E) nm s := by
  intro E h hh
  have hts := am_hts h0 hroot (args := args)
  simp only [am_hand] at hh
  by_cases e0 : 2 = E
  · subst e0
    simp at hh
    subst hh
    refine ⟨[], ⟨0, 9, 12, 25⟩, [], htab, by decide, rfl, by decide, hts _ tw_376, hts _ tw_391, ?_⟩
    exact fun _ h => absurd h List.not_mem_nil
  rw [if_neg e0] at hh
  cases hh
set_option maxRecDepth 100000 in
set_option maxHeartbeats 4000000 in
theorem cc_99 {l : Launch} {s0 : State} (hst : l.stackTraces = false) (h0 : am_W0 s0) {d : Nat} (hall : ∀ mi ∈ am_idx, am_CC l s0 d mi) : am_CC l s0 (d + 1) 99 :=
  am_methodH (y := y_99) (cc := method_5_code) (maxL := 4) (ret := (some .int)) (hh := [(0, 9, 12, 25)]) (rm := am_rm (d + 1) 1 6) (ops := op_99) (C := am_T am_tabs am_ar d) (ar := 3) h0 (by decide) (by decide) fun p e s m args below meth c D A bS ad0 Q hct htab => by
    obtain ⟨hx, hb, hml, hown, hts, hb1, hb2, hA, hroot, hAs, -, -, hlocks, hr, hnm⟩ := hct
    exact List.forall_mem_cons.mpr ⟨ok_aload_n hx hb dk_99_0 rfl,
    List.forall_mem_cons.mpr ⟨ok_iconst hx hb dk_99_1 rfl,
    List.forall_mem_cons.mpr ⟨ok_aload_n hx hb dk_99_2 rfl,
    List.forall_mem_cons.mpr ⟨ok_iload_n hx hb dk_99_3 rfl,
    List.forall_mem_cons.mpr ⟨ok_invH hx hb hml hown hb1 hb2 hA hroot hAs rfl rfl rfl (hcal_3 hall) ⟨am_cB hts tw_377 tw_380 tw_1 nm_3 rfl rfl (by show d + 8 + 1 ≤ d + 1 + 8; omega) (by show 8 + (2 + 11) + (200 + 60 * d) ≤ 200 + 60 * (d + 1); omega), hts _ tw_378, hts _ tw_379⟩ dk_99_4 (hc_99 h0 hroot htab),
    List.forall_mem_cons.mpr ⟨ok_i2l hx hb dk_99_7,
    List.forall_mem_cons.mpr ⟨ok_last hx hb dk_99_8,
    List.forall_mem_cons.mpr ⟨ok_goto hx hb dk_99_9 (by decide),
    List.forall_mem_cons.mpr ⟨ok_astore_n hx hb dk_99_12 rfl (by decide),
    List.forall_mem_cons.mpr ⟨ok_iconst hx hb dk_99_13 rfl,
    List.forall_mem_cons.mpr ⟨ok_iret hx hb hb1 hb2 hr hlocks dk_99_14,
    List.forall_mem_cons.mpr ⟨ok_iconst hx hb dk_99_15 rfl,
    List.forall_mem_cons.mpr ⟨ok_iret hx hb hb1 hb2 hr hlocks dk_99_16,
    fun _ h => absurd h List.not_mem_nil⟩⟩⟩⟩⟩⟩⟩⟩⟩⟩⟩⟩⟩
theorem dk_100_0 : decode method_6_code 0 = .ok (.aload_n 3, 1) := by decide +kernel
theorem dk_100_1 : decode method_6_code 1 = .ok (.iconst (0), 1) := by decide +kernel
theorem dk_100_2 : decode method_6_code 2 = .ok (.aload_n 0, 1) := by decide +kernel
theorem dk_100_3 : decode method_6_code 3 = .ok (.iload_n 1, 1) := by decide +kernel
theorem dk_100_4 : decode method_6_code 4 = .ok (.iload_n 2, 1) := by decide +kernel
theorem dk_100_5 : decode method_6_code 5 = .ok (.invokevirtual 27, 3) := by decide +kernel
theorem dk_100_8 : decode method_6_code 8 = .ok (.i2l, 1) := by decide +kernel
theorem dk_100_9 : decode method_6_code 9 = .ok (.lastore, 1) := by decide +kernel
theorem dk_100_10 : decode method_6_code 10 = .ok (.goto (11), 3) := by decide +kernel
theorem dk_100_13 : decode method_6_code 13 = .ok (.astore 4, 2) := by decide +kernel
theorem dk_100_15 : decode method_6_code 15 = .ok (.iconst (1), 1) := by decide +kernel
theorem dk_100_16 : decode method_6_code 16 = .ok (.ireturn, 1) := by decide +kernel
theorem dk_100_17 : decode method_6_code 17 = .ok (.astore 4, 2) := by decide +kernel
theorem dk_100_19 : decode method_6_code 19 = .ok (.iconst (2), 1) := by decide +kernel
theorem dk_100_20 : decode method_6_code 20 = .ok (.ireturn, 1) := by decide +kernel
theorem dk_100_21 : decode method_6_code 21 = .ok (.iconst (0), 1) := by decide +kernel
theorem dk_100_22 : decode method_6_code 22 = .ok (.ireturn, 1) := by decide +kernel
theorem hc_100 {s0 s : State} {c : Code} {args : Array Value} (h0 : am_W0 s0) (hroot : am_Root s0 s) (htab : c.exceptionTable.toList = tableOf [(0, 10, 13, 25), (0, 10, 17, 13)]) : ∀ E h : Nat, am_hand E [(13, 2), (17, 0)] = some h → ∃ (pre : List ExceptionTableEntry) (x : ExceptionTableEntry) (suf : List ExceptionTableEntry), c.exceptionTable.toList = pre ++ x :: suf ∧ covers x 5 = true ∧ x.handlerPc = h ∧ x.catchType ≠ 0 ∧ (Cond.classLink "RunwayDeskLaw" x.catchType (am_ex E)).before args s = true ∧ (Cond.castable (am_ex E) (am_ex E)).before args s = true ∧ ∀ z ∈ pre, z.catchType ≠ 0 ∧ ∃ nm : String, (Cond.classLink "RunwayDeskLaw" z.catchType nm).before args s = true ∧ va_Nc (am_ex E) nm s := by
  intro E h hh
  have hts := am_hts h0 hroot (args := args)
  simp only [am_hand] at hh
  by_cases e0 : 2 = E
  · subst e0
    simp at hh
    subst hh
    refine ⟨[], ⟨0, 10, 13, 25⟩, [⟨0, 10, 17, 13⟩], htab, by decide, rfl, by decide, hts _ tw_376, hts _ tw_391, ?_⟩
    exact fun _ h => absurd h List.not_mem_nil
  rw [if_neg e0] at hh
  by_cases e1 : 0 = E
  · subst e1
    simp at hh
    subst hh
    refine ⟨[⟨0, 10, 13, 25⟩], ⟨0, 10, 17, 13⟩, [], htab, by decide, rfl, by decide, hts _ tw_273, hts _ tw_284, ?_⟩
    exact List.forall_mem_cons.mpr ⟨⟨by decide, "java/util/NoSuchElementException", hts _ tw_376, va_Nc.of (args := args) (am_moved hroot _ rfl (h0.choose_spec.2.2.2 ("java/lang/IllegalArgumentException", "java/util/NoSuchElementException") (by decide)))⟩, fun _ h => absurd h List.not_mem_nil⟩
  rw [if_neg e1] at hh
  cases hh
set_option maxRecDepth 100000 in
set_option maxHeartbeats 4000000 in
theorem cc_100 {l : Launch} {s0 : State} (hst : l.stackTraces = false) (h0 : am_W0 s0) {d : Nat} (hall : ∀ mi ∈ am_idx, am_CC l s0 d mi) : am_CC l s0 (d + 1) 100 :=
  am_methodH (y := y_100) (cc := method_6_code) (maxL := 5) (ret := (some .int)) (hh := [(0, 10, 13, 25), (0, 10, 17, 13)]) (rm := am_rm (d + 1) 2 12) (ops := op_100) (C := am_T am_tabs am_ar d) (ar := 4) h0 (by decide) (by decide) fun p e s m args below meth c D A bS ad0 Q hct htab => by
    obtain ⟨hx, hb, hml, hown, hts, hb1, hb2, hA, hroot, hAs, -, -, hlocks, hr, hnm⟩ := hct
    exact List.forall_mem_cons.mpr ⟨ok_aload_n hx hb dk_100_0 rfl,
    List.forall_mem_cons.mpr ⟨ok_iconst hx hb dk_100_1 rfl,
    List.forall_mem_cons.mpr ⟨ok_aload_n hx hb dk_100_2 rfl,
    List.forall_mem_cons.mpr ⟨ok_iload_n hx hb dk_100_3 rfl,
    List.forall_mem_cons.mpr ⟨ok_iload_n hx hb dk_100_4 rfl,
    List.forall_mem_cons.mpr ⟨ok_invH hx hb hml hown hb1 hb2 hA hroot hAs rfl rfl rfl (hcal_4 hall) ⟨am_cB hts tw_407 tw_410 tw_1 nm_4 rfl rfl (by show d + 8 + 1 ≤ d + 1 + 8; omega) (by show 8 + (4 + 11) + (200 + 60 * d) ≤ 200 + 60 * (d + 1); omega), hts _ tw_408, hts _ tw_409⟩ dk_100_5 (hc_100 h0 hroot htab),
    List.forall_mem_cons.mpr ⟨ok_i2l hx hb dk_100_8,
    List.forall_mem_cons.mpr ⟨ok_last hx hb dk_100_9,
    List.forall_mem_cons.mpr ⟨ok_goto hx hb dk_100_10 (by decide),
    List.forall_mem_cons.mpr ⟨ok_astore hx hb dk_100_13 (by decide),
    List.forall_mem_cons.mpr ⟨ok_iconst hx hb dk_100_15 rfl,
    List.forall_mem_cons.mpr ⟨ok_iret hx hb hb1 hb2 hr hlocks dk_100_16,
    List.forall_mem_cons.mpr ⟨ok_astore hx hb dk_100_17 (by decide),
    List.forall_mem_cons.mpr ⟨ok_iconst hx hb dk_100_19 rfl,
    List.forall_mem_cons.mpr ⟨ok_iret hx hb hb1 hb2 hr hlocks dk_100_20,
    List.forall_mem_cons.mpr ⟨ok_iconst hx hb dk_100_21 rfl,
    List.forall_mem_cons.mpr ⟨ok_iret hx hb hb1 hb2 hr hlocks dk_100_22,
    fun _ h => absurd h List.not_mem_nil⟩⟩⟩⟩⟩⟩⟩⟩⟩⟩⟩⟩⟩⟩⟩⟩⟩
theorem dk_101_0 : decode method_7_code 0 = .ok (.aload_n 2, 1) := by decide +kernel
theorem dk_101_1 : decode method_7_code 1 = .ok (.iconst (0), 1) := by decide +kernel
theorem dk_101_2 : decode method_7_code 2 = .ok (.aload_n 0, 1) := by decide +kernel
theorem dk_101_3 : decode method_7_code 3 = .ok (.iload_n 1, 1) := by decide +kernel
theorem dk_101_4 : decode method_7_code 4 = .ok (.invokevirtual 31, 3) := by decide +kernel
theorem dk_101_7 : decode method_7_code 7 = .ok (.i2l, 1) := by decide +kernel
theorem dk_101_8 : decode method_7_code 8 = .ok (.lastore, 1) := by decide +kernel
theorem dk_101_9 : decode method_7_code 9 = .ok (.goto (6), 3) := by decide +kernel
theorem dk_101_12 : decode method_7_code 12 = .ok (.astore_n 3, 1) := by decide +kernel
theorem dk_101_13 : decode method_7_code 13 = .ok (.iconst (1), 1) := by decide +kernel
theorem dk_101_14 : decode method_7_code 14 = .ok (.ireturn, 1) := by decide +kernel
theorem dk_101_15 : decode method_7_code 15 = .ok (.iconst (0), 1) := by decide +kernel
theorem dk_101_16 : decode method_7_code 16 = .ok (.ireturn, 1) := by decide +kernel
theorem hc_101 {s0 s : State} {c : Code} {args : Array Value} (h0 : am_W0 s0) (hroot : am_Root s0 s) (htab : c.exceptionTable.toList = tableOf [(0, 9, 12, 13)]) : ∀ E h : Nat, am_hand E [(12, 0)] = some h → ∃ (pre : List ExceptionTableEntry) (x : ExceptionTableEntry) (suf : List ExceptionTableEntry), c.exceptionTable.toList = pre ++ x :: suf ∧ covers x 4 = true ∧ x.handlerPc = h ∧ x.catchType ≠ 0 ∧ (Cond.classLink "RunwayDeskLaw" x.catchType (am_ex E)).before args s = true ∧ (Cond.castable (am_ex E) (am_ex E)).before args s = true ∧ ∀ z ∈ pre, z.catchType ≠ 0 ∧ ∃ nm : String, (Cond.classLink "RunwayDeskLaw" z.catchType nm).before args s = true ∧ va_Nc (am_ex E) nm s := by
  intro E h hh
  have hts := am_hts h0 hroot (args := args)
  simp only [am_hand] at hh
  by_cases e0 : 0 = E
  · subst e0
    simp at hh
    subst hh
    refine ⟨[], ⟨0, 9, 12, 13⟩, [], htab, by decide, rfl, by decide, hts _ tw_273, hts _ tw_284, ?_⟩
    exact fun _ h => absurd h List.not_mem_nil
  rw [if_neg e0] at hh
  cases hh
set_option maxRecDepth 100000 in
set_option maxHeartbeats 4000000 in
theorem cc_101 {l : Launch} {s0 : State} (hst : l.stackTraces = false) (h0 : am_W0 s0) {d : Nat} (hall : ∀ mi ∈ am_idx, am_CC l s0 d mi) : am_CC l s0 (d + 1) 101 :=
  am_methodH (y := y_101) (cc := method_7_code) (maxL := 4) (ret := (some .int)) (hh := [(0, 9, 12, 13)]) (rm := am_rm (d + 1) 1 6) (ops := op_101) (C := am_T am_tabs am_ar d) (ar := 3) h0 (by decide) (by decide) fun p e s m args below meth c D A bS ad0 Q hct htab => by
    obtain ⟨hx, hb, hml, hown, hts, hb1, hb2, hA, hroot, hAs, -, -, hlocks, hr, hnm⟩ := hct
    exact List.forall_mem_cons.mpr ⟨ok_aload_n hx hb dk_101_0 rfl,
    List.forall_mem_cons.mpr ⟨ok_iconst hx hb dk_101_1 rfl,
    List.forall_mem_cons.mpr ⟨ok_aload_n hx hb dk_101_2 rfl,
    List.forall_mem_cons.mpr ⟨ok_iload_n hx hb dk_101_3 rfl,
    List.forall_mem_cons.mpr ⟨ok_invH hx hb hml hown hb1 hb2 hA hroot hAs rfl rfl rfl (hcal_5 hall) ⟨am_cB hts tw_419 tw_422 tw_1 nm_5 rfl rfl (by show d + 8 + 1 ≤ d + 1 + 8; omega) (by show 8 + (3 + 11) + (200 + 60 * d) ≤ 200 + 60 * (d + 1); omega), hts _ tw_420, hts _ tw_421⟩ dk_101_4 (hc_101 h0 hroot htab),
    List.forall_mem_cons.mpr ⟨ok_i2l hx hb dk_101_7,
    List.forall_mem_cons.mpr ⟨ok_last hx hb dk_101_8,
    List.forall_mem_cons.mpr ⟨ok_goto hx hb dk_101_9 (by decide),
    List.forall_mem_cons.mpr ⟨ok_astore_n hx hb dk_101_12 rfl (by decide),
    List.forall_mem_cons.mpr ⟨ok_iconst hx hb dk_101_13 rfl,
    List.forall_mem_cons.mpr ⟨ok_iret hx hb hb1 hb2 hr hlocks dk_101_14,
    List.forall_mem_cons.mpr ⟨ok_iconst hx hb dk_101_15 rfl,
    List.forall_mem_cons.mpr ⟨ok_iret hx hb hb1 hb2 hr hlocks dk_101_16,
    fun _ h => absurd h List.not_mem_nil⟩⟩⟩⟩⟩⟩⟩⟩⟩⟩⟩⟩⟩
theorem dk_102_0 : decode method_8_code 0 = .ok (.aload_n 3, 1) := by decide +kernel
theorem dk_102_1 : decode method_8_code 1 = .ok (.iconst (0), 1) := by decide +kernel
theorem dk_102_2 : decode method_8_code 2 = .ok (.aload_n 0, 1) := by decide +kernel
theorem dk_102_3 : decode method_8_code 3 = .ok (.iload_n 1, 1) := by decide +kernel
theorem dk_102_4 : decode method_8_code 4 = .ok (.iload_n 2, 1) := by decide +kernel
theorem dk_102_5 : decode method_8_code 5 = .ok (.invokevirtual 34, 3) := by decide +kernel
theorem dk_102_8 : decode method_8_code 8 = .ok (.i2l, 1) := by decide +kernel
theorem dk_102_9 : decode method_8_code 9 = .ok (.lastore, 1) := by decide +kernel
theorem dk_102_10 : decode method_8_code 10 = .ok (.goto (11), 3) := by decide +kernel
theorem dk_102_13 : decode method_8_code 13 = .ok (.astore 4, 2) := by decide +kernel
theorem dk_102_15 : decode method_8_code 15 = .ok (.iconst (1), 1) := by decide +kernel
theorem dk_102_16 : decode method_8_code 16 = .ok (.ireturn, 1) := by decide +kernel
theorem dk_102_17 : decode method_8_code 17 = .ok (.astore 4, 2) := by decide +kernel
theorem dk_102_19 : decode method_8_code 19 = .ok (.iconst (2), 1) := by decide +kernel
theorem dk_102_20 : decode method_8_code 20 = .ok (.ireturn, 1) := by decide +kernel
theorem dk_102_21 : decode method_8_code 21 = .ok (.iconst (0), 1) := by decide +kernel
theorem dk_102_22 : decode method_8_code 22 = .ok (.ireturn, 1) := by decide +kernel
theorem hc_102 {s0 s : State} {c : Code} {args : Array Value} (h0 : am_W0 s0) (hroot : am_Root s0 s) (htab : c.exceptionTable.toList = tableOf [(0, 10, 13, 13), (0, 10, 17, 19)]) : ∀ E h : Nat, am_hand E [(13, 0), (17, 1)] = some h → ∃ (pre : List ExceptionTableEntry) (x : ExceptionTableEntry) (suf : List ExceptionTableEntry), c.exceptionTable.toList = pre ++ x :: suf ∧ covers x 5 = true ∧ x.handlerPc = h ∧ x.catchType ≠ 0 ∧ (Cond.classLink "RunwayDeskLaw" x.catchType (am_ex E)).before args s = true ∧ (Cond.castable (am_ex E) (am_ex E)).before args s = true ∧ ∀ z ∈ pre, z.catchType ≠ 0 ∧ ∃ nm : String, (Cond.classLink "RunwayDeskLaw" z.catchType nm).before args s = true ∧ va_Nc (am_ex E) nm s := by
  intro E h hh
  have hts := am_hts h0 hroot (args := args)
  simp only [am_hand] at hh
  by_cases e0 : 0 = E
  · subst e0
    simp at hh
    subst hh
    refine ⟨[], ⟨0, 10, 13, 13⟩, [⟨0, 10, 17, 19⟩], htab, by decide, rfl, by decide, hts _ tw_273, hts _ tw_284, ?_⟩
    exact fun _ h => absurd h List.not_mem_nil
  rw [if_neg e0] at hh
  by_cases e1 : 1 = E
  · subst e1
    simp at hh
    subst hh
    refine ⟨[⟨0, 10, 13, 13⟩], ⟨0, 10, 17, 19⟩, [], htab, by decide, rfl, by decide, hts _ tw_349, hts _ tw_360, ?_⟩
    exact List.forall_mem_cons.mpr ⟨⟨by decide, "java/lang/IllegalArgumentException", hts _ tw_273, va_Nc.of (args := args) (am_moved hroot _ rfl (h0.choose_spec.2.2.2 ("java/lang/IllegalStateException", "java/lang/IllegalArgumentException") (by decide)))⟩, fun _ h => absurd h List.not_mem_nil⟩
  rw [if_neg e1] at hh
  cases hh
set_option maxRecDepth 100000 in
set_option maxHeartbeats 4000000 in
theorem cc_102 {l : Launch} {s0 : State} (hst : l.stackTraces = false) (h0 : am_W0 s0) {d : Nat} (hall : ∀ mi ∈ am_idx, am_CC l s0 d mi) : am_CC l s0 (d + 1) 102 :=
  am_methodH (y := y_102) (cc := method_8_code) (maxL := 5) (ret := (some .int)) (hh := [(0, 10, 13, 13), (0, 10, 17, 19)]) (rm := am_rm (d + 1) 2 12) (ops := op_102) (C := am_T am_tabs am_ar d) (ar := 4) h0 (by decide) (by decide) fun p e s m args below meth c D A bS ad0 Q hct htab => by
    obtain ⟨hx, hb, hml, hown, hts, hb1, hb2, hA, hroot, hAs, -, -, hlocks, hr, hnm⟩ := hct
    exact List.forall_mem_cons.mpr ⟨ok_aload_n hx hb dk_102_0 rfl,
    List.forall_mem_cons.mpr ⟨ok_iconst hx hb dk_102_1 rfl,
    List.forall_mem_cons.mpr ⟨ok_aload_n hx hb dk_102_2 rfl,
    List.forall_mem_cons.mpr ⟨ok_iload_n hx hb dk_102_3 rfl,
    List.forall_mem_cons.mpr ⟨ok_iload_n hx hb dk_102_4 rfl,
    List.forall_mem_cons.mpr ⟨ok_invH hx hb hml hown hb1 hb2 hA hroot hAs rfl rfl rfl (hcal_6 hall) ⟨am_cB hts tw_426 tw_429 tw_1 nm_6 rfl rfl (by show d + 8 + 1 ≤ d + 1 + 8; omega) (by show 8 + (3 + 11) + (200 + 60 * d) ≤ 200 + 60 * (d + 1); omega), hts _ tw_427, hts _ tw_428⟩ dk_102_5 (hc_102 h0 hroot htab),
    List.forall_mem_cons.mpr ⟨ok_i2l hx hb dk_102_8,
    List.forall_mem_cons.mpr ⟨ok_last hx hb dk_102_9,
    List.forall_mem_cons.mpr ⟨ok_goto hx hb dk_102_10 (by decide),
    List.forall_mem_cons.mpr ⟨ok_astore hx hb dk_102_13 (by decide),
    List.forall_mem_cons.mpr ⟨ok_iconst hx hb dk_102_15 rfl,
    List.forall_mem_cons.mpr ⟨ok_iret hx hb hb1 hb2 hr hlocks dk_102_16,
    List.forall_mem_cons.mpr ⟨ok_astore hx hb dk_102_17 (by decide),
    List.forall_mem_cons.mpr ⟨ok_iconst hx hb dk_102_19 rfl,
    List.forall_mem_cons.mpr ⟨ok_iret hx hb hb1 hb2 hr hlocks dk_102_20,
    List.forall_mem_cons.mpr ⟨ok_iconst hx hb dk_102_21 rfl,
    List.forall_mem_cons.mpr ⟨ok_iret hx hb hb1 hb2 hr hlocks dk_102_22,
    fun _ h => absurd h List.not_mem_nil⟩⟩⟩⟩⟩⟩⟩⟩⟩⟩⟩⟩⟩⟩⟩⟩⟩
theorem dk_103_0 : decode method_9_code 0 = .ok (.aload_n 0, 1) := by decide +kernel
theorem dk_103_1 : decode method_9_code 1 = .ok (.iload_n 1, 1) := by decide +kernel
theorem dk_103_2 : decode method_9_code 2 = .ok (.iload_n 2, 1) := by decide +kernel
theorem dk_103_3 : decode method_9_code 3 = .ok (.invokevirtual 37, 3) := by decide +kernel
theorem dk_103_6 : decode method_9_code 6 = .ok (.goto (12), 3) := by decide +kernel
theorem dk_103_9 : decode method_9_code 9 = .ok (.astore_n 3, 1) := by decide +kernel
theorem dk_103_10 : decode method_9_code 10 = .ok (.iconst (1), 1) := by decide +kernel
theorem dk_103_11 : decode method_9_code 11 = .ok (.ireturn, 1) := by decide +kernel
theorem dk_103_12 : decode method_9_code 12 = .ok (.astore_n 3, 1) := by decide +kernel
theorem dk_103_13 : decode method_9_code 13 = .ok (.iconst (2), 1) := by decide +kernel
theorem dk_103_14 : decode method_9_code 14 = .ok (.ireturn, 1) := by decide +kernel
theorem dk_103_15 : decode method_9_code 15 = .ok (.astore_n 3, 1) := by decide +kernel
theorem dk_103_16 : decode method_9_code 16 = .ok (.iconst (3), 1) := by decide +kernel
theorem dk_103_17 : decode method_9_code 17 = .ok (.ireturn, 1) := by decide +kernel
theorem dk_103_18 : decode method_9_code 18 = .ok (.iconst (0), 1) := by decide +kernel
theorem dk_103_19 : decode method_9_code 19 = .ok (.ireturn, 1) := by decide +kernel
theorem hc_103 {s0 s : State} {c : Code} {args : Array Value} (h0 : am_W0 s0) (hroot : am_Root s0 s) (htab : c.exceptionTable.toList = tableOf [(0, 6, 9, 25), (0, 6, 12, 13), (0, 6, 15, 19)]) : ∀ E h : Nat, am_hand E [(9, 2), (12, 0), (15, 1)] = some h → ∃ (pre : List ExceptionTableEntry) (x : ExceptionTableEntry) (suf : List ExceptionTableEntry), c.exceptionTable.toList = pre ++ x :: suf ∧ covers x 3 = true ∧ x.handlerPc = h ∧ x.catchType ≠ 0 ∧ (Cond.classLink "RunwayDeskLaw" x.catchType (am_ex E)).before args s = true ∧ (Cond.castable (am_ex E) (am_ex E)).before args s = true ∧ ∀ z ∈ pre, z.catchType ≠ 0 ∧ ∃ nm : String, (Cond.classLink "RunwayDeskLaw" z.catchType nm).before args s = true ∧ va_Nc (am_ex E) nm s := by
  intro E h hh
  have hts := am_hts h0 hroot (args := args)
  simp only [am_hand] at hh
  by_cases e0 : 2 = E
  · subst e0
    simp at hh
    subst hh
    refine ⟨[], ⟨0, 6, 9, 25⟩, [⟨0, 6, 12, 13⟩, ⟨0, 6, 15, 19⟩], htab, by decide, rfl, by decide, hts _ tw_376, hts _ tw_391, ?_⟩
    exact fun _ h => absurd h List.not_mem_nil
  rw [if_neg e0] at hh
  by_cases e1 : 0 = E
  · subst e1
    simp at hh
    subst hh
    refine ⟨[⟨0, 6, 9, 25⟩], ⟨0, 6, 12, 13⟩, [⟨0, 6, 15, 19⟩], htab, by decide, rfl, by decide, hts _ tw_273, hts _ tw_284, ?_⟩
    exact List.forall_mem_cons.mpr ⟨⟨by decide, "java/util/NoSuchElementException", hts _ tw_376, va_Nc.of (args := args) (am_moved hroot _ rfl (h0.choose_spec.2.2.2 ("java/lang/IllegalArgumentException", "java/util/NoSuchElementException") (by decide)))⟩, fun _ h => absurd h List.not_mem_nil⟩
  rw [if_neg e1] at hh
  by_cases e2 : 1 = E
  · subst e2
    simp at hh
    subst hh
    refine ⟨[⟨0, 6, 9, 25⟩, ⟨0, 6, 12, 13⟩], ⟨0, 6, 15, 19⟩, [], htab, by decide, rfl, by decide, hts _ tw_349, hts _ tw_360, ?_⟩
    exact List.forall_mem_cons.mpr ⟨⟨by decide, "java/util/NoSuchElementException", hts _ tw_376, va_Nc.of (args := args) (am_moved hroot _ rfl (h0.choose_spec.2.2.2 ("java/lang/IllegalStateException", "java/util/NoSuchElementException") (by decide)))⟩, List.forall_mem_cons.mpr ⟨⟨by decide, "java/lang/IllegalArgumentException", hts _ tw_273, va_Nc.of (args := args) (am_moved hroot _ rfl (h0.choose_spec.2.2.2 ("java/lang/IllegalStateException", "java/lang/IllegalArgumentException") (by decide)))⟩, fun _ h => absurd h List.not_mem_nil⟩⟩
  rw [if_neg e2] at hh
  cases hh
set_option maxRecDepth 100000 in
set_option maxHeartbeats 4000000 in
theorem cc_103 {l : Launch} {s0 : State} (hst : l.stackTraces = false) (h0 : am_W0 s0) {d : Nat} (hall : ∀ mi ∈ am_idx, am_CC l s0 d mi) : am_CC l s0 (d + 1) 103 :=
  am_methodH (y := y_103) (cc := method_9_code) (maxL := 4) (ret := (some .int)) (hh := [(0, 6, 9, 25), (0, 6, 12, 13), (0, 6, 15, 19)]) (rm := am_rm (d + 1) 3 18) (ops := op_103) (C := am_T am_tabs am_ar d) (ar := 3) h0 (by decide) (by decide) fun p e s m args below meth c D A bS ad0 Q hct htab => by
    obtain ⟨hx, hb, hml, hown, hts, hb1, hb2, hA, hroot, hAs, -, -, hlocks, hr, hnm⟩ := hct
    exact List.forall_mem_cons.mpr ⟨ok_aload_n hx hb dk_103_0 rfl,
    List.forall_mem_cons.mpr ⟨ok_iload_n hx hb dk_103_1 rfl,
    List.forall_mem_cons.mpr ⟨ok_iload_n hx hb dk_103_2 rfl,
    List.forall_mem_cons.mpr ⟨ok_invH hx hb hml hown hb1 hb2 hA hroot hAs rfl rfl rfl (hcal_8 hall) ⟨am_cB hts tw_433 tw_436 tw_1 nm_8 rfl rfl (by show d + 8 + 1 ≤ d + 1 + 8; omega) (by show 8 + (3 + 11) + (200 + 60 * d) ≤ 200 + 60 * (d + 1); omega), hts _ tw_434, hts _ tw_435⟩ dk_103_3 (hc_103 h0 hroot htab),
    List.forall_mem_cons.mpr ⟨ok_goto hx hb dk_103_6 (by decide),
    List.forall_mem_cons.mpr ⟨ok_astore_n hx hb dk_103_9 rfl (by decide),
    List.forall_mem_cons.mpr ⟨ok_iconst hx hb dk_103_10 rfl,
    List.forall_mem_cons.mpr ⟨ok_iret hx hb hb1 hb2 hr hlocks dk_103_11,
    List.forall_mem_cons.mpr ⟨ok_astore_n hx hb dk_103_12 rfl (by decide),
    List.forall_mem_cons.mpr ⟨ok_iconst hx hb dk_103_13 rfl,
    List.forall_mem_cons.mpr ⟨ok_iret hx hb hb1 hb2 hr hlocks dk_103_14,
    List.forall_mem_cons.mpr ⟨ok_astore_n hx hb dk_103_15 rfl (by decide),
    List.forall_mem_cons.mpr ⟨ok_iconst hx hb dk_103_16 rfl,
    List.forall_mem_cons.mpr ⟨ok_iret hx hb hb1 hb2 hr hlocks dk_103_17,
    List.forall_mem_cons.mpr ⟨ok_iconst hx hb dk_103_18 rfl,
    List.forall_mem_cons.mpr ⟨ok_iret hx hb hb1 hb2 hr hlocks dk_103_19,
    fun _ h => absurd h List.not_mem_nil⟩⟩⟩⟩⟩⟩⟩⟩⟩⟩⟩⟩⟩⟩⟩⟩
theorem dk_104_0 : decode method_10_code 0 = .ok (.aload_n 2, 1) := by decide +kernel
theorem dk_104_1 : decode method_10_code 1 = .ok (.iconst (0), 1) := by decide +kernel
theorem dk_104_2 : decode method_10_code 2 = .ok (.aload_n 0, 1) := by decide +kernel
theorem dk_104_3 : decode method_10_code 3 = .ok (.iload_n 1, 1) := by decide +kernel
theorem dk_104_4 : decode method_10_code 4 = .ok (.invokevirtual 41, 3) := by decide +kernel
theorem dk_104_7 : decode method_10_code 7 = .ok (.ifCond .eq (7), 3) := by decide +kernel
theorem dk_104_10 : decode method_10_code 10 = .ok (.lconst 1, 1) := by decide +kernel
theorem dk_104_11 : decode method_10_code 11 = .ok (.goto (4), 3) := by decide +kernel
theorem dk_104_14 : decode method_10_code 14 = .ok (.lconst 0, 1) := by decide +kernel
theorem dk_104_15 : decode method_10_code 15 = .ok (.lastore, 1) := by decide +kernel
theorem dk_104_16 : decode method_10_code 16 = .ok (.goto (6), 3) := by decide +kernel
theorem dk_104_19 : decode method_10_code 19 = .ok (.astore_n 3, 1) := by decide +kernel
theorem dk_104_20 : decode method_10_code 20 = .ok (.iconst (1), 1) := by decide +kernel
theorem dk_104_21 : decode method_10_code 21 = .ok (.ireturn, 1) := by decide +kernel
theorem dk_104_22 : decode method_10_code 22 = .ok (.iconst (0), 1) := by decide +kernel
theorem dk_104_23 : decode method_10_code 23 = .ok (.ireturn, 1) := by decide +kernel
theorem hc_104 {s0 s : State} {c : Code} {args : Array Value} (h0 : am_W0 s0) (hroot : am_Root s0 s) (htab : c.exceptionTable.toList = tableOf [(0, 16, 19, 25)]) : ∀ E h : Nat, am_hand E [(19, 2)] = some h → ∃ (pre : List ExceptionTableEntry) (x : ExceptionTableEntry) (suf : List ExceptionTableEntry), c.exceptionTable.toList = pre ++ x :: suf ∧ covers x 4 = true ∧ x.handlerPc = h ∧ x.catchType ≠ 0 ∧ (Cond.classLink "RunwayDeskLaw" x.catchType (am_ex E)).before args s = true ∧ (Cond.castable (am_ex E) (am_ex E)).before args s = true ∧ ∀ z ∈ pre, z.catchType ≠ 0 ∧ ∃ nm : String, (Cond.classLink "RunwayDeskLaw" z.catchType nm).before args s = true ∧ va_Nc (am_ex E) nm s := by
  intro E h hh
  have hts := am_hts h0 hroot (args := args)
  simp only [am_hand] at hh
  by_cases e0 : 2 = E
  · subst e0
    simp at hh
    subst hh
    refine ⟨[], ⟨0, 16, 19, 25⟩, [], htab, by decide, rfl, by decide, hts _ tw_376, hts _ tw_391, ?_⟩
    exact fun _ h => absurd h List.not_mem_nil
  rw [if_neg e0] at hh
  cases hh
set_option maxRecDepth 100000 in
set_option maxHeartbeats 4000000 in
theorem cc_104 {l : Launch} {s0 : State} (hst : l.stackTraces = false) (h0 : am_W0 s0) {d : Nat} (hall : ∀ mi ∈ am_idx, am_CC l s0 d mi) : am_CC l s0 (d + 1) 104 :=
  am_methodH (y := y_104) (cc := method_10_code) (maxL := 4) (ret := (some .int)) (hh := [(0, 16, 19, 25)]) (rm := am_rm (d + 1) 1 6) (ops := op_104) (C := am_T am_tabs am_ar d) (ar := 3) h0 (by decide) (by decide) fun p e s m args below meth c D A bS ad0 Q hct htab => by
    obtain ⟨hx, hb, hml, hown, hts, hb1, hb2, hA, hroot, hAs, -, -, hlocks, hr, hnm⟩ := hct
    exact List.forall_mem_cons.mpr ⟨ok_aload_n hx hb dk_104_0 rfl,
    List.forall_mem_cons.mpr ⟨ok_iconst hx hb dk_104_1 rfl,
    List.forall_mem_cons.mpr ⟨ok_aload_n hx hb dk_104_2 rfl,
    List.forall_mem_cons.mpr ⟨ok_iload_n hx hb dk_104_3 rfl,
    List.forall_mem_cons.mpr ⟨ok_invH hx hb hml hown hb1 hb2 hA hroot hAs rfl rfl rfl (hcal_9 hall) ⟨am_cB hts tw_449 tw_452 tw_1 nm_9 rfl rfl (by show d + 8 + 1 ≤ d + 1 + 8; omega) (by show 8 + (3 + 11) + (200 + 60 * d) ≤ 200 + 60 * (d + 1); omega), hts _ tw_450, hts _ tw_451⟩ dk_104_4 (hc_104 h0 hroot htab),
    List.forall_mem_cons.mpr ⟨ok_if_eq hx hb dk_104_7 (by decide),
    List.forall_mem_cons.mpr ⟨ok_lconst hx hb dk_104_10 rfl,
    List.forall_mem_cons.mpr ⟨ok_goto hx hb dk_104_11 (by decide),
    List.forall_mem_cons.mpr ⟨ok_lconst hx hb dk_104_14 rfl,
    List.forall_mem_cons.mpr ⟨ok_last hx hb dk_104_15,
    List.forall_mem_cons.mpr ⟨ok_goto hx hb dk_104_16 (by decide),
    List.forall_mem_cons.mpr ⟨ok_astore_n hx hb dk_104_19 rfl (by decide),
    List.forall_mem_cons.mpr ⟨ok_iconst hx hb dk_104_20 rfl,
    List.forall_mem_cons.mpr ⟨ok_iret hx hb hb1 hb2 hr hlocks dk_104_21,
    List.forall_mem_cons.mpr ⟨ok_iconst hx hb dk_104_22 rfl,
    List.forall_mem_cons.mpr ⟨ok_iret hx hb hb1 hb2 hr hlocks dk_104_23,
    fun _ h => absurd h List.not_mem_nil⟩⟩⟩⟩⟩⟩⟩⟩⟩⟩⟩⟩⟩⟩⟩⟩
theorem dk_105_0 : decode method_11_code 0 = .ok (.aload_n 3, 1) := by decide +kernel
theorem dk_105_1 : decode method_11_code 1 = .ok (.iconst (0), 1) := by decide +kernel
theorem dk_105_2 : decode method_11_code 2 = .ok (.aload_n 0, 1) := by decide +kernel
theorem dk_105_3 : decode method_11_code 3 = .ok (.iload_n 1, 1) := by decide +kernel
theorem dk_105_4 : decode method_11_code 4 = .ok (.iload_n 2, 1) := by decide +kernel
theorem dk_105_5 : decode method_11_code 5 = .ok (.invokevirtual 45, 3) := by decide +kernel
theorem dk_105_8 : decode method_11_code 8 = .ok (.i2l, 1) := by decide +kernel
theorem dk_105_9 : decode method_11_code 9 = .ok (.lastore, 1) := by decide +kernel
theorem dk_105_10 : decode method_11_code 10 = .ok (.goto (11), 3) := by decide +kernel
theorem dk_105_13 : decode method_11_code 13 = .ok (.astore 4, 2) := by decide +kernel
theorem dk_105_15 : decode method_11_code 15 = .ok (.iconst (1), 1) := by decide +kernel
theorem dk_105_16 : decode method_11_code 16 = .ok (.ireturn, 1) := by decide +kernel
theorem dk_105_17 : decode method_11_code 17 = .ok (.astore 4, 2) := by decide +kernel
theorem dk_105_19 : decode method_11_code 19 = .ok (.iconst (2), 1) := by decide +kernel
theorem dk_105_20 : decode method_11_code 20 = .ok (.ireturn, 1) := by decide +kernel
theorem dk_105_21 : decode method_11_code 21 = .ok (.iconst (0), 1) := by decide +kernel
theorem dk_105_22 : decode method_11_code 22 = .ok (.ireturn, 1) := by decide +kernel
theorem hc_105 {s0 s : State} {c : Code} {args : Array Value} (h0 : am_W0 s0) (hroot : am_Root s0 s) (htab : c.exceptionTable.toList = tableOf [(0, 10, 13, 25), (0, 10, 17, 13)]) : ∀ E h : Nat, am_hand E [(13, 2), (17, 0)] = some h → ∃ (pre : List ExceptionTableEntry) (x : ExceptionTableEntry) (suf : List ExceptionTableEntry), c.exceptionTable.toList = pre ++ x :: suf ∧ covers x 5 = true ∧ x.handlerPc = h ∧ x.catchType ≠ 0 ∧ (Cond.classLink "RunwayDeskLaw" x.catchType (am_ex E)).before args s = true ∧ (Cond.castable (am_ex E) (am_ex E)).before args s = true ∧ ∀ z ∈ pre, z.catchType ≠ 0 ∧ ∃ nm : String, (Cond.classLink "RunwayDeskLaw" z.catchType nm).before args s = true ∧ va_Nc (am_ex E) nm s := by
  intro E h hh
  have hts := am_hts h0 hroot (args := args)
  simp only [am_hand] at hh
  by_cases e0 : 2 = E
  · subst e0
    simp at hh
    subst hh
    refine ⟨[], ⟨0, 10, 13, 25⟩, [⟨0, 10, 17, 13⟩], htab, by decide, rfl, by decide, hts _ tw_376, hts _ tw_391, ?_⟩
    exact fun _ h => absurd h List.not_mem_nil
  rw [if_neg e0] at hh
  by_cases e1 : 0 = E
  · subst e1
    simp at hh
    subst hh
    refine ⟨[⟨0, 10, 13, 25⟩], ⟨0, 10, 17, 13⟩, [], htab, by decide, rfl, by decide, hts _ tw_273, hts _ tw_284, ?_⟩
    exact List.forall_mem_cons.mpr ⟨⟨by decide, "java/util/NoSuchElementException", hts _ tw_376, va_Nc.of (args := args) (am_moved hroot _ rfl (h0.choose_spec.2.2.2 ("java/lang/IllegalArgumentException", "java/util/NoSuchElementException") (by decide)))⟩, fun _ h => absurd h List.not_mem_nil⟩
  rw [if_neg e1] at hh
  cases hh
set_option maxRecDepth 100000 in
set_option maxHeartbeats 4000000 in
theorem cc_105 {l : Launch} {s0 : State} (hst : l.stackTraces = false) (h0 : am_W0 s0) {d : Nat} (hall : ∀ mi ∈ am_idx, am_CC l s0 d mi) : am_CC l s0 (d + 1) 105 :=
  am_methodH (y := y_105) (cc := method_11_code) (maxL := 5) (ret := (some .int)) (hh := [(0, 10, 13, 25), (0, 10, 17, 13)]) (rm := am_rm (d + 1) 2 12) (ops := op_105) (C := am_T am_tabs am_ar d) (ar := 4) h0 (by decide) (by decide) fun p e s m args below meth c D A bS ad0 Q hct htab => by
    obtain ⟨hx, hb, hml, hown, hts, hb1, hb2, hA, hroot, hAs, -, -, hlocks, hr, hnm⟩ := hct
    exact List.forall_mem_cons.mpr ⟨ok_aload_n hx hb dk_105_0 rfl,
    List.forall_mem_cons.mpr ⟨ok_iconst hx hb dk_105_1 rfl,
    List.forall_mem_cons.mpr ⟨ok_aload_n hx hb dk_105_2 rfl,
    List.forall_mem_cons.mpr ⟨ok_iload_n hx hb dk_105_3 rfl,
    List.forall_mem_cons.mpr ⟨ok_iload_n hx hb dk_105_4 rfl,
    List.forall_mem_cons.mpr ⟨ok_invH hx hb hml hown hb1 hb2 hA hroot hAs rfl rfl rfl (hcal_11 hall) ⟨am_cB hts tw_457 tw_460 tw_1 nm_11 rfl rfl (by show d + 8 + 1 ≤ d + 1 + 8; omega) (by show 8 + (5 + 11) + (200 + 60 * d) ≤ 200 + 60 * (d + 1); omega), hts _ tw_458, hts _ tw_459⟩ dk_105_5 (hc_105 h0 hroot htab),
    List.forall_mem_cons.mpr ⟨ok_i2l hx hb dk_105_8,
    List.forall_mem_cons.mpr ⟨ok_last hx hb dk_105_9,
    List.forall_mem_cons.mpr ⟨ok_goto hx hb dk_105_10 (by decide),
    List.forall_mem_cons.mpr ⟨ok_astore hx hb dk_105_13 (by decide),
    List.forall_mem_cons.mpr ⟨ok_iconst hx hb dk_105_15 rfl,
    List.forall_mem_cons.mpr ⟨ok_iret hx hb hb1 hb2 hr hlocks dk_105_16,
    List.forall_mem_cons.mpr ⟨ok_astore hx hb dk_105_17 (by decide),
    List.forall_mem_cons.mpr ⟨ok_iconst hx hb dk_105_19 rfl,
    List.forall_mem_cons.mpr ⟨ok_iret hx hb hb1 hb2 hr hlocks dk_105_20,
    List.forall_mem_cons.mpr ⟨ok_iconst hx hb dk_105_21 rfl,
    List.forall_mem_cons.mpr ⟨ok_iret hx hb hb1 hb2 hr hlocks dk_105_22,
    fun _ h => absurd h List.not_mem_nil⟩⟩⟩⟩⟩⟩⟩⟩⟩⟩⟩⟩⟩⟩⟩⟩⟩
theorem dk_106_0 : decode method_12_code 0 = .ok (.aload_n 2, 1) := by decide +kernel
theorem dk_106_1 : decode method_12_code 1 = .ok (.iconst (0), 1) := by decide +kernel
theorem dk_106_2 : decode method_12_code 2 = .ok (.aload_n 0, 1) := by decide +kernel
theorem dk_106_3 : decode method_12_code 3 = .ok (.iload_n 1, 1) := by decide +kernel
theorem dk_106_4 : decode method_12_code 4 = .ok (.invokevirtual 48, 3) := by decide +kernel
theorem dk_106_7 : decode method_12_code 7 = .ok (.i2l, 1) := by decide +kernel
theorem dk_106_8 : decode method_12_code 8 = .ok (.lastore, 1) := by decide +kernel
theorem dk_106_9 : decode method_12_code 9 = .ok (.goto (9), 3) := by decide +kernel
theorem dk_106_12 : decode method_12_code 12 = .ok (.astore_n 3, 1) := by decide +kernel
theorem dk_106_13 : decode method_12_code 13 = .ok (.iconst (1), 1) := by decide +kernel
theorem dk_106_14 : decode method_12_code 14 = .ok (.ireturn, 1) := by decide +kernel
theorem dk_106_15 : decode method_12_code 15 = .ok (.astore_n 3, 1) := by decide +kernel
theorem dk_106_16 : decode method_12_code 16 = .ok (.iconst (2), 1) := by decide +kernel
theorem dk_106_17 : decode method_12_code 17 = .ok (.ireturn, 1) := by decide +kernel
theorem dk_106_18 : decode method_12_code 18 = .ok (.iconst (0), 1) := by decide +kernel
theorem dk_106_19 : decode method_12_code 19 = .ok (.ireturn, 1) := by decide +kernel
theorem hc_106 {s0 s : State} {c : Code} {args : Array Value} (h0 : am_W0 s0) (hroot : am_Root s0 s) (htab : c.exceptionTable.toList = tableOf [(0, 9, 12, 25), (0, 9, 15, 19)]) : ∀ E h : Nat, am_hand E [(12, 2), (15, 1)] = some h → ∃ (pre : List ExceptionTableEntry) (x : ExceptionTableEntry) (suf : List ExceptionTableEntry), c.exceptionTable.toList = pre ++ x :: suf ∧ covers x 4 = true ∧ x.handlerPc = h ∧ x.catchType ≠ 0 ∧ (Cond.classLink "RunwayDeskLaw" x.catchType (am_ex E)).before args s = true ∧ (Cond.castable (am_ex E) (am_ex E)).before args s = true ∧ ∀ z ∈ pre, z.catchType ≠ 0 ∧ ∃ nm : String, (Cond.classLink "RunwayDeskLaw" z.catchType nm).before args s = true ∧ va_Nc (am_ex E) nm s := by
  intro E h hh
  have hts := am_hts h0 hroot (args := args)
  simp only [am_hand] at hh
  by_cases e0 : 2 = E
  · subst e0
    simp at hh
    subst hh
    refine ⟨[], ⟨0, 9, 12, 25⟩, [⟨0, 9, 15, 19⟩], htab, by decide, rfl, by decide, hts _ tw_376, hts _ tw_391, ?_⟩
    exact fun _ h => absurd h List.not_mem_nil
  rw [if_neg e0] at hh
  by_cases e1 : 1 = E
  · subst e1
    simp at hh
    subst hh
    refine ⟨[⟨0, 9, 12, 25⟩], ⟨0, 9, 15, 19⟩, [], htab, by decide, rfl, by decide, hts _ tw_349, hts _ tw_360, ?_⟩
    exact List.forall_mem_cons.mpr ⟨⟨by decide, "java/util/NoSuchElementException", hts _ tw_376, va_Nc.of (args := args) (am_moved hroot _ rfl (h0.choose_spec.2.2.2 ("java/lang/IllegalStateException", "java/util/NoSuchElementException") (by decide)))⟩, fun _ h => absurd h List.not_mem_nil⟩
  rw [if_neg e1] at hh
  cases hh
set_option maxRecDepth 100000 in
set_option maxHeartbeats 4000000 in
theorem cc_106 {l : Launch} {s0 : State} (hst : l.stackTraces = false) (h0 : am_W0 s0) {d : Nat} (hall : ∀ mi ∈ am_idx, am_CC l s0 d mi) : am_CC l s0 (d + 1) 106 :=
  am_methodH (y := y_106) (cc := method_12_code) (maxL := 4) (ret := (some .int)) (hh := [(0, 9, 12, 25), (0, 9, 15, 19)]) (rm := am_rm (d + 1) 2 12) (ops := op_106) (C := am_T am_tabs am_ar d) (ar := 3) h0 (by decide) (by decide) fun p e s m args below meth c D A bS ad0 Q hct htab => by
    obtain ⟨hx, hb, hml, hown, hts, hb1, hb2, hA, hroot, hAs, -, -, hlocks, hr, hnm⟩ := hct
    exact List.forall_mem_cons.mpr ⟨ok_aload_n hx hb dk_106_0 rfl,
    List.forall_mem_cons.mpr ⟨ok_iconst hx hb dk_106_1 rfl,
    List.forall_mem_cons.mpr ⟨ok_aload_n hx hb dk_106_2 rfl,
    List.forall_mem_cons.mpr ⟨ok_iload_n hx hb dk_106_3 rfl,
    List.forall_mem_cons.mpr ⟨ok_invH hx hb hml hown hb1 hb2 hA hroot hAs rfl rfl rfl (hcal_12 hall) ⟨am_cB hts tw_464 tw_467 tw_1 nm_12 rfl rfl (by show d + 8 + 1 ≤ d + 1 + 8; omega) (by show 8 + (2 + 11) + (200 + 60 * d) ≤ 200 + 60 * (d + 1); omega), hts _ tw_465, hts _ tw_466⟩ dk_106_4 (hc_106 h0 hroot htab),
    List.forall_mem_cons.mpr ⟨ok_i2l hx hb dk_106_7,
    List.forall_mem_cons.mpr ⟨ok_last hx hb dk_106_8,
    List.forall_mem_cons.mpr ⟨ok_goto hx hb dk_106_9 (by decide),
    List.forall_mem_cons.mpr ⟨ok_astore_n hx hb dk_106_12 rfl (by decide),
    List.forall_mem_cons.mpr ⟨ok_iconst hx hb dk_106_13 rfl,
    List.forall_mem_cons.mpr ⟨ok_iret hx hb hb1 hb2 hr hlocks dk_106_14,
    List.forall_mem_cons.mpr ⟨ok_astore_n hx hb dk_106_15 rfl (by decide),
    List.forall_mem_cons.mpr ⟨ok_iconst hx hb dk_106_16 rfl,
    List.forall_mem_cons.mpr ⟨ok_iret hx hb hb1 hb2 hr hlocks dk_106_17,
    List.forall_mem_cons.mpr ⟨ok_iconst hx hb dk_106_18 rfl,
    List.forall_mem_cons.mpr ⟨ok_iret hx hb hb1 hb2 hr hlocks dk_106_19,
    fun _ h => absurd h List.not_mem_nil⟩⟩⟩⟩⟩⟩⟩⟩⟩⟩⟩⟩⟩⟩⟩⟩
theorem dk_107_0 : decode method_13_code 0 = .ok (.aload_n 2, 1) := by decide +kernel
theorem dk_107_1 : decode method_13_code 1 = .ok (.iconst (0), 1) := by decide +kernel
theorem dk_107_2 : decode method_13_code 2 = .ok (.aload_n 0, 1) := by decide +kernel
theorem dk_107_3 : decode method_13_code 3 = .ok (.iload_n 1, 1) := by decide +kernel
theorem dk_107_4 : decode method_13_code 4 = .ok (.invokevirtual 51, 3) := by decide +kernel
theorem dk_107_7 : decode method_13_code 7 = .ok (.i2l, 1) := by decide +kernel
theorem dk_107_8 : decode method_13_code 8 = .ok (.lastore, 1) := by decide +kernel
theorem dk_107_9 : decode method_13_code 9 = .ok (.goto (6), 3) := by decide +kernel
theorem dk_107_12 : decode method_13_code 12 = .ok (.astore_n 3, 1) := by decide +kernel
theorem dk_107_13 : decode method_13_code 13 = .ok (.iconst (1), 1) := by decide +kernel
theorem dk_107_14 : decode method_13_code 14 = .ok (.ireturn, 1) := by decide +kernel
theorem dk_107_15 : decode method_13_code 15 = .ok (.iconst (0), 1) := by decide +kernel
theorem dk_107_16 : decode method_13_code 16 = .ok (.ireturn, 1) := by decide +kernel
theorem hc_107 {s0 s : State} {c : Code} {args : Array Value} (h0 : am_W0 s0) (hroot : am_Root s0 s) (htab : c.exceptionTable.toList = tableOf [(0, 9, 12, 54)]) : ∀ E h : Nat, am_hand E [(12, 3)] = some h → ∃ (pre : List ExceptionTableEntry) (x : ExceptionTableEntry) (suf : List ExceptionTableEntry), c.exceptionTable.toList = pre ++ x :: suf ∧ covers x 4 = true ∧ x.handlerPc = h ∧ x.catchType ≠ 0 ∧ (Cond.classLink "RunwayDeskLaw" x.catchType (am_ex E)).before args s = true ∧ (Cond.castable (am_ex E) (am_ex E)).before args s = true ∧ ∀ z ∈ pre, z.catchType ≠ 0 ∧ ∃ nm : String, (Cond.classLink "RunwayDeskLaw" z.catchType nm).before args s = true ∧ va_Nc (am_ex E) nm s := by
  intro E h hh
  have hts := am_hts h0 hroot (args := args)
  simp only [am_hand] at hh
  by_cases e0 : 3 = E
  · subst e0
    simp at hh
    subst hh
    refine ⟨[], ⟨0, 9, 12, 54⟩, [], htab, by decide, rfl, by decide, hts _ tw_471, hts _ tw_479, ?_⟩
    exact fun _ h => absurd h List.not_mem_nil
  rw [if_neg e0] at hh
  cases hh
set_option maxRecDepth 100000 in
set_option maxHeartbeats 4000000 in
theorem cc_107 {l : Launch} {s0 : State} (hst : l.stackTraces = false) (h0 : am_W0 s0) {d : Nat} (hall : ∀ mi ∈ am_idx, am_CC l s0 d mi) : am_CC l s0 (d + 1) 107 :=
  am_methodH (y := y_107) (cc := method_13_code) (maxL := 4) (ret := (some .int)) (hh := [(0, 9, 12, 54)]) (rm := am_rm (d + 1) 1 6) (ops := op_107) (C := am_T am_tabs am_ar d) (ar := 3) h0 (by decide) (by decide) fun p e s m args below meth c D A bS ad0 Q hct htab => by
    obtain ⟨hx, hb, hml, hown, hts, hb1, hb2, hA, hroot, hAs, -, -, hlocks, hr, hnm⟩ := hct
    exact List.forall_mem_cons.mpr ⟨ok_aload_n hx hb dk_107_0 rfl,
    List.forall_mem_cons.mpr ⟨ok_iconst hx hb dk_107_1 rfl,
    List.forall_mem_cons.mpr ⟨ok_aload_n hx hb dk_107_2 rfl,
    List.forall_mem_cons.mpr ⟨ok_iload_n hx hb dk_107_3 rfl,
    List.forall_mem_cons.mpr ⟨ok_invH hx hb hml hown hb1 hb2 hA hroot hAs rfl rfl rfl (hcal_13 hall) ⟨am_cB hts tw_472 tw_475 tw_1 nm_13 rfl rfl (by show d + 8 + 1 ≤ d + 1 + 8; omega) (by show 8 + (3 + 11) + (200 + 60 * d) ≤ 200 + 60 * (d + 1); omega), hts _ tw_473, hts _ tw_474⟩ dk_107_4 (hc_107 h0 hroot htab),
    List.forall_mem_cons.mpr ⟨ok_i2l hx hb dk_107_7,
    List.forall_mem_cons.mpr ⟨ok_last hx hb dk_107_8,
    List.forall_mem_cons.mpr ⟨ok_goto hx hb dk_107_9 (by decide),
    List.forall_mem_cons.mpr ⟨ok_astore_n hx hb dk_107_12 rfl (by decide),
    List.forall_mem_cons.mpr ⟨ok_iconst hx hb dk_107_13 rfl,
    List.forall_mem_cons.mpr ⟨ok_iret hx hb hb1 hb2 hr hlocks dk_107_14,
    List.forall_mem_cons.mpr ⟨ok_iconst hx hb dk_107_15 rfl,
    List.forall_mem_cons.mpr ⟨ok_iret hx hb hb1 hb2 hr hlocks dk_107_16,
    fun _ h => absurd h List.not_mem_nil⟩⟩⟩⟩⟩⟩⟩⟩⟩⟩⟩⟩⟩
theorem dk_108_0 : decode method_14_code 0 = .ok (.aload_n 2, 1) := by decide +kernel
theorem dk_108_1 : decode method_14_code 1 = .ok (.iconst (0), 1) := by decide +kernel
theorem dk_108_2 : decode method_14_code 2 = .ok (.aload_n 0, 1) := by decide +kernel
theorem dk_108_3 : decode method_14_code 3 = .ok (.iload_n 1, 1) := by decide +kernel
theorem dk_108_4 : decode method_14_code 4 = .ok (.invokevirtual 56, 3) := by decide +kernel
theorem dk_108_7 : decode method_14_code 7 = .ok (.i2l, 1) := by decide +kernel
theorem dk_108_8 : decode method_14_code 8 = .ok (.lastore, 1) := by decide +kernel
theorem dk_108_9 : decode method_14_code 9 = .ok (.goto (6), 3) := by decide +kernel
theorem dk_108_12 : decode method_14_code 12 = .ok (.astore_n 3, 1) := by decide +kernel
theorem dk_108_13 : decode method_14_code 13 = .ok (.iconst (1), 1) := by decide +kernel
theorem dk_108_14 : decode method_14_code 14 = .ok (.ireturn, 1) := by decide +kernel
theorem dk_108_15 : decode method_14_code 15 = .ok (.iconst (0), 1) := by decide +kernel
theorem dk_108_16 : decode method_14_code 16 = .ok (.ireturn, 1) := by decide +kernel
theorem hc_108 {s0 s : State} {c : Code} {args : Array Value} (h0 : am_W0 s0) (hroot : am_Root s0 s) (htab : c.exceptionTable.toList = tableOf [(0, 9, 12, 25)]) : ∀ E h : Nat, am_hand E [(12, 2)] = some h → ∃ (pre : List ExceptionTableEntry) (x : ExceptionTableEntry) (suf : List ExceptionTableEntry), c.exceptionTable.toList = pre ++ x :: suf ∧ covers x 4 = true ∧ x.handlerPc = h ∧ x.catchType ≠ 0 ∧ (Cond.classLink "RunwayDeskLaw" x.catchType (am_ex E)).before args s = true ∧ (Cond.castable (am_ex E) (am_ex E)).before args s = true ∧ ∀ z ∈ pre, z.catchType ≠ 0 ∧ ∃ nm : String, (Cond.classLink "RunwayDeskLaw" z.catchType nm).before args s = true ∧ va_Nc (am_ex E) nm s := by
  intro E h hh
  have hts := am_hts h0 hroot (args := args)
  simp only [am_hand] at hh
  by_cases e0 : 2 = E
  · subst e0
    simp at hh
    subst hh
    refine ⟨[], ⟨0, 9, 12, 25⟩, [], htab, by decide, rfl, by decide, hts _ tw_376, hts _ tw_391, ?_⟩
    exact fun _ h => absurd h List.not_mem_nil
  rw [if_neg e0] at hh
  cases hh
set_option maxRecDepth 100000 in
set_option maxHeartbeats 4000000 in
theorem cc_108 {l : Launch} {s0 : State} (hst : l.stackTraces = false) (h0 : am_W0 s0) {d : Nat} (hall : ∀ mi ∈ am_idx, am_CC l s0 d mi) : am_CC l s0 (d + 1) 108 :=
  am_methodH (y := y_108) (cc := method_14_code) (maxL := 4) (ret := (some .int)) (hh := [(0, 9, 12, 25)]) (rm := am_rm (d + 1) 1 6) (ops := op_108) (C := am_T am_tabs am_ar d) (ar := 3) h0 (by decide) (by decide) fun p e s m args below meth c D A bS ad0 Q hct htab => by
    obtain ⟨hx, hb, hml, hown, hts, hb1, hb2, hA, hroot, hAs, -, -, hlocks, hr, hnm⟩ := hct
    exact List.forall_mem_cons.mpr ⟨ok_aload_n hx hb dk_108_0 rfl,
    List.forall_mem_cons.mpr ⟨ok_iconst hx hb dk_108_1 rfl,
    List.forall_mem_cons.mpr ⟨ok_aload_n hx hb dk_108_2 rfl,
    List.forall_mem_cons.mpr ⟨ok_iload_n hx hb dk_108_3 rfl,
    List.forall_mem_cons.mpr ⟨ok_invH hx hb hml hown hb1 hb2 hA hroot hAs rfl rfl rfl (hcal_14 hall) ⟨am_cB hts tw_495 tw_498 tw_1 nm_14 rfl rfl (by show d + 8 + 1 ≤ d + 1 + 8; omega) (by show 8 + (2 + 11) + (200 + 60 * d) ≤ 200 + 60 * (d + 1); omega), hts _ tw_496, hts _ tw_497⟩ dk_108_4 (hc_108 h0 hroot htab),
    List.forall_mem_cons.mpr ⟨ok_i2l hx hb dk_108_7,
    List.forall_mem_cons.mpr ⟨ok_last hx hb dk_108_8,
    List.forall_mem_cons.mpr ⟨ok_goto hx hb dk_108_9 (by decide),
    List.forall_mem_cons.mpr ⟨ok_astore_n hx hb dk_108_12 rfl (by decide),
    List.forall_mem_cons.mpr ⟨ok_iconst hx hb dk_108_13 rfl,
    List.forall_mem_cons.mpr ⟨ok_iret hx hb hb1 hb2 hr hlocks dk_108_14,
    List.forall_mem_cons.mpr ⟨ok_iconst hx hb dk_108_15 rfl,
    List.forall_mem_cons.mpr ⟨ok_iret hx hb hb1 hb2 hr hlocks dk_108_16,
    fun _ h => absurd h List.not_mem_nil⟩⟩⟩⟩⟩⟩⟩⟩⟩⟩⟩⟩⟩
theorem dk_109_0 : decode method_15_code 0 = .ok (.aload_n 2, 1) := by decide +kernel
theorem dk_109_1 : decode method_15_code 1 = .ok (.iconst (0), 1) := by decide +kernel
theorem dk_109_2 : decode method_15_code 2 = .ok (.aload_n 0, 1) := by decide +kernel
theorem dk_109_3 : decode method_15_code 3 = .ok (.iload_n 1, 1) := by decide +kernel
theorem dk_109_4 : decode method_15_code 4 = .ok (.invokevirtual 59, 3) := by decide +kernel
theorem dk_109_7 : decode method_15_code 7 = .ok (.i2l, 1) := by decide +kernel
theorem dk_109_8 : decode method_15_code 8 = .ok (.lastore, 1) := by decide +kernel
theorem dk_109_9 : decode method_15_code 9 = .ok (.goto (9), 3) := by decide +kernel
theorem dk_109_12 : decode method_15_code 12 = .ok (.astore_n 3, 1) := by decide +kernel
theorem dk_109_13 : decode method_15_code 13 = .ok (.iconst (1), 1) := by decide +kernel
theorem dk_109_14 : decode method_15_code 14 = .ok (.ireturn, 1) := by decide +kernel
theorem dk_109_15 : decode method_15_code 15 = .ok (.astore_n 3, 1) := by decide +kernel
theorem dk_109_16 : decode method_15_code 16 = .ok (.iconst (2), 1) := by decide +kernel
theorem dk_109_17 : decode method_15_code 17 = .ok (.ireturn, 1) := by decide +kernel
theorem dk_109_18 : decode method_15_code 18 = .ok (.iconst (0), 1) := by decide +kernel
theorem dk_109_19 : decode method_15_code 19 = .ok (.ireturn, 1) := by decide +kernel
theorem hc_109 {s0 s : State} {c : Code} {args : Array Value} (h0 : am_W0 s0) (hroot : am_Root s0 s) (htab : c.exceptionTable.toList = tableOf [(0, 9, 12, 25), (0, 9, 15, 19)]) : ∀ E h : Nat, am_hand E [(12, 2), (15, 1)] = some h → ∃ (pre : List ExceptionTableEntry) (x : ExceptionTableEntry) (suf : List ExceptionTableEntry), c.exceptionTable.toList = pre ++ x :: suf ∧ covers x 4 = true ∧ x.handlerPc = h ∧ x.catchType ≠ 0 ∧ (Cond.classLink "RunwayDeskLaw" x.catchType (am_ex E)).before args s = true ∧ (Cond.castable (am_ex E) (am_ex E)).before args s = true ∧ ∀ z ∈ pre, z.catchType ≠ 0 ∧ ∃ nm : String, (Cond.classLink "RunwayDeskLaw" z.catchType nm).before args s = true ∧ va_Nc (am_ex E) nm s := by
  intro E h hh
  have hts := am_hts h0 hroot (args := args)
  simp only [am_hand] at hh
  by_cases e0 : 2 = E
  · subst e0
    simp at hh
    subst hh
    refine ⟨[], ⟨0, 9, 12, 25⟩, [⟨0, 9, 15, 19⟩], htab, by decide, rfl, by decide, hts _ tw_376, hts _ tw_391, ?_⟩
    exact fun _ h => absurd h List.not_mem_nil
  rw [if_neg e0] at hh
  by_cases e1 : 1 = E
  · subst e1
    simp at hh
    subst hh
    refine ⟨[⟨0, 9, 12, 25⟩], ⟨0, 9, 15, 19⟩, [], htab, by decide, rfl, by decide, hts _ tw_349, hts _ tw_360, ?_⟩
    exact List.forall_mem_cons.mpr ⟨⟨by decide, "java/util/NoSuchElementException", hts _ tw_376, va_Nc.of (args := args) (am_moved hroot _ rfl (h0.choose_spec.2.2.2 ("java/lang/IllegalStateException", "java/util/NoSuchElementException") (by decide)))⟩, fun _ h => absurd h List.not_mem_nil⟩
  rw [if_neg e1] at hh
  cases hh
set_option maxRecDepth 100000 in
set_option maxHeartbeats 4000000 in
theorem cc_109 {l : Launch} {s0 : State} (hst : l.stackTraces = false) (h0 : am_W0 s0) {d : Nat} (hall : ∀ mi ∈ am_idx, am_CC l s0 d mi) : am_CC l s0 (d + 1) 109 :=
  am_methodH (y := y_109) (cc := method_15_code) (maxL := 4) (ret := (some .int)) (hh := [(0, 9, 12, 25), (0, 9, 15, 19)]) (rm := am_rm (d + 1) 2 12) (ops := op_109) (C := am_T am_tabs am_ar d) (ar := 3) h0 (by decide) (by decide) fun p e s m args below meth c D A bS ad0 Q hct htab => by
    obtain ⟨hx, hb, hml, hown, hts, hb1, hb2, hA, hroot, hAs, -, -, hlocks, hr, hnm⟩ := hct
    exact List.forall_mem_cons.mpr ⟨ok_aload_n hx hb dk_109_0 rfl,
    List.forall_mem_cons.mpr ⟨ok_iconst hx hb dk_109_1 rfl,
    List.forall_mem_cons.mpr ⟨ok_aload_n hx hb dk_109_2 rfl,
    List.forall_mem_cons.mpr ⟨ok_iload_n hx hb dk_109_3 rfl,
    List.forall_mem_cons.mpr ⟨ok_invH hx hb hml hown hb1 hb2 hA hroot hAs rfl rfl rfl (hcal_18 hall) ⟨am_cB hts tw_503 tw_506 tw_1 nm_18 rfl rfl (by show d + 8 + 1 ≤ d + 1 + 8; omega) (by show 8 + (2 + 11) + (200 + 60 * d) ≤ 200 + 60 * (d + 1); omega), hts _ tw_504, hts _ tw_505⟩ dk_109_4 (hc_109 h0 hroot htab),
    List.forall_mem_cons.mpr ⟨ok_i2l hx hb dk_109_7,
    List.forall_mem_cons.mpr ⟨ok_last hx hb dk_109_8,
    List.forall_mem_cons.mpr ⟨ok_goto hx hb dk_109_9 (by decide),
    List.forall_mem_cons.mpr ⟨ok_astore_n hx hb dk_109_12 rfl (by decide),
    List.forall_mem_cons.mpr ⟨ok_iconst hx hb dk_109_13 rfl,
    List.forall_mem_cons.mpr ⟨ok_iret hx hb hb1 hb2 hr hlocks dk_109_14,
    List.forall_mem_cons.mpr ⟨ok_astore_n hx hb dk_109_15 rfl (by decide),
    List.forall_mem_cons.mpr ⟨ok_iconst hx hb dk_109_16 rfl,
    List.forall_mem_cons.mpr ⟨ok_iret hx hb hb1 hb2 hr hlocks dk_109_17,
    List.forall_mem_cons.mpr ⟨ok_iconst hx hb dk_109_18 rfl,
    List.forall_mem_cons.mpr ⟨ok_iret hx hb hb1 hb2 hr hlocks dk_109_19,
    fun _ h => absurd h List.not_mem_nil⟩⟩⟩⟩⟩⟩⟩⟩⟩⟩⟩⟩⟩⟩⟩⟩
theorem dk_110_0 : decode method_16_code 0 = .ok (.aload_n 3, 1) := by decide +kernel
theorem dk_110_1 : decode method_16_code 1 = .ok (.iconst (0), 1) := by decide +kernel
theorem dk_110_2 : decode method_16_code 2 = .ok (.aload_n 0, 1) := by decide +kernel
theorem dk_110_3 : decode method_16_code 3 = .ok (.iload_n 1, 1) := by decide +kernel
theorem dk_110_4 : decode method_16_code 4 = .ok (.iload_n 2, 1) := by decide +kernel
theorem dk_110_5 : decode method_16_code 5 = .ok (.invokevirtual 62, 3) := by decide +kernel
theorem dk_110_8 : decode method_16_code 8 = .ok (.i2l, 1) := by decide +kernel
theorem dk_110_9 : decode method_16_code 9 = .ok (.lastore, 1) := by decide +kernel
theorem dk_110_10 : decode method_16_code 10 = .ok (.goto (11), 3) := by decide +kernel
theorem dk_110_13 : decode method_16_code 13 = .ok (.astore 4, 2) := by decide +kernel
theorem dk_110_15 : decode method_16_code 15 = .ok (.iconst (1), 1) := by decide +kernel
theorem dk_110_16 : decode method_16_code 16 = .ok (.ireturn, 1) := by decide +kernel
theorem dk_110_17 : decode method_16_code 17 = .ok (.astore 4, 2) := by decide +kernel
theorem dk_110_19 : decode method_16_code 19 = .ok (.iconst (2), 1) := by decide +kernel
theorem dk_110_20 : decode method_16_code 20 = .ok (.ireturn, 1) := by decide +kernel
theorem dk_110_21 : decode method_16_code 21 = .ok (.iconst (0), 1) := by decide +kernel
theorem dk_110_22 : decode method_16_code 22 = .ok (.ireturn, 1) := by decide +kernel
theorem hc_110 {s0 s : State} {c : Code} {args : Array Value} (h0 : am_W0 s0) (hroot : am_Root s0 s) (htab : c.exceptionTable.toList = tableOf [(0, 10, 13, 54), (0, 10, 17, 13)]) : ∀ E h : Nat, am_hand E [(13, 3), (17, 0)] = some h → ∃ (pre : List ExceptionTableEntry) (x : ExceptionTableEntry) (suf : List ExceptionTableEntry), c.exceptionTable.toList = pre ++ x :: suf ∧ covers x 5 = true ∧ x.handlerPc = h ∧ x.catchType ≠ 0 ∧ (Cond.classLink "RunwayDeskLaw" x.catchType (am_ex E)).before args s = true ∧ (Cond.castable (am_ex E) (am_ex E)).before args s = true ∧ ∀ z ∈ pre, z.catchType ≠ 0 ∧ ∃ nm : String, (Cond.classLink "RunwayDeskLaw" z.catchType nm).before args s = true ∧ va_Nc (am_ex E) nm s := by
  intro E h hh
  have hts := am_hts h0 hroot (args := args)
  simp only [am_hand] at hh
  by_cases e0 : 3 = E
  · subst e0
    simp at hh
    subst hh
    refine ⟨[], ⟨0, 10, 13, 54⟩, [⟨0, 10, 17, 13⟩], htab, by decide, rfl, by decide, hts _ tw_471, hts _ tw_479, ?_⟩
    exact fun _ h => absurd h List.not_mem_nil
  rw [if_neg e0] at hh
  by_cases e1 : 0 = E
  · subst e1
    simp at hh
    subst hh
    refine ⟨[⟨0, 10, 13, 54⟩], ⟨0, 10, 17, 13⟩, [], htab, by decide, rfl, by decide, hts _ tw_273, hts _ tw_284, ?_⟩
    exact List.forall_mem_cons.mpr ⟨⟨by decide, "java/lang/IndexOutOfBoundsException", hts _ tw_471, va_Nc.of (args := args) (am_moved hroot _ rfl (h0.choose_spec.2.2.2 ("java/lang/IllegalArgumentException", "java/lang/IndexOutOfBoundsException") (by decide)))⟩, fun _ h => absurd h List.not_mem_nil⟩
  rw [if_neg e1] at hh
  cases hh
set_option maxRecDepth 100000 in
set_option maxHeartbeats 4000000 in
theorem cc_110 {l : Launch} {s0 : State} (hst : l.stackTraces = false) (h0 : am_W0 s0) {d : Nat} (hall : ∀ mi ∈ am_idx, am_CC l s0 d mi) : am_CC l s0 (d + 1) 110 :=
  am_methodH (y := y_110) (cc := method_16_code) (maxL := 5) (ret := (some .int)) (hh := [(0, 10, 13, 54), (0, 10, 17, 13)]) (rm := am_rm (d + 1) 2 12) (ops := op_110) (C := am_T am_tabs am_ar d) (ar := 4) h0 (by decide) (by decide) fun p e s m args below meth c D A bS ad0 Q hct htab => by
    obtain ⟨hx, hb, hml, hown, hts, hb1, hb2, hA, hroot, hAs, -, -, hlocks, hr, hnm⟩ := hct
    exact List.forall_mem_cons.mpr ⟨ok_aload_n hx hb dk_110_0 rfl,
    List.forall_mem_cons.mpr ⟨ok_iconst hx hb dk_110_1 rfl,
    List.forall_mem_cons.mpr ⟨ok_aload_n hx hb dk_110_2 rfl,
    List.forall_mem_cons.mpr ⟨ok_iload_n hx hb dk_110_3 rfl,
    List.forall_mem_cons.mpr ⟨ok_iload_n hx hb dk_110_4 rfl,
    List.forall_mem_cons.mpr ⟨ok_invH hx hb hml hown hb1 hb2 hA hroot hAs rfl rfl rfl (hcal_20 hall) ⟨am_cB hts tw_519 tw_522 tw_1 nm_20 rfl rfl (by show d + 8 + 1 ≤ d + 1 + 8; omega) (by show 8 + (4 + 11) + (200 + 60 * d) ≤ 200 + 60 * (d + 1); omega), hts _ tw_520, hts _ tw_521⟩ dk_110_5 (hc_110 h0 hroot htab),
    List.forall_mem_cons.mpr ⟨ok_i2l hx hb dk_110_8,
    List.forall_mem_cons.mpr ⟨ok_last hx hb dk_110_9,
    List.forall_mem_cons.mpr ⟨ok_goto hx hb dk_110_10 (by decide),
    List.forall_mem_cons.mpr ⟨ok_astore hx hb dk_110_13 (by decide),
    List.forall_mem_cons.mpr ⟨ok_iconst hx hb dk_110_15 rfl,
    List.forall_mem_cons.mpr ⟨ok_iret hx hb hb1 hb2 hr hlocks dk_110_16,
    List.forall_mem_cons.mpr ⟨ok_astore hx hb dk_110_17 (by decide),
    List.forall_mem_cons.mpr ⟨ok_iconst hx hb dk_110_19 rfl,
    List.forall_mem_cons.mpr ⟨ok_iret hx hb hb1 hb2 hr hlocks dk_110_20,
    List.forall_mem_cons.mpr ⟨ok_iconst hx hb dk_110_21 rfl,
    List.forall_mem_cons.mpr ⟨ok_iret hx hb hb1 hb2 hr hlocks dk_110_22,
    fun _ h => absurd h List.not_mem_nil⟩⟩⟩⟩⟩⟩⟩⟩⟩⟩⟩⟩⟩⟩⟩⟩⟩
