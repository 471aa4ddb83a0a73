/-! contracts: 50.search (laid by wip/whole/gen.py) -/
theorem dk_69_0 : decode prog_2_method_1_code 0 = .ok (.aload_n 0, 1) := by decide +kernel
theorem dk_69_1 : decode prog_2_method_1_code 1 = .ok (.invokespecial 3, 3) := by decide +kernel
theorem dk_69_4 : decode prog_2_method_1_code 4 = .ok (.aload_n 0, 1) := by decide +kernel
theorem dk_69_5 : decode prog_2_method_1_code 5 = .ok (.bipush (8), 2) := by decide +kernel
theorem dk_69_7 : decode prog_2_method_1_code 7 = .ok (.bipush (7), 2) := by decide +kernel
theorem dk_69_9 : decode prog_2_method_1_code 9 = .ok (.multianewarray 9 2, 4) := by decide +kernel
theorem dk_69_13 : decode prog_2_method_1_code 13 = .ok (.putfield 11, 3) := by decide +kernel
theorem dk_69_16 : decode prog_2_method_1_code 16 = .ok (.aload_n 0, 1) := by decide +kernel
theorem dk_69_17 : decode prog_2_method_1_code 17 = .ok (.bipush (7), 2) := by decide +kernel
theorem dk_69_19 : decode prog_2_method_1_code 19 = .ok (.newarray .int, 2) := by decide +kernel
theorem dk_69_21 : decode prog_2_method_1_code 21 = .ok (.putfield 16, 3) := by decide +kernel
theorem dk_69_24 : decode prog_2_method_1_code 24 = .ok (.aload_n 0, 1) := by decide +kernel
theorem dk_69_25 : decode prog_2_method_1_code 25 = .ok (.bipush (7), 2) := by decide +kernel
theorem dk_69_27 : decode prog_2_method_1_code 27 = .ok (.newarray .boolean, 2) := by decide +kernel
theorem dk_69_29 : decode prog_2_method_1_code 29 = .ok (.putfield 20, 3) := by decide +kernel
theorem dk_69_32 : decode prog_2_method_1_code 32 = .ok (.aload_n 0, 1) := by decide +kernel
theorem dk_69_33 : decode prog_2_method_1_code 33 = .ok (.bipush (7), 2) := by decide +kernel
theorem dk_69_35 : decode prog_2_method_1_code 35 = .ok (.newarray .int, 2) := by decide +kernel
theorem dk_69_37 : decode prog_2_method_1_code 37 = .ok (.putfield 24, 3) := by decide +kernel
theorem dk_69_40 : decode prog_2_method_1_code 40 = .ok (.return_, 1) := by decide +kernel
set_option maxRecDepth 100000 in
set_option maxHeartbeats 4000000 in
theorem cc_69 {l : Launch} {s0 : State} (hst : l.stackTraces = false) (h0 : am_W0 s0) {d : Nat} (hall : ∀ mi ∈ am_idx, am_CC l s0 d mi) : am_CC l s0 (d + 1) 69 :=
  am_method (y := y_69) (cc := prog_2_method_1_code) (maxL := 1) (ret := none) (rm := am_rm (d + 1) 12 85) (ops := op_69) (C := am_T am_tabs am_ar d) (ar := 1) h0 (by decide) (by decide) fun p e s m args below meth c D A bS ad0 Q hct htab => by
    obtain ⟨hx, hb, hml, hown, hts, hb1, hb2, hA, hroot, hAs, -, -, hlocks, hr, hnm⟩ := hct
    exact List.forall_mem_cons.mpr ⟨ok_aload_n hx hb dk_69_0 rfl,
    List.forall_mem_cons.mpr ⟨ok_oinit hx hb hts hown hml tw_95 tw_21 tw_22 rfl (by show 1 ≤ d + 1 + 8; omega) (by show 20 ≤ 200 + 60 * (d + 1); omega) dk_69_1,
    List.forall_mem_cons.mpr ⟨ok_aload_n hx hb dk_69_4 rfl,
    List.forall_mem_cons.mpr ⟨ok_bipush hx hb dk_69_5 (by decide),
    List.forall_mem_cons.mpr ⟨ok_bipush hx hb dk_69_7 (by decide),
    List.forall_mem_cons.mpr ⟨ok_mna hx hb hts hown hA rfl rfl tw_96 tw_30 tw_89 dk_69_9,
    List.forall_mem_cons.mpr ⟨ok_putr hx hb hts hown hin_0 tyF_0 tyF_0_ok nmF_0 rfl (by decide) tw_97 rfl hnm rfl (tyF_0_ok 0 (by decide)) (fun _ => rfl) (fun _ => rfl) dk_69_13,
    List.forall_mem_cons.mpr ⟨ok_aload_n hx hb dk_69_16 rfl,
    List.forall_mem_cons.mpr ⟨ok_bipush hx hb dk_69_17 (by decide),
    List.forall_mem_cons.mpr ⟨ok_newa_int hx hb hts hA tw_89 rfl rfl dk_69_19,
    List.forall_mem_cons.mpr ⟨ok_putr hx hb hts hown hin_0 tyF_0 tyF_0_ok nmF_0 rfl (by decide) tw_98 rfl hnm rfl (tyF_0_ok 1 (by decide)) (fun _ => rfl) (fun _ => rfl) dk_69_21,
    List.forall_mem_cons.mpr ⟨ok_aload_n hx hb dk_69_24 rfl,
    List.forall_mem_cons.mpr ⟨ok_bipush hx hb dk_69_25 (by decide),
    List.forall_mem_cons.mpr ⟨ok_newa_boolean hx hb hts hA tw_88 rfl rfl dk_69_27,
    List.forall_mem_cons.mpr ⟨ok_putr hx hb hts hown hin_0 tyF_0 tyF_0_ok nmF_0 rfl (by decide) tw_99 rfl hnm rfl (tyF_0_ok 2 (by decide)) (fun _ => rfl) (fun _ => rfl) dk_69_29,
    List.forall_mem_cons.mpr ⟨ok_aload_n hx hb dk_69_32 rfl,
    List.forall_mem_cons.mpr ⟨ok_bipush hx hb dk_69_33 (by decide),
    List.forall_mem_cons.mpr ⟨ok_newa_int hx hb hts hA tw_89 rfl rfl dk_69_35,
    List.forall_mem_cons.mpr ⟨ok_putr hx hb hts hown hin_0 tyF_0 tyF_0_ok nmF_0 rfl (by decide) tw_100 rfl hnm rfl (tyF_0_ok 3 (by decide)) (fun _ => rfl) (fun _ => rfl) dk_69_37,
    List.forall_mem_cons.mpr ⟨ok_vret hx hb hb1 hb2 hr hlocks dk_69_40,
    fun _ h => absurd h List.not_mem_nil⟩⟩⟩⟩⟩⟩⟩⟩⟩⟩⟩⟩⟩⟩⟩⟩⟩⟩⟩⟩
theorem dk_70_0 : decode prog_2_method_2_code 0 = .ok (.aload_n 0, 1) := by decide +kernel
theorem dk_70_1 : decode prog_2_method_2_code 1 = .ok (.aload_n 1, 1) := by decide +kernel
theorem dk_70_2 : decode prog_2_method_2_code 2 = .ok (.invokevirtual 27, 3) := by decide +kernel
theorem dk_70_5 : decode prog_2_method_2_code 5 = .ok (.aload_n 0, 1) := by decide +kernel
theorem dk_70_6 : decode prog_2_method_2_code 6 = .ok (.aload_n 1, 1) := by decide +kernel
theorem dk_70_7 : decode prog_2_method_2_code 7 = .ok (.iconst (0), 1) := by decide +kernel
theorem dk_70_8 : decode prog_2_method_2_code 8 = .ok (.invokevirtual 31, 3) := by decide +kernel
theorem dk_70_11 : decode prog_2_method_2_code 11 = .ok (.iconst (-1), 1) := by decide +kernel
theorem dk_70_12 : decode prog_2_method_2_code 12 = .ok (.if_icmp .eq (9), 3) := by decide +kernel
theorem dk_70_15 : decode prog_2_method_2_code 15 = .ok (.aload_n 0, 1) := by decide +kernel
theorem dk_70_16 : decode prog_2_method_2_code 16 = .ok (.aload_n 1, 1) := by decide +kernel
theorem dk_70_17 : decode prog_2_method_2_code 17 = .ok (.iconst (0), 1) := by decide +kernel
theorem dk_70_18 : decode prog_2_method_2_code 18 = .ok (.invokevirtual 35, 3) := by decide +kernel
theorem dk_70_21 : decode prog_2_method_2_code 21 = .ok (.aload_n 0, 1) := by decide +kernel
theorem dk_70_22 : decode prog_2_method_2_code 22 = .ok (.getfield 39, 3) := by decide +kernel
theorem dk_70_25 : decode prog_2_method_2_code 25 = .ok (.ireturn, 1) := by decide +kernel
set_option maxRecDepth 100000 in
set_option maxHeartbeats 4000000 in
theorem cc_70 {l : Launch} {s0 : State} (hst : l.stackTraces = false) (h0 : am_W0 s0) {d : Nat} (hall : ∀ mi ∈ am_idx, am_CC l s0 d mi) : am_CC l s0 (d + 1) 70 :=
  am_method (y := y_70) (cc := prog_2_method_2_code) (maxL := 2) (ret := (some .int)) (rm := am_rm (d + 1) 0 0) (ops := op_70) (C := am_T am_tabs am_ar d) (ar := 2) h0 (by decide) (by decide) fun p e s m args below meth c D A bS ad0 Q hct htab => by
    obtain ⟨hx, hb, hml, hown, hts, hb1, hb2, hA, hroot, hAs, -, -, hlocks, hr, hnm⟩ := hct
    exact List.forall_mem_cons.mpr ⟨ok_aload_n hx hb dk_70_0 rfl,
    List.forall_mem_cons.mpr ⟨ok_aload_n hx hb dk_70_1 rfl,
    List.forall_mem_cons.mpr ⟨ok_cV hx hb hml hown hts hb1 hb2 hA hroot hAs rfl rfl rfl (hcal_74 hall) tw_142 tw_144 ts_0 tw_145 tw_4 nm_74 rfl rfl (by show d + 8 + 1 ≤ d + 1 + 8; omega) (by show 8 + (3 + 11) + (200 + 60 * d) ≤ 200 + 60 * (d + 1); omega) dk_70_2,
    List.forall_mem_cons.mpr ⟨ok_aload_n hx hb dk_70_5 rfl,
    List.forall_mem_cons.mpr ⟨ok_aload_n hx hb dk_70_6 rfl,
    List.forall_mem_cons.mpr ⟨ok_iconst hx hb dk_70_7 rfl,
    List.forall_mem_cons.mpr ⟨ok_cV hx hb hml hown hts hb1 hb2 hA hroot hAs rfl rfl rfl (hcal_78 hall) tw_176 tw_178 ts_3 tw_179 tw_4 nm_78 rfl rfl (by show d + 8 + 1 ≤ d + 1 + 8; omega) (by show 8 + (5 + 11) + (200 + 60 * d) ≤ 200 + 60 * (d + 1); omega) dk_70_8,
    List.forall_mem_cons.mpr ⟨ok_iconst hx hb dk_70_11 rfl,
    List.forall_mem_cons.mpr ⟨ok_icmp_eq hx hb dk_70_12 (by decide),
    List.forall_mem_cons.mpr ⟨ok_aload_n hx hb dk_70_15 rfl,
    List.forall_mem_cons.mpr ⟨ok_aload_n hx hb dk_70_16 rfl,
    List.forall_mem_cons.mpr ⟨ok_iconst hx hb dk_70_17 rfl,
    List.forall_mem_cons.mpr ⟨ok_cV hx hb hml hown hts hb1 hb2 hA hroot hAs rfl rfl rfl (hcal_75 hall) tw_184 tw_186 ts_4 tw_187 tw_4 nm_75 rfl rfl (by show d + 8 + 1 ≤ d + 1 + 8; omega) (by show 8 + (5 + 11) + (200 + 60 * d) ≤ 200 + 60 * (d + 1); omega) dk_70_18,
    List.forall_mem_cons.mpr ⟨ok_aload_n hx hb dk_70_21 rfl,
    List.forall_mem_cons.mpr ⟨ok_geti hx hb hts hown hin_0 rfl (by decide) tw_101 dk_70_22,
    List.forall_mem_cons.mpr ⟨ok_iret hx hb hb1 hb2 hr hlocks dk_70_25,
    fun _ h => absurd h List.not_mem_nil⟩⟩⟩⟩⟩⟩⟩⟩⟩⟩⟩⟩⟩⟩⟩⟩
theorem dk_71_0 : decode prog_2_method_3_code 0 = .ok (.aload_n 0, 1) := by decide +kernel
theorem dk_71_1 : decode prog_2_method_3_code 1 = .ok (.aload_n 1, 1) := by decide +kernel
theorem dk_71_2 : decode prog_2_method_3_code 2 = .ok (.invokevirtual 27, 3) := by decide +kernel
theorem dk_71_5 : decode prog_2_method_3_code 5 = .ok (.aload_n 0, 1) := by decide +kernel
theorem dk_71_6 : decode prog_2_method_3_code 6 = .ok (.aload_n 1, 1) := by decide +kernel
theorem dk_71_7 : decode prog_2_method_3_code 7 = .ok (.iconst (0), 1) := by decide +kernel
theorem dk_71_8 : decode prog_2_method_3_code 8 = .ok (.invokevirtual 31, 3) := by decide +kernel
theorem dk_71_11 : decode prog_2_method_3_code 11 = .ok (.istore_n 2, 1) := by decide +kernel
theorem dk_71_12 : decode prog_2_method_3_code 12 = .ok (.iconst (0), 1) := by decide +kernel
theorem dk_71_13 : decode prog_2_method_3_code 13 = .ok (.istore_n 3, 1) := by decide +kernel
theorem dk_71_14 : decode prog_2_method_3_code 14 = .ok (.iload_n 3, 1) := by decide +kernel
theorem dk_71_15 : decode prog_2_method_3_code 15 = .ok (.aload_n 1, 1) := by decide +kernel
theorem dk_71_16 : decode prog_2_method_3_code 16 = .ok (.getfield 43, 3) := by decide +kernel
theorem dk_71_19 : decode prog_2_method_3_code 19 = .ok (.if_icmp .ge (35), 3) := by decide +kernel
theorem dk_71_22 : decode prog_2_method_3_code 22 = .ok (.iload_n 2, 1) := by decide +kernel
theorem dk_71_23 : decode prog_2_method_3_code 23 = .ok (.iconst (-1), 1) := by decide +kernel
theorem dk_71_24 : decode prog_2_method_3_code 24 = .ok (.if_icmp .eq (30), 3) := by decide +kernel
theorem dk_71_27 : decode prog_2_method_3_code 27 = .ok (.aload_n 0, 1) := by decide +kernel
theorem dk_71_28 : decode prog_2_method_3_code 28 = .ok (.aload_n 1, 1) := by decide +kernel
theorem dk_71_29 : decode prog_2_method_3_code 29 = .ok (.iload_n 3, 1) := by decide +kernel
theorem dk_71_30 : decode prog_2_method_3_code 30 = .ok (.aload_n 0, 1) := by decide +kernel
theorem dk_71_31 : decode prog_2_method_3_code 31 = .ok (.getfield 16, 3) := by decide +kernel
theorem dk_71_34 : decode prog_2_method_3_code 34 = .ok (.iload_n 3, 1) := by decide +kernel
theorem dk_71_35 : decode prog_2_method_3_code 35 = .ok (.iaload, 1) := by decide +kernel
theorem dk_71_36 : decode prog_2_method_3_code 36 = .ok (.invokevirtual 48, 3) := by decide +kernel
theorem dk_71_39 : decode prog_2_method_3_code 39 = .ok (.aload_n 0, 1) := by decide +kernel
theorem dk_71_40 : decode prog_2_method_3_code 40 = .ok (.aload_n 1, 1) := by decide +kernel
theorem dk_71_41 : decode prog_2_method_3_code 41 = .ok (.iload_n 3, 1) := by decide +kernel
theorem dk_71_42 : decode prog_2_method_3_code 42 = .ok (.iconst (1), 1) := by decide +kernel
theorem dk_71_43 : decode prog_2_method_3_code 43 = .ok (.iadd, 1) := by decide +kernel
theorem dk_71_44 : decode prog_2_method_3_code 44 = .ok (.invokevirtual 31, 3) := by decide +kernel
theorem dk_71_47 : decode prog_2_method_3_code 47 = .ok (.istore_n 2, 1) := by decide +kernel
theorem dk_71_48 : decode prog_2_method_3_code 48 = .ok (.iinc 3 (1), 3) := by decide +kernel
theorem dk_71_51 : decode prog_2_method_3_code 51 = .ok (.goto (-37), 3) := by decide +kernel
theorem dk_71_54 : decode prog_2_method_3_code 54 = .ok (.iload_n 2, 1) := by decide +kernel
theorem dk_71_55 : decode prog_2_method_3_code 55 = .ok (.ireturn, 1) := by decide +kernel
set_option maxRecDepth 100000 in
set_option maxHeartbeats 4000000 in
theorem cc_71 {l : Launch} {s0 : State} (hst : l.stackTraces = false) (h0 : am_W0 s0) {d : Nat} (hall : ∀ mi ∈ am_idx, am_CC l s0 d mi) : am_CC l s0 (d + 1) 71 :=
  am_method (y := y_71) (cc := prog_2_method_3_code) (maxL := 4) (ret := (some .int)) (rm := am_rm (d + 1) 0 0) (ops := op_71) (C := am_T am_tabs am_ar d) (ar := 2) h0 (by decide) (by decide) fun p e s m args below meth c D A bS ad0 Q hct htab => by
    obtain ⟨hx, hb, hml, hown, hts, hb1, hb2, hA, hroot, hAs, -, -, hlocks, hr, hnm⟩ := hct
    exact List.forall_mem_cons.mpr ⟨ok_aload_n hx hb dk_71_0 rfl,
    List.forall_mem_cons.mpr ⟨ok_aload_n hx hb dk_71_1 rfl,
    List.forall_mem_cons.mpr ⟨ok_cV hx hb hml hown hts hb1 hb2 hA hroot hAs rfl rfl rfl (hcal_74 hall) tw_142 tw_144 ts_0 tw_145 tw_4 nm_74 rfl rfl (by show d + 8 + 1 ≤ d + 1 + 8; omega) (by show 8 + (3 + 11) + (200 + 60 * d) ≤ 200 + 60 * (d + 1); omega) dk_71_2,
    List.forall_mem_cons.mpr ⟨ok_aload_n hx hb dk_71_5 rfl,
    List.forall_mem_cons.mpr ⟨ok_aload_n hx hb dk_71_6 rfl,
    List.forall_mem_cons.mpr ⟨ok_iconst hx hb dk_71_7 rfl,
    List.forall_mem_cons.mpr ⟨ok_cV hx hb hml hown hts hb1 hb2 hA hroot hAs rfl rfl rfl (hcal_78 hall) tw_176 tw_178 ts_3 tw_179 tw_4 nm_78 rfl rfl (by show d + 8 + 1 ≤ d + 1 + 8; omega) (by show 8 + (5 + 11) + (200 + 60 * d) ≤ 200 + 60 * (d + 1); omega) dk_71_8,
    List.forall_mem_cons.mpr ⟨ok_istore_n hx hb dk_71_11 rfl (by decide),
    List.forall_mem_cons.mpr ⟨ok_iconst hx hb dk_71_12 rfl,
    List.forall_mem_cons.mpr ⟨ok_istore_n hx hb dk_71_13 rfl (by decide),
    List.forall_mem_cons.mpr ⟨ok_iload_n hx hb dk_71_14 rfl,
    List.forall_mem_cons.mpr ⟨ok_aload_n hx hb dk_71_15 rfl,
    List.forall_mem_cons.mpr ⟨ok_geti hx hb hts hown hin_1 rfl (by decide) tw_49 dk_71_16,
    List.forall_mem_cons.mpr ⟨ok_icmp_ge hx hb dk_71_19 (by decide),
    List.forall_mem_cons.mpr ⟨ok_iload_n hx hb dk_71_22 rfl,
    List.forall_mem_cons.mpr ⟨ok_iconst hx hb dk_71_23 rfl,
    List.forall_mem_cons.mpr ⟨ok_icmp_eq hx hb dk_71_24 (by decide),
    List.forall_mem_cons.mpr ⟨ok_aload_n hx hb dk_71_27 rfl,
    List.forall_mem_cons.mpr ⟨ok_aload_n hx hb dk_71_28 rfl,
    List.forall_mem_cons.mpr ⟨ok_iload_n hx hb dk_71_29 rfl,
    List.forall_mem_cons.mpr ⟨ok_aload_n hx hb dk_71_30 rfl,
    List.forall_mem_cons.mpr ⟨ok_getr hx hb hts hown hin_0 rfl (by decide) tw_98 dk_71_31,
    List.forall_mem_cons.mpr ⟨ok_iload_n hx hb dk_71_34 rfl,
    List.forall_mem_cons.mpr ⟨ok_iald hx hb dk_71_35,
    List.forall_mem_cons.mpr ⟨ok_cV hx hb hml hown hts hb1 hb2 hA hroot hAs rfl rfl rfl (hcal_77 hall) tw_198 tw_200 ts_5 tw_201 tw_4 nm_77 rfl rfl (by show d + 8 + 1 ≤ d + 1 + 8; omega) (by show 8 + (8 + 11) + (200 + 60 * d) ≤ 200 + 60 * (d + 1); omega) dk_71_36,
    List.forall_mem_cons.mpr ⟨ok_aload_n hx hb dk_71_39 rfl,
    List.forall_mem_cons.mpr ⟨ok_aload_n hx hb dk_71_40 rfl,
    List.forall_mem_cons.mpr ⟨ok_iload_n hx hb dk_71_41 rfl,
    List.forall_mem_cons.mpr ⟨ok_iconst hx hb dk_71_42 rfl,
    List.forall_mem_cons.mpr ⟨ok_iadd hx hb dk_71_43,
    List.forall_mem_cons.mpr ⟨ok_cV hx hb hml hown hts hb1 hb2 hA hroot hAs rfl rfl rfl (hcal_78 hall) tw_176 tw_178 ts_3 tw_179 tw_4 nm_78 rfl rfl (by show d + 8 + 1 ≤ d + 1 + 8; omega) (by show 8 + (5 + 11) + (200 + 60 * d) ≤ 200 + 60 * (d + 1); omega) dk_71_44,
    List.forall_mem_cons.mpr ⟨ok_istore_n hx hb dk_71_47 rfl (by decide),
    List.forall_mem_cons.mpr ⟨ok_iinc hx hb dk_71_48 rfl (by decide),
    List.forall_mem_cons.mpr ⟨ok_goto hx hb dk_71_51 (by decide),
    List.forall_mem_cons.mpr ⟨ok_iload_n hx hb dk_71_54 rfl,
    List.forall_mem_cons.mpr ⟨ok_iret hx hb hb1 hb2 hr hlocks dk_71_55,
    fun _ h => absurd h List.not_mem_nil⟩⟩⟩⟩⟩⟩⟩⟩⟩⟩⟩⟩⟩⟩⟩⟩⟩⟩⟩⟩⟩⟩⟩⟩⟩⟩⟩⟩⟩⟩⟩⟩⟩⟩⟩⟩
theorem dk_72_0 : decode prog_2_method_4_code 0 = .ok (.aload_n 0, 1) := by decide +kernel
theorem dk_72_1 : decode prog_2_method_4_code 1 = .ok (.aload_n 1, 1) := by decide +kernel
theorem dk_72_2 : decode prog_2_method_4_code 2 = .ok (.invokevirtual 27, 3) := by decide +kernel
theorem dk_72_5 : decode prog_2_method_4_code 5 = .ok (.aload_n 0, 1) := by decide +kernel
theorem dk_72_6 : decode prog_2_method_4_code 6 = .ok (.aload_n 1, 1) := by decide +kernel
theorem dk_72_7 : decode prog_2_method_4_code 7 = .ok (.iconst (0), 1) := by decide +kernel
theorem dk_72_8 : decode prog_2_method_4_code 8 = .ok (.invokevirtual 31, 3) := by decide +kernel
theorem dk_72_11 : decode prog_2_method_4_code 11 = .ok (.ireturn, 1) := by decide +kernel
set_option maxRecDepth 100000 in
set_option maxHeartbeats 4000000 in
theorem cc_72 {l : Launch} {s0 : State} (hst : l.stackTraces = false) (h0 : am_W0 s0) {d : Nat} (hall : ∀ mi ∈ am_idx, am_CC l s0 d mi) : am_CC l s0 (d + 1) 72 :=
  am_method (y := y_72) (cc := prog_2_method_4_code) (maxL := 2) (ret := (some .int)) (rm := am_rm (d + 1) 0 0) (ops := op_72) (C := am_T am_tabs am_ar d) (ar := 2) h0 (by decide) (by decide) fun p e s m args below meth c D A bS ad0 Q hct htab => by
    obtain ⟨hx, hb, hml, hown, hts, hb1, hb2, hA, hroot, hAs, -, -, hlocks, hr, hnm⟩ := hct
    exact List.forall_mem_cons.mpr ⟨ok_aload_n hx hb dk_72_0 rfl,
    List.forall_mem_cons.mpr ⟨ok_aload_n hx hb dk_72_1 rfl,
    List.forall_mem_cons.mpr ⟨ok_cV hx hb hml hown hts hb1 hb2 hA hroot hAs rfl rfl rfl (hcal_74 hall) tw_142 tw_144 ts_0 tw_145 tw_4 nm_74 rfl rfl (by show d + 8 + 1 ≤ d + 1 + 8; omega) (by show 8 + (3 + 11) + (200 + 60 * d) ≤ 200 + 60 * (d + 1); omega) dk_72_2,
    List.forall_mem_cons.mpr ⟨ok_aload_n hx hb dk_72_5 rfl,
    List.forall_mem_cons.mpr ⟨ok_aload_n hx hb dk_72_6 rfl,
    List.forall_mem_cons.mpr ⟨ok_iconst hx hb dk_72_7 rfl,
    List.forall_mem_cons.mpr ⟨ok_cV hx hb hml hown hts hb1 hb2 hA hroot hAs rfl rfl rfl (hcal_78 hall) tw_176 tw_178 ts_3 tw_179 tw_4 nm_78 rfl rfl (by show d + 8 + 1 ≤ d + 1 + 8; omega) (by show 8 + (5 + 11) + (200 + 60 * d) ≤ 200 + 60 * (d + 1); omega) dk_72_8,
    List.forall_mem_cons.mpr ⟨ok_iret hx hb hb1 hb2 hr hlocks dk_72_11,
    fun _ h => absurd h List.not_mem_nil⟩⟩⟩⟩⟩⟩⟩⟩
theorem dk_73_0 : decode prog_2_method_5_code 0 = .ok (.aload_n 0, 1) := by decide +kernel
theorem dk_73_1 : decode prog_2_method_5_code 1 = .ok (.getfield 24, 3) := by decide +kernel
theorem dk_73_4 : decode prog_2_method_5_code 4 = .ok (.iconst (0), 1) := by decide +kernel
theorem dk_73_5 : decode prog_2_method_5_code 5 = .ok (.aload_n 1, 1) := by decide +kernel
theorem dk_73_6 : decode prog_2_method_5_code 6 = .ok (.iconst (0), 1) := by decide +kernel
theorem dk_73_7 : decode prog_2_method_5_code 7 = .ok (.bipush (7), 2) := by decide +kernel
theorem dk_73_9 : decode prog_2_method_5_code 9 = .ok (.invokestatic 52, 3) := by decide +kernel
theorem dk_73_12 : decode prog_2_method_5_code 12 = .ok (.return_, 1) := by decide +kernel
set_option maxRecDepth 100000 in
set_option maxHeartbeats 4000000 in
theorem cc_73 {l : Launch} {s0 : State} (hst : l.stackTraces = false) (h0 : am_W0 s0) {d : Nat} (hall : ∀ mi ∈ am_idx, am_CC l s0 d mi) : am_CC l s0 (d + 1) 73 :=
  am_method (y := y_73) (cc := prog_2_method_5_code) (maxL := 2) (ret := none) (rm := am_rm (d + 1) 0 0) (ops := op_73) (C := am_T am_tabs am_ar d) (ar := 2) h0 (by decide) (by decide) fun p e s m args below meth c D A bS ad0 Q hct htab => by
    obtain ⟨hx, hb, hml, hown, hts, hb1, hb2, hA, hroot, hAs, -, -, hlocks, hr, hnm⟩ := hct
    exact List.forall_mem_cons.mpr ⟨ok_aload_n hx hb dk_73_0 rfl,
    List.forall_mem_cons.mpr ⟨ok_getr hx hb hts hown hin_0 rfl (by decide) tw_100 dk_73_1,
    List.forall_mem_cons.mpr ⟨ok_iconst hx hb dk_73_4 rfl,
    List.forall_mem_cons.mpr ⟨ok_aload_n hx hb dk_73_5 rfl,
    List.forall_mem_cons.mpr ⟨ok_iconst hx hb dk_73_6 rfl,
    List.forall_mem_cons.mpr ⟨ok_bipush hx hb dk_73_7 (by decide),
    List.forall_mem_cons.mpr ⟨ok_copy hx hb hts hown hml tw_188 tw_190 tw_189 tw_13 (by show 1 ≤ d + 1 + 8; omega) (by have h9 := am_cpw; show 8 + (nativeFrameWords "java/lang/System" "arraycopy" 5 + 11) ≤ 200 + 60 * (d + 1); omega) dk_73_9,
    List.forall_mem_cons.mpr ⟨ok_vret hx hb hb1 hb2 hr hlocks dk_73_12,
    fun _ h => absurd h List.not_mem_nil⟩⟩⟩⟩⟩⟩⟩⟩
theorem dk_74_0 : decode prog_2_method_6_code 0 = .ok (.aload_n 0, 1) := by decide +kernel
theorem dk_74_1 : decode prog_2_method_6_code 1 = .ok (.iconst (-1), 1) := by decide +kernel
theorem dk_74_2 : decode prog_2_method_6_code 2 = .ok (.putfield 39, 3) := by decide +kernel
theorem dk_74_5 : decode prog_2_method_6_code 5 = .ok (.iconst (0), 1) := by decide +kernel
theorem dk_74_6 : decode prog_2_method_6_code 6 = .ok (.istore_n 2, 1) := by decide +kernel
theorem dk_74_7 : decode prog_2_method_6_code 7 = .ok (.iload_n 2, 1) := by decide +kernel
theorem dk_74_8 : decode prog_2_method_6_code 8 = .ok (.bipush (7), 2) := by decide +kernel
theorem dk_74_10 : decode prog_2_method_6_code 10 = .ok (.if_icmp .ge (59), 3) := by decide +kernel
theorem dk_74_13 : decode prog_2_method_6_code 13 = .ok (.aload_n 0, 1) := by decide +kernel
theorem dk_74_14 : decode prog_2_method_6_code 14 = .ok (.getfield 20, 3) := by decide +kernel
theorem dk_74_17 : decode prog_2_method_6_code 17 = .ok (.iload_n 2, 1) := by decide +kernel
theorem dk_74_18 : decode prog_2_method_6_code 18 = .ok (.iconst (0), 1) := by decide +kernel
theorem dk_74_19 : decode prog_2_method_6_code 19 = .ok (.bastore, 1) := by decide +kernel
theorem dk_74_20 : decode prog_2_method_6_code 20 = .ok (.aload_n 0, 1) := by decide +kernel
theorem dk_74_21 : decode prog_2_method_6_code 21 = .ok (.getfield 11, 3) := by decide +kernel
theorem dk_74_24 : decode prog_2_method_6_code 24 = .ok (.iconst (0), 1) := by decide +kernel
theorem dk_74_25 : decode prog_2_method_6_code 25 = .ok (.aaload, 1) := by decide +kernel
theorem dk_74_26 : decode prog_2_method_6_code 26 = .ok (.iload_n 2, 1) := by decide +kernel
theorem dk_74_27 : decode prog_2_method_6_code 27 = .ok (.iconst (-1), 1) := by decide +kernel
theorem dk_74_28 : decode prog_2_method_6_code 28 = .ok (.iastore, 1) := by decide +kernel
theorem dk_74_29 : decode prog_2_method_6_code 29 = .ok (.aload_n 1, 1) := by decide +kernel
theorem dk_74_30 : decode prog_2_method_6_code 30 = .ok (.getfield 58, 3) := by decide +kernel
theorem dk_74_33 : decode prog_2_method_6_code 33 = .ok (.iload_n 2, 1) := by decide +kernel
theorem dk_74_34 : decode prog_2_method_6_code 34 = .ok (.baload, 1) := by decide +kernel
theorem dk_74_35 : decode prog_2_method_6_code 35 = .ok (.ifCond .eq (28), 3) := by decide +kernel
theorem dk_74_38 : decode prog_2_method_6_code 38 = .ok (.aload_n 0, 1) := by decide +kernel
theorem dk_74_39 : decode prog_2_method_6_code 39 = .ok (.getfield 16, 3) := by decide +kernel
theorem dk_74_42 : decode prog_2_method_6_code 42 = .ok (.aload_n 1, 1) := by decide +kernel
theorem dk_74_43 : decode prog_2_method_6_code 43 = .ok (.iload_n 2, 1) := by decide +kernel
theorem dk_74_44 : decode prog_2_method_6_code 44 = .ok (.invokevirtual 61, 3) := by decide +kernel
theorem dk_74_47 : decode prog_2_method_6_code 47 = .ok (.iload_n 2, 1) := by decide +kernel
theorem dk_74_48 : decode prog_2_method_6_code 48 = .ok (.iastore, 1) := by decide +kernel
theorem dk_74_49 : decode prog_2_method_6_code 49 = .ok (.aload_n 0, 1) := by decide +kernel
theorem dk_74_50 : decode prog_2_method_6_code 50 = .ok (.getfield 11, 3) := by decide +kernel
theorem dk_74_53 : decode prog_2_method_6_code 53 = .ok (.iconst (0), 1) := by decide +kernel
theorem dk_74_54 : decode prog_2_method_6_code 54 = .ok (.aaload, 1) := by decide +kernel
theorem dk_74_55 : decode prog_2_method_6_code 55 = .ok (.iload_n 2, 1) := by decide +kernel
theorem dk_74_56 : decode prog_2_method_6_code 56 = .ok (.aload_n 1, 1) := by decide +kernel
theorem dk_74_57 : decode prog_2_method_6_code 57 = .ok (.iload_n 2, 1) := by decide +kernel
theorem dk_74_58 : decode prog_2_method_6_code 58 = .ok (.iconst (0), 1) := by decide +kernel
theorem dk_74_59 : decode prog_2_method_6_code 59 = .ok (.invokevirtual 65, 3) := by decide +kernel
theorem dk_74_62 : decode prog_2_method_6_code 62 = .ok (.iastore, 1) := by decide +kernel
theorem dk_74_63 : decode prog_2_method_6_code 63 = .ok (.iinc 2 (1), 3) := by decide +kernel
theorem dk_74_66 : decode prog_2_method_6_code 66 = .ok (.goto (-59), 3) := by decide +kernel
theorem dk_74_69 : decode prog_2_method_6_code 69 = .ok (.return_, 1) := by decide +kernel
set_option maxRecDepth 100000 in
set_option maxHeartbeats 4000000 in
theorem cc_74 {l : Launch} {s0 : State} (hst : l.stackTraces = false) (h0 : am_W0 s0) {d : Nat} (hall : ∀ mi ∈ am_idx, am_CC l s0 d mi) : am_CC l s0 (d + 1) 74 :=
  am_method (y := y_74) (cc := prog_2_method_6_code) (maxL := 3) (ret := none) (rm := am_rm (d + 1) 0 0) (ops := op_74) (C := am_T am_tabs am_ar d) (ar := 2) h0 (by decide) (by decide) fun p e s m args below meth c D A bS ad0 Q hct htab => by
    obtain ⟨hx, hb, hml, hown, hts, hb1, hb2, hA, hroot, hAs, -, -, hlocks, hr, hnm⟩ := hct
    exact List.forall_mem_cons.mpr ⟨ok_aload_n hx hb dk_74_0 rfl,
    List.forall_mem_cons.mpr ⟨ok_iconst hx hb dk_74_1 rfl,
    List.forall_mem_cons.mpr ⟨ok_puti hx hb hts hown hin_0 tyF_0 tyF_0_ok nmF_0 rfl (by decide) tw_101 rfl (by decide +kernel) dk_74_2,
    List.forall_mem_cons.mpr ⟨ok_iconst hx hb dk_74_5 rfl,
    List.forall_mem_cons.mpr ⟨ok_istore_n hx hb dk_74_6 rfl (by decide),
    List.forall_mem_cons.mpr ⟨ok_iload_n hx hb dk_74_7 rfl,
    List.forall_mem_cons.mpr ⟨ok_bipush hx hb dk_74_8 (by decide),
    List.forall_mem_cons.mpr ⟨ok_icmp_ge hx hb dk_74_10 (by decide),
    List.forall_mem_cons.mpr ⟨ok_aload_n hx hb dk_74_13 rfl,
    List.forall_mem_cons.mpr ⟨ok_getr hx hb hts hown hin_0 rfl (by decide) tw_99 dk_74_14,
    List.forall_mem_cons.mpr ⟨ok_iload_n hx hb dk_74_17 rfl,
    List.forall_mem_cons.mpr ⟨ok_iconst hx hb dk_74_18 rfl,
    List.forall_mem_cons.mpr ⟨ok_zast hx hb dk_74_19,
    List.forall_mem_cons.mpr ⟨ok_aload_n hx hb dk_74_20 rfl,
    List.forall_mem_cons.mpr ⟨ok_getr hx hb hts hown hin_0 rfl (by decide) tw_97 dk_74_21,
    List.forall_mem_cons.mpr ⟨ok_iconst hx hb dk_74_24 rfl,
    List.forall_mem_cons.mpr ⟨ok_aald hx hb dk_74_25,
    List.forall_mem_cons.mpr ⟨ok_iload_n hx hb dk_74_26 rfl,
    List.forall_mem_cons.mpr ⟨ok_iconst hx hb dk_74_27 rfl,
    List.forall_mem_cons.mpr ⟨ok_iast hx hb dk_74_28,
    List.forall_mem_cons.mpr ⟨ok_aload_n hx hb dk_74_29 rfl,
    List.forall_mem_cons.mpr ⟨ok_getr hx hb hts hown hin_1 rfl (by decide) tw_36 dk_74_30,
    List.forall_mem_cons.mpr ⟨ok_iload_n hx hb dk_74_33 rfl,
    List.forall_mem_cons.mpr ⟨ok_zald hx hb dk_74_34,
    List.forall_mem_cons.mpr ⟨ok_if_eq hx hb dk_74_35 (by decide),
    List.forall_mem_cons.mpr ⟨ok_aload_n hx hb dk_74_38 rfl,
    List.forall_mem_cons.mpr ⟨ok_getr hx hb hts hown hin_0 rfl (by decide) tw_98 dk_74_39,
    List.forall_mem_cons.mpr ⟨ok_aload_n hx hb dk_74_42 rfl,
    List.forall_mem_cons.mpr ⟨ok_iload_n hx hb dk_74_43 rfl,
    List.forall_mem_cons.mpr ⟨ok_cV hx hb hml hown hts hb1 hb2 hA hroot hAs rfl rfl rfl (hcal_86 hall) tw_146 tw_147 tw_148 tw_149 tw_2 nm_86 rfl rfl (by show d + 8 + 1 ≤ d + 1 + 8; omega) (by show 8 + (4 + 11) + (200 + 60 * d) ≤ 200 + 60 * (d + 1); omega) dk_74_44,
    List.forall_mem_cons.mpr ⟨ok_iload_n hx hb dk_74_47 rfl,
    List.forall_mem_cons.mpr ⟨ok_iast hx hb dk_74_48,
    List.forall_mem_cons.mpr ⟨ok_aload_n hx hb dk_74_49 rfl,
    List.forall_mem_cons.mpr ⟨ok_getr hx hb hts hown hin_0 rfl (by decide) tw_97 dk_74_50,
    List.forall_mem_cons.mpr ⟨ok_iconst hx hb dk_74_53 rfl,
    List.forall_mem_cons.mpr ⟨ok_aald hx hb dk_74_54,
    List.forall_mem_cons.mpr ⟨ok_iload_n hx hb dk_74_55 rfl,
    List.forall_mem_cons.mpr ⟨ok_aload_n hx hb dk_74_56 rfl,
    List.forall_mem_cons.mpr ⟨ok_iload_n hx hb dk_74_57 rfl,
    List.forall_mem_cons.mpr ⟨ok_iconst hx hb dk_74_58 rfl,
    List.forall_mem_cons.mpr ⟨ok_cV hx hb hml hown hts hb1 hb2 hA hroot hAs rfl rfl rfl (hcal_91 hall) tw_153 tw_154 tw_155 tw_156 tw_2 nm_91 rfl rfl (by show d + 8 + 1 ≤ d + 1 + 8; omega) (by show 8 + (4 + 11) + (200 + 60 * d) ≤ 200 + 60 * (d + 1); omega) dk_74_59,
    List.forall_mem_cons.mpr ⟨ok_iast hx hb dk_74_62,
    List.forall_mem_cons.mpr ⟨ok_iinc hx hb dk_74_63 rfl (by decide),
    List.forall_mem_cons.mpr ⟨ok_goto hx hb dk_74_66 (by decide),
    List.forall_mem_cons.mpr ⟨ok_vret hx hb hb1 hb2 hr hlocks dk_74_69,
    fun _ h => absurd h List.not_mem_nil⟩⟩⟩⟩⟩⟩⟩⟩⟩⟩⟩⟩⟩⟩⟩⟩⟩⟩⟩⟩⟩⟩⟩⟩⟩⟩⟩⟩⟩⟩⟩⟩⟩⟩⟩⟩⟩⟩⟩⟩⟩⟩⟩⟩⟩
theorem dk_75_0 : decode prog_2_method_7_code 0 = .ok (.iload_n 2, 1) := by decide +kernel
theorem dk_75_1 : decode prog_2_method_7_code 1 = .ok (.aload_n 1, 1) := by decide +kernel
theorem dk_75_2 : decode prog_2_method_7_code 2 = .ok (.getfield 43, 3) := by decide +kernel
theorem dk_75_5 : decode prog_2_method_7_code 5 = .ok (.if_icmp .lt (31), 3) := by decide +kernel
theorem dk_75_8 : decode prog_2_method_7_code 8 = .ok (.aload_n 0, 1) := by decide +kernel
theorem dk_75_9 : decode prog_2_method_7_code 9 = .ok (.aload_n 0, 1) := by decide +kernel
theorem dk_75_10 : decode prog_2_method_7_code 10 = .ok (.aload_n 1, 1) := by decide +kernel
theorem dk_75_11 : decode prog_2_method_7_code 11 = .ok (.iload_n 2, 1) := by decide +kernel
theorem dk_75_12 : decode prog_2_method_7_code 12 = .ok (.invokevirtual 31, 3) := by decide +kernel
theorem dk_75_15 : decode prog_2_method_7_code 15 = .ok (.putfield 39, 3) := by decide +kernel
theorem dk_75_18 : decode prog_2_method_7_code 18 = .ok (.aload_n 0, 1) := by decide +kernel
theorem dk_75_19 : decode prog_2_method_7_code 19 = .ok (.getfield 11, 3) := by decide +kernel
theorem dk_75_22 : decode prog_2_method_7_code 22 = .ok (.iload_n 2, 1) := by decide +kernel
theorem dk_75_23 : decode prog_2_method_7_code 23 = .ok (.aaload, 1) := by decide +kernel
theorem dk_75_24 : decode prog_2_method_7_code 24 = .ok (.iconst (0), 1) := by decide +kernel
theorem dk_75_25 : decode prog_2_method_7_code 25 = .ok (.aload_n 0, 1) := by decide +kernel
theorem dk_75_26 : decode prog_2_method_7_code 26 = .ok (.getfield 24, 3) := by decide +kernel
theorem dk_75_29 : decode prog_2_method_7_code 29 = .ok (.iconst (0), 1) := by decide +kernel
theorem dk_75_30 : decode prog_2_method_7_code 30 = .ok (.bipush (7), 2) := by decide +kernel
theorem dk_75_32 : decode prog_2_method_7_code 32 = .ok (.invokestatic 52, 3) := by decide +kernel
theorem dk_75_35 : decode prog_2_method_7_code 35 = .ok (.return_, 1) := by decide +kernel
theorem dk_75_36 : decode prog_2_method_7_code 36 = .ok (.iconst (0), 1) := by decide +kernel
theorem dk_75_37 : decode prog_2_method_7_code 37 = .ok (.istore_n 3, 1) := by decide +kernel
theorem dk_75_38 : decode prog_2_method_7_code 38 = .ok (.iload_n 3, 1) := by decide +kernel
theorem dk_75_39 : decode prog_2_method_7_code 39 = .ok (.aload_n 1, 1) := by decide +kernel
theorem dk_75_40 : decode prog_2_method_7_code 40 = .ok (.getfield 43, 3) := by decide +kernel
theorem dk_75_43 : decode prog_2_method_7_code 43 = .ok (.if_icmp .ge (77), 3) := by decide +kernel
theorem dk_75_46 : decode prog_2_method_7_code 46 = .ok (.aload_n 0, 1) := by decide +kernel
theorem dk_75_47 : decode prog_2_method_7_code 47 = .ok (.getfield 16, 3) := by decide +kernel
theorem dk_75_50 : decode prog_2_method_7_code 50 = .ok (.iload_n 3, 1) := by decide +kernel
theorem dk_75_51 : decode prog_2_method_7_code 51 = .ok (.iaload, 1) := by decide +kernel
theorem dk_75_52 : decode prog_2_method_7_code 52 = .ok (.istore 4, 2) := by decide +kernel
theorem dk_75_54 : decode prog_2_method_7_code 54 = .ok (.aload_n 0, 1) := by decide +kernel
theorem dk_75_55 : decode prog_2_method_7_code 55 = .ok (.getfield 20, 3) := by decide +kernel
theorem dk_75_58 : decode prog_2_method_7_code 58 = .ok (.iload 4, 2) := by decide +kernel
theorem dk_75_60 : decode prog_2_method_7_code 60 = .ok (.baload, 1) := by decide +kernel
theorem dk_75_61 : decode prog_2_method_7_code 61 = .ok (.ifCond .ne (53), 3) := by decide +kernel
theorem dk_75_64 : decode prog_2_method_7_code 64 = .ok (.aload_n 1, 1) := by decide +kernel
theorem dk_75_65 : decode prog_2_method_7_code 65 = .ok (.iload 4, 2) := by decide +kernel
theorem dk_75_67 : decode prog_2_method_7_code 67 = .ok (.iload_n 2, 1) := by decide +kernel
theorem dk_75_68 : decode prog_2_method_7_code 68 = .ok (.iload_n 3, 1) := by decide +kernel
theorem dk_75_69 : decode prog_2_method_7_code 69 = .ok (.invokevirtual 69, 3) := by decide +kernel
theorem dk_75_72 : decode prog_2_method_7_code 72 = .ok (.ifCond .eq (42), 3) := by decide +kernel
theorem dk_75_75 : decode prog_2_method_7_code 75 = .ok (.aload_n 0, 1) := by decide +kernel
theorem dk_75_76 : decode prog_2_method_7_code 76 = .ok (.aload_n 1, 1) := by decide +kernel
theorem dk_75_77 : decode prog_2_method_7_code 77 = .ok (.iload_n 2, 1) := by decide +kernel
theorem dk_75_78 : decode prog_2_method_7_code 78 = .ok (.iload 4, 2) := by decide +kernel
theorem dk_75_80 : decode prog_2_method_7_code 80 = .ok (.invokevirtual 48, 3) := by decide +kernel
theorem dk_75_83 : decode prog_2_method_7_code 83 = .ok (.aload_n 0, 1) := by decide +kernel
theorem dk_75_84 : decode prog_2_method_7_code 84 = .ok (.aload_n 0, 1) := by decide +kernel
theorem dk_75_85 : decode prog_2_method_7_code 85 = .ok (.aload_n 1, 1) := by decide +kernel
theorem dk_75_86 : decode prog_2_method_7_code 86 = .ok (.iload_n 2, 1) := by decide +kernel
theorem dk_75_87 : decode prog_2_method_7_code 87 = .ok (.iconst (1), 1) := by decide +kernel
theorem dk_75_88 : decode prog_2_method_7_code 88 = .ok (.iadd, 1) := by decide +kernel
theorem dk_75_89 : decode prog_2_method_7_code 89 = .ok (.invokevirtual 31, 3) := by decide +kernel
theorem dk_75_92 : decode prog_2_method_7_code 92 = .ok (.invokevirtual 73, 3) := by decide +kernel
theorem dk_75_95 : decode prog_2_method_7_code 95 = .ok (.ifCond .eq (11), 3) := by decide +kernel
theorem dk_75_98 : decode prog_2_method_7_code 98 = .ok (.aload_n 0, 1) := by decide +kernel
theorem dk_75_99 : decode prog_2_method_7_code 99 = .ok (.aload_n 1, 1) := by decide +kernel
theorem dk_75_100 : decode prog_2_method_7_code 100 = .ok (.iload_n 2, 1) := by decide +kernel
theorem dk_75_101 : decode prog_2_method_7_code 101 = .ok (.iconst (1), 1) := by decide +kernel
theorem dk_75_102 : decode prog_2_method_7_code 102 = .ok (.iadd, 1) := by decide +kernel
theorem dk_75_103 : decode prog_2_method_7_code 103 = .ok (.invokevirtual 35, 3) := by decide +kernel
theorem dk_75_106 : decode prog_2_method_7_code 106 = .ok (.aload_n 0, 1) := by decide +kernel
theorem dk_75_107 : decode prog_2_method_7_code 107 = .ok (.getfield 20, 3) := by decide +kernel
theorem dk_75_110 : decode prog_2_method_7_code 110 = .ok (.iload 4, 2) := by decide +kernel
theorem dk_75_112 : decode prog_2_method_7_code 112 = .ok (.iconst (0), 1) := by decide +kernel
theorem dk_75_113 : decode prog_2_method_7_code 113 = .ok (.bastore, 1) := by decide +kernel
theorem dk_75_114 : decode prog_2_method_7_code 114 = .ok (.iinc 3 (1), 3) := by decide +kernel
theorem dk_75_117 : decode prog_2_method_7_code 117 = .ok (.goto (-79), 3) := by decide +kernel
theorem dk_75_120 : decode prog_2_method_7_code 120 = .ok (.return_, 1) := by decide +kernel
set_option maxRecDepth 100000 in
set_option maxHeartbeats 4000000 in
theorem cc_75 {l : Launch} {s0 : State} (hst : l.stackTraces = false) (h0 : am_W0 s0) {d : Nat} (hall : ∀ mi ∈ am_idx, am_CC l s0 d mi) : am_CC l s0 (d + 1) 75 :=
  am_method (y := y_75) (cc := prog_2_method_7_code) (maxL := 5) (ret := none) (rm := am_rm (d + 1) 0 0) (ops := op_75) (C := am_T am_tabs am_ar d) (ar := 3) h0 (by decide) (by decide) fun p e s m args below meth c D A bS ad0 Q hct htab => by
    obtain ⟨hx, hb, hml, hown, hts, hb1, hb2, hA, hroot, hAs, -, -, hlocks, hr, hnm⟩ := hct
    exact List.forall_mem_cons.mpr ⟨ok_iload_n hx hb dk_75_0 rfl,
    List.forall_mem_cons.mpr ⟨ok_aload_n hx hb dk_75_1 rfl,
    List.forall_mem_cons.mpr ⟨ok_geti hx hb hts hown hin_1 rfl (by decide) tw_49 dk_75_2,
    List.forall_mem_cons.mpr ⟨ok_icmp_lt hx hb dk_75_5 (by decide),
    List.forall_mem_cons.mpr ⟨ok_aload_n hx hb dk_75_8 rfl,
    List.forall_mem_cons.mpr ⟨ok_aload_n hx hb dk_75_9 rfl,
    List.forall_mem_cons.mpr ⟨ok_aload_n hx hb dk_75_10 rfl,
    List.forall_mem_cons.mpr ⟨ok_iload_n hx hb dk_75_11 rfl,
    List.forall_mem_cons.mpr ⟨ok_cV hx hb hml hown hts hb1 hb2 hA hroot hAs rfl rfl rfl (hcal_78 hall) tw_176 tw_178 ts_3 tw_179 tw_4 nm_78 rfl rfl (by show d + 8 + 1 ≤ d + 1 + 8; omega) (by show 8 + (5 + 11) + (200 + 60 * d) ≤ 200 + 60 * (d + 1); omega) dk_75_12,
    List.forall_mem_cons.mpr ⟨ok_puti hx hb hts hown hin_0 tyF_0 tyF_0_ok nmF_0 rfl (by decide) tw_101 rfl (by decide +kernel) dk_75_15,
    List.forall_mem_cons.mpr ⟨ok_aload_n hx hb dk_75_18 rfl,
    List.forall_mem_cons.mpr ⟨ok_getr hx hb hts hown hin_0 rfl (by decide) tw_97 dk_75_19,
    List.forall_mem_cons.mpr ⟨ok_iload_n hx hb dk_75_22 rfl,
    List.forall_mem_cons.mpr ⟨ok_aald hx hb dk_75_23,
    List.forall_mem_cons.mpr ⟨ok_iconst hx hb dk_75_24 rfl,
    List.forall_mem_cons.mpr ⟨ok_aload_n hx hb dk_75_25 rfl,
    List.forall_mem_cons.mpr ⟨ok_getr hx hb hts hown hin_0 rfl (by decide) tw_100 dk_75_26,
    List.forall_mem_cons.mpr ⟨ok_iconst hx hb dk_75_29 rfl,
    List.forall_mem_cons.mpr ⟨ok_bipush hx hb dk_75_30 (by decide),
    List.forall_mem_cons.mpr ⟨ok_copy hx hb hts hown hml tw_188 tw_190 tw_189 tw_13 (by show 1 ≤ d + 1 + 8; omega) (by have h9 := am_cpw; show 8 + (nativeFrameWords "java/lang/System" "arraycopy" 5 + 11) ≤ 200 + 60 * (d + 1); omega) dk_75_32,
    List.forall_mem_cons.mpr ⟨ok_vret hx hb hb1 hb2 hr hlocks dk_75_35,
    List.forall_mem_cons.mpr ⟨ok_iconst hx hb dk_75_36 rfl,
    List.forall_mem_cons.mpr ⟨ok_istore_n hx hb dk_75_37 rfl (by decide),
    List.forall_mem_cons.mpr ⟨ok_iload_n hx hb dk_75_38 rfl,
    List.forall_mem_cons.mpr ⟨ok_aload_n hx hb dk_75_39 rfl,
    List.forall_mem_cons.mpr ⟨ok_geti hx hb hts hown hin_1 rfl (by decide) tw_49 dk_75_40,
    List.forall_mem_cons.mpr ⟨ok_icmp_ge hx hb dk_75_43 (by decide),
    List.forall_mem_cons.mpr ⟨ok_aload_n hx hb dk_75_46 rfl,
    List.forall_mem_cons.mpr ⟨ok_getr hx hb hts hown hin_0 rfl (by decide) tw_98 dk_75_47,
    List.forall_mem_cons.mpr ⟨ok_iload_n hx hb dk_75_50 rfl,
    List.forall_mem_cons.mpr ⟨ok_iald hx hb dk_75_51,
    List.forall_mem_cons.mpr ⟨ok_istore hx hb dk_75_52 (by decide),
    List.forall_mem_cons.mpr ⟨ok_aload_n hx hb dk_75_54 rfl,
    List.forall_mem_cons.mpr ⟨ok_getr hx hb hts hown hin_0 rfl (by decide) tw_99 dk_75_55,
    List.forall_mem_cons.mpr ⟨ok_iload hx hb dk_75_58,
    List.forall_mem_cons.mpr ⟨ok_zald hx hb dk_75_60,
    List.forall_mem_cons.mpr ⟨ok_if_ne hx hb dk_75_61 (by decide),
    List.forall_mem_cons.mpr ⟨ok_aload_n hx hb dk_75_64 rfl,
    List.forall_mem_cons.mpr ⟨ok_iload hx hb dk_75_65,
    List.forall_mem_cons.mpr ⟨ok_iload_n hx hb dk_75_67 rfl,
    List.forall_mem_cons.mpr ⟨ok_iload_n hx hb dk_75_68 rfl,
    List.forall_mem_cons.mpr ⟨ok_cV hx hb hml hown hts hb1 hb2 hA hroot hAs rfl rfl rfl (hcal_87 hall) tw_191 tw_192 tw_193 tw_194 tw_2 nm_87 rfl rfl (by show d + 8 + 1 ≤ d + 1 + 8; omega) (by show 8 + (4 + 11) + (200 + 60 * d) ≤ 200 + 60 * (d + 1); omega) dk_75_69,
    List.forall_mem_cons.mpr ⟨ok_if_eq hx hb dk_75_72 (by decide),
    List.forall_mem_cons.mpr ⟨ok_aload_n hx hb dk_75_75 rfl,
    List.forall_mem_cons.mpr ⟨ok_aload_n hx hb dk_75_76 rfl,
    List.forall_mem_cons.mpr ⟨ok_iload_n hx hb dk_75_77 rfl,
    List.forall_mem_cons.mpr ⟨ok_iload hx hb dk_75_78,
    List.forall_mem_cons.mpr ⟨ok_cV hx hb hml hown hts hb1 hb2 hA hroot hAs rfl rfl rfl (hcal_77 hall) tw_198 tw_200 ts_5 tw_201 tw_4 nm_77 rfl rfl (by show d + 8 + 1 ≤ d + 1 + 8; omega) (by show 8 + (8 + 11) + (200 + 60 * d) ≤ 200 + 60 * (d + 1); omega) dk_75_80,
    List.forall_mem_cons.mpr ⟨ok_aload_n hx hb dk_75_83 rfl,
    List.forall_mem_cons.mpr ⟨ok_aload_n hx hb dk_75_84 rfl,
    List.forall_mem_cons.mpr ⟨ok_aload_n hx hb dk_75_85 rfl,
    List.forall_mem_cons.mpr ⟨ok_iload_n hx hb dk_75_86 rfl,
    List.forall_mem_cons.mpr ⟨ok_iconst hx hb dk_75_87 rfl,
    List.forall_mem_cons.mpr ⟨ok_iadd hx hb dk_75_88,
    List.forall_mem_cons.mpr ⟨ok_cV hx hb hml hown hts hb1 hb2 hA hroot hAs rfl rfl rfl (hcal_78 hall) tw_176 tw_178 ts_3 tw_179 tw_4 nm_78 rfl rfl (by show d + 8 + 1 ≤ d + 1 + 8; omega) (by show 8 + (5 + 11) + (200 + 60 * d) ≤ 200 + 60 * (d + 1); omega) dk_75_89,
    List.forall_mem_cons.mpr ⟨ok_cV hx hb hml hown hts hb1 hb2 hA hroot hAs rfl rfl rfl (hcal_76 hall) tw_207 tw_209 ts_6 tw_210 tw_4 nm_76 rfl rfl (by show d + 8 + 1 ≤ d + 1 + 8; omega) (by show 8 + (2 + 11) + (200 + 60 * d) ≤ 200 + 60 * (d + 1); omega) dk_75_92,
    List.forall_mem_cons.mpr ⟨ok_if_eq hx hb dk_75_95 (by decide),
    List.forall_mem_cons.mpr ⟨ok_aload_n hx hb dk_75_98 rfl,
    List.forall_mem_cons.mpr ⟨ok_aload_n hx hb dk_75_99 rfl,
    List.forall_mem_cons.mpr ⟨ok_iload_n hx hb dk_75_100 rfl,
    List.forall_mem_cons.mpr ⟨ok_iconst hx hb dk_75_101 rfl,
    List.forall_mem_cons.mpr ⟨ok_iadd hx hb dk_75_102,
    List.forall_mem_cons.mpr ⟨ok_cV hx hb hml hown hts hb1 hb2 hA hroot hAs rfl rfl rfl (hcal_75 hall) tw_184 tw_186 ts_4 tw_187 tw_4 nm_75 rfl rfl (by show d + 8 + 1 ≤ d + 1 + 8; omega) (by show 8 + (5 + 11) + (200 + 60 * d) ≤ 200 + 60 * (d + 1); omega) dk_75_103,
    List.forall_mem_cons.mpr ⟨ok_aload_n hx hb dk_75_106 rfl,
    List.forall_mem_cons.mpr ⟨ok_getr hx hb hts hown hin_0 rfl (by decide) tw_99 dk_75_107,
    List.forall_mem_cons.mpr ⟨ok_iload hx hb dk_75_110,
    List.forall_mem_cons.mpr ⟨ok_iconst hx hb dk_75_112 rfl,
    List.forall_mem_cons.mpr ⟨ok_zast hx hb dk_75_113,
    List.forall_mem_cons.mpr ⟨ok_iinc hx hb dk_75_114 rfl (by decide),
    List.forall_mem_cons.mpr ⟨ok_goto hx hb dk_75_117 (by decide),
    List.forall_mem_cons.mpr ⟨ok_vret hx hb hb1 hb2 hr hlocks dk_75_120,
    fun _ h => absurd h List.not_mem_nil⟩⟩⟩⟩⟩⟩⟩⟩⟩⟩⟩⟩⟩⟩⟩⟩⟩⟩⟩⟩⟩⟩⟩⟩⟩⟩⟩⟩⟩⟩⟩⟩⟩⟩⟩⟩⟩⟩⟩⟩⟩⟩⟩⟩⟩⟩⟩⟩⟩⟩⟩⟩⟩⟩⟩⟩⟩⟩⟩⟩⟩⟩⟩⟩⟩⟩⟩⟩⟩⟩⟩
theorem dk_76_0 : decode prog_2_method_8_code 0 = .ok (.iload_n 1, 1) := by decide +kernel
theorem dk_76_1 : decode prog_2_method_8_code 1 = .ok (.iconst (-1), 1) := by decide +kernel
theorem dk_76_2 : decode prog_2_method_8_code 2 = .ok (.if_icmp .eq (23), 3) := by decide +kernel
theorem dk_76_5 : decode prog_2_method_8_code 5 = .ok (.aload_n 0, 1) := by decide +kernel
theorem dk_76_6 : decode prog_2_method_8_code 6 = .ok (.getfield 39, 3) := by decide +kernel
theorem dk_76_9 : decode prog_2_method_8_code 9 = .ok (.iconst (-1), 1) := by decide +kernel
theorem dk_76_10 : decode prog_2_method_8_code 10 = .ok (.if_icmp .eq (11), 3) := by decide +kernel
theorem dk_76_13 : decode prog_2_method_8_code 13 = .ok (.iload_n 1, 1) := by decide +kernel
theorem dk_76_14 : decode prog_2_method_8_code 14 = .ok (.aload_n 0, 1) := by decide +kernel
theorem dk_76_15 : decode prog_2_method_8_code 15 = .ok (.getfield 39, 3) := by decide +kernel
theorem dk_76_18 : decode prog_2_method_8_code 18 = .ok (.if_icmp .ge (7), 3) := by decide +kernel
theorem dk_76_21 : decode prog_2_method_8_code 21 = .ok (.iconst (1), 1) := by decide +kernel
theorem dk_76_22 : decode prog_2_method_8_code 22 = .ok (.goto (4), 3) := by decide +kernel
theorem dk_76_25 : decode prog_2_method_8_code 25 = .ok (.iconst (0), 1) := by decide +kernel
theorem dk_76_26 : decode prog_2_method_8_code 26 = .ok (.ireturn, 1) := by decide +kernel
set_option maxRecDepth 100000 in
set_option maxHeartbeats 4000000 in
theorem cc_76 {l : Launch} {s0 : State} (hst : l.stackTraces = false) (h0 : am_W0 s0) {d : Nat} (hall : ∀ mi ∈ am_idx, am_CC l s0 d mi) : am_CC l s0 (d + 1) 76 :=
  am_method (y := y_76) (cc := prog_2_method_8_code) (maxL := 2) (ret := (some .boolean)) (rm := am_rm (d + 1) 0 0) (ops := op_76) (C := am_T am_tabs am_ar d) (ar := 2) h0 (by decide) (by decide) fun p e s m args below meth c D A bS ad0 Q hct htab => by
    obtain ⟨hx, hb, hml, hown, hts, hb1, hb2, hA, hroot, hAs, -, -, hlocks, hr, hnm⟩ := hct
    exact List.forall_mem_cons.mpr ⟨ok_iload_n hx hb dk_76_0 rfl,
    List.forall_mem_cons.mpr ⟨ok_iconst hx hb dk_76_1 rfl,
    List.forall_mem_cons.mpr ⟨ok_icmp_eq hx hb dk_76_2 (by decide),
    List.forall_mem_cons.mpr ⟨ok_aload_n hx hb dk_76_5 rfl,
    List.forall_mem_cons.mpr ⟨ok_geti hx hb hts hown hin_0 rfl (by decide) tw_101 dk_76_6,
    List.forall_mem_cons.mpr ⟨ok_iconst hx hb dk_76_9 rfl,
    List.forall_mem_cons.mpr ⟨ok_icmp_eq hx hb dk_76_10 (by decide),
    List.forall_mem_cons.mpr ⟨ok_iload_n hx hb dk_76_13 rfl,
    List.forall_mem_cons.mpr ⟨ok_aload_n hx hb dk_76_14 rfl,
    List.forall_mem_cons.mpr ⟨ok_geti hx hb hts hown hin_0 rfl (by decide) tw_101 dk_76_15,
    List.forall_mem_cons.mpr ⟨ok_icmp_ge hx hb dk_76_18 (by decide),
    List.forall_mem_cons.mpr ⟨ok_iconst hx hb dk_76_21 rfl,
    List.forall_mem_cons.mpr ⟨ok_goto hx hb dk_76_22 (by decide),
    List.forall_mem_cons.mpr ⟨ok_iconst hx hb dk_76_25 rfl,
    List.forall_mem_cons.mpr ⟨ok_zret hx hb hb1 hb2 hr hlocks dk_76_26,
    fun _ h => absurd h List.not_mem_nil⟩⟩⟩⟩⟩⟩⟩⟩⟩⟩⟩⟩⟩⟩⟩
theorem dk_77_0 : decode prog_2_method_9_code 0 = .ok (.aload_n 0, 1) := by decide +kernel
theorem dk_77_1 : decode prog_2_method_9_code 1 = .ok (.getfield 20, 3) := by decide +kernel
theorem dk_77_4 : decode prog_2_method_9_code 4 = .ok (.iload_n 3, 1) := by decide +kernel
theorem dk_77_5 : decode prog_2_method_9_code 5 = .ok (.iconst (1), 1) := by decide +kernel
theorem dk_77_6 : decode prog_2_method_9_code 6 = .ok (.bastore, 1) := by decide +kernel
theorem dk_77_7 : decode prog_2_method_9_code 7 = .ok (.aload_n 0, 1) := by decide +kernel
theorem dk_77_8 : decode prog_2_method_9_code 8 = .ok (.getfield 11, 3) := by decide +kernel
theorem dk_77_11 : decode prog_2_method_9_code 11 = .ok (.iload_n 2, 1) := by decide +kernel
theorem dk_77_12 : decode prog_2_method_9_code 12 = .ok (.aaload, 1) := by decide +kernel
theorem dk_77_13 : decode prog_2_method_9_code 13 = .ok (.astore 4, 2) := by decide +kernel
theorem dk_77_15 : decode prog_2_method_9_code 15 = .ok (.aload_n 0, 1) := by decide +kernel
theorem dk_77_16 : decode prog_2_method_9_code 16 = .ok (.getfield 11, 3) := by decide +kernel
theorem dk_77_19 : decode prog_2_method_9_code 19 = .ok (.iload_n 2, 1) := by decide +kernel
theorem dk_77_20 : decode prog_2_method_9_code 20 = .ok (.iconst (1), 1) := by decide +kernel
theorem dk_77_21 : decode prog_2_method_9_code 21 = .ok (.iadd, 1) := by decide +kernel
theorem dk_77_22 : decode prog_2_method_9_code 22 = .ok (.aaload, 1) := by decide +kernel
theorem dk_77_23 : decode prog_2_method_9_code 23 = .ok (.astore 5, 2) := by decide +kernel
theorem dk_77_25 : decode prog_2_method_9_code 25 = .ok (.iconst (0), 1) := by decide +kernel
theorem dk_77_26 : decode prog_2_method_9_code 26 = .ok (.istore 6, 2) := by decide +kernel
theorem dk_77_28 : decode prog_2_method_9_code 28 = .ok (.iload 6, 2) := by decide +kernel
theorem dk_77_30 : decode prog_2_method_9_code 30 = .ok (.bipush (7), 2) := by decide +kernel
theorem dk_77_32 : decode prog_2_method_9_code 32 = .ok (.if_icmp .ge (74), 3) := by decide +kernel
theorem dk_77_35 : decode prog_2_method_9_code 35 = .ok (.aload 5, 2) := by decide +kernel
theorem dk_77_37 : decode prog_2_method_9_code 37 = .ok (.iload 6, 2) := by decide +kernel
theorem dk_77_39 : decode prog_2_method_9_code 39 = .ok (.aload 4, 2) := by decide +kernel
theorem dk_77_41 : decode prog_2_method_9_code 41 = .ok (.iload 6, 2) := by decide +kernel
theorem dk_77_43 : decode prog_2_method_9_code 43 = .ok (.iaload, 1) := by decide +kernel
theorem dk_77_44 : decode prog_2_method_9_code 44 = .ok (.iastore, 1) := by decide +kernel
theorem dk_77_45 : decode prog_2_method_9_code 45 = .ok (.aload_n 1, 1) := by decide +kernel
theorem dk_77_46 : decode prog_2_method_9_code 46 = .ok (.getfield 58, 3) := by decide +kernel
theorem dk_77_49 : decode prog_2_method_9_code 49 = .ok (.iload 6, 2) := by decide +kernel
theorem dk_77_51 : decode prog_2_method_9_code 51 = .ok (.baload, 1) := by decide +kernel
theorem dk_77_52 : decode prog_2_method_9_code 52 = .ok (.ifCond .eq (48), 3) := by decide +kernel
theorem dk_77_55 : decode prog_2_method_9_code 55 = .ok (.aload_n 0, 1) := by decide +kernel
theorem dk_77_56 : decode prog_2_method_9_code 56 = .ok (.getfield 20, 3) := by decide +kernel
theorem dk_77_59 : decode prog_2_method_9_code 59 = .ok (.iload 6, 2) := by decide +kernel
theorem dk_77_61 : decode prog_2_method_9_code 61 = .ok (.baload, 1) := by decide +kernel
theorem dk_77_62 : decode prog_2_method_9_code 62 = .ok (.ifCond .ne (38), 3) := by decide +kernel
theorem dk_77_65 : decode prog_2_method_9_code 65 = .ok (.aload 4, 2) := by decide +kernel
theorem dk_77_67 : decode prog_2_method_9_code 67 = .ok (.iload 6, 2) := by decide +kernel
theorem dk_77_69 : decode prog_2_method_9_code 69 = .ok (.iaload, 1) := by decide +kernel
theorem dk_77_70 : decode prog_2_method_9_code 70 = .ok (.aload 4, 2) := by decide +kernel
theorem dk_77_72 : decode prog_2_method_9_code 72 = .ok (.iload_n 3, 1) := by decide +kernel
theorem dk_77_73 : decode prog_2_method_9_code 73 = .ok (.iaload, 1) := by decide +kernel
theorem dk_77_74 : decode prog_2_method_9_code 74 = .ok (.aload_n 1, 1) := by decide +kernel
theorem dk_77_75 : decode prog_2_method_9_code 75 = .ok (.iload_n 3, 1) := by decide +kernel
theorem dk_77_76 : decode prog_2_method_9_code 76 = .ok (.iload 6, 2) := by decide +kernel
theorem dk_77_78 : decode prog_2_method_9_code 78 = .ok (.invokevirtual 77, 3) := by decide +kernel
theorem dk_77_81 : decode prog_2_method_9_code 81 = .ok (.iadd, 1) := by decide +kernel
theorem dk_77_82 : decode prog_2_method_9_code 82 = .ok (.invokestatic 80, 3) := by decide +kernel
theorem dk_77_85 : decode prog_2_method_9_code 85 = .ok (.istore 7, 2) := by decide +kernel
theorem dk_77_87 : decode prog_2_method_9_code 87 = .ok (.aload 5, 2) := by decide +kernel
theorem dk_77_89 : decode prog_2_method_9_code 89 = .ok (.iload 6, 2) := by decide +kernel
theorem dk_77_91 : decode prog_2_method_9_code 91 = .ok (.aload_n 1, 1) := by decide +kernel
theorem dk_77_92 : decode prog_2_method_9_code 92 = .ok (.iload 6, 2) := by decide +kernel
theorem dk_77_94 : decode prog_2_method_9_code 94 = .ok (.iload 7, 2) := by decide +kernel
theorem dk_77_96 : decode prog_2_method_9_code 96 = .ok (.invokevirtual 65, 3) := by decide +kernel
theorem dk_77_99 : decode prog_2_method_9_code 99 = .ok (.iastore, 1) := by decide +kernel
theorem dk_77_100 : decode prog_2_method_9_code 100 = .ok (.iinc 6 (1), 3) := by decide +kernel
theorem dk_77_103 : decode prog_2_method_9_code 103 = .ok (.goto (-75), 3) := by decide +kernel
theorem dk_77_106 : decode prog_2_method_9_code 106 = .ok (.return_, 1) := by decide +kernel
set_option maxRecDepth 100000 in
set_option maxHeartbeats 4000000 in
theorem cc_77 {l : Launch} {s0 : State} (hst : l.stackTraces = false) (h0 : am_W0 s0) {d : Nat} (hall : ∀ mi ∈ am_idx, am_CC l s0 d mi) : am_CC l s0 (d + 1) 77 :=
  am_method (y := y_77) (cc := prog_2_method_9_code) (maxL := 8) (ret := none) (rm := am_rm (d + 1) 0 0) (ops := op_77) (C := am_T am_tabs am_ar d) (ar := 4) h0 (by decide) (by decide) fun p e s m args below meth c D A bS ad0 Q hct htab => by
    obtain ⟨hx, hb, hml, hown, hts, hb1, hb2, hA, hroot, hAs, -, -, hlocks, hr, hnm⟩ := hct
    exact List.forall_mem_cons.mpr ⟨ok_aload_n hx hb dk_77_0 rfl,
    List.forall_mem_cons.mpr ⟨ok_getr hx hb hts hown hin_0 rfl (by decide) tw_99 dk_77_1,
    List.forall_mem_cons.mpr ⟨ok_iload_n hx hb dk_77_4 rfl,
    List.forall_mem_cons.mpr ⟨ok_iconst hx hb dk_77_5 rfl,
    List.forall_mem_cons.mpr ⟨ok_zast hx hb dk_77_6,
    List.forall_mem_cons.mpr ⟨ok_aload_n hx hb dk_77_7 rfl,
    List.forall_mem_cons.mpr ⟨ok_getr hx hb hts hown hin_0 rfl (by decide) tw_97 dk_77_8,
    List.forall_mem_cons.mpr ⟨ok_iload_n hx hb dk_77_11 rfl,
    List.forall_mem_cons.mpr ⟨ok_aald hx hb dk_77_12,
    List.forall_mem_cons.mpr ⟨ok_astore hx hb dk_77_13 (by decide),
    List.forall_mem_cons.mpr ⟨ok_aload_n hx hb dk_77_15 rfl,
    List.forall_mem_cons.mpr ⟨ok_getr hx hb hts hown hin_0 rfl (by decide) tw_97 dk_77_16,
    List.forall_mem_cons.mpr ⟨ok_iload_n hx hb dk_77_19 rfl,
    List.forall_mem_cons.mpr ⟨ok_iconst hx hb dk_77_20 rfl,
    List.forall_mem_cons.mpr ⟨ok_iadd hx hb dk_77_21,
    List.forall_mem_cons.mpr ⟨ok_aald hx hb dk_77_22,
    List.forall_mem_cons.mpr ⟨ok_astore hx hb dk_77_23 (by decide),
    List.forall_mem_cons.mpr ⟨ok_iconst hx hb dk_77_25 rfl,
    List.forall_mem_cons.mpr ⟨ok_istore hx hb dk_77_26 (by decide),
    List.forall_mem_cons.mpr ⟨ok_iload hx hb dk_77_28,
    List.forall_mem_cons.mpr ⟨ok_bipush hx hb dk_77_30 (by decide),
    List.forall_mem_cons.mpr ⟨ok_icmp_ge hx hb dk_77_32 (by decide),
    List.forall_mem_cons.mpr ⟨ok_aload hx hb dk_77_35,
    List.forall_mem_cons.mpr ⟨ok_iload hx hb dk_77_37,
    List.forall_mem_cons.mpr ⟨ok_aload hx hb dk_77_39,
    List.forall_mem_cons.mpr ⟨ok_iload hx hb dk_77_41,
    List.forall_mem_cons.mpr ⟨ok_iald hx hb dk_77_43,
    List.forall_mem_cons.mpr ⟨ok_iast hx hb dk_77_44,
    List.forall_mem_cons.mpr ⟨ok_aload_n hx hb dk_77_45 rfl,
    List.forall_mem_cons.mpr ⟨ok_getr hx hb hts hown hin_1 rfl (by decide) tw_36 dk_77_46,
    List.forall_mem_cons.mpr ⟨ok_iload hx hb dk_77_49,
    List.forall_mem_cons.mpr ⟨ok_zald hx hb dk_77_51,
    List.forall_mem_cons.mpr ⟨ok_if_eq hx hb dk_77_52 (by decide),
    List.forall_mem_cons.mpr ⟨ok_aload_n hx hb dk_77_55 rfl,
    List.forall_mem_cons.mpr ⟨ok_getr hx hb hts hown hin_0 rfl (by decide) tw_99 dk_77_56,
    List.forall_mem_cons.mpr ⟨ok_iload hx hb dk_77_59,
    List.forall_mem_cons.mpr ⟨ok_zald hx hb dk_77_61,
    List.forall_mem_cons.mpr ⟨ok_if_ne hx hb dk_77_62 (by decide),
    List.forall_mem_cons.mpr ⟨ok_aload hx hb dk_77_65,
    List.forall_mem_cons.mpr ⟨ok_iload hx hb dk_77_67,
    List.forall_mem_cons.mpr ⟨ok_iald hx hb dk_77_69,
    List.forall_mem_cons.mpr ⟨ok_aload hx hb dk_77_70,
    List.forall_mem_cons.mpr ⟨ok_iload_n hx hb dk_77_72 rfl,
    List.forall_mem_cons.mpr ⟨ok_iald hx hb dk_77_73,
    List.forall_mem_cons.mpr ⟨ok_aload_n hx hb dk_77_74 rfl,
    List.forall_mem_cons.mpr ⟨ok_iload_n hx hb dk_77_75 rfl,
    List.forall_mem_cons.mpr ⟨ok_iload hx hb dk_77_76,
    List.forall_mem_cons.mpr ⟨ok_cV hx hb hml hown hts hb1 hb2 hA hroot hAs rfl rfl rfl (hcal_84 hall) tw_202 tw_203 tw_204 tw_205 tw_2 nm_84 rfl rfl (by show d + 8 + 1 ≤ d + 1 + 8; omega) (by show 8 + (3 + 11) + (200 + 60 * d) ≤ 200 + 60 * (d + 1); omega) dk_77_78,
    List.forall_mem_cons.mpr ⟨ok_iadd hx hb dk_77_81,
    List.forall_mem_cons.mpr ⟨ok_max hx hb hts hown hml rfl rfl tw_206 tw_170 tw_12 tw_171 rfl (by show 1 ≤ d + 1 + 8; omega) (by show 21 ≤ 200 + 60 * (d + 1); omega) dk_77_82,
    List.forall_mem_cons.mpr ⟨ok_istore hx hb dk_77_85 (by decide),
    List.forall_mem_cons.mpr ⟨ok_aload hx hb dk_77_87,
    List.forall_mem_cons.mpr ⟨ok_iload hx hb dk_77_89,
    List.forall_mem_cons.mpr ⟨ok_aload_n hx hb dk_77_91 rfl,
    List.forall_mem_cons.mpr ⟨ok_iload hx hb dk_77_92,
    List.forall_mem_cons.mpr ⟨ok_iload hx hb dk_77_94,
    List.forall_mem_cons.mpr ⟨ok_cV hx hb hml hown hts hb1 hb2 hA hroot hAs rfl rfl rfl (hcal_91 hall) tw_153 tw_154 tw_155 tw_156 tw_2 nm_91 rfl rfl (by show d + 8 + 1 ≤ d + 1 + 8; omega) (by show 8 + (4 + 11) + (200 + 60 * d) ≤ 200 + 60 * (d + 1); omega) dk_77_96,
    List.forall_mem_cons.mpr ⟨ok_iast hx hb dk_77_99,
    List.forall_mem_cons.mpr ⟨ok_iinc hx hb dk_77_100 rfl (by decide),
    List.forall_mem_cons.mpr ⟨ok_goto hx hb dk_77_103 (by decide),
    List.forall_mem_cons.mpr ⟨ok_vret hx hb hb1 hb2 hr hlocks dk_77_106,
    fun _ h => absurd h List.not_mem_nil⟩⟩⟩⟩⟩⟩⟩⟩⟩⟩⟩⟩⟩⟩⟩⟩⟩⟩⟩⟩⟩⟩⟩⟩⟩⟩⟩⟩⟩⟩⟩⟩⟩⟩⟩⟩⟩⟩⟩⟩⟩⟩⟩⟩⟩⟩⟩⟩⟩⟩⟩⟩⟩⟩⟩⟩⟩⟩⟩⟩⟩
theorem dk_78_0 : decode prog_2_method_10_code 0 = .ok (.iconst (0), 1) := by decide +kernel
theorem dk_78_1 : decode prog_2_method_10_code 1 = .ok (.istore_n 3, 1) := by decide +kernel
theorem dk_78_2 : decode prog_2_method_10_code 2 = .ok (.iconst (0), 1) := by decide +kernel
theorem dk_78_3 : decode prog_2_method_10_code 3 = .ok (.istore 4, 2) := by decide +kernel
theorem dk_78_5 : decode prog_2_method_10_code 5 = .ok (.iload 4, 2) := by decide +kernel
theorem dk_78_7 : decode prog_2_method_10_code 7 = .ok (.bipush (7), 2) := by decide +kernel
theorem dk_78_9 : decode prog_2_method_10_code 9 = .ok (.if_icmp .ge (52), 3) := by decide +kernel
theorem dk_78_12 : decode prog_2_method_10_code 12 = .ok (.aload_n 1, 1) := by decide +kernel
theorem dk_78_13 : decode prog_2_method_10_code 13 = .ok (.getfield 58, 3) := by decide +kernel
theorem dk_78_16 : decode prog_2_method_10_code 16 = .ok (.iload 4, 2) := by decide +kernel
theorem dk_78_18 : decode prog_2_method_10_code 18 = .ok (.baload, 1) := by decide +kernel
theorem dk_78_19 : decode prog_2_method_10_code 19 = .ok (.ifCond .eq (36), 3) := by decide +kernel
theorem dk_78_22 : decode prog_2_method_10_code 22 = .ok (.aload_n 0, 1) := by decide +kernel
theorem dk_78_23 : decode prog_2_method_10_code 23 = .ok (.getfield 11, 3) := by decide +kernel
theorem dk_78_26 : decode prog_2_method_10_code 26 = .ok (.iload_n 2, 1) := by decide +kernel
theorem dk_78_27 : decode prog_2_method_10_code 27 = .ok (.aaload, 1) := by decide +kernel
theorem dk_78_28 : decode prog_2_method_10_code 28 = .ok (.iload 4, 2) := by decide +kernel
theorem dk_78_30 : decode prog_2_method_10_code 30 = .ok (.iaload, 1) := by decide +kernel
theorem dk_78_31 : decode prog_2_method_10_code 31 = .ok (.iconst (-1), 1) := by decide +kernel
theorem dk_78_32 : decode prog_2_method_10_code 32 = .ok (.if_icmp .ne (5), 3) := by decide +kernel
theorem dk_78_35 : decode prog_2_method_10_code 35 = .ok (.iconst (-1), 1) := by decide +kernel
theorem dk_78_36 : decode prog_2_method_10_code 36 = .ok (.ireturn, 1) := by decide +kernel
theorem dk_78_37 : decode prog_2_method_10_code 37 = .ok (.iload_n 3, 1) := by decide +kernel
theorem dk_78_38 : decode prog_2_method_10_code 38 = .ok (.aload_n 1, 1) := by decide +kernel
theorem dk_78_39 : decode prog_2_method_10_code 39 = .ok (.iload 4, 2) := by decide +kernel
theorem dk_78_41 : decode prog_2_method_10_code 41 = .ok (.aload_n 0, 1) := by decide +kernel
theorem dk_78_42 : decode prog_2_method_10_code 42 = .ok (.getfield 11, 3) := by decide +kernel
theorem dk_78_45 : decode prog_2_method_10_code 45 = .ok (.iload_n 2, 1) := by decide +kernel
theorem dk_78_46 : decode prog_2_method_10_code 46 = .ok (.aaload, 1) := by decide +kernel
theorem dk_78_47 : decode prog_2_method_10_code 47 = .ok (.iload 4, 2) := by decide +kernel
theorem dk_78_49 : decode prog_2_method_10_code 49 = .ok (.iaload, 1) := by decide +kernel
theorem dk_78_50 : decode prog_2_method_10_code 50 = .ok (.invokevirtual 85, 3) := by decide +kernel
theorem dk_78_53 : decode prog_2_method_10_code 53 = .ok (.iadd, 1) := by decide +kernel
theorem dk_78_54 : decode prog_2_method_10_code 54 = .ok (.istore_n 3, 1) := by decide +kernel
theorem dk_78_55 : decode prog_2_method_10_code 55 = .ok (.iinc 4 (1), 3) := by decide +kernel
theorem dk_78_58 : decode prog_2_method_10_code 58 = .ok (.goto (-53), 3) := by decide +kernel
theorem dk_78_61 : decode prog_2_method_10_code 61 = .ok (.iload_n 3, 1) := by decide +kernel
theorem dk_78_62 : decode prog_2_method_10_code 62 = .ok (.ireturn, 1) := by decide +kernel
set_option maxRecDepth 100000 in
set_option maxHeartbeats 4000000 in
theorem cc_78 {l : Launch} {s0 : State} (hst : l.stackTraces = false) (h0 : am_W0 s0) {d : Nat} (hall : ∀ mi ∈ am_idx, am_CC l s0 d mi) : am_CC l s0 (d + 1) 78 :=
  am_method (y := y_78) (cc := prog_2_method_10_code) (maxL := 5) (ret := (some .int)) (rm := am_rm (d + 1) 0 0) (ops := op_78) (C := am_T am_tabs am_ar d) (ar := 3) h0 (by decide) (by decide) fun p e s m args below meth c D A bS ad0 Q hct htab => by
    obtain ⟨hx, hb, hml, hown, hts, hb1, hb2, hA, hroot, hAs, -, -, hlocks, hr, hnm⟩ := hct
    exact List.forall_mem_cons.mpr ⟨ok_iconst hx hb dk_78_0 rfl,
    List.forall_mem_cons.mpr ⟨ok_istore_n hx hb dk_78_1 rfl (by decide),
    List.forall_mem_cons.mpr ⟨ok_iconst hx hb dk_78_2 rfl,
    List.forall_mem_cons.mpr ⟨ok_istore hx hb dk_78_3 (by decide),
    List.forall_mem_cons.mpr ⟨ok_iload hx hb dk_78_5,
    List.forall_mem_cons.mpr ⟨ok_bipush hx hb dk_78_7 (by decide),
    List.forall_mem_cons.mpr ⟨ok_icmp_ge hx hb dk_78_9 (by decide),
    List.forall_mem_cons.mpr ⟨ok_aload_n hx hb dk_78_12 rfl,
    List.forall_mem_cons.mpr ⟨ok_getr hx hb hts hown hin_1 rfl (by decide) tw_36 dk_78_13,
    List.forall_mem_cons.mpr ⟨ok_iload hx hb dk_78_16,
    List.forall_mem_cons.mpr ⟨ok_zald hx hb dk_78_18,
    List.forall_mem_cons.mpr ⟨ok_if_eq hx hb dk_78_19 (by decide),
    List.forall_mem_cons.mpr ⟨ok_aload_n hx hb dk_78_22 rfl,
    List.forall_mem_cons.mpr ⟨ok_getr hx hb hts hown hin_0 rfl (by decide) tw_97 dk_78_23,
    List.forall_mem_cons.mpr ⟨ok_iload_n hx hb dk_78_26 rfl,
    List.forall_mem_cons.mpr ⟨ok_aald hx hb dk_78_27,
    List.forall_mem_cons.mpr ⟨ok_iload hx hb dk_78_28,
    List.forall_mem_cons.mpr ⟨ok_iald hx hb dk_78_30,
    List.forall_mem_cons.mpr ⟨ok_iconst hx hb dk_78_31 rfl,
    List.forall_mem_cons.mpr ⟨ok_icmp_ne hx hb dk_78_32 (by decide),
    List.forall_mem_cons.mpr ⟨ok_iconst hx hb dk_78_35 rfl,
    List.forall_mem_cons.mpr ⟨ok_iret hx hb hb1 hb2 hr hlocks dk_78_36,
    List.forall_mem_cons.mpr ⟨ok_iload_n hx hb dk_78_37 rfl,
    List.forall_mem_cons.mpr ⟨ok_aload_n hx hb dk_78_38 rfl,
    List.forall_mem_cons.mpr ⟨ok_iload hx hb dk_78_39,
    List.forall_mem_cons.mpr ⟨ok_aload_n hx hb dk_78_41 rfl,
    List.forall_mem_cons.mpr ⟨ok_getr hx hb hts hown hin_0 rfl (by decide) tw_97 dk_78_42,
    List.forall_mem_cons.mpr ⟨ok_iload_n hx hb dk_78_45 rfl,
    List.forall_mem_cons.mpr ⟨ok_aald hx hb dk_78_46,
    List.forall_mem_cons.mpr ⟨ok_iload hx hb dk_78_47,
    List.forall_mem_cons.mpr ⟨ok_iald hx hb dk_78_49,
    List.forall_mem_cons.mpr ⟨ok_cV hx hb hml hown hts hb1 hb2 hA hroot hAs rfl rfl rfl (hcal_85 hall) tw_180 tw_181 tw_182 tw_183 tw_2 nm_85 rfl rfl (by show d + 8 + 1 ≤ d + 1 + 8; omega) (by show 8 + (3 + 11) + (200 + 60 * d) ≤ 200 + 60 * (d + 1); omega) dk_78_50,
    List.forall_mem_cons.mpr ⟨ok_iadd hx hb dk_78_53,
    List.forall_mem_cons.mpr ⟨ok_istore_n hx hb dk_78_54 rfl (by decide),
    List.forall_mem_cons.mpr ⟨ok_iinc hx hb dk_78_55 rfl (by decide),
    List.forall_mem_cons.mpr ⟨ok_goto hx hb dk_78_58 (by decide),
    List.forall_mem_cons.mpr ⟨ok_iload_n hx hb dk_78_61 rfl,
    List.forall_mem_cons.mpr ⟨ok_iret hx hb hb1 hb2 hr hlocks dk_78_62,
    fun _ h => absurd h List.not_mem_nil⟩⟩⟩⟩⟩⟩⟩⟩⟩⟩⟩⟩⟩⟩⟩⟩⟩⟩⟩⟩⟩⟩⟩⟩⟩⟩⟩⟩⟩⟩⟩⟩⟩⟩⟩⟩⟩⟩
theorem dk_112_0 : decode prog_14_method_103_code 0 = .ok (.iconst (0), 1) := by decide +kernel
theorem dk_112_1 : decode prog_14_method_103_code 1 = .ok (.istore_n 2, 1) := by decide +kernel
theorem dk_112_2 : decode prog_14_method_103_code 2 = .ok (.aload_n 0, 1) := by decide +kernel
theorem dk_112_3 : decode prog_14_method_103_code 3 = .ok (.arraylength, 1) := by decide +kernel
theorem dk_112_4 : decode prog_14_method_103_code 4 = .ok (.istore_n 3, 1) := by decide +kernel
theorem dk_112_5 : decode prog_14_method_103_code 5 = .ok (.iload_n 2, 1) := by decide +kernel
theorem dk_112_6 : decode prog_14_method_103_code 6 = .ok (.iload_n 3, 1) := by decide +kernel
theorem dk_112_7 : decode prog_14_method_103_code 7 = .ok (.if_icmp .ge (13), 3) := by decide +kernel
theorem dk_112_10 : decode prog_14_method_103_code 10 = .ok (.aload_n 0, 1) := by decide +kernel
theorem dk_112_11 : decode prog_14_method_103_code 11 = .ok (.iload_n 2, 1) := by decide +kernel
theorem dk_112_12 : decode prog_14_method_103_code 12 = .ok (.iload_n 1, 1) := by decide +kernel
theorem dk_112_13 : decode prog_14_method_103_code 13 = .ok (.iastore, 1) := by decide +kernel
theorem dk_112_14 : decode prog_14_method_103_code 14 = .ok (.iinc 2 (1), 3) := by decide +kernel
theorem dk_112_17 : decode prog_14_method_103_code 17 = .ok (.goto (-12), 3) := by decide +kernel
theorem dk_112_20 : decode prog_14_method_103_code 20 = .ok (.return_, 1) := by decide +kernel
set_option maxRecDepth 100000 in
set_option maxHeartbeats 4000000 in
theorem cc_112 {l : Launch} {s0 : State} (hst : l.stackTraces = false) (h0 : am_W0 s0) {d : Nat} (hall : ∀ mi ∈ am_idx, am_CC l s0 d mi) : am_CC l s0 (d + 1) 112 :=
  am_method (y := y_112) (cc := prog_14_method_103_code) (maxL := 4) (ret := none) (rm := am_rm (d + 1) 0 0) (ops := op_112) (C := am_T am_tabs am_ar d) (ar := 2) h0 (by decide) (by decide) fun p e s m args below meth c D A bS ad0 Q hct htab => by
    obtain ⟨hx, hb, hml, hown, hts, hb1, hb2, hA, hroot, hAs, -, -, hlocks, hr, hnm⟩ := hct
    exact List.forall_mem_cons.mpr ⟨ok_iconst hx hb dk_112_0 rfl,
    List.forall_mem_cons.mpr ⟨ok_istore_n hx hb dk_112_1 rfl (by decide),
    List.forall_mem_cons.mpr ⟨ok_aload_n hx hb dk_112_2 rfl,
    List.forall_mem_cons.mpr ⟨ok_alen hx hb dk_112_3,
    List.forall_mem_cons.mpr ⟨ok_istore_n hx hb dk_112_4 rfl (by decide),
    List.forall_mem_cons.mpr ⟨ok_iload_n hx hb dk_112_5 rfl,
    List.forall_mem_cons.mpr ⟨ok_iload_n hx hb dk_112_6 rfl,
    List.forall_mem_cons.mpr ⟨ok_icmp_ge hx hb dk_112_7 (by decide),
    List.forall_mem_cons.mpr ⟨ok_aload_n hx hb dk_112_10 rfl,
    List.forall_mem_cons.mpr ⟨ok_iload_n hx hb dk_112_11 rfl,
    List.forall_mem_cons.mpr ⟨ok_iload_n hx hb dk_112_12 rfl,
    List.forall_mem_cons.mpr ⟨ok_iast hx hb dk_112_13,
    List.forall_mem_cons.mpr ⟨ok_iinc hx hb dk_112_14 rfl (by decide),
    List.forall_mem_cons.mpr ⟨ok_goto hx hb dk_112_17 (by decide),
    List.forall_mem_cons.mpr ⟨ok_vret hx hb hb1 hb2 hr hlocks dk_112_20,
    fun _ h => absurd h List.not_mem_nil⟩⟩⟩⟩⟩⟩⟩⟩⟩⟩⟩⟩⟩⟩⟩
