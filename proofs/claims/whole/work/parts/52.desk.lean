/-! contracts: 52.desk (laid by wip/whole/gen.py) -/
theorem dk_0_0 : decode prog_1_method_1_code 0 = .ok (.aload_n 0, 1) := by decide +kernel
theorem dk_0_1 : decode prog_1_method_1_code 1 = .ok (.invokespecial 1, 3) := by decide +kernel
theorem dk_0_4 : decode prog_1_method_1_code 4 = .ok (.aload_n 0, 1) := by decide +kernel
theorem dk_0_5 : decode prog_1_method_1_code 5 = .ok (.new 7, 3) := by decide +kernel
theorem dk_0_8 : decode prog_1_method_1_code 8 = .ok (.dup, 1) := by decide +kernel
theorem dk_0_9 : decode prog_1_method_1_code 9 = .ok (.invokespecial 9, 3) := by decide +kernel
theorem dk_0_12 : decode prog_1_method_1_code 12 = .ok (.putfield 10, 3) := by decide +kernel
theorem dk_0_15 : decode prog_1_method_1_code 15 = .ok (.aload_n 0, 1) := by decide +kernel
theorem dk_0_16 : decode prog_1_method_1_code 16 = .ok (.new 16, 3) := by decide +kernel
theorem dk_0_19 : decode prog_1_method_1_code 19 = .ok (.dup, 1) := by decide +kernel
theorem dk_0_20 : decode prog_1_method_1_code 20 = .ok (.invokespecial 18, 3) := by decide +kernel
theorem dk_0_23 : decode prog_1_method_1_code 23 = .ok (.putfield 19, 3) := by decide +kernel
theorem dk_0_26 : decode prog_1_method_1_code 26 = .ok (.aload_n 0, 1) := by decide +kernel
theorem dk_0_27 : decode prog_1_method_1_code 27 = .ok (.bipush (7), 2) := by decide +kernel
theorem dk_0_29 : decode prog_1_method_1_code 29 = .ok (.newarray .int, 2) := by decide +kernel
theorem dk_0_31 : decode prog_1_method_1_code 31 = .ok (.putfield 23, 3) := by decide +kernel
theorem dk_0_34 : decode prog_1_method_1_code 34 = .ok (.aload_n 0, 1) := by decide +kernel
theorem dk_0_35 : decode prog_1_method_1_code 35 = .ok (.bipush (7), 2) := by decide +kernel
theorem dk_0_37 : decode prog_1_method_1_code 37 = .ok (.newarray .int, 2) := by decide +kernel
theorem dk_0_39 : decode prog_1_method_1_code 39 = .ok (.putfield 27, 3) := by decide +kernel
theorem dk_0_42 : decode prog_1_method_1_code 42 = .ok (.aload_n 0, 1) := by decide +kernel
theorem dk_0_43 : decode prog_1_method_1_code 43 = .ok (.bipush (7), 2) := by decide +kernel
theorem dk_0_45 : decode prog_1_method_1_code 45 = .ok (.newarray .int, 2) := by decide +kernel
theorem dk_0_47 : decode prog_1_method_1_code 47 = .ok (.putfield 30, 3) := by decide +kernel
theorem dk_0_50 : decode prog_1_method_1_code 50 = .ok (.aload_n 0, 1) := by decide +kernel
theorem dk_0_51 : decode prog_1_method_1_code 51 = .ok (.getfield 23, 3) := by decide +kernel
theorem dk_0_54 : decode prog_1_method_1_code 54 = .ok (.iconst (-1), 1) := by decide +kernel
theorem dk_0_55 : decode prog_1_method_1_code 55 = .ok (.invokestatic 33, 3) := by decide +kernel
theorem dk_0_58 : decode prog_1_method_1_code 58 = .ok (.aload_n 0, 1) := by decide +kernel
theorem dk_0_59 : decode prog_1_method_1_code 59 = .ok (.getfield 27, 3) := by decide +kernel
theorem dk_0_62 : decode prog_1_method_1_code 62 = .ok (.iconst (-1), 1) := by decide +kernel
theorem dk_0_63 : decode prog_1_method_1_code 63 = .ok (.invokestatic 33, 3) := by decide +kernel
theorem dk_0_66 : decode prog_1_method_1_code 66 = .ok (.return_, 1) := by decide +kernel
set_option maxRecDepth 100000 in
set_option maxHeartbeats 4000000 in
theorem cc_0 {l : Launch} {s0 : State} (hst : l.stackTraces = false) (h0 : am_W0 s0) {d : Nat} (hall : ∀ mi ∈ am_idx, am_CC l s0 d mi) : am_CC l s0 (d + 1) 0 :=
  am_method (y := y_0) (cc := prog_1_method_1_code) (maxL := 1) (ret := none) (rm := am_rm (d + 1) 33 223) (ops := op_0) (C := am_T am_tabs am_ar d) (ar := 1) h0 (by decide) (by decide) fun p e s m args below meth c D A bS ad0 Q hct htab => by
    obtain ⟨hx, hb, hml, hown, hts, hb1, hb2, hA, hroot, hAs, -, -, hlocks, hr, hnm⟩ := hct
    exact List.forall_mem_cons.mpr ⟨ok_aload_n hx hb dk_0_0 rfl,
    List.forall_mem_cons.mpr ⟨ok_oinit hx hb hts hown hml tw_20 tw_21 tw_22 rfl (by show 1 ≤ d + 1 + 8; omega) (by show 20 ≤ 200 + 60 * (d + 1); omega) dk_0_1,
    List.forall_mem_cons.mpr ⟨ok_aload_n hx hb dk_0_4 rfl,
    List.forall_mem_cons.mpr ⟨ok_new hx hb hts hown hA hin_1 tyF_1 tyF_1_ok rfl tw_23 tw_24 tw_2 rfl (by decide) df_1_ok rfl rfl dk_0_5,
    List.forall_mem_cons.mpr ⟨ok_dup hx hb dk_0_8,
    List.forall_mem_cons.mpr ⟨ok_cI hx hb hml hown hts hb1 hb2 hA hroot hAs rfl rfl rfl (hcal_79 hall) rfl tw_25 tw_26 tw_27 tw_2 nm_79 rfl rfl (by show d + 8 + 1 ≤ d + 1 + 8; omega) (by show 8 + (2 + 11) + (200 + 60 * d) ≤ 200 + 60 * (d + 1); omega) dk_0_9,
    List.forall_mem_cons.mpr ⟨ok_putr hx hb hts hown hin_2 tyF_2 tyF_2_ok nmF_2 rfl (by decide) tw_114 rfl hnm rfl (tyF_2_ok 0 (by decide)) (fun _ => rfl) (fun _ => rfl) dk_0_12,
    List.forall_mem_cons.mpr ⟨ok_aload_n hx hb dk_0_15 rfl,
    List.forall_mem_cons.mpr ⟨ok_new hx hb hts hown hA hin_0 tyF_0 tyF_0_ok rfl tw_90 tw_91 tw_4 rfl (by decide) df_0_ok rfl rfl dk_0_16,
    List.forall_mem_cons.mpr ⟨ok_dup hx hb dk_0_19,
    List.forall_mem_cons.mpr ⟨ok_cI hx hb hml hown hts hb1 hb2 hA hroot hAs rfl rfl rfl (hcal_69 hall) rfl tw_92 tw_93 tw_94 tw_4 nm_69 rfl rfl (by show d + 8 + 1 ≤ d + 1 + 8; omega) (by show 8 + (1 + 11) + (200 + 60 * d) ≤ 200 + 60 * (d + 1); omega) dk_0_20,
    List.forall_mem_cons.mpr ⟨ok_putr hx hb hts hown hin_2 tyF_2 tyF_2_ok nmF_2 rfl (by decide) tw_115 rfl hnm rfl (tyF_2_ok 1 (by decide)) (fun _ => rfl) (fun _ => rfl) dk_0_23,
    List.forall_mem_cons.mpr ⟨ok_aload_n hx hb dk_0_26 rfl,
    List.forall_mem_cons.mpr ⟨ok_bipush hx hb dk_0_27 (by decide),
    List.forall_mem_cons.mpr ⟨ok_newa_int hx hb hts hA tw_89 rfl rfl dk_0_29,
    List.forall_mem_cons.mpr ⟨ok_putr hx hb hts hown hin_2 tyF_2 tyF_2_ok nmF_2 rfl (by decide) tw_116 rfl hnm rfl (tyF_2_ok 2 (by decide)) (fun _ => rfl) (fun _ => rfl) dk_0_31,
    List.forall_mem_cons.mpr ⟨ok_aload_n hx hb dk_0_34 rfl,
    List.forall_mem_cons.mpr ⟨ok_bipush hx hb dk_0_35 (by decide),
    List.forall_mem_cons.mpr ⟨ok_newa_int hx hb hts hA tw_89 rfl rfl dk_0_37,
    List.forall_mem_cons.mpr ⟨ok_putr hx hb hts hown hin_2 tyF_2 tyF_2_ok nmF_2 rfl (by decide) tw_117 rfl hnm rfl (tyF_2_ok 3 (by decide)) (fun _ => rfl) (fun _ => rfl) dk_0_39,
    List.forall_mem_cons.mpr ⟨ok_aload_n hx hb dk_0_42 rfl,
    List.forall_mem_cons.mpr ⟨ok_bipush hx hb dk_0_43 (by decide),
    List.forall_mem_cons.mpr ⟨ok_newa_int hx hb hts hA tw_89 rfl rfl dk_0_45,
    List.forall_mem_cons.mpr ⟨ok_putr hx hb hts hown hin_2 tyF_2 tyF_2_ok nmF_2 rfl (by decide) tw_118 rfl hnm rfl (tyF_2_ok 4 (by decide)) (fun _ => rfl) (fun _ => rfl) dk_0_47,
    List.forall_mem_cons.mpr ⟨ok_aload_n hx hb dk_0_50 rfl,
    List.forall_mem_cons.mpr ⟨ok_getr hx hb hts hown hin_2 rfl (by decide) tw_116 dk_0_51,
    List.forall_mem_cons.mpr ⟨ok_iconst hx hb dk_0_54 rfl,
    List.forall_mem_cons.mpr ⟨ok_cS hx hb hml hown hts hb1 hb2 hA hroot hAs rfl rfl (hcal_112 hall) tw_113 tw_32 tw_33 tw_3 nm_112 rfl rfl (by show d + 8 + 1 ≤ d + 1 + 8; omega) (by show 8 + (4 + 11) + (200 + 60 * d) ≤ 200 + 60 * (d + 1); omega) dk_0_55,
    List.forall_mem_cons.mpr ⟨ok_aload_n hx hb dk_0_58 rfl,
    List.forall_mem_cons.mpr ⟨ok_getr hx hb hts hown hin_2 rfl (by decide) tw_117 dk_0_59,
    List.forall_mem_cons.mpr ⟨ok_iconst hx hb dk_0_62 rfl,
    List.forall_mem_cons.mpr ⟨ok_cS hx hb hml hown hts hb1 hb2 hA hroot hAs rfl rfl (hcal_112 hall) tw_113 tw_32 tw_33 tw_3 nm_112 rfl rfl (by show d + 8 + 1 ≤ d + 1 + 8; omega) (by show 8 + (4 + 11) + (200 + 60 * d) ≤ 200 + 60 * (d + 1); omega) dk_0_63,
    List.forall_mem_cons.mpr ⟨ok_vret hx hb hb1 hb2 hr hlocks dk_0_66,
    fun _ h => absurd h List.not_mem_nil⟩⟩⟩⟩⟩⟩⟩⟩⟩⟩⟩⟩⟩⟩⟩⟩⟩⟩⟩⟩⟩⟩⟩⟩⟩⟩⟩⟩⟩⟩⟩⟩⟩
theorem dk_1_0 : decode prog_1_method_2_code 0 = .ok (.iload_n 1, 1) := by decide +kernel
theorem dk_1_1 : decode prog_1_method_2_code 1 = .ok (.invokestatic 39, 3) := by decide +kernel
theorem dk_1_4 : decode prog_1_method_2_code 4 = .ok (.ifCond .eq (22), 3) := by decide +kernel
theorem dk_1_7 : decode prog_1_method_2_code 7 = .ok (.iload_n 2, 1) := by decide +kernel
theorem dk_1_8 : decode prog_1_method_2_code 8 = .ok (.invokestatic 39, 3) := by decide +kernel
theorem dk_1_11 : decode prog_1_method_2_code 11 = .ok (.ifCond .eq (15), 3) := by decide +kernel
theorem dk_1_14 : decode prog_1_method_2_code 14 = .ok (.iload_n 3, 1) := by decide +kernel
theorem dk_1_15 : decode prog_1_method_2_code 15 = .ok (.bipush (45), 2) := by decide +kernel
theorem dk_1_17 : decode prog_1_method_2_code 17 = .ok (.sipush (300), 3) := by decide +kernel
theorem dk_1_20 : decode prog_1_method_2_code 20 = .ok (.invokestatic 43, 3) := by decide +kernel
theorem dk_1_23 : decode prog_1_method_2_code 23 = .ok (.ifCond .ne (11), 3) := by decide +kernel
theorem dk_1_26 : decode prog_1_method_2_code 26 = .ok (.new 47, 3) := by decide +kernel
theorem dk_1_29 : decode prog_1_method_2_code 29 = .ok (.dup, 1) := by decide +kernel
theorem dk_1_30 : decode prog_1_method_2_code 30 = .ok (.invokespecial 49, 3) := by decide +kernel
theorem dk_1_33 : decode prog_1_method_2_code 33 = .ok (.athrow, 1) := by decide +kernel
theorem dk_1_34 : decode prog_1_method_2_code 34 = .ok (.aload_n 0, 1) := by decide +kernel
theorem dk_1_35 : decode prog_1_method_2_code 35 = .ok (.getfield 10, 3) := by decide +kernel
theorem dk_1_38 : decode prog_1_method_2_code 38 = .ok (.getfield 50, 3) := by decide +kernel
theorem dk_1_41 : decode prog_1_method_2_code 41 = .ok (.iload_n 1, 1) := by decide +kernel
theorem dk_1_42 : decode prog_1_method_2_code 42 = .ok (.aaload, 1) := by decide +kernel
theorem dk_1_43 : decode prog_1_method_2_code 43 = .ok (.iload_n 2, 1) := by decide +kernel
theorem dk_1_44 : decode prog_1_method_2_code 44 = .ok (.iaload, 1) := by decide +kernel
theorem dk_1_45 : decode prog_1_method_2_code 45 = .ok (.istore 4, 2) := by decide +kernel
theorem dk_1_47 : decode prog_1_method_2_code 47 = .ok (.aload_n 0, 1) := by decide +kernel
theorem dk_1_48 : decode prog_1_method_2_code 48 = .ok (.getfield 10, 3) := by decide +kernel
theorem dk_1_51 : decode prog_1_method_2_code 51 = .ok (.getfield 50, 3) := by decide +kernel
theorem dk_1_54 : decode prog_1_method_2_code 54 = .ok (.iload_n 1, 1) := by decide +kernel
theorem dk_1_55 : decode prog_1_method_2_code 55 = .ok (.aaload, 1) := by decide +kernel
theorem dk_1_56 : decode prog_1_method_2_code 56 = .ok (.iload_n 2, 1) := by decide +kernel
theorem dk_1_57 : decode prog_1_method_2_code 57 = .ok (.iload_n 3, 1) := by decide +kernel
theorem dk_1_58 : decode prog_1_method_2_code 58 = .ok (.iastore, 1) := by decide +kernel
theorem dk_1_59 : decode prog_1_method_2_code 59 = .ok (.iload 4, 2) := by decide +kernel
theorem dk_1_61 : decode prog_1_method_2_code 61 = .ok (.ireturn, 1) := by decide +kernel
set_option maxRecDepth 100000 in
set_option maxHeartbeats 4000000 in
theorem cc_1 {l : Launch} {s0 : State} (hst : l.stackTraces = false) (h0 : am_W0 s0) {d : Nat} (hall : ∀ mi ∈ am_idx, am_CC l s0 d mi) : am_CC l s0 (d + 1) 1 :=
  am_method (y := y_1) (cc := prog_1_method_2_code) (maxL := 5) (ret := (some .int)) (rm := am_rm (d + 1) 1 6) (ops := op_1) (C := am_T am_tabs am_ar d) (ar := 4) h0 (by decide) (by decide) fun p e s m args below meth c D A bS ad0 Q hct htab => by
    obtain ⟨hx, hb, hml, hown, hts, hb1, hb2, hA, hroot, hAs, -, -, hlocks, hr, hnm⟩ := hct
    exact List.forall_mem_cons.mpr ⟨ok_iload_n hx hb dk_1_0 rfl,
    List.forall_mem_cons.mpr ⟨ok_cS hx hb hml hown hts hb1 hb2 hA hroot hAs rfl rfl (hcal_28 hall) tw_278 tw_279 tw_280 tw_1 nm_28 rfl rfl (by show d + 8 + 1 ≤ d + 1 + 8; omega) (by show 8 + (1 + 11) + (200 + 60 * d) ≤ 200 + 60 * (d + 1); omega) dk_1_1,
    List.forall_mem_cons.mpr ⟨ok_if_eq hx hb dk_1_4 (by decide),
    List.forall_mem_cons.mpr ⟨ok_iload_n hx hb dk_1_7 rfl,
    List.forall_mem_cons.mpr ⟨ok_cS hx hb hml hown hts hb1 hb2 hA hroot hAs rfl rfl (hcal_28 hall) tw_278 tw_279 tw_280 tw_1 nm_28 rfl rfl (by show d + 8 + 1 ≤ d + 1 + 8; omega) (by show 8 + (1 + 11) + (200 + 60 * d) ≤ 200 + 60 * (d + 1); omega) dk_1_8,
    List.forall_mem_cons.mpr ⟨ok_if_eq hx hb dk_1_11 (by decide),
    List.forall_mem_cons.mpr ⟨ok_iload_n hx hb dk_1_14 rfl,
    List.forall_mem_cons.mpr ⟨ok_bipush hx hb dk_1_15 (by decide),
    List.forall_mem_cons.mpr ⟨ok_sipush hx hb dk_1_17 (by decide),
    List.forall_mem_cons.mpr ⟨ok_cS hx hb hml hown hts hb1 hb2 hA hroot hAs rfl rfl (hcal_27 hall) tw_281 tw_232 tw_233 tw_1 nm_27 rfl rfl (by show d + 8 + 1 ≤ d + 1 + 8; omega) (by show 8 + (3 + 11) + (200 + 60 * d) ≤ 200 + 60 * (d + 1); omega) dk_1_20,
    List.forall_mem_cons.mpr ⟨ok_if_ne hx hb dk_1_23 (by decide),
    List.forall_mem_cons.mpr ⟨ok_throw (names := ["java/lang/RuntimeException", "java/lang/Exception"]) hx hb hst (fun U hU => am_hts h0 hU) hown hml hlocks htab rfl rfl hb1 hb2 hroot hAs rfl (by decide) (by decide) tw_282 tw_9 tw_283 (fun U hU => am_own0 h0 hU) (by show 2 + 3 < d + 1 + 8; omega) (by show 8 + (13 * 3 + 42) ≤ 200 + 60 * (d + 1); omega) dk_1_26 dk_1_29 dk_1_30 dk_1_33,
    List.forall_mem_cons.mpr ⟨ok_aload_n hx hb dk_1_34 rfl,
    List.forall_mem_cons.mpr ⟨ok_getr hx hb hts hown hin_2 rfl (by decide) tw_114 dk_1_35,
    List.forall_mem_cons.mpr ⟨ok_getr hx hb hts hown hin_1 rfl (by decide) tw_52 dk_1_38,
    List.forall_mem_cons.mpr ⟨ok_iload_n hx hb dk_1_41 rfl,
    List.forall_mem_cons.mpr ⟨ok_aald hx hb dk_1_42,
    List.forall_mem_cons.mpr ⟨ok_iload_n hx hb dk_1_43 rfl,
    List.forall_mem_cons.mpr ⟨ok_iald hx hb dk_1_44,
    List.forall_mem_cons.mpr ⟨ok_istore hx hb dk_1_45 (by decide),
    List.forall_mem_cons.mpr ⟨ok_aload_n hx hb dk_1_47 rfl,
    List.forall_mem_cons.mpr ⟨ok_getr hx hb hts hown hin_2 rfl (by decide) tw_114 dk_1_48,
    List.forall_mem_cons.mpr ⟨ok_getr hx hb hts hown hin_1 rfl (by decide) tw_52 dk_1_51,
    List.forall_mem_cons.mpr ⟨ok_iload_n hx hb dk_1_54 rfl,
    List.forall_mem_cons.mpr ⟨ok_aald hx hb dk_1_55,
    List.forall_mem_cons.mpr ⟨ok_iload_n hx hb dk_1_56 rfl,
    List.forall_mem_cons.mpr ⟨ok_iload_n hx hb dk_1_57 rfl,
    List.forall_mem_cons.mpr ⟨ok_iast hx hb dk_1_58,
    List.forall_mem_cons.mpr ⟨ok_iload hx hb dk_1_59,
    List.forall_mem_cons.mpr ⟨ok_iret hx hb hb1 hb2 hr hlocks dk_1_61,
    fun _ h => absurd h List.not_mem_nil⟩⟩⟩⟩⟩⟩⟩⟩⟩⟩⟩⟩⟩⟩⟩⟩⟩⟩⟩⟩⟩⟩⟩⟩⟩⟩⟩⟩⟩⟩
theorem dk_2_0 : decode prog_1_method_3_code 0 = .ok (.iconst (0), 1) := by decide +kernel
theorem dk_2_1 : decode prog_1_method_3_code 1 = .ok (.iload_n 2, 1) := by decide +kernel
theorem dk_2_2 : decode prog_1_method_3_code 2 = .ok (.if_icmp .gt (25), 3) := by decide +kernel
theorem dk_2_5 : decode prog_1_method_3_code 5 = .ok (.iload 4, 2) := by decide +kernel
theorem dk_2_7 : decode prog_1_method_3_code 7 = .ok (.sipush (3000), 3) := by decide +kernel
theorem dk_2_10 : decode prog_1_method_3_code 10 = .ok (.if_icmp .gt (17), 3) := by decide +kernel
theorem dk_2_13 : decode prog_1_method_3_code 13 = .ok (.iload_n 3, 1) := by decide +kernel
theorem dk_2_14 : decode prog_1_method_3_code 14 = .ok (.iload_n 2, 1) := by decide +kernel
theorem dk_2_15 : decode prog_1_method_3_code 15 = .ok (.iload 4, 2) := by decide +kernel
theorem dk_2_17 : decode prog_1_method_3_code 17 = .ok (.invokestatic 43, 3) := by decide +kernel
theorem dk_2_20 : decode prog_1_method_3_code 20 = .ok (.ifCond .eq (7), 3) := by decide +kernel
theorem dk_2_23 : decode prog_1_method_3_code 23 = .ok (.iconst (1), 1) := by decide +kernel
theorem dk_2_24 : decode prog_1_method_3_code 24 = .ok (.goto (4), 3) := by decide +kernel
theorem dk_2_27 : decode prog_1_method_3_code 27 = .ok (.iconst (0), 1) := by decide +kernel
theorem dk_2_28 : decode prog_1_method_3_code 28 = .ok (.istore 6, 2) := by decide +kernel
theorem dk_2_30 : decode prog_1_method_3_code 30 = .ok (.iload_n 1, 1) := by decide +kernel
theorem dk_2_31 : decode prog_1_method_3_code 31 = .ok (.invokestatic 39, 3) := by decide +kernel
theorem dk_2_34 : decode prog_1_method_3_code 34 = .ok (.ifCond .eq (19), 3) := by decide +kernel
theorem dk_2_37 : decode prog_1_method_3_code 37 = .ok (.iload 6, 2) := by decide +kernel
theorem dk_2_39 : decode prog_1_method_3_code 39 = .ok (.ifCond .eq (14), 3) := by decide +kernel
theorem dk_2_42 : decode prog_1_method_3_code 42 = .ok (.iload 5, 2) := by decide +kernel
theorem dk_2_44 : decode prog_1_method_3_code 44 = .ok (.iconst (0), 1) := by decide +kernel
theorem dk_2_45 : decode prog_1_method_3_code 45 = .ok (.bipush (100), 2) := by decide +kernel
theorem dk_2_47 : decode prog_1_method_3_code 47 = .ok (.invokestatic 43, 3) := by decide +kernel
theorem dk_2_50 : decode prog_1_method_3_code 50 = .ok (.ifCond .ne (11), 3) := by decide +kernel
theorem dk_2_53 : decode prog_1_method_3_code 53 = .ok (.new 47, 3) := by decide +kernel
theorem dk_2_56 : decode prog_1_method_3_code 56 = .ok (.dup, 1) := by decide +kernel
theorem dk_2_57 : decode prog_1_method_3_code 57 = .ok (.invokespecial 49, 3) := by decide +kernel
theorem dk_2_60 : decode prog_1_method_3_code 60 = .ok (.athrow, 1) := by decide +kernel
theorem dk_2_61 : decode prog_1_method_3_code 61 = .ok (.aload_n 0, 1) := by decide +kernel
theorem dk_2_62 : decode prog_1_method_3_code 62 = .ok (.getfield 10, 3) := by decide +kernel
theorem dk_2_65 : decode prog_1_method_3_code 65 = .ok (.invokevirtual 54, 3) := by decide +kernel
theorem dk_2_68 : decode prog_1_method_3_code 68 = .ok (.istore 7, 2) := by decide +kernel
theorem dk_2_70 : decode prog_1_method_3_code 70 = .ok (.iload 7, 2) := by decide +kernel
theorem dk_2_72 : decode prog_1_method_3_code 72 = .ok (.iconst (-1), 1) := by decide +kernel
theorem dk_2_73 : decode prog_1_method_3_code 73 = .ok (.if_icmp .ne (11), 3) := by decide +kernel
theorem dk_2_76 : decode prog_1_method_3_code 76 = .ok (.new 58, 3) := by decide +kernel
theorem dk_2_79 : decode prog_1_method_3_code 79 = .ok (.dup, 1) := by decide +kernel
theorem dk_2_80 : decode prog_1_method_3_code 80 = .ok (.invokespecial 60, 3) := by decide +kernel
theorem dk_2_83 : decode prog_1_method_3_code 83 = .ok (.athrow, 1) := by decide +kernel
theorem dk_2_84 : decode prog_1_method_3_code 84 = .ok (.aload_n 0, 1) := by decide +kernel
theorem dk_2_85 : decode prog_1_method_3_code 85 = .ok (.getfield 10, 3) := by decide +kernel
theorem dk_2_88 : decode prog_1_method_3_code 88 = .ok (.getfield 61, 3) := by decide +kernel
theorem dk_2_91 : decode prog_1_method_3_code 91 = .ok (.iload 7, 2) := by decide +kernel
theorem dk_2_93 : decode prog_1_method_3_code 93 = .ok (.iconst (1), 1) := by decide +kernel
theorem dk_2_94 : decode prog_1_method_3_code 94 = .ok (.bastore, 1) := by decide +kernel
theorem dk_2_95 : decode prog_1_method_3_code 95 = .ok (.aload_n 0, 1) := by decide +kernel
theorem dk_2_96 : decode prog_1_method_3_code 96 = .ok (.getfield 10, 3) := by decide +kernel
theorem dk_2_99 : decode prog_1_method_3_code 99 = .ok (.getfield 65, 3) := by decide +kernel
theorem dk_2_102 : decode prog_1_method_3_code 102 = .ok (.iload 7, 2) := by decide +kernel
theorem dk_2_104 : decode prog_1_method_3_code 104 = .ok (.iload_n 1, 1) := by decide +kernel
theorem dk_2_105 : decode prog_1_method_3_code 105 = .ok (.iastore, 1) := by decide +kernel
theorem dk_2_106 : decode prog_1_method_3_code 106 = .ok (.aload_n 0, 1) := by decide +kernel
theorem dk_2_107 : decode prog_1_method_3_code 107 = .ok (.getfield 10, 3) := by decide +kernel
theorem dk_2_110 : decode prog_1_method_3_code 110 = .ok (.getfield 68, 3) := by decide +kernel
theorem dk_2_113 : decode prog_1_method_3_code 113 = .ok (.iload 7, 2) := by decide +kernel
theorem dk_2_115 : decode prog_1_method_3_code 115 = .ok (.iload_n 2, 1) := by decide +kernel
theorem dk_2_116 : decode prog_1_method_3_code 116 = .ok (.iastore, 1) := by decide +kernel
theorem dk_2_117 : decode prog_1_method_3_code 117 = .ok (.aload_n 0, 1) := by decide +kernel
theorem dk_2_118 : decode prog_1_method_3_code 118 = .ok (.getfield 10, 3) := by decide +kernel
theorem dk_2_121 : decode prog_1_method_3_code 121 = .ok (.getfield 71, 3) := by decide +kernel
theorem dk_2_124 : decode prog_1_method_3_code 124 = .ok (.iload 7, 2) := by decide +kernel
theorem dk_2_126 : decode prog_1_method_3_code 126 = .ok (.iload_n 3, 1) := by decide +kernel
theorem dk_2_127 : decode prog_1_method_3_code 127 = .ok (.iastore, 1) := by decide +kernel
theorem dk_2_128 : decode prog_1_method_3_code 128 = .ok (.aload_n 0, 1) := by decide +kernel
theorem dk_2_129 : decode prog_1_method_3_code 129 = .ok (.getfield 10, 3) := by decide +kernel
theorem dk_2_132 : decode prog_1_method_3_code 132 = .ok (.getfield 74, 3) := by decide +kernel
theorem dk_2_135 : decode prog_1_method_3_code 135 = .ok (.iload 7, 2) := by decide +kernel
theorem dk_2_137 : decode prog_1_method_3_code 137 = .ok (.iload 4, 2) := by decide +kernel
theorem dk_2_139 : decode prog_1_method_3_code 139 = .ok (.iastore, 1) := by decide +kernel
theorem dk_2_140 : decode prog_1_method_3_code 140 = .ok (.aload_n 0, 1) := by decide +kernel
theorem dk_2_141 : decode prog_1_method_3_code 141 = .ok (.getfield 10, 3) := by decide +kernel
theorem dk_2_144 : decode prog_1_method_3_code 144 = .ok (.getfield 77, 3) := by decide +kernel
theorem dk_2_147 : decode prog_1_method_3_code 147 = .ok (.iload 7, 2) := by decide +kernel
theorem dk_2_149 : decode prog_1_method_3_code 149 = .ok (.iload 5, 2) := by decide +kernel
theorem dk_2_151 : decode prog_1_method_3_code 151 = .ok (.iastore, 1) := by decide +kernel
theorem dk_2_152 : decode prog_1_method_3_code 152 = .ok (.aload_n 0, 1) := by decide +kernel
theorem dk_2_153 : decode prog_1_method_3_code 153 = .ok (.getfield 10, 3) := by decide +kernel
theorem dk_2_156 : decode prog_1_method_3_code 156 = .ok (.getfield 80, 3) := by decide +kernel
theorem dk_2_159 : decode prog_1_method_3_code 159 = .ok (.iload 7, 2) := by decide +kernel
theorem dk_2_161 : decode prog_1_method_3_code 161 = .ok (.iconst (-1), 1) := by decide +kernel
theorem dk_2_162 : decode prog_1_method_3_code 162 = .ok (.iastore, 1) := by decide +kernel
theorem dk_2_163 : decode prog_1_method_3_code 163 = .ok (.aload_n 0, 1) := by decide +kernel
theorem dk_2_164 : decode prog_1_method_3_code 164 = .ok (.getfield 10, 3) := by decide +kernel
theorem dk_2_167 : decode prog_1_method_3_code 167 = .ok (.dup, 1) := by decide +kernel
theorem dk_2_168 : decode prog_1_method_3_code 168 = .ok (.getfield 83, 3) := by decide +kernel
theorem dk_2_171 : decode prog_1_method_3_code 171 = .ok (.iconst (1), 1) := by decide +kernel
theorem dk_2_172 : decode prog_1_method_3_code 172 = .ok (.iadd, 1) := by decide +kernel
theorem dk_2_173 : decode prog_1_method_3_code 173 = .ok (.putfield 83, 3) := by decide +kernel
theorem dk_2_176 : decode prog_1_method_3_code 176 = .ok (.iload 7, 2) := by decide +kernel
theorem dk_2_178 : decode prog_1_method_3_code 178 = .ok (.ireturn, 1) := by decide +kernel
set_option maxRecDepth 100000 in
set_option maxHeartbeats 4000000 in
theorem cc_2 {l : Launch} {s0 : State} (hst : l.stackTraces = false) (h0 : am_W0 s0) {d : Nat} (hall : ∀ mi ∈ am_idx, am_CC l s0 d mi) : am_CC l s0 (d + 1) 2 :=
  am_method (y := y_2) (cc := prog_1_method_3_code) (maxL := 8) (ret := (some .int)) (rm := am_rm (d + 1) 2 12) (ops := op_2) (C := am_T am_tabs am_ar d) (ar := 6) h0 (by decide) (by decide) fun p e s m args below meth c D A bS ad0 Q hct htab => by
    obtain ⟨hx, hb, hml, hown, hts, hb1, hb2, hA, hroot, hAs, -, -, hlocks, hr, hnm⟩ := hct
    exact List.forall_mem_cons.mpr ⟨ok_iconst hx hb dk_2_0 rfl,
    List.forall_mem_cons.mpr ⟨ok_iload_n hx hb dk_2_1 rfl,
    List.forall_mem_cons.mpr ⟨ok_icmp_gt hx hb dk_2_2 (by decide),
    List.forall_mem_cons.mpr ⟨ok_iload hx hb dk_2_5,
    List.forall_mem_cons.mpr ⟨ok_sipush hx hb dk_2_7 (by decide),
    List.forall_mem_cons.mpr ⟨ok_icmp_gt hx hb dk_2_10 (by decide),
    List.forall_mem_cons.mpr ⟨ok_iload_n hx hb dk_2_13 rfl,
    List.forall_mem_cons.mpr ⟨ok_iload_n hx hb dk_2_14 rfl,
    List.forall_mem_cons.mpr ⟨ok_iload hx hb dk_2_15,
    List.forall_mem_cons.mpr ⟨ok_cS hx hb hml hown hts hb1 hb2 hA hroot hAs rfl rfl (hcal_27 hall) tw_281 tw_232 tw_233 tw_1 nm_27 rfl rfl (by show d + 8 + 1 ≤ d + 1 + 8; omega) (by show 8 + (3 + 11) + (200 + 60 * d) ≤ 200 + 60 * (d + 1); omega) dk_2_17,
    List.forall_mem_cons.mpr ⟨ok_if_eq hx hb dk_2_20 (by decide),
    List.forall_mem_cons.mpr ⟨ok_iconst hx hb dk_2_23 rfl,
    List.forall_mem_cons.mpr ⟨ok_goto hx hb dk_2_24 (by decide),
    List.forall_mem_cons.mpr ⟨ok_iconst hx hb dk_2_27 rfl,
    List.forall_mem_cons.mpr ⟨ok_istore hx hb dk_2_28 (by decide),
    List.forall_mem_cons.mpr ⟨ok_iload_n hx hb dk_2_30 rfl,
    List.forall_mem_cons.mpr ⟨ok_cS hx hb hml hown hts hb1 hb2 hA hroot hAs rfl rfl (hcal_28 hall) tw_278 tw_279 tw_280 tw_1 nm_28 rfl rfl (by show d + 8 + 1 ≤ d + 1 + 8; omega) (by show 8 + (1 + 11) + (200 + 60 * d) ≤ 200 + 60 * (d + 1); omega) dk_2_31,
    List.forall_mem_cons.mpr ⟨ok_if_eq hx hb dk_2_34 (by decide),
    List.forall_mem_cons.mpr ⟨ok_iload hx hb dk_2_37,
    List.forall_mem_cons.mpr ⟨ok_if_eq hx hb dk_2_39 (by decide),
    List.forall_mem_cons.mpr ⟨ok_iload hx hb dk_2_42,
    List.forall_mem_cons.mpr ⟨ok_iconst hx hb dk_2_44 rfl,
    List.forall_mem_cons.mpr ⟨ok_bipush hx hb dk_2_45 (by decide),
    List.forall_mem_cons.mpr ⟨ok_cS hx hb hml hown hts hb1 hb2 hA hroot hAs rfl rfl (hcal_27 hall) tw_281 tw_232 tw_233 tw_1 nm_27 rfl rfl (by show d + 8 + 1 ≤ d + 1 + 8; omega) (by show 8 + (3 + 11) + (200 + 60 * d) ≤ 200 + 60 * (d + 1); omega) dk_2_47,
    List.forall_mem_cons.mpr ⟨ok_if_ne hx hb dk_2_50 (by decide),
    List.forall_mem_cons.mpr ⟨ok_throw (names := ["java/lang/RuntimeException", "java/lang/Exception"]) hx hb hst (fun U hU => am_hts h0 hU) hown hml hlocks htab rfl rfl hb1 hb2 hroot hAs rfl (by decide) (by decide) tw_282 tw_9 tw_283 (fun U hU => am_own0 h0 hU) (by show 2 + 3 < d + 1 + 8; omega) (by show 8 + (13 * 3 + 42) ≤ 200 + 60 * (d + 1); omega) dk_2_53 dk_2_56 dk_2_57 dk_2_60,
    List.forall_mem_cons.mpr ⟨ok_aload_n hx hb dk_2_61 rfl,
    List.forall_mem_cons.mpr ⟨ok_getr hx hb hts hown hin_2 rfl (by decide) tw_114 dk_2_62,
    List.forall_mem_cons.mpr ⟨ok_cV hx hb hml hown hts hb1 hb2 hA hroot hAs rfl rfl rfl (hcal_81 hall) tw_354 tw_355 tw_356 tw_357 tw_2 nm_81 rfl rfl (by show d + 8 + 1 ≤ d + 1 + 8; omega) (by show 8 + (2 + 11) + (200 + 60 * d) ≤ 200 + 60 * (d + 1); omega) dk_2_65,
    List.forall_mem_cons.mpr ⟨ok_istore hx hb dk_2_68 (by decide),
    List.forall_mem_cons.mpr ⟨ok_iload hx hb dk_2_70,
    List.forall_mem_cons.mpr ⟨ok_iconst hx hb dk_2_72 rfl,
    List.forall_mem_cons.mpr ⟨ok_icmp_ne hx hb dk_2_73 (by decide),
    List.forall_mem_cons.mpr ⟨ok_throw (names := ["java/lang/RuntimeException", "java/lang/Exception"]) hx hb hst (fun U hU => am_hts h0 hU) hown hml hlocks htab rfl rfl hb1 hb2 hroot hAs rfl (by decide) (by decide) tw_358 tw_10 tw_359 (fun U hU => am_own1 h0 hU) (by show 2 + 3 < d + 1 + 8; omega) (by show 8 + (13 * 3 + 42) ≤ 200 + 60 * (d + 1); omega) dk_2_76 dk_2_79 dk_2_80 dk_2_83,
    List.forall_mem_cons.mpr ⟨ok_aload_n hx hb dk_2_84 rfl,
    List.forall_mem_cons.mpr ⟨ok_getr hx hb hts hown hin_2 rfl (by decide) tw_114 dk_2_85,
    List.forall_mem_cons.mpr ⟨ok_getr hx hb hts hown hin_1 rfl (by decide) tw_35 dk_2_88,
    List.forall_mem_cons.mpr ⟨ok_iload hx hb dk_2_91,
    List.forall_mem_cons.mpr ⟨ok_iconst hx hb dk_2_93 rfl,
    List.forall_mem_cons.mpr ⟨ok_zast hx hb dk_2_94,
    List.forall_mem_cons.mpr ⟨ok_aload_n hx hb dk_2_95 rfl,
    List.forall_mem_cons.mpr ⟨ok_getr hx hb hts hown hin_2 rfl (by decide) tw_114 dk_2_96,
    List.forall_mem_cons.mpr ⟨ok_getr hx hb hts hown hin_1 rfl (by decide) tw_38 dk_2_99,
    List.forall_mem_cons.mpr ⟨ok_iload hx hb dk_2_102,
    List.forall_mem_cons.mpr ⟨ok_iload_n hx hb dk_2_104 rfl,
    List.forall_mem_cons.mpr ⟨ok_iast hx hb dk_2_105,
    List.forall_mem_cons.mpr ⟨ok_aload_n hx hb dk_2_106 rfl,
    List.forall_mem_cons.mpr ⟨ok_getr hx hb hts hown hin_2 rfl (by decide) tw_114 dk_2_107,
    List.forall_mem_cons.mpr ⟨ok_getr hx hb hts hown hin_1 rfl (by decide) tw_40 dk_2_110,
    List.forall_mem_cons.mpr ⟨ok_iload hx hb dk_2_113,
    List.forall_mem_cons.mpr ⟨ok_iload_n hx hb dk_2_115 rfl,
    List.forall_mem_cons.mpr ⟨ok_iast hx hb dk_2_116,
    List.forall_mem_cons.mpr ⟨ok_aload_n hx hb dk_2_117 rfl,
    List.forall_mem_cons.mpr ⟨ok_getr hx hb hts hown hin_2 rfl (by decide) tw_114 dk_2_118,
    List.forall_mem_cons.mpr ⟨ok_getr hx hb hts hown hin_1 rfl (by decide) tw_42 dk_2_121,
    List.forall_mem_cons.mpr ⟨ok_iload hx hb dk_2_124,
    List.forall_mem_cons.mpr ⟨ok_iload_n hx hb dk_2_126 rfl,
    List.forall_mem_cons.mpr ⟨ok_iast hx hb dk_2_127,
    List.forall_mem_cons.mpr ⟨ok_aload_n hx hb dk_2_128 rfl,
    List.forall_mem_cons.mpr ⟨ok_getr hx hb hts hown hin_2 rfl (by decide) tw_114 dk_2_129,
    List.forall_mem_cons.mpr ⟨ok_getr hx hb hts hown hin_1 rfl (by decide) tw_44 dk_2_132,
    List.forall_mem_cons.mpr ⟨ok_iload hx hb dk_2_135,
    List.forall_mem_cons.mpr ⟨ok_iload hx hb dk_2_137,
    List.forall_mem_cons.mpr ⟨ok_iast hx hb dk_2_139,
    List.forall_mem_cons.mpr ⟨ok_aload_n hx hb dk_2_140 rfl,
    List.forall_mem_cons.mpr ⟨ok_getr hx hb hts hown hin_2 rfl (by decide) tw_114 dk_2_141,
    List.forall_mem_cons.mpr ⟨ok_getr hx hb hts hown hin_1 rfl (by decide) tw_46 dk_2_144,
    List.forall_mem_cons.mpr ⟨ok_iload hx hb dk_2_147,
    List.forall_mem_cons.mpr ⟨ok_iload hx hb dk_2_149,
    List.forall_mem_cons.mpr ⟨ok_iast hx hb dk_2_151,
    List.forall_mem_cons.mpr ⟨ok_aload_n hx hb dk_2_152 rfl,
    List.forall_mem_cons.mpr ⟨ok_getr hx hb hts hown hin_2 rfl (by decide) tw_114 dk_2_153,
    List.forall_mem_cons.mpr ⟨ok_getr hx hb hts hown hin_1 rfl (by decide) tw_48 dk_2_156,
    List.forall_mem_cons.mpr ⟨ok_iload hx hb dk_2_159,
    List.forall_mem_cons.mpr ⟨ok_iconst hx hb dk_2_161 rfl,
    List.forall_mem_cons.mpr ⟨ok_iast hx hb dk_2_162,
    List.forall_mem_cons.mpr ⟨ok_aload_n hx hb dk_2_163 rfl,
    List.forall_mem_cons.mpr ⟨ok_getr hx hb hts hown hin_2 rfl (by decide) tw_114 dk_2_164,
    List.forall_mem_cons.mpr ⟨ok_dup hx hb dk_2_167,
    List.forall_mem_cons.mpr ⟨ok_geti hx hb hts hown hin_1 rfl (by decide) tw_50 dk_2_168,
    List.forall_mem_cons.mpr ⟨ok_iconst hx hb dk_2_171 rfl,
    List.forall_mem_cons.mpr ⟨ok_iadd hx hb dk_2_172,
    List.forall_mem_cons.mpr ⟨ok_puti hx hb hts hown hin_1 tyF_1 tyF_1_ok nmF_1 rfl (by decide) tw_50 rfl (by decide +kernel) dk_2_173,
    List.forall_mem_cons.mpr ⟨ok_iload hx hb dk_2_176,
    List.forall_mem_cons.mpr ⟨ok_iret hx hb hb1 hb2 hr hlocks dk_2_178,
    fun _ h => absurd h List.not_mem_nil⟩⟩⟩⟩⟩⟩⟩⟩⟩⟩⟩⟩⟩⟩⟩⟩⟩⟩⟩⟩⟩⟩⟩⟩⟩⟩⟩⟩⟩⟩⟩⟩⟩⟩⟩⟩⟩⟩⟩⟩⟩⟩⟩⟩⟩⟩⟩⟩⟩⟩⟩⟩⟩⟩⟩⟩⟩⟩⟩⟩⟩⟩⟩⟩⟩⟩⟩⟩⟩⟩⟩⟩⟩⟩⟩⟩⟩⟩⟩⟩⟩⟩⟩⟩⟩
theorem dk_3_0 : decode prog_1_method_4_code 0 = .ok (.aload_n 0, 1) := by decide +kernel
theorem dk_3_1 : decode prog_1_method_4_code 1 = .ok (.iload_n 1, 1) := by decide +kernel
theorem dk_3_2 : decode prog_1_method_4_code 2 = .ok (.invokevirtual 87, 3) := by decide +kernel
theorem dk_3_5 : decode prog_1_method_4_code 5 = .ok (.aload_n 0, 1) := by decide +kernel
theorem dk_3_6 : decode prog_1_method_4_code 6 = .ok (.getfield 10, 3) := by decide +kernel
theorem dk_3_9 : decode prog_1_method_4_code 9 = .ok (.getfield 61, 3) := by decide +kernel
theorem dk_3_12 : decode prog_1_method_4_code 12 = .ok (.iload_n 1, 1) := by decide +kernel
theorem dk_3_13 : decode prog_1_method_4_code 13 = .ok (.iconst (0), 1) := by decide +kernel
theorem dk_3_14 : decode prog_1_method_4_code 14 = .ok (.bastore, 1) := by decide +kernel
theorem dk_3_15 : decode prog_1_method_4_code 15 = .ok (.aload_n 0, 1) := by decide +kernel
theorem dk_3_16 : decode prog_1_method_4_code 16 = .ok (.getfield 10, 3) := by decide +kernel
theorem dk_3_19 : decode prog_1_method_4_code 19 = .ok (.dup, 1) := by decide +kernel
theorem dk_3_20 : decode prog_1_method_4_code 20 = .ok (.getfield 83, 3) := by decide +kernel
theorem dk_3_23 : decode prog_1_method_4_code 23 = .ok (.iconst (1), 1) := by decide +kernel
theorem dk_3_24 : decode prog_1_method_4_code 24 = .ok (.isub, 1) := by decide +kernel
theorem dk_3_25 : decode prog_1_method_4_code 25 = .ok (.putfield 83, 3) := by decide +kernel
theorem dk_3_28 : decode prog_1_method_4_code 28 = .ok (.aload_n 0, 1) := by decide +kernel
theorem dk_3_29 : decode prog_1_method_4_code 29 = .ok (.getfield 23, 3) := by decide +kernel
theorem dk_3_32 : decode prog_1_method_4_code 32 = .ok (.iload_n 1, 1) := by decide +kernel
theorem dk_3_33 : decode prog_1_method_4_code 33 = .ok (.iconst (-1), 1) := by decide +kernel
theorem dk_3_34 : decode prog_1_method_4_code 34 = .ok (.iastore, 1) := by decide +kernel
theorem dk_3_35 : decode prog_1_method_4_code 35 = .ok (.aload_n 0, 1) := by decide +kernel
theorem dk_3_36 : decode prog_1_method_4_code 36 = .ok (.getfield 27, 3) := by decide +kernel
theorem dk_3_39 : decode prog_1_method_4_code 39 = .ok (.iload_n 1, 1) := by decide +kernel
theorem dk_3_40 : decode prog_1_method_4_code 40 = .ok (.iconst (-1), 1) := by decide +kernel
theorem dk_3_41 : decode prog_1_method_4_code 41 = .ok (.iastore, 1) := by decide +kernel
theorem dk_3_42 : decode prog_1_method_4_code 42 = .ok (.aload_n 0, 1) := by decide +kernel
theorem dk_3_43 : decode prog_1_method_4_code 43 = .ok (.getfield 10, 3) := by decide +kernel
theorem dk_3_46 : decode prog_1_method_4_code 46 = .ok (.getfield 83, 3) := by decide +kernel
theorem dk_3_49 : decode prog_1_method_4_code 49 = .ok (.ireturn, 1) := by decide +kernel
set_option maxRecDepth 100000 in
set_option maxHeartbeats 4000000 in
theorem cc_3 {l : Launch} {s0 : State} (hst : l.stackTraces = false) (h0 : am_W0 s0) {d : Nat} (hall : ∀ mi ∈ am_idx, am_CC l s0 d mi) : am_CC l s0 (d + 1) 3 :=
  am_method (y := y_3) (cc := prog_1_method_4_code) (maxL := 2) (ret := (some .int)) (rm := am_rm (d + 1) 1 6) (ops := op_3) (C := am_T am_tabs am_ar d) (ar := 2) h0 (by decide) (by decide) fun p e s m args below meth c D A bS ad0 Q hct htab => by
    obtain ⟨hx, hb, hml, hown, hts, hb1, hb2, hA, hroot, hAs, -, -, hlocks, hr, hnm⟩ := hct
    exact List.forall_mem_cons.mpr ⟨ok_aload_n hx hb dk_3_0 rfl,
    List.forall_mem_cons.mpr ⟨ok_iload_n hx hb dk_3_1 rfl,
    List.forall_mem_cons.mpr ⟨ok_cX hx hb hml hown hts hb1 hb2 hA hroot hAs rfl rfl hlocks htab rfl (hcal_21 hall) tw_381 tw_383 ts_11 tw_384 tw_1 nm_21 rfl rfl (by show d + 8 + 1 ≤ d + 1 + 8; omega) (by show 8 + (2 + 11) + (200 + 60 * d) ≤ 200 + 60 * (d + 1); omega) dk_3_2,
    List.forall_mem_cons.mpr ⟨ok_aload_n hx hb dk_3_5 rfl,
    List.forall_mem_cons.mpr ⟨ok_getr hx hb hts hown hin_2 rfl (by decide) tw_114 dk_3_6,
    List.forall_mem_cons.mpr ⟨ok_getr hx hb hts hown hin_1 rfl (by decide) tw_35 dk_3_9,
    List.forall_mem_cons.mpr ⟨ok_iload_n hx hb dk_3_12 rfl,
    List.forall_mem_cons.mpr ⟨ok_iconst hx hb dk_3_13 rfl,
    List.forall_mem_cons.mpr ⟨ok_zast hx hb dk_3_14,
    List.forall_mem_cons.mpr ⟨ok_aload_n hx hb dk_3_15 rfl,
    List.forall_mem_cons.mpr ⟨ok_getr hx hb hts hown hin_2 rfl (by decide) tw_114 dk_3_16,
    List.forall_mem_cons.mpr ⟨ok_dup hx hb dk_3_19,
    List.forall_mem_cons.mpr ⟨ok_geti hx hb hts hown hin_1 rfl (by decide) tw_50 dk_3_20,
    List.forall_mem_cons.mpr ⟨ok_iconst hx hb dk_3_23 rfl,
    List.forall_mem_cons.mpr ⟨ok_isub hx hb dk_3_24,
    List.forall_mem_cons.mpr ⟨ok_puti hx hb hts hown hin_1 tyF_1 tyF_1_ok nmF_1 rfl (by decide) tw_50 rfl (by decide +kernel) dk_3_25,
    List.forall_mem_cons.mpr ⟨ok_aload_n hx hb dk_3_28 rfl,
    List.forall_mem_cons.mpr ⟨ok_getr hx hb hts hown hin_2 rfl (by decide) tw_116 dk_3_29,
    List.forall_mem_cons.mpr ⟨ok_iload_n hx hb dk_3_32 rfl,
    List.forall_mem_cons.mpr ⟨ok_iconst hx hb dk_3_33 rfl,
    List.forall_mem_cons.mpr ⟨ok_iast hx hb dk_3_34,
    List.forall_mem_cons.mpr ⟨ok_aload_n hx hb dk_3_35 rfl,
    List.forall_mem_cons.mpr ⟨ok_getr hx hb hts hown hin_2 rfl (by decide) tw_117 dk_3_36,
    List.forall_mem_cons.mpr ⟨ok_iload_n hx hb dk_3_39 rfl,
    List.forall_mem_cons.mpr ⟨ok_iconst hx hb dk_3_40 rfl,
    List.forall_mem_cons.mpr ⟨ok_iast hx hb dk_3_41,
    List.forall_mem_cons.mpr ⟨ok_aload_n hx hb dk_3_42 rfl,
    List.forall_mem_cons.mpr ⟨ok_getr hx hb hts hown hin_2 rfl (by decide) tw_114 dk_3_43,
    List.forall_mem_cons.mpr ⟨ok_geti hx hb hts hown hin_1 rfl (by decide) tw_50 dk_3_46,
    List.forall_mem_cons.mpr ⟨ok_iret hx hb hb1 hb2 hr hlocks dk_3_49,
    fun _ h => absurd h List.not_mem_nil⟩⟩⟩⟩⟩⟩⟩⟩⟩⟩⟩⟩⟩⟩⟩⟩⟩⟩⟩⟩⟩⟩⟩⟩⟩⟩⟩⟩⟩⟩
theorem dk_4_0 : decode prog_1_method_5_code 0 = .ok (.aload_n 0, 1) := by decide +kernel
theorem dk_4_1 : decode prog_1_method_5_code 1 = .ok (.iload_n 1, 1) := by decide +kernel
theorem dk_4_2 : decode prog_1_method_5_code 2 = .ok (.invokevirtual 87, 3) := by decide +kernel
theorem dk_4_5 : decode prog_1_method_5_code 5 = .ok (.aload_n 0, 1) := by decide +kernel
theorem dk_4_6 : decode prog_1_method_5_code 6 = .ok (.iload_n 1, 1) := by decide +kernel
theorem dk_4_7 : decode prog_1_method_5_code 7 = .ok (.iload_n 2, 1) := by decide +kernel
theorem dk_4_8 : decode prog_1_method_5_code 8 = .ok (.invokevirtual 91, 3) := by decide +kernel
theorem dk_4_11 : decode prog_1_method_5_code 11 = .ok (.aload_n 0, 1) := by decide +kernel
theorem dk_4_12 : decode prog_1_method_5_code 12 = .ok (.getfield 10, 3) := by decide +kernel
theorem dk_4_15 : decode prog_1_method_5_code 15 = .ok (.getfield 71, 3) := by decide +kernel
theorem dk_4_18 : decode prog_1_method_5_code 18 = .ok (.iload_n 1, 1) := by decide +kernel
theorem dk_4_19 : decode prog_1_method_5_code 19 = .ok (.iaload, 1) := by decide +kernel
theorem dk_4_20 : decode prog_1_method_5_code 20 = .ok (.istore_n 3, 1) := by decide +kernel
theorem dk_4_21 : decode prog_1_method_5_code 21 = .ok (.aload_n 0, 1) := by decide +kernel
theorem dk_4_22 : decode prog_1_method_5_code 22 = .ok (.getfield 10, 3) := by decide +kernel
theorem dk_4_25 : decode prog_1_method_5_code 25 = .ok (.getfield 71, 3) := by decide +kernel
theorem dk_4_28 : decode prog_1_method_5_code 28 = .ok (.iload_n 1, 1) := by decide +kernel
theorem dk_4_29 : decode prog_1_method_5_code 29 = .ok (.iload_n 2, 1) := by decide +kernel
theorem dk_4_30 : decode prog_1_method_5_code 30 = .ok (.iastore, 1) := by decide +kernel
theorem dk_4_31 : decode prog_1_method_5_code 31 = .ok (.iload_n 3, 1) := by decide +kernel
theorem dk_4_32 : decode prog_1_method_5_code 32 = .ok (.ireturn, 1) := by decide +kernel
set_option maxRecDepth 100000 in
set_option maxHeartbeats 4000000 in
theorem cc_4 {l : Launch} {s0 : State} (hst : l.stackTraces = false) (h0 : am_W0 s0) {d : Nat} (hall : ∀ mi ∈ am_idx, am_CC l s0 d mi) : am_CC l s0 (d + 1) 4 :=
  am_method (y := y_4) (cc := prog_1_method_5_code) (maxL := 4) (ret := (some .int)) (rm := am_rm (d + 1) 2 12) (ops := op_4) (C := am_T am_tabs am_ar d) (ar := 3) h0 (by decide) (by decide) fun p e s m args below meth c D A bS ad0 Q hct htab => by
    obtain ⟨hx, hb, hml, hown, hts, hb1, hb2, hA, hroot, hAs, -, -, hlocks, hr, hnm⟩ := hct
    exact List.forall_mem_cons.mpr ⟨ok_aload_n hx hb dk_4_0 rfl,
    List.forall_mem_cons.mpr ⟨ok_iload_n hx hb dk_4_1 rfl,
    List.forall_mem_cons.mpr ⟨ok_cX hx hb hml hown hts hb1 hb2 hA hroot hAs rfl rfl hlocks htab rfl (hcal_21 hall) tw_381 tw_383 ts_11 tw_384 tw_1 nm_21 rfl rfl (by show d + 8 + 1 ≤ d + 1 + 8; omega) (by show 8 + (2 + 11) + (200 + 60 * d) ≤ 200 + 60 * (d + 1); omega) dk_4_2,
    List.forall_mem_cons.mpr ⟨ok_aload_n hx hb dk_4_5 rfl,
    List.forall_mem_cons.mpr ⟨ok_iload_n hx hb dk_4_6 rfl,
    List.forall_mem_cons.mpr ⟨ok_iload_n hx hb dk_4_7 rfl,
    List.forall_mem_cons.mpr ⟨ok_cX hx hb hml hown hts hb1 hb2 hA hroot hAs rfl rfl hlocks htab rfl (hcal_22 hall) tw_411 tw_413 ts_12 tw_414 tw_1 nm_22 rfl rfl (by show d + 8 + 1 ≤ d + 1 + 8; omega) (by show 8 + (3 + 11) + (200 + 60 * d) ≤ 200 + 60 * (d + 1); omega) dk_4_8,
    List.forall_mem_cons.mpr ⟨ok_aload_n hx hb dk_4_11 rfl,
    List.forall_mem_cons.mpr ⟨ok_getr hx hb hts hown hin_2 rfl (by decide) tw_114 dk_4_12,
    List.forall_mem_cons.mpr ⟨ok_getr hx hb hts hown hin_1 rfl (by decide) tw_42 dk_4_15,
    List.forall_mem_cons.mpr ⟨ok_iload_n hx hb dk_4_18 rfl,
    List.forall_mem_cons.mpr ⟨ok_iald hx hb dk_4_19,
    List.forall_mem_cons.mpr ⟨ok_istore_n hx hb dk_4_20 rfl (by decide),
    List.forall_mem_cons.mpr ⟨ok_aload_n hx hb dk_4_21 rfl,
    List.forall_mem_cons.mpr ⟨ok_getr hx hb hts hown hin_2 rfl (by decide) tw_114 dk_4_22,
    List.forall_mem_cons.mpr ⟨ok_getr hx hb hts hown hin_1 rfl (by decide) tw_42 dk_4_25,
    List.forall_mem_cons.mpr ⟨ok_iload_n hx hb dk_4_28 rfl,
    List.forall_mem_cons.mpr ⟨ok_iload_n hx hb dk_4_29 rfl,
    List.forall_mem_cons.mpr ⟨ok_iast hx hb dk_4_30,
    List.forall_mem_cons.mpr ⟨ok_iload_n hx hb dk_4_31 rfl,
    List.forall_mem_cons.mpr ⟨ok_iret hx hb hb1 hb2 hr hlocks dk_4_32,
    fun _ h => absurd h List.not_mem_nil⟩⟩⟩⟩⟩⟩⟩⟩⟩⟩⟩⟩⟩⟩⟩⟩⟩⟩⟩⟩⟩
theorem dk_5_0 : decode prog_1_method_6_code 0 = .ok (.iload_n 1, 1) := by decide +kernel
theorem dk_5_1 : decode prog_1_method_6_code 1 = .ok (.iconst (0), 1) := by decide +kernel
theorem dk_5_2 : decode prog_1_method_6_code 2 = .ok (.bipush (6), 2) := by decide +kernel
theorem dk_5_4 : decode prog_1_method_6_code 4 = .ok (.invokestatic 43, 3) := by decide +kernel
theorem dk_5_7 : decode prog_1_method_6_code 7 = .ok (.ifCond .ne (11), 3) := by decide +kernel
theorem dk_5_10 : decode prog_1_method_6_code 10 = .ok (.new 47, 3) := by decide +kernel
theorem dk_5_13 : decode prog_1_method_6_code 13 = .ok (.dup, 1) := by decide +kernel
theorem dk_5_14 : decode prog_1_method_6_code 14 = .ok (.invokespecial 49, 3) := by decide +kernel
theorem dk_5_17 : decode prog_1_method_6_code 17 = .ok (.athrow, 1) := by decide +kernel
theorem dk_5_18 : decode prog_1_method_6_code 18 = .ok (.aload_n 0, 1) := by decide +kernel
theorem dk_5_19 : decode prog_1_method_6_code 19 = .ok (.getfield 10, 3) := by decide +kernel
theorem dk_5_22 : decode prog_1_method_6_code 22 = .ok (.getfield 95, 3) := by decide +kernel
theorem dk_5_25 : decode prog_1_method_6_code 25 = .ok (.istore_n 2, 1) := by decide +kernel
theorem dk_5_26 : decode prog_1_method_6_code 26 = .ok (.aload_n 0, 1) := by decide +kernel
theorem dk_5_27 : decode prog_1_method_6_code 27 = .ok (.getfield 10, 3) := by decide +kernel
theorem dk_5_30 : decode prog_1_method_6_code 30 = .ok (.iload_n 1, 1) := by decide +kernel
theorem dk_5_31 : decode prog_1_method_6_code 31 = .ok (.putfield 95, 3) := by decide +kernel
theorem dk_5_34 : decode prog_1_method_6_code 34 = .ok (.iload_n 2, 1) := by decide +kernel
theorem dk_5_35 : decode prog_1_method_6_code 35 = .ok (.ireturn, 1) := by decide +kernel
set_option maxRecDepth 100000 in
set_option maxHeartbeats 4000000 in
theorem cc_5 {l : Launch} {s0 : State} (hst : l.stackTraces = false) (h0 : am_W0 s0) {d : Nat} (hall : ∀ mi ∈ am_idx, am_CC l s0 d mi) : am_CC l s0 (d + 1) 5 :=
  am_method (y := y_5) (cc := prog_1_method_6_code) (maxL := 3) (ret := (some .int)) (rm := am_rm (d + 1) 1 6) (ops := op_5) (C := am_T am_tabs am_ar d) (ar := 2) h0 (by decide) (by decide) fun p e s m args below meth c D A bS ad0 Q hct htab => by
    obtain ⟨hx, hb, hml, hown, hts, hb1, hb2, hA, hroot, hAs, -, -, hlocks, hr, hnm⟩ := hct
    exact List.forall_mem_cons.mpr ⟨ok_iload_n hx hb dk_5_0 rfl,
    List.forall_mem_cons.mpr ⟨ok_iconst hx hb dk_5_1 rfl,
    List.forall_mem_cons.mpr ⟨ok_bipush hx hb dk_5_2 (by decide),
    List.forall_mem_cons.mpr ⟨ok_cS hx hb hml hown hts hb1 hb2 hA hroot hAs rfl rfl (hcal_27 hall) tw_281 tw_232 tw_233 tw_1 nm_27 rfl rfl (by show d + 8 + 1 ≤ d + 1 + 8; omega) (by show 8 + (3 + 11) + (200 + 60 * d) ≤ 200 + 60 * (d + 1); omega) dk_5_4,
    List.forall_mem_cons.mpr ⟨ok_if_ne hx hb dk_5_7 (by decide),
    List.forall_mem_cons.mpr ⟨ok_throw (names := ["java/lang/RuntimeException", "java/lang/Exception"]) hx hb hst (fun U hU => am_hts h0 hU) hown hml hlocks htab rfl rfl hb1 hb2 hroot hAs rfl (by decide) (by decide) tw_282 tw_9 tw_283 (fun U hU => am_own0 h0 hU) (by show 2 + 3 < d + 1 + 8; omega) (by show 8 + (13 * 3 + 42) ≤ 200 + 60 * (d + 1); omega) dk_5_10 dk_5_13 dk_5_14 dk_5_17,
    List.forall_mem_cons.mpr ⟨ok_aload_n hx hb dk_5_18 rfl,
    List.forall_mem_cons.mpr ⟨ok_getr hx hb hts hown hin_2 rfl (by decide) tw_114 dk_5_19,
    List.forall_mem_cons.mpr ⟨ok_geti hx hb hts hown hin_1 rfl (by decide) tw_60 dk_5_22,
    List.forall_mem_cons.mpr ⟨ok_istore_n hx hb dk_5_25 rfl (by decide),
    List.forall_mem_cons.mpr ⟨ok_aload_n hx hb dk_5_26 rfl,
    List.forall_mem_cons.mpr ⟨ok_getr hx hb hts hown hin_2 rfl (by decide) tw_114 dk_5_27,
    List.forall_mem_cons.mpr ⟨ok_iload_n hx hb dk_5_30 rfl,
    List.forall_mem_cons.mpr ⟨ok_puti hx hb hts hown hin_1 tyF_1 tyF_1_ok nmF_1 rfl (by decide) tw_60 rfl (by decide +kernel) dk_5_31,
    List.forall_mem_cons.mpr ⟨ok_iload_n hx hb dk_5_34 rfl,
    List.forall_mem_cons.mpr ⟨ok_iret hx hb hb1 hb2 hr hlocks dk_5_35,
    fun _ h => absurd h List.not_mem_nil⟩⟩⟩⟩⟩⟩⟩⟩⟩⟩⟩⟩⟩⟩⟩⟩
theorem dk_6_0 : decode prog_1_method_7_code 0 = .ok (.iload_n 1, 1) := by decide +kernel
theorem dk_6_1 : decode prog_1_method_7_code 1 = .ok (.ifCond .lt (15), 3) := by decide +kernel
theorem dk_6_4 : decode prog_1_method_7_code 4 = .ok (.iload_n 2, 1) := by decide +kernel
theorem dk_6_5 : decode prog_1_method_7_code 5 = .ok (.sipush (3000), 3) := by decide +kernel
theorem dk_6_8 : decode prog_1_method_7_code 8 = .ok (.if_icmp .gt (8), 3) := by decide +kernel
theorem dk_6_11 : decode prog_1_method_7_code 11 = .ok (.iload_n 1, 1) := by decide +kernel
theorem dk_6_12 : decode prog_1_method_7_code 12 = .ok (.iload_n 2, 1) := by decide +kernel
theorem dk_6_13 : decode prog_1_method_7_code 13 = .ok (.if_icmp .le (11), 3) := by decide +kernel
theorem dk_6_16 : decode prog_1_method_7_code 16 = .ok (.new 47, 3) := by decide +kernel
theorem dk_6_19 : decode prog_1_method_7_code 19 = .ok (.dup, 1) := by decide +kernel
theorem dk_6_20 : decode prog_1_method_7_code 20 = .ok (.invokespecial 49, 3) := by decide +kernel
theorem dk_6_23 : decode prog_1_method_7_code 23 = .ok (.athrow, 1) := by decide +kernel
theorem dk_6_24 : decode prog_1_method_7_code 24 = .ok (.aload_n 0, 1) := by decide +kernel
theorem dk_6_25 : decode prog_1_method_7_code 25 = .ok (.getfield 10, 3) := by decide +kernel
theorem dk_6_28 : decode prog_1_method_7_code 28 = .ok (.getfield 98, 3) := by decide +kernel
theorem dk_6_31 : decode prog_1_method_7_code 31 = .ok (.iconst (4), 1) := by decide +kernel
theorem dk_6_32 : decode prog_1_method_7_code 32 = .ok (.if_icmp .lt (11), 3) := by decide +kernel
theorem dk_6_35 : decode prog_1_method_7_code 35 = .ok (.new 58, 3) := by decide +kernel
theorem dk_6_38 : decode prog_1_method_7_code 38 = .ok (.dup, 1) := by decide +kernel
theorem dk_6_39 : decode prog_1_method_7_code 39 = .ok (.invokespecial 60, 3) := by decide +kernel
theorem dk_6_42 : decode prog_1_method_7_code 42 = .ok (.athrow, 1) := by decide +kernel
theorem dk_6_43 : decode prog_1_method_7_code 43 = .ok (.aload_n 0, 1) := by decide +kernel
theorem dk_6_44 : decode prog_1_method_7_code 44 = .ok (.getfield 10, 3) := by decide +kernel
theorem dk_6_47 : decode prog_1_method_7_code 47 = .ok (.getfield 101, 3) := by decide +kernel
theorem dk_6_50 : decode prog_1_method_7_code 50 = .ok (.aload_n 0, 1) := by decide +kernel
theorem dk_6_51 : decode prog_1_method_7_code 51 = .ok (.getfield 10, 3) := by decide +kernel
theorem dk_6_54 : decode prog_1_method_7_code 54 = .ok (.getfield 98, 3) := by decide +kernel
theorem dk_6_57 : decode prog_1_method_7_code 57 = .ok (.iload_n 1, 1) := by decide +kernel
theorem dk_6_58 : decode prog_1_method_7_code 58 = .ok (.iastore, 1) := by decide +kernel
theorem dk_6_59 : decode prog_1_method_7_code 59 = .ok (.aload_n 0, 1) := by decide +kernel
theorem dk_6_60 : decode prog_1_method_7_code 60 = .ok (.getfield 10, 3) := by decide +kernel
theorem dk_6_63 : decode prog_1_method_7_code 63 = .ok (.getfield 104, 3) := by decide +kernel
theorem dk_6_66 : decode prog_1_method_7_code 66 = .ok (.aload_n 0, 1) := by decide +kernel
theorem dk_6_67 : decode prog_1_method_7_code 67 = .ok (.getfield 10, 3) := by decide +kernel
theorem dk_6_70 : decode prog_1_method_7_code 70 = .ok (.getfield 98, 3) := by decide +kernel
theorem dk_6_73 : decode prog_1_method_7_code 73 = .ok (.iload_n 2, 1) := by decide +kernel
theorem dk_6_74 : decode prog_1_method_7_code 74 = .ok (.iastore, 1) := by decide +kernel
theorem dk_6_75 : decode prog_1_method_7_code 75 = .ok (.aload_n 0, 1) := by decide +kernel
theorem dk_6_76 : decode prog_1_method_7_code 76 = .ok (.getfield 10, 3) := by decide +kernel
theorem dk_6_79 : decode prog_1_method_7_code 79 = .ok (.dup, 1) := by decide +kernel
theorem dk_6_80 : decode prog_1_method_7_code 80 = .ok (.getfield 98, 3) := by decide +kernel
theorem dk_6_83 : decode prog_1_method_7_code 83 = .ok (.iconst (1), 1) := by decide +kernel
theorem dk_6_84 : decode prog_1_method_7_code 84 = .ok (.iadd, 1) := by decide +kernel
theorem dk_6_85 : decode prog_1_method_7_code 85 = .ok (.putfield 98, 3) := by decide +kernel
theorem dk_6_88 : decode prog_1_method_7_code 88 = .ok (.aload_n 0, 1) := by decide +kernel
theorem dk_6_89 : decode prog_1_method_7_code 89 = .ok (.getfield 10, 3) := by decide +kernel
theorem dk_6_92 : decode prog_1_method_7_code 92 = .ok (.getfield 98, 3) := by decide +kernel
theorem dk_6_95 : decode prog_1_method_7_code 95 = .ok (.ireturn, 1) := by decide +kernel
set_option maxRecDepth 100000 in
set_option maxHeartbeats 4000000 in
theorem cc_6 {l : Launch} {s0 : State} (hst : l.stackTraces = false) (h0 : am_W0 s0) {d : Nat} (hall : ∀ mi ∈ am_idx, am_CC l s0 d mi) : am_CC l s0 (d + 1) 6 :=
  am_method (y := y_6) (cc := prog_1_method_7_code) (maxL := 3) (ret := (some .int)) (rm := am_rm (d + 1) 2 12) (ops := op_6) (C := am_T am_tabs am_ar d) (ar := 3) h0 (by decide) (by decide) fun p e s m args below meth c D A bS ad0 Q hct htab => by
    obtain ⟨hx, hb, hml, hown, hts, hb1, hb2, hA, hroot, hAs, -, -, hlocks, hr, hnm⟩ := hct
    exact List.forall_mem_cons.mpr ⟨ok_iload_n hx hb dk_6_0 rfl,
    List.forall_mem_cons.mpr ⟨ok_if_lt hx hb dk_6_1 (by decide),
    List.forall_mem_cons.mpr ⟨ok_iload_n hx hb dk_6_4 rfl,
    List.forall_mem_cons.mpr ⟨ok_sipush hx hb dk_6_5 (by decide),
    List.forall_mem_cons.mpr ⟨ok_icmp_gt hx hb dk_6_8 (by decide),
    List.forall_mem_cons.mpr ⟨ok_iload_n hx hb dk_6_11 rfl,
    List.forall_mem_cons.mpr ⟨ok_iload_n hx hb dk_6_12 rfl,
    List.forall_mem_cons.mpr ⟨ok_icmp_le hx hb dk_6_13 (by decide),
    List.forall_mem_cons.mpr ⟨ok_throw (names := ["java/lang/RuntimeException", "java/lang/Exception"]) hx hb hst (fun U hU => am_hts h0 hU) hown hml hlocks htab rfl rfl hb1 hb2 hroot hAs rfl (by decide) (by decide) tw_282 tw_9 tw_283 (fun U hU => am_own0 h0 hU) (by show 2 + 3 < d + 1 + 8; omega) (by show 8 + (13 * 3 + 42) ≤ 200 + 60 * (d + 1); omega) dk_6_16 dk_6_19 dk_6_20 dk_6_23,
    List.forall_mem_cons.mpr ⟨ok_aload_n hx hb dk_6_24 rfl,
    List.forall_mem_cons.mpr ⟨ok_getr hx hb hts hown hin_2 rfl (by decide) tw_114 dk_6_25,
    List.forall_mem_cons.mpr ⟨ok_geti hx hb hts hown hin_1 rfl (by decide) tw_57 dk_6_28,
    List.forall_mem_cons.mpr ⟨ok_iconst hx hb dk_6_31 rfl,
    List.forall_mem_cons.mpr ⟨ok_icmp_lt hx hb dk_6_32 (by decide),
    List.forall_mem_cons.mpr ⟨ok_throw (names := ["java/lang/RuntimeException", "java/lang/Exception"]) hx hb hst (fun U hU => am_hts h0 hU) hown hml hlocks htab rfl rfl hb1 hb2 hroot hAs rfl (by decide) (by decide) tw_358 tw_10 tw_359 (fun U hU => am_own1 h0 hU) (by show 2 + 3 < d + 1 + 8; omega) (by show 8 + (13 * 3 + 42) ≤ 200 + 60 * (d + 1); omega) dk_6_35 dk_6_38 dk_6_39 dk_6_42,
    List.forall_mem_cons.mpr ⟨ok_aload_n hx hb dk_6_43 rfl,
    List.forall_mem_cons.mpr ⟨ok_getr hx hb hts hown hin_2 rfl (by decide) tw_114 dk_6_44,
    List.forall_mem_cons.mpr ⟨ok_getr hx hb hts hown hin_1 rfl (by decide) tw_54 dk_6_47,
    List.forall_mem_cons.mpr ⟨ok_aload_n hx hb dk_6_50 rfl,
    List.forall_mem_cons.mpr ⟨ok_getr hx hb hts hown hin_2 rfl (by decide) tw_114 dk_6_51,
    List.forall_mem_cons.mpr ⟨ok_geti hx hb hts hown hin_1 rfl (by decide) tw_57 dk_6_54,
    List.forall_mem_cons.mpr ⟨ok_iload_n hx hb dk_6_57 rfl,
    List.forall_mem_cons.mpr ⟨ok_iast hx hb dk_6_58,
    List.forall_mem_cons.mpr ⟨ok_aload_n hx hb dk_6_59 rfl,
    List.forall_mem_cons.mpr ⟨ok_getr hx hb hts hown hin_2 rfl (by decide) tw_114 dk_6_60,
    List.forall_mem_cons.mpr ⟨ok_getr hx hb hts hown hin_1 rfl (by decide) tw_56 dk_6_63,
    List.forall_mem_cons.mpr ⟨ok_aload_n hx hb dk_6_66 rfl,
    List.forall_mem_cons.mpr ⟨ok_getr hx hb hts hown hin_2 rfl (by decide) tw_114 dk_6_67,
    List.forall_mem_cons.mpr ⟨ok_geti hx hb hts hown hin_1 rfl (by decide) tw_57 dk_6_70,
    List.forall_mem_cons.mpr ⟨ok_iload_n hx hb dk_6_73 rfl,
    List.forall_mem_cons.mpr ⟨ok_iast hx hb dk_6_74,
    List.forall_mem_cons.mpr ⟨ok_aload_n hx hb dk_6_75 rfl,
    List.forall_mem_cons.mpr ⟨ok_getr hx hb hts hown hin_2 rfl (by decide) tw_114 dk_6_76,
    List.forall_mem_cons.mpr ⟨ok_dup hx hb dk_6_79,
    List.forall_mem_cons.mpr ⟨ok_geti hx hb hts hown hin_1 rfl (by decide) tw_57 dk_6_80,
    List.forall_mem_cons.mpr ⟨ok_iconst hx hb dk_6_83 rfl,
    List.forall_mem_cons.mpr ⟨ok_iadd hx hb dk_6_84,
    List.forall_mem_cons.mpr ⟨ok_puti hx hb hts hown hin_1 tyF_1 tyF_1_ok nmF_1 rfl (by decide) tw_57 rfl (by decide +kernel) dk_6_85,
    List.forall_mem_cons.mpr ⟨ok_aload_n hx hb dk_6_88 rfl,
    List.forall_mem_cons.mpr ⟨ok_getr hx hb hts hown hin_2 rfl (by decide) tw_114 dk_6_89,
    List.forall_mem_cons.mpr ⟨ok_geti hx hb hts hown hin_1 rfl (by decide) tw_57 dk_6_92,
    List.forall_mem_cons.mpr ⟨ok_iret hx hb hb1 hb2 hr hlocks dk_6_95,
    fun _ h => absurd h List.not_mem_nil⟩⟩⟩⟩⟩⟩⟩⟩⟩⟩⟩⟩⟩⟩⟩⟩⟩⟩⟩⟩⟩⟩⟩⟩⟩⟩⟩⟩⟩⟩⟩⟩⟩⟩⟩⟩⟩⟩⟩⟩⟩⟩
theorem dk_7_0 : decode prog_1_method_8_code 0 = .ok (.aload_n 0, 1) := by decide +kernel
theorem dk_7_1 : decode prog_1_method_8_code 1 = .ok (.getfield 10, 3) := by decide +kernel
theorem dk_7_4 : decode prog_1_method_8_code 4 = .ok (.getfield 98, 3) := by decide +kernel
theorem dk_7_7 : decode prog_1_method_8_code 7 = .ok (.istore_n 1, 1) := by decide +kernel
theorem dk_7_8 : decode prog_1_method_8_code 8 = .ok (.aload_n 0, 1) := by decide +kernel
theorem dk_7_9 : decode prog_1_method_8_code 9 = .ok (.getfield 10, 3) := by decide +kernel
theorem dk_7_12 : decode prog_1_method_8_code 12 = .ok (.iconst (0), 1) := by decide +kernel
theorem dk_7_13 : decode prog_1_method_8_code 13 = .ok (.putfield 98, 3) := by decide +kernel
theorem dk_7_16 : decode prog_1_method_8_code 16 = .ok (.iload_n 1, 1) := by decide +kernel
theorem dk_7_17 : decode prog_1_method_8_code 17 = .ok (.ireturn, 1) := by decide +kernel
set_option maxRecDepth 100000 in
set_option maxHeartbeats 4000000 in
theorem cc_7 {l : Launch} {s0 : State} (hst : l.stackTraces = false) (h0 : am_W0 s0) {d : Nat} (hall : ∀ mi ∈ am_idx, am_CC l s0 d mi) : am_CC l s0 (d + 1) 7 :=
  am_method (y := y_7) (cc := prog_1_method_8_code) (maxL := 2) (ret := (some .int)) (rm := am_rm (d + 1) 0 0) (ops := op_7) (C := am_T am_tabs am_ar d) (ar := 1) h0 (by decide) (by decide) fun p e s m args below meth c D A bS ad0 Q hct htab => by
    obtain ⟨hx, hb, hml, hown, hts, hb1, hb2, hA, hroot, hAs, -, -, hlocks, hr, hnm⟩ := hct
    exact List.forall_mem_cons.mpr ⟨ok_aload_n hx hb dk_7_0 rfl,
    List.forall_mem_cons.mpr ⟨ok_getr hx hb hts hown hin_2 rfl (by decide) tw_114 dk_7_1,
    List.forall_mem_cons.mpr ⟨ok_geti hx hb hts hown hin_1 rfl (by decide) tw_57 dk_7_4,
    List.forall_mem_cons.mpr ⟨ok_istore_n hx hb dk_7_7 rfl (by decide),
    List.forall_mem_cons.mpr ⟨ok_aload_n hx hb dk_7_8 rfl,
    List.forall_mem_cons.mpr ⟨ok_getr hx hb hts hown hin_2 rfl (by decide) tw_114 dk_7_9,
    List.forall_mem_cons.mpr ⟨ok_iconst hx hb dk_7_12 rfl,
    List.forall_mem_cons.mpr ⟨ok_puti hx hb hts hown hin_1 tyF_1 tyF_1_ok nmF_1 rfl (by decide) tw_57 rfl (by decide +kernel) dk_7_13,
    List.forall_mem_cons.mpr ⟨ok_iload_n hx hb dk_7_16 rfl,
    List.forall_mem_cons.mpr ⟨ok_iret hx hb hb1 hb2 hr hlocks dk_7_17,
    fun _ h => absurd h List.not_mem_nil⟩⟩⟩⟩⟩⟩⟩⟩⟩⟩
theorem dk_8_0 : decode prog_1_method_9_code 0 = .ok (.aload_n 0, 1) := by decide +kernel
theorem dk_8_1 : decode prog_1_method_9_code 1 = .ok (.iload_n 1, 1) := by decide +kernel
theorem dk_8_2 : decode prog_1_method_9_code 2 = .ok (.invokevirtual 87, 3) := by decide +kernel
theorem dk_8_5 : decode prog_1_method_9_code 5 = .ok (.aload_n 0, 1) := by decide +kernel
theorem dk_8_6 : decode prog_1_method_9_code 6 = .ok (.iload_n 1, 1) := by decide +kernel
theorem dk_8_7 : decode prog_1_method_9_code 7 = .ok (.iload_n 2, 1) := by decide +kernel
theorem dk_8_8 : decode prog_1_method_9_code 8 = .ok (.invokevirtual 91, 3) := by decide +kernel
theorem dk_8_11 : decode prog_1_method_9_code 11 = .ok (.aload_n 0, 1) := by decide +kernel
theorem dk_8_12 : decode prog_1_method_9_code 12 = .ok (.getfield 10, 3) := by decide +kernel
theorem dk_8_15 : decode prog_1_method_9_code 15 = .ok (.iload_n 2, 1) := by decide +kernel
theorem dk_8_16 : decode prog_1_method_9_code 16 = .ok (.invokevirtual 107, 3) := by decide +kernel
theorem dk_8_19 : decode prog_1_method_9_code 19 = .ok (.ifCond .ne (15), 3) := by decide +kernel
theorem dk_8_22 : decode prog_1_method_9_code 22 = .ok (.aload_n 0, 1) := by decide +kernel
theorem dk_8_23 : decode prog_1_method_9_code 23 = .ok (.getfield 10, 3) := by decide +kernel
theorem dk_8_26 : decode prog_1_method_9_code 26 = .ok (.iload_n 1, 1) := by decide +kernel
theorem dk_8_27 : decode prog_1_method_9_code 27 = .ok (.iload_n 2, 1) := by decide +kernel
theorem dk_8_28 : decode prog_1_method_9_code 28 = .ok (.invokevirtual 110, 3) := by decide +kernel
theorem dk_8_31 : decode prog_1_method_9_code 31 = .ok (.ifCond .eq (11), 3) := by decide +kernel
theorem dk_8_34 : decode prog_1_method_9_code 34 = .ok (.new 58, 3) := by decide +kernel
theorem dk_8_37 : decode prog_1_method_9_code 37 = .ok (.dup, 1) := by decide +kernel
theorem dk_8_38 : decode prog_1_method_9_code 38 = .ok (.invokespecial 60, 3) := by decide +kernel
theorem dk_8_41 : decode prog_1_method_9_code 41 = .ok (.athrow, 1) := by decide +kernel
theorem dk_8_42 : decode prog_1_method_9_code 42 = .ok (.aload_n 0, 1) := by decide +kernel
theorem dk_8_43 : decode prog_1_method_9_code 43 = .ok (.getfield 10, 3) := by decide +kernel
theorem dk_8_46 : decode prog_1_method_9_code 46 = .ok (.getfield 80, 3) := by decide +kernel
theorem dk_8_49 : decode prog_1_method_9_code 49 = .ok (.iload_n 1, 1) := by decide +kernel
theorem dk_8_50 : decode prog_1_method_9_code 50 = .ok (.iload_n 2, 1) := by decide +kernel
theorem dk_8_51 : decode prog_1_method_9_code 51 = .ok (.iastore, 1) := by decide +kernel
theorem dk_8_52 : decode prog_1_method_9_code 52 = .ok (.return_, 1) := by decide +kernel
set_option maxRecDepth 100000 in
set_option maxHeartbeats 4000000 in
theorem cc_8 {l : Launch} {s0 : State} (hst : l.stackTraces = false) (h0 : am_W0 s0) {d : Nat} (hall : ∀ mi ∈ am_idx, am_CC l s0 d mi) : am_CC l s0 (d + 1) 8 :=
  am_method (y := y_8) (cc := prog_1_method_9_code) (maxL := 3) (ret := none) (rm := am_rm (d + 1) 3 18) (ops := op_8) (C := am_T am_tabs am_ar d) (ar := 3) h0 (by decide) (by decide) fun p e s m args below meth c D A bS ad0 Q hct htab => by
    obtain ⟨hx, hb, hml, hown, hts, hb1, hb2, hA, hroot, hAs, -, -, hlocks, hr, hnm⟩ := hct
    exact List.forall_mem_cons.mpr ⟨ok_aload_n hx hb dk_8_0 rfl,
    List.forall_mem_cons.mpr ⟨ok_iload_n hx hb dk_8_1 rfl,
    List.forall_mem_cons.mpr ⟨ok_cX hx hb hml hown hts hb1 hb2 hA hroot hAs rfl rfl hlocks htab rfl (hcal_21 hall) tw_381 tw_383 ts_11 tw_384 tw_1 nm_21 rfl rfl (by show d + 8 + 1 ≤ d + 1 + 8; omega) (by show 8 + (2 + 11) + (200 + 60 * d) ≤ 200 + 60 * (d + 1); omega) dk_8_2,
    List.forall_mem_cons.mpr ⟨ok_aload_n hx hb dk_8_5 rfl,
    List.forall_mem_cons.mpr ⟨ok_iload_n hx hb dk_8_6 rfl,
    List.forall_mem_cons.mpr ⟨ok_iload_n hx hb dk_8_7 rfl,
    List.forall_mem_cons.mpr ⟨ok_cX hx hb hml hown hts hb1 hb2 hA hroot hAs rfl rfl hlocks htab rfl (hcal_22 hall) tw_411 tw_413 ts_12 tw_414 tw_1 nm_22 rfl rfl (by show d + 8 + 1 ≤ d + 1 + 8; omega) (by show 8 + (3 + 11) + (200 + 60 * d) ≤ 200 + 60 * (d + 1); omega) dk_8_8,
    List.forall_mem_cons.mpr ⟨ok_aload_n hx hb dk_8_11 rfl,
    List.forall_mem_cons.mpr ⟨ok_getr hx hb hts hown hin_2 rfl (by decide) tw_114 dk_8_12,
    List.forall_mem_cons.mpr ⟨ok_iload_n hx hb dk_8_15 rfl,
    List.forall_mem_cons.mpr ⟨ok_cV hx hb hml hown hts hb1 hb2 hA hroot hAs rfl rfl rfl (hcal_88 hall) tw_437 tw_162 tw_163 tw_164 tw_2 nm_88 rfl rfl (by show d + 8 + 1 ≤ d + 1 + 8; omega) (by show 8 + (2 + 11) + (200 + 60 * d) ≤ 200 + 60 * (d + 1); omega) dk_8_16,
    List.forall_mem_cons.mpr ⟨ok_if_ne hx hb dk_8_19 (by decide),
    List.forall_mem_cons.mpr ⟨ok_aload_n hx hb dk_8_22 rfl,
    List.forall_mem_cons.mpr ⟨ok_getr hx hb hts hown hin_2 rfl (by decide) tw_114 dk_8_23,
    List.forall_mem_cons.mpr ⟨ok_iload_n hx hb dk_8_26 rfl,
    List.forall_mem_cons.mpr ⟨ok_iload_n hx hb dk_8_27 rfl,
    List.forall_mem_cons.mpr ⟨ok_cV hx hb hml hown hts hb1 hb2 hA hroot hAs rfl rfl rfl (hcal_92 hall) tw_438 tw_439 tw_440 tw_441 tw_2 nm_92 rfl rfl (by show d + 8 + 1 ≤ d + 1 + 8; omega) (by show 8 + (4 + 11) + (200 + 60 * d) ≤ 200 + 60 * (d + 1); omega) dk_8_28,
    List.forall_mem_cons.mpr ⟨ok_if_eq hx hb dk_8_31 (by decide),
    List.forall_mem_cons.mpr ⟨ok_throw (names := ["java/lang/RuntimeException", "java/lang/Exception"]) hx hb hst (fun U hU => am_hts h0 hU) hown hml hlocks htab rfl rfl hb1 hb2 hroot hAs rfl (by decide) (by decide) tw_358 tw_10 tw_359 (fun U hU => am_own1 h0 hU) (by show 2 + 3 < d + 1 + 8; omega) (by show 8 + (13 * 3 + 42) ≤ 200 + 60 * (d + 1); omega) dk_8_34 dk_8_37 dk_8_38 dk_8_41,
    List.forall_mem_cons.mpr ⟨ok_aload_n hx hb dk_8_42 rfl,
    List.forall_mem_cons.mpr ⟨ok_getr hx hb hts hown hin_2 rfl (by decide) tw_114 dk_8_43,
    List.forall_mem_cons.mpr ⟨ok_getr hx hb hts hown hin_1 rfl (by decide) tw_48 dk_8_46,
    List.forall_mem_cons.mpr ⟨ok_iload_n hx hb dk_8_49 rfl,
    List.forall_mem_cons.mpr ⟨ok_iload_n hx hb dk_8_50 rfl,
    List.forall_mem_cons.mpr ⟨ok_iast hx hb dk_8_51,
    List.forall_mem_cons.mpr ⟨ok_vret hx hb hb1 hb2 hr hlocks dk_8_52,
    fun _ h => absurd h List.not_mem_nil⟩⟩⟩⟩⟩⟩⟩⟩⟩⟩⟩⟩⟩⟩⟩⟩⟩⟩⟩⟩⟩⟩⟩⟩⟩⟩
theorem dk_9_0 : decode prog_1_method_10_code 0 = .ok (.aload_n 0, 1) := by decide +kernel
theorem dk_9_1 : decode prog_1_method_10_code 1 = .ok (.iload_n 1, 1) := by decide +kernel
theorem dk_9_2 : decode prog_1_method_10_code 2 = .ok (.invokevirtual 87, 3) := by decide +kernel
theorem dk_9_5 : decode prog_1_method_10_code 5 = .ok (.aload_n 0, 1) := by decide +kernel
theorem dk_9_6 : decode prog_1_method_10_code 6 = .ok (.getfield 10, 3) := by decide +kernel
theorem dk_9_9 : decode prog_1_method_10_code 9 = .ok (.iload_n 1, 1) := by decide +kernel
theorem dk_9_10 : decode prog_1_method_10_code 10 = .ok (.invokevirtual 114, 3) := by decide +kernel
theorem dk_9_13 : decode prog_1_method_10_code 13 = .ok (.istore_n 2, 1) := by decide +kernel
theorem dk_9_14 : decode prog_1_method_10_code 14 = .ok (.aload_n 0, 1) := by decide +kernel
theorem dk_9_15 : decode prog_1_method_10_code 15 = .ok (.getfield 10, 3) := by decide +kernel
theorem dk_9_18 : decode prog_1_method_10_code 18 = .ok (.getfield 80, 3) := by decide +kernel
theorem dk_9_21 : decode prog_1_method_10_code 21 = .ok (.iload_n 1, 1) := by decide +kernel
theorem dk_9_22 : decode prog_1_method_10_code 22 = .ok (.iconst (-1), 1) := by decide +kernel
theorem dk_9_23 : decode prog_1_method_10_code 23 = .ok (.iastore, 1) := by decide +kernel
theorem dk_9_24 : decode prog_1_method_10_code 24 = .ok (.iload_n 2, 1) := by decide +kernel
theorem dk_9_25 : decode prog_1_method_10_code 25 = .ok (.ireturn, 1) := by decide +kernel
set_option maxRecDepth 100000 in
set_option maxHeartbeats 4000000 in
theorem cc_9 {l : Launch} {s0 : State} (hst : l.stackTraces = false) (h0 : am_W0 s0) {d : Nat} (hall : ∀ mi ∈ am_idx, am_CC l s0 d mi) : am_CC l s0 (d + 1) 9 :=
  am_method (y := y_9) (cc := prog_1_method_10_code) (maxL := 3) (ret := (some .boolean)) (rm := am_rm (d + 1) 1 6) (ops := op_9) (C := am_T am_tabs am_ar d) (ar := 2) h0 (by decide) (by decide) fun p e s m args below meth c D A bS ad0 Q hct htab => by
    obtain ⟨hx, hb, hml, hown, hts, hb1, hb2, hA, hroot, hAs, -, -, hlocks, hr, hnm⟩ := hct
    exact List.forall_mem_cons.mpr ⟨ok_aload_n hx hb dk_9_0 rfl,
    List.forall_mem_cons.mpr ⟨ok_iload_n hx hb dk_9_1 rfl,
    List.forall_mem_cons.mpr ⟨ok_cX hx hb hml hown hts hb1 hb2 hA hroot hAs rfl rfl hlocks htab rfl (hcal_21 hall) tw_381 tw_383 ts_11 tw_384 tw_1 nm_21 rfl rfl (by show d + 8 + 1 ≤ d + 1 + 8; omega) (by show 8 + (2 + 11) + (200 + 60 * d) ≤ 200 + 60 * (d + 1); omega) dk_9_2,
    List.forall_mem_cons.mpr ⟨ok_aload_n hx hb dk_9_5 rfl,
    List.forall_mem_cons.mpr ⟨ok_getr hx hb hts hown hin_2 rfl (by decide) tw_114 dk_9_6,
    List.forall_mem_cons.mpr ⟨ok_iload_n hx hb dk_9_9 rfl,
    List.forall_mem_cons.mpr ⟨ok_cV hx hb hml hown hts hb1 hb2 hA hroot hAs rfl rfl rfl (hcal_83 hall) tw_453 tw_158 tw_159 tw_160 tw_2 nm_83 rfl rfl (by show d + 8 + 1 ≤ d + 1 + 8; omega) (by show 8 + (2 + 11) + (200 + 60 * d) ≤ 200 + 60 * (d + 1); omega) dk_9_10,
    List.forall_mem_cons.mpr ⟨ok_istore_n hx hb dk_9_13 rfl (by decide),
    List.forall_mem_cons.mpr ⟨ok_aload_n hx hb dk_9_14 rfl,
    List.forall_mem_cons.mpr ⟨ok_getr hx hb hts hown hin_2 rfl (by decide) tw_114 dk_9_15,
    List.forall_mem_cons.mpr ⟨ok_getr hx hb hts hown hin_1 rfl (by decide) tw_48 dk_9_18,
    List.forall_mem_cons.mpr ⟨ok_iload_n hx hb dk_9_21 rfl,
    List.forall_mem_cons.mpr ⟨ok_iconst hx hb dk_9_22 rfl,
    List.forall_mem_cons.mpr ⟨ok_iast hx hb dk_9_23,
    List.forall_mem_cons.mpr ⟨ok_iload_n hx hb dk_9_24 rfl,
    List.forall_mem_cons.mpr ⟨ok_zret hx hb hb1 hb2 hr hlocks dk_9_25,
    fun _ h => absurd h List.not_mem_nil⟩⟩⟩⟩⟩⟩⟩⟩⟩⟩⟩⟩⟩⟩⟩⟩
theorem dk_10_0 : decode prog_1_method_11_code 0 = .ok (.aload_n 0, 1) := by decide +kernel
theorem dk_10_1 : decode prog_1_method_11_code 1 = .ok (.getfield 19, 3) := by decide +kernel
theorem dk_10_4 : decode prog_1_method_11_code 4 = .ok (.aload_n 0, 1) := by decide +kernel
theorem dk_10_5 : decode prog_1_method_11_code 5 = .ok (.getfield 10, 3) := by decide +kernel
theorem dk_10_8 : decode prog_1_method_11_code 8 = .ok (.invokevirtual 117, 3) := by decide +kernel
theorem dk_10_11 : decode prog_1_method_11_code 11 = .ok (.istore_n 1, 1) := by decide +kernel
theorem dk_10_12 : decode prog_1_method_11_code 12 = .ok (.iload_n 1, 1) := by decide +kernel
theorem dk_10_13 : decode prog_1_method_11_code 13 = .ok (.iconst (-1), 1) := by decide +kernel
theorem dk_10_14 : decode prog_1_method_11_code 14 = .ok (.if_icmp .eq (14), 3) := by decide +kernel
theorem dk_10_17 : decode prog_1_method_11_code 17 = .ok (.aload_n 0, 1) := by decide +kernel
theorem dk_10_18 : decode prog_1_method_11_code 18 = .ok (.getfield 19, 3) := by decide +kernel
theorem dk_10_21 : decode prog_1_method_11_code 21 = .ok (.aload_n 0, 1) := by decide +kernel
theorem dk_10_22 : decode prog_1_method_11_code 22 = .ok (.getfield 23, 3) := by decide +kernel
theorem dk_10_25 : decode prog_1_method_11_code 25 = .ok (.invokevirtual 121, 3) := by decide +kernel
theorem dk_10_28 : decode prog_1_method_11_code 28 = .ok (.iload_n 1, 1) := by decide +kernel
theorem dk_10_29 : decode prog_1_method_11_code 29 = .ok (.ireturn, 1) := by decide +kernel
set_option maxRecDepth 100000 in
set_option maxHeartbeats 4000000 in
theorem cc_10 {l : Launch} {s0 : State} (hst : l.stackTraces = false) (h0 : am_W0 s0) {d : Nat} (hall : ∀ mi ∈ am_idx, am_CC l s0 d mi) : am_CC l s0 (d + 1) 10 :=
  am_method (y := y_10) (cc := prog_1_method_11_code) (maxL := 2) (ret := (some .int)) (rm := am_rm (d + 1) 0 0) (ops := op_10) (C := am_T am_tabs am_ar d) (ar := 1) h0 (by decide) (by decide) fun p e s m args below meth c D A bS ad0 Q hct htab => by
    obtain ⟨hx, hb, hml, hown, hts, hb1, hb2, hA, hroot, hAs, -, -, hlocks, hr, hnm⟩ := hct
    exact List.forall_mem_cons.mpr ⟨ok_aload_n hx hb dk_10_0 rfl,
    List.forall_mem_cons.mpr ⟨ok_getr hx hb hts hown hin_2 rfl (by decide) tw_115 dk_10_1,
    List.forall_mem_cons.mpr ⟨ok_aload_n hx hb dk_10_4 rfl,
    List.forall_mem_cons.mpr ⟨ok_getr hx hb hts hown hin_2 rfl (by decide) tw_114 dk_10_5,
    List.forall_mem_cons.mpr ⟨ok_cV hx hb hml hown hts hb1 hb2 hA hroot hAs rfl rfl rfl (hcal_70 hall) tw_138 tw_139 tw_140 tw_141 tw_4 nm_70 rfl rfl (by show d + 8 + 1 ≤ d + 1 + 8; omega) (by show 8 + (2 + 11) + (200 + 60 * d) ≤ 200 + 60 * (d + 1); omega) dk_10_8,
    List.forall_mem_cons.mpr ⟨ok_istore_n hx hb dk_10_11 rfl (by decide),
    List.forall_mem_cons.mpr ⟨ok_iload_n hx hb dk_10_12 rfl,
    List.forall_mem_cons.mpr ⟨ok_iconst hx hb dk_10_13 rfl,
    List.forall_mem_cons.mpr ⟨ok_icmp_eq hx hb dk_10_14 (by decide),
    List.forall_mem_cons.mpr ⟨ok_aload_n hx hb dk_10_17 rfl,
    List.forall_mem_cons.mpr ⟨ok_getr hx hb hts hown hin_2 rfl (by decide) tw_115 dk_10_18,
    List.forall_mem_cons.mpr ⟨ok_aload_n hx hb dk_10_21 rfl,
    List.forall_mem_cons.mpr ⟨ok_getr hx hb hts hown hin_2 rfl (by decide) tw_116 dk_10_22,
    List.forall_mem_cons.mpr ⟨ok_cV hx hb hml hown hts hb1 hb2 hA hroot hAs rfl rfl rfl (hcal_73 hall) tw_211 tw_212 tw_213 tw_214 tw_4 nm_73 rfl rfl (by show d + 8 + 1 ≤ d + 1 + 8; omega) (by show 8 + (2 + 11) + (200 + 60 * d) ≤ 200 + 60 * (d + 1); omega) dk_10_25,
    List.forall_mem_cons.mpr ⟨ok_iload_n hx hb dk_10_28 rfl,
    List.forall_mem_cons.mpr ⟨ok_iret hx hb hb1 hb2 hr hlocks dk_10_29,
    fun _ h => absurd h List.not_mem_nil⟩⟩⟩⟩⟩⟩⟩⟩⟩⟩⟩⟩⟩⟩⟩⟩
theorem dk_11_0 : decode prog_1_method_12_code 0 = .ok (.aload_n 0, 1) := by decide +kernel
theorem dk_11_1 : decode prog_1_method_12_code 1 = .ok (.iload_n 1, 1) := by decide +kernel
theorem dk_11_2 : decode prog_1_method_12_code 2 = .ok (.invokevirtual 87, 3) := by decide +kernel
theorem dk_11_5 : decode prog_1_method_12_code 5 = .ok (.aload_n 0, 1) := by decide +kernel
theorem dk_11_6 : decode prog_1_method_12_code 6 = .ok (.iload_n 1, 1) := by decide +kernel
theorem dk_11_7 : decode prog_1_method_12_code 7 = .ok (.iload_n 2, 1) := by decide +kernel
theorem dk_11_8 : decode prog_1_method_12_code 8 = .ok (.invokevirtual 91, 3) := by decide +kernel
theorem dk_11_11 : decode prog_1_method_12_code 11 = .ok (.aload_n 0, 1) := by decide +kernel
theorem dk_11_12 : decode prog_1_method_12_code 12 = .ok (.getfield 10, 3) := by decide +kernel
theorem dk_11_15 : decode prog_1_method_12_code 15 = .ok (.getfield 71, 3) := by decide +kernel
theorem dk_11_18 : decode prog_1_method_12_code 18 = .ok (.iload_n 1, 1) := by decide +kernel
theorem dk_11_19 : decode prog_1_method_12_code 19 = .ok (.iaload, 1) := by decide +kernel
theorem dk_11_20 : decode prog_1_method_12_code 20 = .ok (.istore_n 3, 1) := by decide +kernel
theorem dk_11_21 : decode prog_1_method_12_code 21 = .ok (.aload_n 0, 1) := by decide +kernel
theorem dk_11_22 : decode prog_1_method_12_code 22 = .ok (.getfield 10, 3) := by decide +kernel
theorem dk_11_25 : decode prog_1_method_12_code 25 = .ok (.getfield 71, 3) := by decide +kernel
theorem dk_11_28 : decode prog_1_method_12_code 28 = .ok (.iload_n 1, 1) := by decide +kernel
theorem dk_11_29 : decode prog_1_method_12_code 29 = .ok (.iload_n 2, 1) := by decide +kernel
theorem dk_11_30 : decode prog_1_method_12_code 30 = .ok (.iastore, 1) := by decide +kernel
theorem dk_11_31 : decode prog_1_method_12_code 31 = .ok (.aload_n 0, 1) := by decide +kernel
theorem dk_11_32 : decode prog_1_method_12_code 32 = .ok (.getfield 19, 3) := by decide +kernel
theorem dk_11_35 : decode prog_1_method_12_code 35 = .ok (.aload_n 0, 1) := by decide +kernel
theorem dk_11_36 : decode prog_1_method_12_code 36 = .ok (.getfield 10, 3) := by decide +kernel
theorem dk_11_39 : decode prog_1_method_12_code 39 = .ok (.invokevirtual 117, 3) := by decide +kernel
theorem dk_11_42 : decode prog_1_method_12_code 42 = .ok (.istore 4, 2) := by decide +kernel
theorem dk_11_44 : decode prog_1_method_12_code 44 = .ok (.aload_n 0, 1) := by decide +kernel
theorem dk_11_45 : decode prog_1_method_12_code 45 = .ok (.getfield 10, 3) := by decide +kernel
theorem dk_11_48 : decode prog_1_method_12_code 48 = .ok (.getfield 71, 3) := by decide +kernel
theorem dk_11_51 : decode prog_1_method_12_code 51 = .ok (.iload_n 1, 1) := by decide +kernel
theorem dk_11_52 : decode prog_1_method_12_code 52 = .ok (.iload_n 3, 1) := by decide +kernel
theorem dk_11_53 : decode prog_1_method_12_code 53 = .ok (.iastore, 1) := by decide +kernel
theorem dk_11_54 : decode prog_1_method_12_code 54 = .ok (.iload 4, 2) := by decide +kernel
theorem dk_11_56 : decode prog_1_method_12_code 56 = .ok (.ireturn, 1) := by decide +kernel
set_option maxRecDepth 100000 in
set_option maxHeartbeats 4000000 in
theorem cc_11 {l : Launch} {s0 : State} (hst : l.stackTraces = false) (h0 : am_W0 s0) {d : Nat} (hall : ∀ mi ∈ am_idx, am_CC l s0 d mi) : am_CC l s0 (d + 1) 11 :=
  am_method (y := y_11) (cc := prog_1_method_12_code) (maxL := 5) (ret := (some .int)) (rm := am_rm (d + 1) 2 12) (ops := op_11) (C := am_T am_tabs am_ar d) (ar := 3) h0 (by decide) (by decide) fun p e s m args below meth c D A bS ad0 Q hct htab => by
    obtain ⟨hx, hb, hml, hown, hts, hb1, hb2, hA, hroot, hAs, -, -, hlocks, hr, hnm⟩ := hct
    exact List.forall_mem_cons.mpr ⟨ok_aload_n hx hb dk_11_0 rfl,
    List.forall_mem_cons.mpr ⟨ok_iload_n hx hb dk_11_1 rfl,
    List.forall_mem_cons.mpr ⟨ok_cX hx hb hml hown hts hb1 hb2 hA hroot hAs rfl rfl hlocks htab rfl (hcal_21 hall) tw_381 tw_383 ts_11 tw_384 tw_1 nm_21 rfl rfl (by show d + 8 + 1 ≤ d + 1 + 8; omega) (by show 8 + (2 + 11) + (200 + 60 * d) ≤ 200 + 60 * (d + 1); omega) dk_11_2,
    List.forall_mem_cons.mpr ⟨ok_aload_n hx hb dk_11_5 rfl,
    List.forall_mem_cons.mpr ⟨ok_iload_n hx hb dk_11_6 rfl,
    List.forall_mem_cons.mpr ⟨ok_iload_n hx hb dk_11_7 rfl,
    List.forall_mem_cons.mpr ⟨ok_cX hx hb hml hown hts hb1 hb2 hA hroot hAs rfl rfl hlocks htab rfl (hcal_22 hall) tw_411 tw_413 ts_12 tw_414 tw_1 nm_22 rfl rfl (by show d + 8 + 1 ≤ d + 1 + 8; omega) (by show 8 + (3 + 11) + (200 + 60 * d) ≤ 200 + 60 * (d + 1); omega) dk_11_8,
    List.forall_mem_cons.mpr ⟨ok_aload_n hx hb dk_11_11 rfl,
    List.forall_mem_cons.mpr ⟨ok_getr hx hb hts hown hin_2 rfl (by decide) tw_114 dk_11_12,
    List.forall_mem_cons.mpr ⟨ok_getr hx hb hts hown hin_1 rfl (by decide) tw_42 dk_11_15,
    List.forall_mem_cons.mpr ⟨ok_iload_n hx hb dk_11_18 rfl,
    List.forall_mem_cons.mpr ⟨ok_iald hx hb dk_11_19,
    List.forall_mem_cons.mpr ⟨ok_istore_n hx hb dk_11_20 rfl (by decide),
    List.forall_mem_cons.mpr ⟨ok_aload_n hx hb dk_11_21 rfl,
    List.forall_mem_cons.mpr ⟨ok_getr hx hb hts hown hin_2 rfl (by decide) tw_114 dk_11_22,
    List.forall_mem_cons.mpr ⟨ok_getr hx hb hts hown hin_1 rfl (by decide) tw_42 dk_11_25,
    List.forall_mem_cons.mpr ⟨ok_iload_n hx hb dk_11_28 rfl,
    List.forall_mem_cons.mpr ⟨ok_iload_n hx hb dk_11_29 rfl,
    List.forall_mem_cons.mpr ⟨ok_iast hx hb dk_11_30,
    List.forall_mem_cons.mpr ⟨ok_aload_n hx hb dk_11_31 rfl,
    List.forall_mem_cons.mpr ⟨ok_getr hx hb hts hown hin_2 rfl (by decide) tw_115 dk_11_32,
    List.forall_mem_cons.mpr ⟨ok_aload_n hx hb dk_11_35 rfl,
    List.forall_mem_cons.mpr ⟨ok_getr hx hb hts hown hin_2 rfl (by decide) tw_114 dk_11_36,
    List.forall_mem_cons.mpr ⟨ok_cV hx hb hml hown hts hb1 hb2 hA hroot hAs rfl rfl rfl (hcal_70 hall) tw_138 tw_139 tw_140 tw_141 tw_4 nm_70 rfl rfl (by show d + 8 + 1 ≤ d + 1 + 8; omega) (by show 8 + (2 + 11) + (200 + 60 * d) ≤ 200 + 60 * (d + 1); omega) dk_11_39,
    List.forall_mem_cons.mpr ⟨ok_istore hx hb dk_11_42 (by decide),
    List.forall_mem_cons.mpr ⟨ok_aload_n hx hb dk_11_44 rfl,
    List.forall_mem_cons.mpr ⟨ok_getr hx hb hts hown hin_2 rfl (by decide) tw_114 dk_11_45,
    List.forall_mem_cons.mpr ⟨ok_getr hx hb hts hown hin_1 rfl (by decide) tw_42 dk_11_48,
    List.forall_mem_cons.mpr ⟨ok_iload_n hx hb dk_11_51 rfl,
    List.forall_mem_cons.mpr ⟨ok_iload_n hx hb dk_11_52 rfl,
    List.forall_mem_cons.mpr ⟨ok_iast hx hb dk_11_53,
    List.forall_mem_cons.mpr ⟨ok_iload hx hb dk_11_54,
    List.forall_mem_cons.mpr ⟨ok_iret hx hb hb1 hb2 hr hlocks dk_11_56,
    fun _ h => absurd h List.not_mem_nil⟩⟩⟩⟩⟩⟩⟩⟩⟩⟩⟩⟩⟩⟩⟩⟩⟩⟩⟩⟩⟩⟩⟩⟩⟩⟩⟩⟩⟩⟩⟩⟩⟩
theorem dk_12_0 : decode prog_1_method_13_code 0 = .ok (.aload_n 0, 1) := by decide +kernel
theorem dk_12_1 : decode prog_1_method_13_code 1 = .ok (.iload_n 1, 1) := by decide +kernel
theorem dk_12_2 : decode prog_1_method_13_code 2 = .ok (.invokevirtual 87, 3) := by decide +kernel
theorem dk_12_5 : decode prog_1_method_13_code 5 = .ok (.aload_n 0, 1) := by decide +kernel
theorem dk_12_6 : decode prog_1_method_13_code 6 = .ok (.getfield 23, 3) := by decide +kernel
theorem dk_12_9 : decode prog_1_method_13_code 9 = .ok (.iload_n 1, 1) := by decide +kernel
theorem dk_12_10 : decode prog_1_method_13_code 10 = .ok (.iaload, 1) := by decide +kernel
theorem dk_12_11 : decode prog_1_method_13_code 11 = .ok (.iconst (-1), 1) := by decide +kernel
theorem dk_12_12 : decode prog_1_method_13_code 12 = .ok (.if_icmp .ne (11), 3) := by decide +kernel
theorem dk_12_15 : decode prog_1_method_13_code 15 = .ok (.new 58, 3) := by decide +kernel
theorem dk_12_18 : decode prog_1_method_13_code 18 = .ok (.dup, 1) := by decide +kernel
theorem dk_12_19 : decode prog_1_method_13_code 19 = .ok (.invokespecial 60, 3) := by decide +kernel
theorem dk_12_22 : decode prog_1_method_13_code 22 = .ok (.athrow, 1) := by decide +kernel
theorem dk_12_23 : decode prog_1_method_13_code 23 = .ok (.aload_n 0, 1) := by decide +kernel
theorem dk_12_24 : decode prog_1_method_13_code 24 = .ok (.getfield 23, 3) := by decide +kernel
theorem dk_12_27 : decode prog_1_method_13_code 27 = .ok (.iload_n 1, 1) := by decide +kernel
theorem dk_12_28 : decode prog_1_method_13_code 28 = .ok (.iaload, 1) := by decide +kernel
theorem dk_12_29 : decode prog_1_method_13_code 29 = .ok (.ireturn, 1) := by decide +kernel
set_option maxRecDepth 100000 in
set_option maxHeartbeats 4000000 in
theorem cc_12 {l : Launch} {s0 : State} (hst : l.stackTraces = false) (h0 : am_W0 s0) {d : Nat} (hall : ∀ mi ∈ am_idx, am_CC l s0 d mi) : am_CC l s0 (d + 1) 12 :=
  am_method (y := y_12) (cc := prog_1_method_13_code) (maxL := 2) (ret := (some .int)) (rm := am_rm (d + 1) 2 12) (ops := op_12) (C := am_T am_tabs am_ar d) (ar := 2) h0 (by decide) (by decide) fun p e s m args below meth c D A bS ad0 Q hct htab => by
    obtain ⟨hx, hb, hml, hown, hts, hb1, hb2, hA, hroot, hAs, -, -, hlocks, hr, hnm⟩ := hct
    exact List.forall_mem_cons.mpr ⟨ok_aload_n hx hb dk_12_0 rfl,
    List.forall_mem_cons.mpr ⟨ok_iload_n hx hb dk_12_1 rfl,
    List.forall_mem_cons.mpr ⟨ok_cX hx hb hml hown hts hb1 hb2 hA hroot hAs rfl rfl hlocks htab rfl (hcal_21 hall) tw_381 tw_383 ts_11 tw_384 tw_1 nm_21 rfl rfl (by show d + 8 + 1 ≤ d + 1 + 8; omega) (by show 8 + (2 + 11) + (200 + 60 * d) ≤ 200 + 60 * (d + 1); omega) dk_12_2,
    List.forall_mem_cons.mpr ⟨ok_aload_n hx hb dk_12_5 rfl,
    List.forall_mem_cons.mpr ⟨ok_getr hx hb hts hown hin_2 rfl (by decide) tw_116 dk_12_6,
    List.forall_mem_cons.mpr ⟨ok_iload_n hx hb dk_12_9 rfl,
    List.forall_mem_cons.mpr ⟨ok_iald hx hb dk_12_10,
    List.forall_mem_cons.mpr ⟨ok_iconst hx hb dk_12_11 rfl,
    List.forall_mem_cons.mpr ⟨ok_icmp_ne hx hb dk_12_12 (by decide),
    List.forall_mem_cons.mpr ⟨ok_throw (names := ["java/lang/RuntimeException", "java/lang/Exception"]) hx hb hst (fun U hU => am_hts h0 hU) hown hml hlocks htab rfl rfl hb1 hb2 hroot hAs rfl (by decide) (by decide) tw_358 tw_10 tw_359 (fun U hU => am_own1 h0 hU) (by show 2 + 3 < d + 1 + 8; omega) (by show 8 + (13 * 3 + 42) ≤ 200 + 60 * (d + 1); omega) dk_12_15 dk_12_18 dk_12_19 dk_12_22,
    List.forall_mem_cons.mpr ⟨ok_aload_n hx hb dk_12_23 rfl,
    List.forall_mem_cons.mpr ⟨ok_getr hx hb hts hown hin_2 rfl (by decide) tw_116 dk_12_24,
    List.forall_mem_cons.mpr ⟨ok_iload_n hx hb dk_12_27 rfl,
    List.forall_mem_cons.mpr ⟨ok_iald hx hb dk_12_28,
    List.forall_mem_cons.mpr ⟨ok_iret hx hb hb1 hb2 hr hlocks dk_12_29,
    fun _ h => absurd h List.not_mem_nil⟩⟩⟩⟩⟩⟩⟩⟩⟩⟩⟩⟩⟩⟩⟩
theorem dk_13_0 : decode prog_1_method_14_code 0 = .ok (.iconst (0), 1) := by decide +kernel
theorem dk_13_1 : decode prog_1_method_14_code 1 = .ok (.istore_n 2, 1) := by decide +kernel
theorem dk_13_2 : decode prog_1_method_14_code 2 = .ok (.iload_n 2, 1) := by decide +kernel
theorem dk_13_3 : decode prog_1_method_14_code 3 = .ok (.bipush (7), 2) := by decide +kernel
theorem dk_13_5 : decode prog_1_method_14_code 5 = .ok (.if_icmp .ge (33), 3) := by decide +kernel
theorem dk_13_8 : decode prog_1_method_14_code 8 = .ok (.aload_n 0, 1) := by decide +kernel
theorem dk_13_9 : decode prog_1_method_14_code 9 = .ok (.getfield 23, 3) := by decide +kernel
theorem dk_13_12 : decode prog_1_method_14_code 12 = .ok (.iload_n 2, 1) := by decide +kernel
theorem dk_13_13 : decode prog_1_method_14_code 13 = .ok (.iaload, 1) := by decide +kernel
theorem dk_13_14 : decode prog_1_method_14_code 14 = .ok (.iconst (-1), 1) := by decide +kernel
theorem dk_13_15 : decode prog_1_method_14_code 15 = .ok (.if_icmp .eq (17), 3) := by decide +kernel
theorem dk_13_18 : decode prog_1_method_14_code 18 = .ok (.aload_n 0, 1) := by decide +kernel
theorem dk_13_19 : decode prog_1_method_14_code 19 = .ok (.getfield 23, 3) := by decide +kernel
theorem dk_13_22 : decode prog_1_method_14_code 22 = .ok (.iload_n 2, 1) := by decide +kernel
theorem dk_13_23 : decode prog_1_method_14_code 23 = .ok (.invokestatic 125, 3) := by decide +kernel
theorem dk_13_26 : decode prog_1_method_14_code 26 = .ok (.iload_n 1, 1) := by decide +kernel
theorem dk_13_27 : decode prog_1_method_14_code 27 = .ok (.if_icmp .ne (5), 3) := by decide +kernel
theorem dk_13_30 : decode prog_1_method_14_code 30 = .ok (.iload_n 2, 1) := by decide +kernel
theorem dk_13_31 : decode prog_1_method_14_code 31 = .ok (.ireturn, 1) := by decide +kernel
theorem dk_13_32 : decode prog_1_method_14_code 32 = .ok (.iinc 2 (1), 3) := by decide +kernel
theorem dk_13_35 : decode prog_1_method_14_code 35 = .ok (.goto (-33), 3) := by decide +kernel
theorem dk_13_38 : decode prog_1_method_14_code 38 = .ok (.new 129, 3) := by decide +kernel
theorem dk_13_41 : decode prog_1_method_14_code 41 = .ok (.dup, 1) := by decide +kernel
theorem dk_13_42 : decode prog_1_method_14_code 42 = .ok (.invokespecial 131, 3) := by decide +kernel
theorem dk_13_45 : decode prog_1_method_14_code 45 = .ok (.athrow, 1) := by decide +kernel
set_option maxRecDepth 100000 in
set_option maxHeartbeats 4000000 in
theorem cc_13 {l : Launch} {s0 : State} (hst : l.stackTraces = false) (h0 : am_W0 s0) {d : Nat} (hall : ∀ mi ∈ am_idx, am_CC l s0 d mi) : am_CC l s0 (d + 1) 13 :=
  am_method (y := y_13) (cc := prog_1_method_14_code) (maxL := 3) (ret := (some .int)) (rm := am_rm (d + 1) 1 6) (ops := op_13) (C := am_T am_tabs am_ar d) (ar := 2) h0 (by decide) (by decide) fun p e s m args below meth c D A bS ad0 Q hct htab => by
    obtain ⟨hx, hb, hml, hown, hts, hb1, hb2, hA, hroot, hAs, -, -, hlocks, hr, hnm⟩ := hct
    exact List.forall_mem_cons.mpr ⟨ok_iconst hx hb dk_13_0 rfl,
    List.forall_mem_cons.mpr ⟨ok_istore_n hx hb dk_13_1 rfl (by decide),
    List.forall_mem_cons.mpr ⟨ok_iload_n hx hb dk_13_2 rfl,
    List.forall_mem_cons.mpr ⟨ok_bipush hx hb dk_13_3 (by decide),
    List.forall_mem_cons.mpr ⟨ok_icmp_ge hx hb dk_13_5 (by decide),
    List.forall_mem_cons.mpr ⟨ok_aload_n hx hb dk_13_8 rfl,
    List.forall_mem_cons.mpr ⟨ok_getr hx hb hts hown hin_2 rfl (by decide) tw_116 dk_13_9,
    List.forall_mem_cons.mpr ⟨ok_iload_n hx hb dk_13_12 rfl,
    List.forall_mem_cons.mpr ⟨ok_iald hx hb dk_13_13,
    List.forall_mem_cons.mpr ⟨ok_iconst hx hb dk_13_14 rfl,
    List.forall_mem_cons.mpr ⟨ok_icmp_eq hx hb dk_13_15 (by decide),
    List.forall_mem_cons.mpr ⟨ok_aload_n hx hb dk_13_18 rfl,
    List.forall_mem_cons.mpr ⟨ok_getr hx hb hts hown hin_2 rfl (by decide) tw_116 dk_13_19,
    List.forall_mem_cons.mpr ⟨ok_iload_n hx hb dk_13_22 rfl,
    List.forall_mem_cons.mpr ⟨ok_cS hx hb hml hown hts hb1 hb2 hA hroot hAs rfl rfl (hcal_30 hall) tw_476 tw_240 tw_241 tw_1 nm_30 rfl rfl (by show d + 8 + 1 ≤ d + 1 + 8; omega) (by show 8 + (4 + 11) + (200 + 60 * d) ≤ 200 + 60 * (d + 1); omega) dk_13_23,
    List.forall_mem_cons.mpr ⟨ok_iload_n hx hb dk_13_26 rfl,
    List.forall_mem_cons.mpr ⟨ok_icmp_ne hx hb dk_13_27 (by decide),
    List.forall_mem_cons.mpr ⟨ok_iload_n hx hb dk_13_30 rfl,
    List.forall_mem_cons.mpr ⟨ok_iret hx hb hb1 hb2 hr hlocks dk_13_31,
    List.forall_mem_cons.mpr ⟨ok_iinc hx hb dk_13_32 rfl (by decide),
    List.forall_mem_cons.mpr ⟨ok_goto hx hb dk_13_35 (by decide),
    List.forall_mem_cons.mpr ⟨ok_throw (names := ["java/lang/RuntimeException", "java/lang/Exception"]) hx hb hst (fun U hU => am_hts h0 hU) hown hml hlocks htab rfl rfl hb1 hb2 hroot hAs rfl (by decide) (by decide) tw_477 tw_14 tw_478 (fun U hU => am_own3 h0 hU) (by show 2 + 3 < d + 1 + 8; omega) (by show 8 + (13 * 3 + 42) ≤ 200 + 60 * (d + 1); omega) dk_13_38 dk_13_41 dk_13_42 dk_13_45,
    fun _ h => absurd h List.not_mem_nil⟩⟩⟩⟩⟩⟩⟩⟩⟩⟩⟩⟩⟩⟩⟩⟩⟩⟩⟩⟩⟩⟩
theorem dk_14_0 : decode prog_1_method_15_code 0 = .ok (.aload_n 0, 1) := by decide +kernel
theorem dk_14_1 : decode prog_1_method_15_code 1 = .ok (.iload_n 1, 1) := by decide +kernel
theorem dk_14_2 : decode prog_1_method_15_code 2 = .ok (.invokevirtual 87, 3) := by decide +kernel
theorem dk_14_5 : decode prog_1_method_15_code 5 = .ok (.aload_n 0, 1) := by decide +kernel
theorem dk_14_6 : decode prog_1_method_15_code 6 = .ok (.getfield 10, 3) := by decide +kernel
theorem dk_14_9 : decode prog_1_method_15_code 9 = .ok (.iload_n 1, 1) := by decide +kernel
theorem dk_14_10 : decode prog_1_method_15_code 10 = .ok (.invokevirtual 132, 3) := by decide +kernel
theorem dk_14_13 : decode prog_1_method_15_code 13 = .ok (.ireturn, 1) := by decide +kernel
set_option maxRecDepth 100000 in
set_option maxHeartbeats 4000000 in
theorem cc_14 {l : Launch} {s0 : State} (hst : l.stackTraces = false) (h0 : am_W0 s0) {d : Nat} (hall : ∀ mi ∈ am_idx, am_CC l s0 d mi) : am_CC l s0 (d + 1) 14 :=
  am_method (y := y_14) (cc := prog_1_method_15_code) (maxL := 2) (ret := (some .int)) (rm := am_rm (d + 1) 1 6) (ops := op_14) (C := am_T am_tabs am_ar d) (ar := 2) h0 (by decide) (by decide) fun p e s m args below meth c D A bS ad0 Q hct htab => by
    obtain ⟨hx, hb, hml, hown, hts, hb1, hb2, hA, hroot, hAs, -, -, hlocks, hr, hnm⟩ := hct
    exact List.forall_mem_cons.mpr ⟨ok_aload_n hx hb dk_14_0 rfl,
    List.forall_mem_cons.mpr ⟨ok_iload_n hx hb dk_14_1 rfl,
    List.forall_mem_cons.mpr ⟨ok_cX hx hb hml hown hts hb1 hb2 hA hroot hAs rfl rfl hlocks htab rfl (hcal_21 hall) tw_381 tw_383 ts_11 tw_384 tw_1 nm_21 rfl rfl (by show d + 8 + 1 ≤ d + 1 + 8; omega) (by show 8 + (2 + 11) + (200 + 60 * d) ≤ 200 + 60 * (d + 1); omega) dk_14_2,
    List.forall_mem_cons.mpr ⟨ok_aload_n hx hb dk_14_5 rfl,
    List.forall_mem_cons.mpr ⟨ok_getr hx hb hts hown hin_2 rfl (by decide) tw_114 dk_14_6,
    List.forall_mem_cons.mpr ⟨ok_iload_n hx hb dk_14_9 rfl,
    List.forall_mem_cons.mpr ⟨ok_cV hx hb hml hown hts hb1 hb2 hA hroot hAs rfl rfl rfl (hcal_86 hall) tw_499 tw_147 tw_148 tw_149 tw_2 nm_86 rfl rfl (by show d + 8 + 1 ≤ d + 1 + 8; omega) (by show 8 + (4 + 11) + (200 + 60 * d) ≤ 200 + 60 * (d + 1); omega) dk_14_10,
    List.forall_mem_cons.mpr ⟨ok_iret hx hb hb1 hb2 hr hlocks dk_14_13,
    fun _ h => absurd h List.not_mem_nil⟩⟩⟩⟩⟩⟩⟩⟩
theorem dk_15_0 : decode prog_1_method_16_code 0 = .ok (.aload_n 0, 1) := by decide +kernel
theorem dk_15_1 : decode prog_1_method_16_code 1 = .ok (.getfield 10, 3) := by decide +kernel
theorem dk_15_4 : decode prog_1_method_16_code 4 = .ok (.aload_n 0, 1) := by decide +kernel
theorem dk_15_5 : decode prog_1_method_16_code 5 = .ok (.getfield 23, 3) := by decide +kernel
theorem dk_15_8 : decode prog_1_method_16_code 8 = .ok (.invokevirtual 136, 3) := by decide +kernel
theorem dk_15_11 : decode prog_1_method_16_code 11 = .ok (.ireturn, 1) := by decide +kernel
set_option maxRecDepth 100000 in
set_option maxHeartbeats 4000000 in
theorem cc_15 {l : Launch} {s0 : State} (hst : l.stackTraces = false) (h0 : am_W0 s0) {d : Nat} (hall : ∀ mi ∈ am_idx, am_CC l s0 d mi) : am_CC l s0 (d + 1) 15 :=
  am_method (y := y_15) (cc := prog_1_method_16_code) (maxL := 1) (ret := (some .int)) (rm := am_rm (d + 1) 0 0) (ops := op_15) (C := am_T am_tabs am_ar d) (ar := 1) h0 (by decide) (by decide) fun p e s m args below meth c D A bS ad0 Q hct htab => by
    obtain ⟨hx, hb, hml, hown, hts, hb1, hb2, hA, hroot, hAs, -, -, hlocks, hr, hnm⟩ := hct
    exact List.forall_mem_cons.mpr ⟨ok_aload_n hx hb dk_15_0 rfl,
    List.forall_mem_cons.mpr ⟨ok_getr hx hb hts hown hin_2 rfl (by decide) tw_114 dk_15_1,
    List.forall_mem_cons.mpr ⟨ok_aload_n hx hb dk_15_4 rfl,
    List.forall_mem_cons.mpr ⟨ok_getr hx hb hts hown hin_2 rfl (by decide) tw_116 dk_15_5,
    List.forall_mem_cons.mpr ⟨ok_cV hx hb hml hown hts hb1 hb2 hA hroot hAs rfl rfl rfl (hcal_94 hall) tw_219 tw_220 tw_221 tw_222 tw_2 nm_94 rfl rfl (by show d + 8 + 1 ≤ d + 1 + 8; omega) (by show 8 + (3 + 11) + (200 + 60 * d) ≤ 200 + 60 * (d + 1); omega) dk_15_8,
    List.forall_mem_cons.mpr ⟨ok_iret hx hb hb1 hb2 hr hlocks dk_15_11,
    fun _ h => absurd h List.not_mem_nil⟩⟩⟩⟩⟩⟩
theorem dk_16_0 : decode prog_1_method_17_code 0 = .ok (.aload_n 0, 1) := by decide +kernel
theorem dk_16_1 : decode prog_1_method_17_code 1 = .ok (.getfield 19, 3) := by decide +kernel
theorem dk_16_4 : decode prog_1_method_17_code 4 = .ok (.aload_n 0, 1) := by decide +kernel
theorem dk_16_5 : decode prog_1_method_17_code 5 = .ok (.getfield 10, 3) := by decide +kernel
theorem dk_16_8 : decode prog_1_method_17_code 8 = .ok (.invokevirtual 140, 3) := by decide +kernel
theorem dk_16_11 : decode prog_1_method_17_code 11 = .ok (.ireturn, 1) := by decide +kernel
set_option maxRecDepth 100000 in
set_option maxHeartbeats 4000000 in
theorem cc_16 {l : Launch} {s0 : State} (hst : l.stackTraces = false) (h0 : am_W0 s0) {d : Nat} (hall : ∀ mi ∈ am_idx, am_CC l s0 d mi) : am_CC l s0 (d + 1) 16 :=
  am_method (y := y_16) (cc := prog_1_method_17_code) (maxL := 1) (ret := (some .int)) (rm := am_rm (d + 1) 0 0) (ops := op_16) (C := am_T am_tabs am_ar d) (ar := 1) h0 (by decide) (by decide) fun p e s m args below meth c D A bS ad0 Q hct htab => by
    obtain ⟨hx, hb, hml, hown, hts, hb1, hb2, hA, hroot, hAs, -, -, hlocks, hr, hnm⟩ := hct
    exact List.forall_mem_cons.mpr ⟨ok_aload_n hx hb dk_16_0 rfl,
    List.forall_mem_cons.mpr ⟨ok_getr hx hb hts hown hin_2 rfl (by decide) tw_115 dk_16_1,
    List.forall_mem_cons.mpr ⟨ok_aload_n hx hb dk_16_4 rfl,
    List.forall_mem_cons.mpr ⟨ok_getr hx hb hts hown hin_2 rfl (by decide) tw_114 dk_16_5,
    List.forall_mem_cons.mpr ⟨ok_cV hx hb hml hown hts hb1 hb2 hA hroot hAs rfl rfl rfl (hcal_71 hall) tw_249 tw_250 tw_251 tw_252 tw_4 nm_71 rfl rfl (by show d + 8 + 1 ≤ d + 1 + 8; omega) (by show 8 + (4 + 11) + (200 + 60 * d) ≤ 200 + 60 * (d + 1); omega) dk_16_8,
    List.forall_mem_cons.mpr ⟨ok_iret hx hb hb1 hb2 hr hlocks dk_16_11,
    fun _ h => absurd h List.not_mem_nil⟩⟩⟩⟩⟩⟩
theorem dk_17_0 : decode prog_1_method_18_code 0 = .ok (.aload_n 0, 1) := by decide +kernel
theorem dk_17_1 : decode prog_1_method_18_code 1 = .ok (.getfield 19, 3) := by decide +kernel
theorem dk_17_4 : decode prog_1_method_18_code 4 = .ok (.aload_n 0, 1) := by decide +kernel
theorem dk_17_5 : decode prog_1_method_18_code 5 = .ok (.getfield 10, 3) := by decide +kernel
theorem dk_17_8 : decode prog_1_method_18_code 8 = .ok (.invokevirtual 143, 3) := by decide +kernel
theorem dk_17_11 : decode prog_1_method_18_code 11 = .ok (.ireturn, 1) := by decide +kernel
set_option maxRecDepth 100000 in
set_option maxHeartbeats 4000000 in
theorem cc_17 {l : Launch} {s0 : State} (hst : l.stackTraces = false) (h0 : am_W0 s0) {d : Nat} (hall : ∀ mi ∈ am_idx, am_CC l s0 d mi) : am_CC l s0 (d + 1) 17 :=
  am_method (y := y_17) (cc := prog_1_method_18_code) (maxL := 1) (ret := (some .int)) (rm := am_rm (d + 1) 0 0) (ops := op_17) (C := am_T am_tabs am_ar d) (ar := 1) h0 (by decide) (by decide) fun p e s m args below meth c D A bS ad0 Q hct htab => by
    obtain ⟨hx, hb, hml, hown, hts, hb1, hb2, hA, hroot, hAs, -, -, hlocks, hr, hnm⟩ := hct
    exact List.forall_mem_cons.mpr ⟨ok_aload_n hx hb dk_17_0 rfl,
    List.forall_mem_cons.mpr ⟨ok_getr hx hb hts hown hin_2 rfl (by decide) tw_115 dk_17_1,
    List.forall_mem_cons.mpr ⟨ok_aload_n hx hb dk_17_4 rfl,
    List.forall_mem_cons.mpr ⟨ok_getr hx hb hts hown hin_2 rfl (by decide) tw_114 dk_17_5,
    List.forall_mem_cons.mpr ⟨ok_cV hx hb hml hown hts hb1 hb2 hA hroot hAs rfl rfl rfl (hcal_72 hall) tw_257 tw_258 tw_259 tw_260 tw_4 nm_72 rfl rfl (by show d + 8 + 1 ≤ d + 1 + 8; omega) (by show 8 + (2 + 11) + (200 + 60 * d) ≤ 200 + 60 * (d + 1); omega) dk_17_8,
    List.forall_mem_cons.mpr ⟨ok_iret hx hb hb1 hb2 hr hlocks dk_17_11,
    fun _ h => absurd h List.not_mem_nil⟩⟩⟩⟩⟩⟩
theorem dk_18_0 : decode prog_1_method_19_code 0 = .ok (.aload_n 0, 1) := by decide +kernel
theorem dk_18_1 : decode prog_1_method_19_code 1 = .ok (.iload_n 1, 1) := by decide +kernel
theorem dk_18_2 : decode prog_1_method_19_code 2 = .ok (.invokevirtual 87, 3) := by decide +kernel
theorem dk_18_5 : decode prog_1_method_19_code 5 = .ok (.aload_n 0, 1) := by decide +kernel
theorem dk_18_6 : decode prog_1_method_19_code 6 = .ok (.getfield 10, 3) := by decide +kernel
theorem dk_18_9 : decode prog_1_method_19_code 9 = .ok (.aload_n 0, 1) := by decide +kernel
theorem dk_18_10 : decode prog_1_method_19_code 10 = .ok (.getfield 23, 3) := by decide +kernel
theorem dk_18_13 : decode prog_1_method_19_code 13 = .ok (.invokevirtual 136, 3) := by decide +kernel
theorem dk_18_16 : decode prog_1_method_19_code 16 = .ok (.iconst (-1), 1) := by decide +kernel
theorem dk_18_17 : decode prog_1_method_19_code 17 = .ok (.if_icmp .eq (11), 3) := by decide +kernel
theorem dk_18_20 : decode prog_1_method_19_code 20 = .ok (.new 58, 3) := by decide +kernel
theorem dk_18_23 : decode prog_1_method_19_code 23 = .ok (.dup, 1) := by decide +kernel
theorem dk_18_24 : decode prog_1_method_19_code 24 = .ok (.invokespecial 60, 3) := by decide +kernel
theorem dk_18_27 : decode prog_1_method_19_code 27 = .ok (.athrow, 1) := by decide +kernel
theorem dk_18_28 : decode prog_1_method_19_code 28 = .ok (.aload_n 0, 1) := by decide +kernel
theorem dk_18_29 : decode prog_1_method_19_code 29 = .ok (.iload_n 1, 1) := by decide +kernel
theorem dk_18_30 : decode prog_1_method_19_code 30 = .ok (.invokevirtual 146, 3) := by decide +kernel
theorem dk_18_33 : decode prog_1_method_19_code 33 = .ok (.aload_n 0, 1) := by decide +kernel
theorem dk_18_34 : decode prog_1_method_19_code 34 = .ok (.getfield 23, 3) := by decide +kernel
theorem dk_18_37 : decode prog_1_method_19_code 37 = .ok (.iload_n 1, 1) := by decide +kernel
theorem dk_18_38 : decode prog_1_method_19_code 38 = .ok (.iaload, 1) := by decide +kernel
theorem dk_18_39 : decode prog_1_method_19_code 39 = .ok (.isub, 1) := by decide +kernel
theorem dk_18_40 : decode prog_1_method_19_code 40 = .ok (.ireturn, 1) := by decide +kernel
set_option maxRecDepth 100000 in
set_option maxHeartbeats 4000000 in
theorem cc_18 {l : Launch} {s0 : State} (hst : l.stackTraces = false) (h0 : am_W0 s0) {d : Nat} (hall : ∀ mi ∈ am_idx, am_CC l s0 d mi) : am_CC l s0 (d + 1) 18 :=
  am_method (y := y_18) (cc := prog_1_method_19_code) (maxL := 2) (ret := (some .int)) (rm := am_rm (d + 1) 2 12) (ops := op_18) (C := am_T am_tabs am_ar d) (ar := 2) h0 (by decide) (by decide) fun p e s m args below meth c D A bS ad0 Q hct htab => by
    obtain ⟨hx, hb, hml, hown, hts, hb1, hb2, hA, hroot, hAs, -, -, hlocks, hr, hnm⟩ := hct
    exact List.forall_mem_cons.mpr ⟨ok_aload_n hx hb dk_18_0 rfl,
    List.forall_mem_cons.mpr ⟨ok_iload_n hx hb dk_18_1 rfl,
    List.forall_mem_cons.mpr ⟨ok_cX hx hb hml hown hts hb1 hb2 hA hroot hAs rfl rfl hlocks htab rfl (hcal_21 hall) tw_381 tw_383 ts_11 tw_384 tw_1 nm_21 rfl rfl (by show d + 8 + 1 ≤ d + 1 + 8; omega) (by show 8 + (2 + 11) + (200 + 60 * d) ≤ 200 + 60 * (d + 1); omega) dk_18_2,
    List.forall_mem_cons.mpr ⟨ok_aload_n hx hb dk_18_5 rfl,
    List.forall_mem_cons.mpr ⟨ok_getr hx hb hts hown hin_2 rfl (by decide) tw_114 dk_18_6,
    List.forall_mem_cons.mpr ⟨ok_aload_n hx hb dk_18_9 rfl,
    List.forall_mem_cons.mpr ⟨ok_getr hx hb hts hown hin_2 rfl (by decide) tw_116 dk_18_10,
    List.forall_mem_cons.mpr ⟨ok_cV hx hb hml hown hts hb1 hb2 hA hroot hAs rfl rfl rfl (hcal_94 hall) tw_219 tw_220 tw_221 tw_222 tw_2 nm_94 rfl rfl (by show d + 8 + 1 ≤ d + 1 + 8; omega) (by show 8 + (3 + 11) + (200 + 60 * d) ≤ 200 + 60 * (d + 1); omega) dk_18_13,
    List.forall_mem_cons.mpr ⟨ok_iconst hx hb dk_18_16 rfl,
    List.forall_mem_cons.mpr ⟨ok_icmp_eq hx hb dk_18_17 (by decide),
    List.forall_mem_cons.mpr ⟨ok_throw (names := ["java/lang/RuntimeException", "java/lang/Exception"]) hx hb hst (fun U hU => am_hts h0 hU) hown hml hlocks htab rfl rfl hb1 hb2 hroot hAs rfl (by decide) (by decide) tw_358 tw_10 tw_359 (fun U hU => am_own1 h0 hU) (by show 2 + 3 < d + 1 + 8; omega) (by show 8 + (13 * 3 + 42) ≤ 200 + 60 * (d + 1); omega) dk_18_20 dk_18_23 dk_18_24 dk_18_27,
    List.forall_mem_cons.mpr ⟨ok_aload_n hx hb dk_18_28 rfl,
    List.forall_mem_cons.mpr ⟨ok_iload_n hx hb dk_18_29 rfl,
    List.forall_mem_cons.mpr ⟨ok_cV hx hb hml hown hts hb1 hb2 hA hroot hAs rfl rfl rfl (hcal_25 hall) tw_507 tw_509 ts_14 tw_510 tw_1 nm_25 rfl rfl (by show d + 8 + 1 ≤ d + 1 + 8; omega) (by show 8 + (4 + 11) + (200 + 60 * d) ≤ 200 + 60 * (d + 1); omega) dk_18_30,
    List.forall_mem_cons.mpr ⟨ok_aload_n hx hb dk_18_33 rfl,
    List.forall_mem_cons.mpr ⟨ok_getr hx hb hts hown hin_2 rfl (by decide) tw_116 dk_18_34,
    List.forall_mem_cons.mpr ⟨ok_iload_n hx hb dk_18_37 rfl,
    List.forall_mem_cons.mpr ⟨ok_iald hx hb dk_18_38,
    List.forall_mem_cons.mpr ⟨ok_isub hx hb dk_18_39,
    List.forall_mem_cons.mpr ⟨ok_iret hx hb hb1 hb2 hr hlocks dk_18_40,
    fun _ h => absurd h List.not_mem_nil⟩⟩⟩⟩⟩⟩⟩⟩⟩⟩⟩⟩⟩⟩⟩⟩⟩⟩⟩⟩
theorem dk_19_0 : decode prog_1_method_20_code 0 = .ok (.iconst (0), 1) := by decide +kernel
theorem dk_19_1 : decode prog_1_method_20_code 1 = .ok (.istore_n 1, 1) := by decide +kernel
theorem dk_19_2 : decode prog_1_method_20_code 2 = .ok (.iconst (0), 1) := by decide +kernel
theorem dk_19_3 : decode prog_1_method_20_code 3 = .ok (.istore_n 2, 1) := by decide +kernel
theorem dk_19_4 : decode prog_1_method_20_code 4 = .ok (.iload_n 2, 1) := by decide +kernel
theorem dk_19_5 : decode prog_1_method_20_code 5 = .ok (.bipush (7), 2) := by decide +kernel
theorem dk_19_7 : decode prog_1_method_20_code 7 = .ok (.if_icmp .ge (20), 3) := by decide +kernel
theorem dk_19_10 : decode prog_1_method_20_code 10 = .ok (.aload_n 0, 1) := by decide +kernel
theorem dk_19_11 : decode prog_1_method_20_code 11 = .ok (.iload_n 2, 1) := by decide +kernel
theorem dk_19_12 : decode prog_1_method_20_code 12 = .ok (.invokevirtual 149, 3) := by decide +kernel
theorem dk_19_15 : decode prog_1_method_20_code 15 = .ok (.ifCond .eq (6), 3) := by decide +kernel
theorem dk_19_18 : decode prog_1_method_20_code 18 = .ok (.iinc 1 (1), 3) := by decide +kernel
theorem dk_19_21 : decode prog_1_method_20_code 21 = .ok (.iinc 2 (1), 3) := by decide +kernel
theorem dk_19_24 : decode prog_1_method_20_code 24 = .ok (.goto (-20), 3) := by decide +kernel
theorem dk_19_27 : decode prog_1_method_20_code 27 = .ok (.aload_n 0, 1) := by decide +kernel
theorem dk_19_28 : decode prog_1_method_20_code 28 = .ok (.getfield 23, 3) := by decide +kernel
theorem dk_19_31 : decode prog_1_method_20_code 31 = .ok (.iconst (0), 1) := by decide +kernel
theorem dk_19_32 : decode prog_1_method_20_code 32 = .ok (.aload_n 0, 1) := by decide +kernel
theorem dk_19_33 : decode prog_1_method_20_code 33 = .ok (.getfield 27, 3) := by decide +kernel
theorem dk_19_36 : decode prog_1_method_20_code 36 = .ok (.iconst (0), 1) := by decide +kernel
theorem dk_19_37 : decode prog_1_method_20_code 37 = .ok (.bipush (7), 2) := by decide +kernel
theorem dk_19_39 : decode prog_1_method_20_code 39 = .ok (.invokestatic 152, 3) := by decide +kernel
theorem dk_19_42 : decode prog_1_method_20_code 42 = .ok (.iload_n 1, 1) := by decide +kernel
theorem dk_19_43 : decode prog_1_method_20_code 43 = .ok (.ireturn, 1) := by decide +kernel
set_option maxRecDepth 100000 in
set_option maxHeartbeats 4000000 in
theorem cc_19 {l : Launch} {s0 : State} (hst : l.stackTraces = false) (h0 : am_W0 s0) {d : Nat} (hall : ∀ mi ∈ am_idx, am_CC l s0 d mi) : am_CC l s0 (d + 1) 19 :=
  am_method (y := y_19) (cc := prog_1_method_20_code) (maxL := 3) (ret := (some .int)) (rm := am_rm (d + 1) 0 0) (ops := op_19) (C := am_T am_tabs am_ar d) (ar := 1) h0 (by decide) (by decide) fun p e s m args below meth c D A bS ad0 Q hct htab => by
    obtain ⟨hx, hb, hml, hown, hts, hb1, hb2, hA, hroot, hAs, -, -, hlocks, hr, hnm⟩ := hct
    exact List.forall_mem_cons.mpr ⟨ok_iconst hx hb dk_19_0 rfl,
    List.forall_mem_cons.mpr ⟨ok_istore_n hx hb dk_19_1 rfl (by decide),
    List.forall_mem_cons.mpr ⟨ok_iconst hx hb dk_19_2 rfl,
    List.forall_mem_cons.mpr ⟨ok_istore_n hx hb dk_19_3 rfl (by decide),
    List.forall_mem_cons.mpr ⟨ok_iload_n hx hb dk_19_4 rfl,
    List.forall_mem_cons.mpr ⟨ok_bipush hx hb dk_19_5 (by decide),
    List.forall_mem_cons.mpr ⟨ok_icmp_ge hx hb dk_19_7 (by decide),
    List.forall_mem_cons.mpr ⟨ok_aload_n hx hb dk_19_10 rfl,
    List.forall_mem_cons.mpr ⟨ok_iload_n hx hb dk_19_11 rfl,
    List.forall_mem_cons.mpr ⟨ok_cV hx hb hml hown hts hb1 hb2 hA hroot hAs rfl rfl rfl (hcal_23 hall) tw_265 tw_267 ts_9 tw_268 tw_1 nm_23 rfl rfl (by show d + 8 + 1 ≤ d + 1 + 8; omega) (by show 8 + (2 + 11) + (200 + 60 * d) ≤ 200 + 60 * (d + 1); omega) dk_19_12,
    List.forall_mem_cons.mpr ⟨ok_if_eq hx hb dk_19_15 (by decide),
    List.forall_mem_cons.mpr ⟨ok_iinc hx hb dk_19_18 rfl (by decide),
    List.forall_mem_cons.mpr ⟨ok_iinc hx hb dk_19_21 rfl (by decide),
    List.forall_mem_cons.mpr ⟨ok_goto hx hb dk_19_24 (by decide),
    List.forall_mem_cons.mpr ⟨ok_aload_n hx hb dk_19_27 rfl,
    List.forall_mem_cons.mpr ⟨ok_getr hx hb hts hown hin_2 rfl (by decide) tw_116 dk_19_28,
    List.forall_mem_cons.mpr ⟨ok_iconst hx hb dk_19_31 rfl,
    List.forall_mem_cons.mpr ⟨ok_aload_n hx hb dk_19_32 rfl,
    List.forall_mem_cons.mpr ⟨ok_getr hx hb hts hown hin_2 rfl (by decide) tw_117 dk_19_33,
    List.forall_mem_cons.mpr ⟨ok_iconst hx hb dk_19_36 rfl,
    List.forall_mem_cons.mpr ⟨ok_bipush hx hb dk_19_37 (by decide),
    List.forall_mem_cons.mpr ⟨ok_copy hx hb hts hown hml tw_269 tw_190 tw_189 tw_13 (by show 1 ≤ d + 1 + 8; omega) (by have h9 := am_cpw; show 8 + (nativeFrameWords "java/lang/System" "arraycopy" 5 + 11) ≤ 200 + 60 * (d + 1); omega) dk_19_39,
    List.forall_mem_cons.mpr ⟨ok_iload_n hx hb dk_19_42 rfl,
    List.forall_mem_cons.mpr ⟨ok_iret hx hb hb1 hb2 hr hlocks dk_19_43,
    fun _ h => absurd h List.not_mem_nil⟩⟩⟩⟩⟩⟩⟩⟩⟩⟩⟩⟩⟩⟩⟩⟩⟩⟩⟩⟩⟩⟩⟩⟩
theorem dk_20_0 : decode prog_1_method_21_code 0 = .ok (.aload_n 0, 1) := by decide +kernel
theorem dk_20_1 : decode prog_1_method_21_code 1 = .ok (.iload_n 1, 1) := by decide +kernel
theorem dk_20_2 : decode prog_1_method_21_code 2 = .ok (.invokevirtual 158, 3) := by decide +kernel
theorem dk_20_5 : decode prog_1_method_21_code 5 = .ok (.istore_n 3, 1) := by decide +kernel
theorem dk_20_6 : decode prog_1_method_21_code 6 = .ok (.iload_n 3, 1) := by decide +kernel
theorem dk_20_7 : decode prog_1_method_21_code 7 = .ok (.iconst (-1), 1) := by decide +kernel
theorem dk_20_8 : decode prog_1_method_21_code 8 = .ok (.if_icmp .ne (11), 3) := by decide +kernel
theorem dk_20_11 : decode prog_1_method_21_code 11 = .ok (.new 129, 3) := by decide +kernel
theorem dk_20_14 : decode prog_1_method_21_code 14 = .ok (.dup, 1) := by decide +kernel
theorem dk_20_15 : decode prog_1_method_21_code 15 = .ok (.invokespecial 131, 3) := by decide +kernel
theorem dk_20_18 : decode prog_1_method_21_code 18 = .ok (.athrow, 1) := by decide +kernel
theorem dk_20_19 : decode prog_1_method_21_code 19 = .ok (.iload_n 2, 1) := by decide +kernel
theorem dk_20_20 : decode prog_1_method_21_code 20 = .ok (.tableswitch (44) (0) (2) #[(28), (30), (37)], 28) := by decide +kernel
theorem dk_20_48 : decode prog_1_method_21_code 48 = .ok (.iload_n 3, 1) := by decide +kernel
theorem dk_20_49 : decode prog_1_method_21_code 49 = .ok (.ireturn, 1) := by decide +kernel
theorem dk_20_50 : decode prog_1_method_21_code 50 = .ok (.aload_n 0, 1) := by decide +kernel
theorem dk_20_51 : decode prog_1_method_21_code 51 = .ok (.getfield 27, 3) := by decide +kernel
theorem dk_20_54 : decode prog_1_method_21_code 54 = .ok (.iload_n 3, 1) := by decide +kernel
theorem dk_20_55 : decode prog_1_method_21_code 55 = .ok (.iaload, 1) := by decide +kernel
theorem dk_20_56 : decode prog_1_method_21_code 56 = .ok (.ireturn, 1) := by decide +kernel
theorem dk_20_57 : decode prog_1_method_21_code 57 = .ok (.aload_n 0, 1) := by decide +kernel
theorem dk_20_58 : decode prog_1_method_21_code 58 = .ok (.getfield 23, 3) := by decide +kernel
theorem dk_20_61 : decode prog_1_method_21_code 61 = .ok (.iload_n 3, 1) := by decide +kernel
theorem dk_20_62 : decode prog_1_method_21_code 62 = .ok (.iaload, 1) := by decide +kernel
theorem dk_20_63 : decode prog_1_method_21_code 63 = .ok (.ireturn, 1) := by decide +kernel
theorem dk_20_64 : decode prog_1_method_21_code 64 = .ok (.new 47, 3) := by decide +kernel
theorem dk_20_67 : decode prog_1_method_21_code 67 = .ok (.dup, 1) := by decide +kernel
theorem dk_20_68 : decode prog_1_method_21_code 68 = .ok (.invokespecial 49, 3) := by decide +kernel
theorem dk_20_71 : decode prog_1_method_21_code 71 = .ok (.athrow, 1) := by decide +kernel
theorem sw_20 : ∀ (k tg : Nat), ([48, 50, 57] : List Nat)[k]? = some tg → ∃ off : Int, (#[(28), (30), (37)] : Array Int)[k]? = some off ∧ ((20 : Nat) : Int) + off = (tg : Int) := by
  intro k tg h
  have hk : k < 3 := (List.getElem?_eq_some_iff.mp h).1
  have key : ∀ k : Fin 3, (([48, 50, 57] : List Nat)[k.val]?).all (fun tg => ((#[(28), (30), (37)] : Array Int)[k.val]?).any (fun off => decide (((20 : Nat) : Int) + off = (tg : Int)))) = true := by decide
  have h1 := key ⟨k, hk⟩
  rw [h] at h1
  simp only [Option.all_some] at h1
  cases ho : (#[(28), (30), (37)] : Array Int)[k]? with
  | none => rw [ho] at h1; cases h1
  | some off => rw [ho] at h1; exact ⟨off, rfl, of_decide_eq_true h1⟩
set_option maxRecDepth 100000 in
set_option maxHeartbeats 4000000 in
theorem cc_20 {l : Launch} {s0 : State} (hst : l.stackTraces = false) (h0 : am_W0 s0) {d : Nat} (hall : ∀ mi ∈ am_idx, am_CC l s0 d mi) : am_CC l s0 (d + 1) 20 :=
  am_method (y := y_20) (cc := prog_1_method_21_code) (maxL := 4) (ret := (some .int)) (rm := am_rm (d + 1) 2 12) (ops := op_20) (C := am_T am_tabs am_ar d) (ar := 3) h0 (by decide) (by decide) fun p e s m args below meth c D A bS ad0 Q hct htab => by
    obtain ⟨hx, hb, hml, hown, hts, hb1, hb2, hA, hroot, hAs, -, -, hlocks, hr, hnm⟩ := hct
    exact List.forall_mem_cons.mpr ⟨ok_aload_n hx hb dk_20_0 rfl,
    List.forall_mem_cons.mpr ⟨ok_iload_n hx hb dk_20_1 rfl,
    List.forall_mem_cons.mpr ⟨ok_cV hx hb hml hown hts hb1 hb2 hA hroot hAs rfl rfl rfl (hcal_24 hall) tw_523 tw_525 ts_16 tw_526 tw_1 nm_24 rfl rfl (by show d + 8 + 1 ≤ d + 1 + 8; omega) (by show 8 + (4 + 11) + (200 + 60 * d) ≤ 200 + 60 * (d + 1); omega) dk_20_2,
    List.forall_mem_cons.mpr ⟨ok_istore_n hx hb dk_20_5 rfl (by decide),
    List.forall_mem_cons.mpr ⟨ok_iload_n hx hb dk_20_6 rfl,
    List.forall_mem_cons.mpr ⟨ok_iconst hx hb dk_20_7 rfl,
    List.forall_mem_cons.mpr ⟨ok_icmp_ne hx hb dk_20_8 (by decide),
    List.forall_mem_cons.mpr ⟨ok_throw (names := ["java/lang/RuntimeException", "java/lang/Exception"]) hx hb hst (fun U hU => am_hts h0 hU) hown hml hlocks htab rfl rfl hb1 hb2 hroot hAs rfl (by decide) (by decide) tw_477 tw_14 tw_478 (fun U hU => am_own3 h0 hU) (by show 2 + 3 < d + 1 + 8; omega) (by show 8 + (13 * 3 + 42) ≤ 200 + 60 * (d + 1); omega) dk_20_11 dk_20_14 dk_20_15 dk_20_18,
    List.forall_mem_cons.mpr ⟨ok_iload_n hx hb dk_20_19 rfl,
    List.forall_mem_cons.mpr ⟨ok_switch hx hb dk_20_20 (by decide) (by decide) sw_20,
    List.forall_mem_cons.mpr ⟨ok_iload_n hx hb dk_20_48 rfl,
    List.forall_mem_cons.mpr ⟨ok_iret hx hb hb1 hb2 hr hlocks dk_20_49,
    List.forall_mem_cons.mpr ⟨ok_aload_n hx hb dk_20_50 rfl,
    List.forall_mem_cons.mpr ⟨ok_getr hx hb hts hown hin_2 rfl (by decide) tw_117 dk_20_51,
    List.forall_mem_cons.mpr ⟨ok_iload_n hx hb dk_20_54 rfl,
    List.forall_mem_cons.mpr ⟨ok_iald hx hb dk_20_55,
    List.forall_mem_cons.mpr ⟨ok_iret hx hb hb1 hb2 hr hlocks dk_20_56,
    List.forall_mem_cons.mpr ⟨ok_aload_n hx hb dk_20_57 rfl,
    List.forall_mem_cons.mpr ⟨ok_getr hx hb hts hown hin_2 rfl (by decide) tw_116 dk_20_58,
    List.forall_mem_cons.mpr ⟨ok_iload_n hx hb dk_20_61 rfl,
    List.forall_mem_cons.mpr ⟨ok_iald hx hb dk_20_62,
    List.forall_mem_cons.mpr ⟨ok_iret hx hb hb1 hb2 hr hlocks dk_20_63,
    List.forall_mem_cons.mpr ⟨ok_throw (names := ["java/lang/RuntimeException", "java/lang/Exception"]) hx hb hst (fun U hU => am_hts h0 hU) hown hml hlocks htab rfl rfl hb1 hb2 hroot hAs rfl (by decide) (by decide) tw_282 tw_9 tw_283 (fun U hU => am_own0 h0 hU) (by show 2 + 3 < d + 1 + 8; omega) (by show 8 + (13 * 3 + 42) ≤ 200 + 60 * (d + 1); omega) dk_20_64 dk_20_67 dk_20_68 dk_20_71,
    fun _ h => absurd h List.not_mem_nil⟩⟩⟩⟩⟩⟩⟩⟩⟩⟩⟩⟩⟩⟩⟩⟩⟩⟩⟩⟩⟩⟩⟩
theorem dk_21_0 : decode prog_1_method_22_code 0 = .ok (.aload_n 0, 1) := by decide +kernel
theorem dk_21_1 : decode prog_1_method_22_code 1 = .ok (.getfield 10, 3) := by decide +kernel
theorem dk_21_4 : decode prog_1_method_22_code 4 = .ok (.iload_n 1, 1) := by decide +kernel
theorem dk_21_5 : decode prog_1_method_22_code 5 = .ok (.invokevirtual 161, 3) := by decide +kernel
theorem dk_21_8 : decode prog_1_method_22_code 8 = .ok (.ifCond .ne (11), 3) := by decide +kernel
theorem dk_21_11 : decode prog_1_method_22_code 11 = .ok (.new 164, 3) := by decide +kernel
theorem dk_21_14 : decode prog_1_method_22_code 14 = .ok (.dup, 1) := by decide +kernel
theorem dk_21_15 : decode prog_1_method_22_code 15 = .ok (.invokespecial 166, 3) := by decide +kernel
theorem dk_21_18 : decode prog_1_method_22_code 18 = .ok (.athrow, 1) := by decide +kernel
theorem dk_21_19 : decode prog_1_method_22_code 19 = .ok (.return_, 1) := by decide +kernel
set_option maxRecDepth 100000 in
set_option maxHeartbeats 4000000 in
theorem cc_21 {l : Launch} {s0 : State} (hst : l.stackTraces = false) (h0 : am_W0 s0) {d : Nat} (hall : ∀ mi ∈ am_idx, am_CC l s0 d mi) : am_CC l s0 (d + 1) 21 :=
  am_method (y := y_21) (cc := prog_1_method_22_code) (maxL := 2) (ret := none) (rm := am_rm (d + 1) 1 6) (ops := op_21) (C := am_T am_tabs am_ar d) (ar := 2) h0 (by decide) (by decide) fun p e s m args below meth c D A bS ad0 Q hct htab => by
    obtain ⟨hx, hb, hml, hown, hts, hb1, hb2, hA, hroot, hAs, -, -, hlocks, hr, hnm⟩ := hct
    exact List.forall_mem_cons.mpr ⟨ok_aload_n hx hb dk_21_0 rfl,
    List.forall_mem_cons.mpr ⟨ok_getr hx hb hts hown hin_2 rfl (by decide) tw_114 dk_21_1,
    List.forall_mem_cons.mpr ⟨ok_iload_n hx hb dk_21_4 rfl,
    List.forall_mem_cons.mpr ⟨ok_cV hx hb hml hown hts hb1 hb2 hA hroot hAs rfl rfl rfl (hcal_80 hall) tw_385 tw_386 tw_387 tw_388 tw_2 nm_80 rfl rfl (by show d + 8 + 1 ≤ d + 1 + 8; omega) (by show 8 + (2 + 11) + (200 + 60 * d) ≤ 200 + 60 * (d + 1); omega) dk_21_5,
    List.forall_mem_cons.mpr ⟨ok_if_ne hx hb dk_21_8 (by decide),
    List.forall_mem_cons.mpr ⟨ok_throw (names := ["java/lang/RuntimeException", "java/lang/Exception"]) hx hb hst (fun U hU => am_hts h0 hU) hown hml hlocks htab rfl rfl hb1 hb2 hroot hAs rfl (by decide) (by decide) tw_389 tw_11 tw_390 (fun U hU => am_own2 h0 hU) (by show 2 + 3 < d + 1 + 8; omega) (by show 8 + (13 * 3 + 42) ≤ 200 + 60 * (d + 1); omega) dk_21_11 dk_21_14 dk_21_15 dk_21_18,
    List.forall_mem_cons.mpr ⟨ok_vret hx hb hb1 hb2 hr hlocks dk_21_19,
    fun _ h => absurd h List.not_mem_nil⟩⟩⟩⟩⟩⟩⟩
theorem dk_22_0 : decode prog_1_method_23_code 0 = .ok (.aload_n 0, 1) := by decide +kernel
theorem dk_22_1 : decode prog_1_method_23_code 1 = .ok (.getfield 10, 3) := by decide +kernel
theorem dk_22_4 : decode prog_1_method_23_code 4 = .ok (.iload_n 1, 1) := by decide +kernel
theorem dk_22_5 : decode prog_1_method_23_code 5 = .ok (.iload_n 2, 1) := by decide +kernel
theorem dk_22_6 : decode prog_1_method_23_code 6 = .ok (.invokevirtual 167, 3) := by decide +kernel
theorem dk_22_9 : decode prog_1_method_23_code 9 = .ok (.ifCond .ne (11), 3) := by decide +kernel
theorem dk_22_12 : decode prog_1_method_23_code 12 = .ok (.new 47, 3) := by decide +kernel
theorem dk_22_15 : decode prog_1_method_23_code 15 = .ok (.dup, 1) := by decide +kernel
theorem dk_22_16 : decode prog_1_method_23_code 16 = .ok (.invokespecial 49, 3) := by decide +kernel
theorem dk_22_19 : decode prog_1_method_23_code 19 = .ok (.athrow, 1) := by decide +kernel
theorem dk_22_20 : decode prog_1_method_23_code 20 = .ok (.return_, 1) := by decide +kernel
set_option maxRecDepth 100000 in
set_option maxHeartbeats 4000000 in
theorem cc_22 {l : Launch} {s0 : State} (hst : l.stackTraces = false) (h0 : am_W0 s0) {d : Nat} (hall : ∀ mi ∈ am_idx, am_CC l s0 d mi) : am_CC l s0 (d + 1) 22 :=
  am_method (y := y_22) (cc := prog_1_method_23_code) (maxL := 3) (ret := none) (rm := am_rm (d + 1) 1 6) (ops := op_22) (C := am_T am_tabs am_ar d) (ar := 3) h0 (by decide) (by decide) fun p e s m args below meth c D A bS ad0 Q hct htab => by
    obtain ⟨hx, hb, hml, hown, hts, hb1, hb2, hA, hroot, hAs, -, -, hlocks, hr, hnm⟩ := hct
    exact List.forall_mem_cons.mpr ⟨ok_aload_n hx hb dk_22_0 rfl,
    List.forall_mem_cons.mpr ⟨ok_getr hx hb hts hown hin_2 rfl (by decide) tw_114 dk_22_1,
    List.forall_mem_cons.mpr ⟨ok_iload_n hx hb dk_22_4 rfl,
    List.forall_mem_cons.mpr ⟨ok_iload_n hx hb dk_22_5 rfl,
    List.forall_mem_cons.mpr ⟨ok_cV hx hb hml hown hts hb1 hb2 hA hroot hAs rfl rfl rfl (hcal_82 hall) tw_415 tw_228 tw_229 tw_230 tw_2 nm_82 rfl rfl (by show d + 8 + 1 ≤ d + 1 + 8; omega) (by show 8 + (3 + 11) + (200 + 60 * d) ≤ 200 + 60 * (d + 1); omega) dk_22_6,
    List.forall_mem_cons.mpr ⟨ok_if_ne hx hb dk_22_9 (by decide),
    List.forall_mem_cons.mpr ⟨ok_throw (names := ["java/lang/RuntimeException", "java/lang/Exception"]) hx hb hst (fun U hU => am_hts h0 hU) hown hml hlocks htab rfl rfl hb1 hb2 hroot hAs rfl (by decide) (by decide) tw_282 tw_9 tw_283 (fun U hU => am_own0 h0 hU) (by show 2 + 3 < d + 1 + 8; omega) (by show 8 + (13 * 3 + 42) ≤ 200 + 60 * (d + 1); omega) dk_22_12 dk_22_15 dk_22_16 dk_22_19,
    List.forall_mem_cons.mpr ⟨ok_vret hx hb hb1 hb2 hr hlocks dk_22_20,
    fun _ h => absurd h List.not_mem_nil⟩⟩⟩⟩⟩⟩⟩⟩
theorem dk_23_0 : decode prog_1_method_24_code 0 = .ok (.aload_n 0, 1) := by decide +kernel
theorem dk_23_1 : decode prog_1_method_24_code 1 = .ok (.getfield 27, 3) := by decide +kernel
theorem dk_23_4 : decode prog_1_method_24_code 4 = .ok (.iload_n 1, 1) := by decide +kernel
theorem dk_23_5 : decode prog_1_method_24_code 5 = .ok (.iaload, 1) := by decide +kernel
theorem dk_23_6 : decode prog_1_method_24_code 6 = .ok (.aload_n 0, 1) := by decide +kernel
theorem dk_23_7 : decode prog_1_method_24_code 7 = .ok (.getfield 23, 3) := by decide +kernel
theorem dk_23_10 : decode prog_1_method_24_code 10 = .ok (.iload_n 1, 1) := by decide +kernel
theorem dk_23_11 : decode prog_1_method_24_code 11 = .ok (.iaload, 1) := by decide +kernel
theorem dk_23_12 : decode prog_1_method_24_code 12 = .ok (.if_icmp .eq (7), 3) := by decide +kernel
theorem dk_23_15 : decode prog_1_method_24_code 15 = .ok (.iconst (1), 1) := by decide +kernel
theorem dk_23_16 : decode prog_1_method_24_code 16 = .ok (.goto (4), 3) := by decide +kernel
theorem dk_23_19 : decode prog_1_method_24_code 19 = .ok (.iconst (0), 1) := by decide +kernel
theorem dk_23_20 : decode prog_1_method_24_code 20 = .ok (.ireturn, 1) := by decide +kernel
set_option maxRecDepth 100000 in
set_option maxHeartbeats 4000000 in
theorem cc_23 {l : Launch} {s0 : State} (hst : l.stackTraces = false) (h0 : am_W0 s0) {d : Nat} (hall : ∀ mi ∈ am_idx, am_CC l s0 d mi) : am_CC l s0 (d + 1) 23 :=
  am_method (y := y_23) (cc := prog_1_method_24_code) (maxL := 2) (ret := (some .boolean)) (rm := am_rm (d + 1) 0 0) (ops := op_23) (C := am_T am_tabs am_ar d) (ar := 2) h0 (by decide) (by decide) fun p e s m args below meth c D A bS ad0 Q hct htab => by
    obtain ⟨hx, hb, hml, hown, hts, hb1, hb2, hA, hroot, hAs, -, -, hlocks, hr, hnm⟩ := hct
    exact List.forall_mem_cons.mpr ⟨ok_aload_n hx hb dk_23_0 rfl,
    List.forall_mem_cons.mpr ⟨ok_getr hx hb hts hown hin_2 rfl (by decide) tw_117 dk_23_1,
    List.forall_mem_cons.mpr ⟨ok_iload_n hx hb dk_23_4 rfl,
    List.forall_mem_cons.mpr ⟨ok_iald hx hb dk_23_5,
    List.forall_mem_cons.mpr ⟨ok_aload_n hx hb dk_23_6 rfl,
    List.forall_mem_cons.mpr ⟨ok_getr hx hb hts hown hin_2 rfl (by decide) tw_116 dk_23_7,
    List.forall_mem_cons.mpr ⟨ok_iload_n hx hb dk_23_10 rfl,
    List.forall_mem_cons.mpr ⟨ok_iald hx hb dk_23_11,
    List.forall_mem_cons.mpr ⟨ok_icmp_eq hx hb dk_23_12 (by decide),
    List.forall_mem_cons.mpr ⟨ok_iconst hx hb dk_23_15 rfl,
    List.forall_mem_cons.mpr ⟨ok_goto hx hb dk_23_16 (by decide),
    List.forall_mem_cons.mpr ⟨ok_iconst hx hb dk_23_19 rfl,
    List.forall_mem_cons.mpr ⟨ok_zret hx hb hb1 hb2 hr hlocks dk_23_20,
    fun _ h => absurd h List.not_mem_nil⟩⟩⟩⟩⟩⟩⟩⟩⟩⟩⟩⟩⟩
theorem dk_24_0 : decode prog_1_method_25_code 0 = .ok (.iconst (0), 1) := by decide +kernel
theorem dk_24_1 : decode prog_1_method_25_code 1 = .ok (.istore_n 2, 1) := by decide +kernel
theorem dk_24_2 : decode prog_1_method_25_code 2 = .ok (.iconst (0), 1) := by decide +kernel
theorem dk_24_3 : decode prog_1_method_25_code 3 = .ok (.istore_n 3, 1) := by decide +kernel
theorem dk_24_4 : decode prog_1_method_25_code 4 = .ok (.iload_n 3, 1) := by decide +kernel
theorem dk_24_5 : decode prog_1_method_25_code 5 = .ok (.bipush (7), 2) := by decide +kernel
theorem dk_24_7 : decode prog_1_method_25_code 7 = .ok (.if_icmp .ge (27), 3) := by decide +kernel
theorem dk_24_10 : decode prog_1_method_25_code 10 = .ok (.aload_n 0, 1) := by decide +kernel
theorem dk_24_11 : decode prog_1_method_25_code 11 = .ok (.iload_n 3, 1) := by decide +kernel
theorem dk_24_12 : decode prog_1_method_25_code 12 = .ok (.invokevirtual 149, 3) := by decide +kernel
theorem dk_24_15 : decode prog_1_method_25_code 15 = .ok (.ifCond .eq (13), 3) := by decide +kernel
theorem dk_24_18 : decode prog_1_method_25_code 18 = .ok (.iload_n 2, 1) := by decide +kernel
theorem dk_24_19 : decode prog_1_method_25_code 19 = .ok (.iload_n 1, 1) := by decide +kernel
theorem dk_24_20 : decode prog_1_method_25_code 20 = .ok (.if_icmp .ne (5), 3) := by decide +kernel
theorem dk_24_23 : decode prog_1_method_25_code 23 = .ok (.iload_n 3, 1) := by decide +kernel
theorem dk_24_24 : decode prog_1_method_25_code 24 = .ok (.ireturn, 1) := by decide +kernel
theorem dk_24_25 : decode prog_1_method_25_code 25 = .ok (.iinc 2 (1), 3) := by decide +kernel
theorem dk_24_28 : decode prog_1_method_25_code 28 = .ok (.iinc 3 (1), 3) := by decide +kernel
theorem dk_24_31 : decode prog_1_method_25_code 31 = .ok (.goto (-27), 3) := by decide +kernel
theorem dk_24_34 : decode prog_1_method_25_code 34 = .ok (.iconst (-1), 1) := by decide +kernel
theorem dk_24_35 : decode prog_1_method_25_code 35 = .ok (.ireturn, 1) := by decide +kernel
set_option maxRecDepth 100000 in
set_option maxHeartbeats 4000000 in
theorem cc_24 {l : Launch} {s0 : State} (hst : l.stackTraces = false) (h0 : am_W0 s0) {d : Nat} (hall : ∀ mi ∈ am_idx, am_CC l s0 d mi) : am_CC l s0 (d + 1) 24 :=
  am_method (y := y_24) (cc := prog_1_method_25_code) (maxL := 4) (ret := (some .int)) (rm := am_rm (d + 1) 0 0) (ops := op_24) (C := am_T am_tabs am_ar d) (ar := 2) h0 (by decide) (by decide) fun p e s m args below meth c D A bS ad0 Q hct htab => by
    obtain ⟨hx, hb, hml, hown, hts, hb1, hb2, hA, hroot, hAs, -, -, hlocks, hr, hnm⟩ := hct
    exact List.forall_mem_cons.mpr ⟨ok_iconst hx hb dk_24_0 rfl,
    List.forall_mem_cons.mpr ⟨ok_istore_n hx hb dk_24_1 rfl (by decide),
    List.forall_mem_cons.mpr ⟨ok_iconst hx hb dk_24_2 rfl,
    List.forall_mem_cons.mpr ⟨ok_istore_n hx hb dk_24_3 rfl (by decide),
    List.forall_mem_cons.mpr ⟨ok_iload_n hx hb dk_24_4 rfl,
    List.forall_mem_cons.mpr ⟨ok_bipush hx hb dk_24_5 (by decide),
    List.forall_mem_cons.mpr ⟨ok_icmp_ge hx hb dk_24_7 (by decide),
    List.forall_mem_cons.mpr ⟨ok_aload_n hx hb dk_24_10 rfl,
    List.forall_mem_cons.mpr ⟨ok_iload_n hx hb dk_24_11 rfl,
    List.forall_mem_cons.mpr ⟨ok_cV hx hb hml hown hts hb1 hb2 hA hroot hAs rfl rfl rfl (hcal_23 hall) tw_265 tw_267 ts_9 tw_268 tw_1 nm_23 rfl rfl (by show d + 8 + 1 ≤ d + 1 + 8; omega) (by show 8 + (2 + 11) + (200 + 60 * d) ≤ 200 + 60 * (d + 1); omega) dk_24_12,
    List.forall_mem_cons.mpr ⟨ok_if_eq hx hb dk_24_15 (by decide),
    List.forall_mem_cons.mpr ⟨ok_iload_n hx hb dk_24_18 rfl,
    List.forall_mem_cons.mpr ⟨ok_iload_n hx hb dk_24_19 rfl,
    List.forall_mem_cons.mpr ⟨ok_icmp_ne hx hb dk_24_20 (by decide),
    List.forall_mem_cons.mpr ⟨ok_iload_n hx hb dk_24_23 rfl,
    List.forall_mem_cons.mpr ⟨ok_iret hx hb hb1 hb2 hr hlocks dk_24_24,
    List.forall_mem_cons.mpr ⟨ok_iinc hx hb dk_24_25 rfl (by decide),
    List.forall_mem_cons.mpr ⟨ok_iinc hx hb dk_24_28 rfl (by decide),
    List.forall_mem_cons.mpr ⟨ok_goto hx hb dk_24_31 (by decide),
    List.forall_mem_cons.mpr ⟨ok_iconst hx hb dk_24_34 rfl,
    List.forall_mem_cons.mpr ⟨ok_iret hx hb hb1 hb2 hr hlocks dk_24_35,
    fun _ h => absurd h List.not_mem_nil⟩⟩⟩⟩⟩⟩⟩⟩⟩⟩⟩⟩⟩⟩⟩⟩⟩⟩⟩⟩⟩
theorem dk_25_0 : decode prog_1_method_26_code 0 = .ok (.aload_n 0, 1) := by decide +kernel
theorem dk_25_1 : decode prog_1_method_26_code 1 = .ok (.getfield 23, 3) := by decide +kernel
theorem dk_25_4 : decode prog_1_method_26_code 4 = .ok (.iconst (0), 1) := by decide +kernel
theorem dk_25_5 : decode prog_1_method_26_code 5 = .ok (.aload_n 0, 1) := by decide +kernel
theorem dk_25_6 : decode prog_1_method_26_code 6 = .ok (.getfield 30, 3) := by decide +kernel
theorem dk_25_9 : decode prog_1_method_26_code 9 = .ok (.iconst (0), 1) := by decide +kernel
theorem dk_25_10 : decode prog_1_method_26_code 10 = .ok (.bipush (7), 2) := by decide +kernel
theorem dk_25_12 : decode prog_1_method_26_code 12 = .ok (.invokestatic 152, 3) := by decide +kernel
theorem dk_25_15 : decode prog_1_method_26_code 15 = .ok (.aload_n 0, 1) := by decide +kernel
theorem dk_25_16 : decode prog_1_method_26_code 16 = .ok (.iload_n 1, 1) := by decide +kernel
theorem dk_25_17 : decode prog_1_method_26_code 17 = .ok (.aload_n 0, 1) := by decide +kernel
theorem dk_25_18 : decode prog_1_method_26_code 18 = .ok (.getfield 23, 3) := by decide +kernel
theorem dk_25_21 : decode prog_1_method_26_code 21 = .ok (.iload_n 1, 1) := by decide +kernel
theorem dk_25_22 : decode prog_1_method_26_code 22 = .ok (.iaload, 1) := by decide +kernel
theorem dk_25_23 : decode prog_1_method_26_code 23 = .ok (.aload_n 0, 1) := by decide +kernel
theorem dk_25_24 : decode prog_1_method_26_code 24 = .ok (.getfield 10, 3) := by decide +kernel
theorem dk_25_27 : decode prog_1_method_26_code 27 = .ok (.getfield 74, 3) := by decide +kernel
theorem dk_25_30 : decode prog_1_method_26_code 30 = .ok (.iload_n 1, 1) := by decide +kernel
theorem dk_25_31 : decode prog_1_method_26_code 31 = .ok (.iaload, 1) := by decide +kernel
theorem dk_25_32 : decode prog_1_method_26_code 32 = .ok (.invokevirtual 170, 3) := by decide +kernel
theorem dk_25_35 : decode prog_1_method_26_code 35 = .ok (.istore_n 2, 1) := by decide +kernel
theorem dk_25_36 : decode prog_1_method_26_code 36 = .ok (.iconst (0), 1) := by decide +kernel
theorem dk_25_37 : decode prog_1_method_26_code 37 = .ok (.istore_n 3, 1) := by decide +kernel
theorem dk_25_38 : decode prog_1_method_26_code 38 = .ok (.iload_n 3, 1) := by decide +kernel
theorem dk_25_39 : decode prog_1_method_26_code 39 = .ok (.aload_n 0, 1) := by decide +kernel
theorem dk_25_40 : decode prog_1_method_26_code 40 = .ok (.getfield 10, 3) := by decide +kernel
theorem dk_25_43 : decode prog_1_method_26_code 43 = .ok (.getfield 98, 3) := by decide +kernel
theorem dk_25_46 : decode prog_1_method_26_code 46 = .ok (.if_icmp .ge (27), 3) := by decide +kernel
theorem dk_25_49 : decode prog_1_method_26_code 49 = .ok (.aload_n 0, 1) := by decide +kernel
theorem dk_25_50 : decode prog_1_method_26_code 50 = .ok (.iload_n 1, 1) := by decide +kernel
theorem dk_25_51 : decode prog_1_method_26_code 51 = .ok (.iload_n 2, 1) := by decide +kernel
theorem dk_25_52 : decode prog_1_method_26_code 52 = .ok (.aload_n 0, 1) := by decide +kernel
theorem dk_25_53 : decode prog_1_method_26_code 53 = .ok (.getfield 10, 3) := by decide +kernel
theorem dk_25_56 : decode prog_1_method_26_code 56 = .ok (.getfield 101, 3) := by decide +kernel
theorem dk_25_59 : decode prog_1_method_26_code 59 = .ok (.iload_n 3, 1) := by decide +kernel
theorem dk_25_60 : decode prog_1_method_26_code 60 = .ok (.iaload, 1) := by decide +kernel
theorem dk_25_61 : decode prog_1_method_26_code 61 = .ok (.iconst (1), 1) := by decide +kernel
theorem dk_25_62 : decode prog_1_method_26_code 62 = .ok (.isub, 1) := by decide +kernel
theorem dk_25_63 : decode prog_1_method_26_code 63 = .ok (.invokevirtual 170, 3) := by decide +kernel
theorem dk_25_66 : decode prog_1_method_26_code 66 = .ok (.istore_n 2, 1) := by decide +kernel
theorem dk_25_67 : decode prog_1_method_26_code 67 = .ok (.iinc 3 (1), 3) := by decide +kernel
theorem dk_25_70 : decode prog_1_method_26_code 70 = .ok (.goto (-32), 3) := by decide +kernel
theorem dk_25_73 : decode prog_1_method_26_code 73 = .ok (.iconst (0), 1) := by decide +kernel
theorem dk_25_74 : decode prog_1_method_26_code 74 = .ok (.istore_n 3, 1) := by decide +kernel
theorem dk_25_75 : decode prog_1_method_26_code 75 = .ok (.iload_n 3, 1) := by decide +kernel
theorem dk_25_76 : decode prog_1_method_26_code 76 = .ok (.bipush (7), 2) := by decide +kernel
theorem dk_25_78 : decode prog_1_method_26_code 78 = .ok (.if_icmp .ge (47), 3) := by decide +kernel
theorem dk_25_81 : decode prog_1_method_26_code 81 = .ok (.iload_n 3, 1) := by decide +kernel
theorem dk_25_82 : decode prog_1_method_26_code 82 = .ok (.iload_n 1, 1) := by decide +kernel
theorem dk_25_83 : decode prog_1_method_26_code 83 = .ok (.if_icmp .eq (36), 3) := by decide +kernel
theorem dk_25_86 : decode prog_1_method_26_code 86 = .ok (.aload_n 0, 1) := by decide +kernel
theorem dk_25_87 : decode prog_1_method_26_code 87 = .ok (.getfield 23, 3) := by decide +kernel
theorem dk_25_90 : decode prog_1_method_26_code 90 = .ok (.iload_n 3, 1) := by decide +kernel
theorem dk_25_91 : decode prog_1_method_26_code 91 = .ok (.iaload, 1) := by decide +kernel
theorem dk_25_92 : decode prog_1_method_26_code 92 = .ok (.iconst (-1), 1) := by decide +kernel
theorem dk_25_93 : decode prog_1_method_26_code 93 = .ok (.if_icmp .eq (26), 3) := by decide +kernel
theorem dk_25_96 : decode prog_1_method_26_code 96 = .ok (.aload_n 0, 1) := by decide +kernel
theorem dk_25_97 : decode prog_1_method_26_code 97 = .ok (.iload_n 1, 1) := by decide +kernel
theorem dk_25_98 : decode prog_1_method_26_code 98 = .ok (.iload_n 2, 1) := by decide +kernel
theorem dk_25_99 : decode prog_1_method_26_code 99 = .ok (.aload_n 0, 1) := by decide +kernel
theorem dk_25_100 : decode prog_1_method_26_code 100 = .ok (.getfield 23, 3) := by decide +kernel
theorem dk_25_103 : decode prog_1_method_26_code 103 = .ok (.iload_n 3, 1) := by decide +kernel
theorem dk_25_104 : decode prog_1_method_26_code 104 = .ok (.iaload, 1) := by decide +kernel
theorem dk_25_105 : decode prog_1_method_26_code 105 = .ok (.aload_n 0, 1) := by decide +kernel
theorem dk_25_106 : decode prog_1_method_26_code 106 = .ok (.getfield 10, 3) := by decide +kernel
theorem dk_25_109 : decode prog_1_method_26_code 109 = .ok (.iload_n 1, 1) := by decide +kernel
theorem dk_25_110 : decode prog_1_method_26_code 110 = .ok (.iload_n 3, 1) := by decide +kernel
theorem dk_25_111 : decode prog_1_method_26_code 111 = .ok (.invokevirtual 174, 3) := by decide +kernel
theorem dk_25_114 : decode prog_1_method_26_code 114 = .ok (.isub, 1) := by decide +kernel
theorem dk_25_115 : decode prog_1_method_26_code 115 = .ok (.invokevirtual 170, 3) := by decide +kernel
theorem dk_25_118 : decode prog_1_method_26_code 118 = .ok (.istore_n 2, 1) := by decide +kernel
theorem dk_25_119 : decode prog_1_method_26_code 119 = .ok (.iinc 3 (1), 3) := by decide +kernel
theorem dk_25_122 : decode prog_1_method_26_code 122 = .ok (.goto (-47), 3) := by decide +kernel
theorem dk_25_125 : decode prog_1_method_26_code 125 = .ok (.iload_n 2, 1) := by decide +kernel
theorem dk_25_126 : decode prog_1_method_26_code 126 = .ok (.ireturn, 1) := by decide +kernel
set_option maxRecDepth 100000 in
set_option maxHeartbeats 4000000 in
theorem cc_25 {l : Launch} {s0 : State} (hst : l.stackTraces = false) (h0 : am_W0 s0) {d : Nat} (hall : ∀ mi ∈ am_idx, am_CC l s0 d mi) : am_CC l s0 (d + 1) 25 :=
  am_method (y := y_25) (cc := prog_1_method_26_code) (maxL := 4) (ret := (some .int)) (rm := am_rm (d + 1) 0 0) (ops := op_25) (C := am_T am_tabs am_ar d) (ar := 2) h0 (by decide) (by decide) fun p e s m args below meth c D A bS ad0 Q hct htab => by
    obtain ⟨hx, hb, hml, hown, hts, hb1, hb2, hA, hroot, hAs, -, -, hlocks, hr, hnm⟩ := hct
    exact List.forall_mem_cons.mpr ⟨ok_aload_n hx hb dk_25_0 rfl,
    List.forall_mem_cons.mpr ⟨ok_getr hx hb hts hown hin_2 rfl (by decide) tw_116 dk_25_1,
    List.forall_mem_cons.mpr ⟨ok_iconst hx hb dk_25_4 rfl,
    List.forall_mem_cons.mpr ⟨ok_aload_n hx hb dk_25_5 rfl,
    List.forall_mem_cons.mpr ⟨ok_getr hx hb hts hown hin_2 rfl (by decide) tw_118 dk_25_6,
    List.forall_mem_cons.mpr ⟨ok_iconst hx hb dk_25_9 rfl,
    List.forall_mem_cons.mpr ⟨ok_bipush hx hb dk_25_10 (by decide),
    List.forall_mem_cons.mpr ⟨ok_copy hx hb hts hown hml tw_269 tw_190 tw_189 tw_13 (by show 1 ≤ d + 1 + 8; omega) (by have h9 := am_cpw; show 8 + (nativeFrameWords "java/lang/System" "arraycopy" 5 + 11) ≤ 200 + 60 * (d + 1); omega) dk_25_12,
    List.forall_mem_cons.mpr ⟨ok_aload_n hx hb dk_25_15 rfl,
    List.forall_mem_cons.mpr ⟨ok_iload_n hx hb dk_25_16 rfl,
    List.forall_mem_cons.mpr ⟨ok_aload_n hx hb dk_25_17 rfl,
    List.forall_mem_cons.mpr ⟨ok_getr hx hb hts hown hin_2 rfl (by decide) tw_116 dk_25_18,
    List.forall_mem_cons.mpr ⟨ok_iload_n hx hb dk_25_21 rfl,
    List.forall_mem_cons.mpr ⟨ok_iald hx hb dk_25_22,
    List.forall_mem_cons.mpr ⟨ok_aload_n hx hb dk_25_23 rfl,
    List.forall_mem_cons.mpr ⟨ok_getr hx hb hts hown hin_2 rfl (by decide) tw_114 dk_25_24,
    List.forall_mem_cons.mpr ⟨ok_getr hx hb hts hown hin_1 rfl (by decide) tw_44 dk_25_27,
    List.forall_mem_cons.mpr ⟨ok_iload_n hx hb dk_25_30 rfl,
    List.forall_mem_cons.mpr ⟨ok_iald hx hb dk_25_31,
    List.forall_mem_cons.mpr ⟨ok_cV hx hb hml hown hts hb1 hb2 hA hroot hAs rfl rfl rfl (hcal_26 hall) tw_511 tw_513 ts_15 tw_514 tw_1 nm_26 rfl rfl (by show d + 8 + 1 ≤ d + 1 + 8; omega) (by show 8 + (4 + 11) + (200 + 60 * d) ≤ 200 + 60 * (d + 1); omega) dk_25_32,
    List.forall_mem_cons.mpr ⟨ok_istore_n hx hb dk_25_35 rfl (by decide),
    List.forall_mem_cons.mpr ⟨ok_iconst hx hb dk_25_36 rfl,
    List.forall_mem_cons.mpr ⟨ok_istore_n hx hb dk_25_37 rfl (by decide),
    List.forall_mem_cons.mpr ⟨ok_iload_n hx hb dk_25_38 rfl,
    List.forall_mem_cons.mpr ⟨ok_aload_n hx hb dk_25_39 rfl,
    List.forall_mem_cons.mpr ⟨ok_getr hx hb hts hown hin_2 rfl (by decide) tw_114 dk_25_40,
    List.forall_mem_cons.mpr ⟨ok_geti hx hb hts hown hin_1 rfl (by decide) tw_57 dk_25_43,
    List.forall_mem_cons.mpr ⟨ok_icmp_ge hx hb dk_25_46 (by decide),
    List.forall_mem_cons.mpr ⟨ok_aload_n hx hb dk_25_49 rfl,
    List.forall_mem_cons.mpr ⟨ok_iload_n hx hb dk_25_50 rfl,
    List.forall_mem_cons.mpr ⟨ok_iload_n hx hb dk_25_51 rfl,
    List.forall_mem_cons.mpr ⟨ok_aload_n hx hb dk_25_52 rfl,
    List.forall_mem_cons.mpr ⟨ok_getr hx hb hts hown hin_2 rfl (by decide) tw_114 dk_25_53,
    List.forall_mem_cons.mpr ⟨ok_getr hx hb hts hown hin_1 rfl (by decide) tw_54 dk_25_56,
    List.forall_mem_cons.mpr ⟨ok_iload_n hx hb dk_25_59 rfl,
    List.forall_mem_cons.mpr ⟨ok_iald hx hb dk_25_60,
    List.forall_mem_cons.mpr ⟨ok_iconst hx hb dk_25_61 rfl,
    List.forall_mem_cons.mpr ⟨ok_isub hx hb dk_25_62,
    List.forall_mem_cons.mpr ⟨ok_cV hx hb hml hown hts hb1 hb2 hA hroot hAs rfl rfl rfl (hcal_26 hall) tw_511 tw_513 ts_15 tw_514 tw_1 nm_26 rfl rfl (by show d + 8 + 1 ≤ d + 1 + 8; omega) (by show 8 + (4 + 11) + (200 + 60 * d) ≤ 200 + 60 * (d + 1); omega) dk_25_63,
    List.forall_mem_cons.mpr ⟨ok_istore_n hx hb dk_25_66 rfl (by decide),
    List.forall_mem_cons.mpr ⟨ok_iinc hx hb dk_25_67 rfl (by decide),
    List.forall_mem_cons.mpr ⟨ok_goto hx hb dk_25_70 (by decide),
    List.forall_mem_cons.mpr ⟨ok_iconst hx hb dk_25_73 rfl,
    List.forall_mem_cons.mpr ⟨ok_istore_n hx hb dk_25_74 rfl (by decide),
    List.forall_mem_cons.mpr ⟨ok_iload_n hx hb dk_25_75 rfl,
    List.forall_mem_cons.mpr ⟨ok_bipush hx hb dk_25_76 (by decide),
    List.forall_mem_cons.mpr ⟨ok_icmp_ge hx hb dk_25_78 (by decide),
    List.forall_mem_cons.mpr ⟨ok_iload_n hx hb dk_25_81 rfl,
    List.forall_mem_cons.mpr ⟨ok_iload_n hx hb dk_25_82 rfl,
    List.forall_mem_cons.mpr ⟨ok_icmp_eq hx hb dk_25_83 (by decide),
    List.forall_mem_cons.mpr ⟨ok_aload_n hx hb dk_25_86 rfl,
    List.forall_mem_cons.mpr ⟨ok_getr hx hb hts hown hin_2 rfl (by decide) tw_116 dk_25_87,
    List.forall_mem_cons.mpr ⟨ok_iload_n hx hb dk_25_90 rfl,
    List.forall_mem_cons.mpr ⟨ok_iald hx hb dk_25_91,
    List.forall_mem_cons.mpr ⟨ok_iconst hx hb dk_25_92 rfl,
    List.forall_mem_cons.mpr ⟨ok_icmp_eq hx hb dk_25_93 (by decide),
    List.forall_mem_cons.mpr ⟨ok_aload_n hx hb dk_25_96 rfl,
    List.forall_mem_cons.mpr ⟨ok_iload_n hx hb dk_25_97 rfl,
    List.forall_mem_cons.mpr ⟨ok_iload_n hx hb dk_25_98 rfl,
    List.forall_mem_cons.mpr ⟨ok_aload_n hx hb dk_25_99 rfl,
    List.forall_mem_cons.mpr ⟨ok_getr hx hb hts hown hin_2 rfl (by decide) tw_116 dk_25_100,
    List.forall_mem_cons.mpr ⟨ok_iload_n hx hb dk_25_103 rfl,
    List.forall_mem_cons.mpr ⟨ok_iald hx hb dk_25_104,
    List.forall_mem_cons.mpr ⟨ok_aload_n hx hb dk_25_105 rfl,
    List.forall_mem_cons.mpr ⟨ok_getr hx hb hts hown hin_2 rfl (by decide) tw_114 dk_25_106,
    List.forall_mem_cons.mpr ⟨ok_iload_n hx hb dk_25_109 rfl,
    List.forall_mem_cons.mpr ⟨ok_iload_n hx hb dk_25_110 rfl,
    List.forall_mem_cons.mpr ⟨ok_cV hx hb hml hown hts hb1 hb2 hA hroot hAs rfl rfl rfl (hcal_84 hall) tw_515 tw_203 tw_204 tw_205 tw_2 nm_84 rfl rfl (by show d + 8 + 1 ≤ d + 1 + 8; omega) (by show 8 + (3 + 11) + (200 + 60 * d) ≤ 200 + 60 * (d + 1); omega) dk_25_111,
    List.forall_mem_cons.mpr ⟨ok_isub hx hb dk_25_114,
    List.forall_mem_cons.mpr ⟨ok_cV hx hb hml hown hts hb1 hb2 hA hroot hAs rfl rfl rfl (hcal_26 hall) tw_511 tw_513 ts_15 tw_514 tw_1 nm_26 rfl rfl (by show d + 8 + 1 ≤ d + 1 + 8; omega) (by show 8 + (4 + 11) + (200 + 60 * d) ≤ 200 + 60 * (d + 1); omega) dk_25_115,
    List.forall_mem_cons.mpr ⟨ok_istore_n hx hb dk_25_118 rfl (by decide),
    List.forall_mem_cons.mpr ⟨ok_iinc hx hb dk_25_119 rfl (by decide),
    List.forall_mem_cons.mpr ⟨ok_goto hx hb dk_25_122 (by decide),
    List.forall_mem_cons.mpr ⟨ok_iload_n hx hb dk_25_125 rfl,
    List.forall_mem_cons.mpr ⟨ok_iret hx hb hb1 hb2 hr hlocks dk_25_126,
    fun _ h => absurd h List.not_mem_nil⟩⟩⟩⟩⟩⟩⟩⟩⟩⟩⟩⟩⟩⟩⟩⟩⟩⟩⟩⟩⟩⟩⟩⟩⟩⟩⟩⟩⟩⟩⟩⟩⟩⟩⟩⟩⟩⟩⟩⟩⟩⟩⟩⟩⟩⟩⟩⟩⟩⟩⟩⟩⟩⟩⟩⟩⟩⟩⟩⟩⟩⟩⟩⟩⟩⟩⟩⟩⟩⟩⟩⟩⟩⟩⟩
theorem dk_26_0 : decode prog_1_method_27_code 0 = .ok (.iload_n 3, 1) := by decide +kernel
theorem dk_26_1 : decode prog_1_method_27_code 1 = .ok (.iload_n 2, 1) := by decide +kernel
theorem dk_26_2 : decode prog_1_method_27_code 2 = .ok (.if_icmp .gt (5), 3) := by decide +kernel
theorem dk_26_5 : decode prog_1_method_27_code 5 = .ok (.iload_n 2, 1) := by decide +kernel
theorem dk_26_6 : decode prog_1_method_27_code 6 = .ok (.ireturn, 1) := by decide +kernel
theorem dk_26_7 : decode prog_1_method_27_code 7 = .ok (.aload_n 0, 1) := by decide +kernel
theorem dk_26_8 : decode prog_1_method_27_code 8 = .ok (.getfield 30, 3) := by decide +kernel
theorem dk_26_11 : decode prog_1_method_27_code 11 = .ok (.iload_n 1, 1) := by decide +kernel
theorem dk_26_12 : decode prog_1_method_27_code 12 = .ok (.iload_n 3, 1) := by decide +kernel
theorem dk_26_13 : decode prog_1_method_27_code 13 = .ok (.iastore, 1) := by decide +kernel
theorem dk_26_14 : decode prog_1_method_27_code 14 = .ok (.aload_n 0, 1) := by decide +kernel
theorem dk_26_15 : decode prog_1_method_27_code 15 = .ok (.getfield 10, 3) := by decide +kernel
theorem dk_26_18 : decode prog_1_method_27_code 18 = .ok (.aload_n 0, 1) := by decide +kernel
theorem dk_26_19 : decode prog_1_method_27_code 19 = .ok (.getfield 30, 3) := by decide +kernel
theorem dk_26_22 : decode prog_1_method_27_code 22 = .ok (.invokevirtual 136, 3) := by decide +kernel
theorem dk_26_25 : decode prog_1_method_27_code 25 = .ok (.iconst (-1), 1) := by decide +kernel
theorem dk_26_26 : decode prog_1_method_27_code 26 = .ok (.if_icmp .ne (7), 3) := by decide +kernel
theorem dk_26_29 : decode prog_1_method_27_code 29 = .ok (.iload_n 3, 1) := by decide +kernel
theorem dk_26_30 : decode prog_1_method_27_code 30 = .ok (.goto (4), 3) := by decide +kernel
theorem dk_26_33 : decode prog_1_method_27_code 33 = .ok (.iload_n 2, 1) := by decide +kernel
theorem dk_26_34 : decode prog_1_method_27_code 34 = .ok (.ireturn, 1) := by decide +kernel
set_option maxRecDepth 100000 in
set_option maxHeartbeats 4000000 in
theorem cc_26 {l : Launch} {s0 : State} (hst : l.stackTraces = false) (h0 : am_W0 s0) {d : Nat} (hall : ∀ mi ∈ am_idx, am_CC l s0 d mi) : am_CC l s0 (d + 1) 26 :=
  am_method (y := y_26) (cc := prog_1_method_27_code) (maxL := 4) (ret := (some .int)) (rm := am_rm (d + 1) 0 0) (ops := op_26) (C := am_T am_tabs am_ar d) (ar := 4) h0 (by decide) (by decide) fun p e s m args below meth c D A bS ad0 Q hct htab => by
    obtain ⟨hx, hb, hml, hown, hts, hb1, hb2, hA, hroot, hAs, -, -, hlocks, hr, hnm⟩ := hct
    exact List.forall_mem_cons.mpr ⟨ok_iload_n hx hb dk_26_0 rfl,
    List.forall_mem_cons.mpr ⟨ok_iload_n hx hb dk_26_1 rfl,
    List.forall_mem_cons.mpr ⟨ok_icmp_gt hx hb dk_26_2 (by decide),
    List.forall_mem_cons.mpr ⟨ok_iload_n hx hb dk_26_5 rfl,
    List.forall_mem_cons.mpr ⟨ok_iret hx hb hb1 hb2 hr hlocks dk_26_6,
    List.forall_mem_cons.mpr ⟨ok_aload_n hx hb dk_26_7 rfl,
    List.forall_mem_cons.mpr ⟨ok_getr hx hb hts hown hin_2 rfl (by decide) tw_118 dk_26_8,
    List.forall_mem_cons.mpr ⟨ok_iload_n hx hb dk_26_11 rfl,
    List.forall_mem_cons.mpr ⟨ok_iload_n hx hb dk_26_12 rfl,
    List.forall_mem_cons.mpr ⟨ok_iast hx hb dk_26_13,
    List.forall_mem_cons.mpr ⟨ok_aload_n hx hb dk_26_14 rfl,
    List.forall_mem_cons.mpr ⟨ok_getr hx hb hts hown hin_2 rfl (by decide) tw_114 dk_26_15,
    List.forall_mem_cons.mpr ⟨ok_aload_n hx hb dk_26_18 rfl,
    List.forall_mem_cons.mpr ⟨ok_getr hx hb hts hown hin_2 rfl (by decide) tw_118 dk_26_19,
    List.forall_mem_cons.mpr ⟨ok_cV hx hb hml hown hts hb1 hb2 hA hroot hAs rfl rfl rfl (hcal_94 hall) tw_219 tw_220 tw_221 tw_222 tw_2 nm_94 rfl rfl (by show d + 8 + 1 ≤ d + 1 + 8; omega) (by show 8 + (3 + 11) + (200 + 60 * d) ≤ 200 + 60 * (d + 1); omega) dk_26_22,
    List.forall_mem_cons.mpr ⟨ok_iconst hx hb dk_26_25 rfl,
    List.forall_mem_cons.mpr ⟨ok_icmp_ne hx hb dk_26_26 (by decide),
    List.forall_mem_cons.mpr ⟨ok_iload_n hx hb dk_26_29 rfl,
    List.forall_mem_cons.mpr ⟨ok_goto hx hb dk_26_30 (by decide),
    List.forall_mem_cons.mpr ⟨ok_iload_n hx hb dk_26_33 rfl,
    List.forall_mem_cons.mpr ⟨ok_iret hx hb hb1 hb2 hr hlocks dk_26_34,
    fun _ h => absurd h List.not_mem_nil⟩⟩⟩⟩⟩⟩⟩⟩⟩⟩⟩⟩⟩⟩⟩⟩⟩⟩⟩⟩⟩
theorem dk_27_0 : decode prog_1_method_28_code 0 = .ok (.iload_n 1, 1) := by decide +kernel
theorem dk_27_1 : decode prog_1_method_28_code 1 = .ok (.iload_n 0, 1) := by decide +kernel
theorem dk_27_2 : decode prog_1_method_28_code 2 = .ok (.if_icmp .gt (12), 3) := by decide +kernel
theorem dk_27_5 : decode prog_1_method_28_code 5 = .ok (.iload_n 0, 1) := by decide +kernel
theorem dk_27_6 : decode prog_1_method_28_code 6 = .ok (.iload_n 2, 1) := by decide +kernel
theorem dk_27_7 : decode prog_1_method_28_code 7 = .ok (.if_icmp .gt (7), 3) := by decide +kernel
theorem dk_27_10 : decode prog_1_method_28_code 10 = .ok (.iconst (1), 1) := by decide +kernel
theorem dk_27_11 : decode prog_1_method_28_code 11 = .ok (.goto (4), 3) := by decide +kernel
theorem dk_27_14 : decode prog_1_method_28_code 14 = .ok (.iconst (0), 1) := by decide +kernel
theorem dk_27_15 : decode prog_1_method_28_code 15 = .ok (.ireturn, 1) := by decide +kernel
set_option maxRecDepth 100000 in
set_option maxHeartbeats 4000000 in
theorem cc_27 {l : Launch} {s0 : State} (hst : l.stackTraces = false) (h0 : am_W0 s0) {d : Nat} (hall : ∀ mi ∈ am_idx, am_CC l s0 d mi) : am_CC l s0 (d + 1) 27 :=
  am_method (y := y_27) (cc := prog_1_method_28_code) (maxL := 3) (ret := (some .boolean)) (rm := am_rm (d + 1) 0 0) (ops := op_27) (C := am_T am_tabs am_ar d) (ar := 3) h0 (by decide) (by decide) fun p e s m args below meth c D A bS ad0 Q hct htab => by
    obtain ⟨hx, hb, hml, hown, hts, hb1, hb2, hA, hroot, hAs, -, -, hlocks, hr, hnm⟩ := hct
    exact List.forall_mem_cons.mpr ⟨ok_iload_n hx hb dk_27_0 rfl,
    List.forall_mem_cons.mpr ⟨ok_iload_n hx hb dk_27_1 rfl,
    List.forall_mem_cons.mpr ⟨ok_icmp_gt hx hb dk_27_2 (by decide),
    List.forall_mem_cons.mpr ⟨ok_iload_n hx hb dk_27_5 rfl,
    List.forall_mem_cons.mpr ⟨ok_iload_n hx hb dk_27_6 rfl,
    List.forall_mem_cons.mpr ⟨ok_icmp_gt hx hb dk_27_7 (by decide),
    List.forall_mem_cons.mpr ⟨ok_iconst hx hb dk_27_10 rfl,
    List.forall_mem_cons.mpr ⟨ok_goto hx hb dk_27_11 (by decide),
    List.forall_mem_cons.mpr ⟨ok_iconst hx hb dk_27_14 rfl,
    List.forall_mem_cons.mpr ⟨ok_zret hx hb hb1 hb2 hr hlocks dk_27_15,
    fun _ h => absurd h List.not_mem_nil⟩⟩⟩⟩⟩⟩⟩⟩⟩⟩
theorem dk_28_0 : decode prog_1_method_29_code 0 = .ok (.iload_n 0, 1) := by decide +kernel
theorem dk_28_1 : decode prog_1_method_29_code 1 = .ok (.iconst (0), 1) := by decide +kernel
theorem dk_28_2 : decode prog_1_method_29_code 2 = .ok (.iconst (5), 1) := by decide +kernel
theorem dk_28_3 : decode prog_1_method_29_code 3 = .ok (.invokestatic 43, 3) := by decide +kernel
theorem dk_28_6 : decode prog_1_method_29_code 6 = .ok (.ireturn, 1) := by decide +kernel
set_option maxRecDepth 100000 in
set_option maxHeartbeats 4000000 in
theorem cc_28 {l : Launch} {s0 : State} (hst : l.stackTraces = false) (h0 : am_W0 s0) {d : Nat} (hall : ∀ mi ∈ am_idx, am_CC l s0 d mi) : am_CC l s0 (d + 1) 28 :=
  am_method (y := y_28) (cc := prog_1_method_29_code) (maxL := 1) (ret := (some .boolean)) (rm := am_rm (d + 1) 0 0) (ops := op_28) (C := am_T am_tabs am_ar d) (ar := 1) h0 (by decide) (by decide) fun p e s m args below meth c D A bS ad0 Q hct htab => by
    obtain ⟨hx, hb, hml, hown, hts, hb1, hb2, hA, hroot, hAs, -, -, hlocks, hr, hnm⟩ := hct
    exact List.forall_mem_cons.mpr ⟨ok_iload_n hx hb dk_28_0 rfl,
    List.forall_mem_cons.mpr ⟨ok_iconst hx hb dk_28_1 rfl,
    List.forall_mem_cons.mpr ⟨ok_iconst hx hb dk_28_2 rfl,
    List.forall_mem_cons.mpr ⟨ok_cS hx hb hml hown hts hb1 hb2 hA hroot hAs rfl rfl (hcal_27 hall) tw_281 tw_232 tw_233 tw_1 nm_27 rfl rfl (by show d + 8 + 1 ≤ d + 1 + 8; omega) (by show 8 + (3 + 11) + (200 + 60 * d) ≤ 200 + 60 * (d + 1); omega) dk_28_3,
    List.forall_mem_cons.mpr ⟨ok_zret hx hb hb1 hb2 hr hlocks dk_28_6,
    fun _ h => absurd h List.not_mem_nil⟩⟩⟩⟩⟩
theorem dk_29_0 : decode prog_1_method_30_code 0 = .ok (.aload_n 0, 1) := by decide +kernel
theorem dk_29_1 : decode prog_1_method_30_code 1 = .ok (.iload_n 1, 1) := by decide +kernel
theorem dk_29_2 : decode prog_1_method_30_code 2 = .ok (.iaload, 1) := by decide +kernel
theorem dk_29_3 : decode prog_1_method_30_code 3 = .ok (.aload_n 0, 1) := by decide +kernel
theorem dk_29_4 : decode prog_1_method_30_code 4 = .ok (.iload_n 2, 1) := by decide +kernel
theorem dk_29_5 : decode prog_1_method_30_code 5 = .ok (.iaload, 1) := by decide +kernel
theorem dk_29_6 : decode prog_1_method_30_code 6 = .ok (.if_icmp .lt (17), 3) := by decide +kernel
theorem dk_29_9 : decode prog_1_method_30_code 9 = .ok (.aload_n 0, 1) := by decide +kernel
theorem dk_29_10 : decode prog_1_method_30_code 10 = .ok (.iload_n 1, 1) := by decide +kernel
theorem dk_29_11 : decode prog_1_method_30_code 11 = .ok (.iaload, 1) := by decide +kernel
theorem dk_29_12 : decode prog_1_method_30_code 12 = .ok (.aload_n 0, 1) := by decide +kernel
theorem dk_29_13 : decode prog_1_method_30_code 13 = .ok (.iload_n 2, 1) := by decide +kernel
theorem dk_29_14 : decode prog_1_method_30_code 14 = .ok (.iaload, 1) := by decide +kernel
theorem dk_29_15 : decode prog_1_method_30_code 15 = .ok (.if_icmp .ne (12), 3) := by decide +kernel
theorem dk_29_18 : decode prog_1_method_30_code 18 = .ok (.iload_n 1, 1) := by decide +kernel
theorem dk_29_19 : decode prog_1_method_30_code 19 = .ok (.iload_n 2, 1) := by decide +kernel
theorem dk_29_20 : decode prog_1_method_30_code 20 = .ok (.if_icmp .ge (7), 3) := by decide +kernel
theorem dk_29_23 : decode prog_1_method_30_code 23 = .ok (.iconst (1), 1) := by decide +kernel
theorem dk_29_24 : decode prog_1_method_30_code 24 = .ok (.goto (4), 3) := by decide +kernel
theorem dk_29_27 : decode prog_1_method_30_code 27 = .ok (.iconst (0), 1) := by decide +kernel
theorem dk_29_28 : decode prog_1_method_30_code 28 = .ok (.ireturn, 1) := by decide +kernel
set_option maxRecDepth 100000 in
set_option maxHeartbeats 4000000 in
theorem cc_29 {l : Launch} {s0 : State} (hst : l.stackTraces = false) (h0 : am_W0 s0) {d : Nat} (hall : ∀ mi ∈ am_idx, am_CC l s0 d mi) : am_CC l s0 (d + 1) 29 :=
  am_method (y := y_29) (cc := prog_1_method_30_code) (maxL := 3) (ret := (some .boolean)) (rm := am_rm (d + 1) 0 0) (ops := op_29) (C := am_T am_tabs am_ar d) (ar := 3) h0 (by decide) (by decide) fun p e s m args below meth c D A bS ad0 Q hct htab => by
    obtain ⟨hx, hb, hml, hown, hts, hb1, hb2, hA, hroot, hAs, -, -, hlocks, hr, hnm⟩ := hct
    exact List.forall_mem_cons.mpr ⟨ok_aload_n hx hb dk_29_0 rfl,
    List.forall_mem_cons.mpr ⟨ok_iload_n hx hb dk_29_1 rfl,
    List.forall_mem_cons.mpr ⟨ok_iald hx hb dk_29_2,
    List.forall_mem_cons.mpr ⟨ok_aload_n hx hb dk_29_3 rfl,
    List.forall_mem_cons.mpr ⟨ok_iload_n hx hb dk_29_4 rfl,
    List.forall_mem_cons.mpr ⟨ok_iald hx hb dk_29_5,
    List.forall_mem_cons.mpr ⟨ok_icmp_lt hx hb dk_29_6 (by decide),
    List.forall_mem_cons.mpr ⟨ok_aload_n hx hb dk_29_9 rfl,
    List.forall_mem_cons.mpr ⟨ok_iload_n hx hb dk_29_10 rfl,
    List.forall_mem_cons.mpr ⟨ok_iald hx hb dk_29_11,
    List.forall_mem_cons.mpr ⟨ok_aload_n hx hb dk_29_12 rfl,
    List.forall_mem_cons.mpr ⟨ok_iload_n hx hb dk_29_13 rfl,
    List.forall_mem_cons.mpr ⟨ok_iald hx hb dk_29_14,
    List.forall_mem_cons.mpr ⟨ok_icmp_ne hx hb dk_29_15 (by decide),
    List.forall_mem_cons.mpr ⟨ok_iload_n hx hb dk_29_18 rfl,
    List.forall_mem_cons.mpr ⟨ok_iload_n hx hb dk_29_19 rfl,
    List.forall_mem_cons.mpr ⟨ok_icmp_ge hx hb dk_29_20 (by decide),
    List.forall_mem_cons.mpr ⟨ok_iconst hx hb dk_29_23 rfl,
    List.forall_mem_cons.mpr ⟨ok_goto hx hb dk_29_24 (by decide),
    List.forall_mem_cons.mpr ⟨ok_iconst hx hb dk_29_27 rfl,
    List.forall_mem_cons.mpr ⟨ok_zret hx hb hb1 hb2 hr hlocks dk_29_28,
    fun _ h => absurd h List.not_mem_nil⟩⟩⟩⟩⟩⟩⟩⟩⟩⟩⟩⟩⟩⟩⟩⟩⟩⟩⟩⟩⟩
theorem dk_30_0 : decode prog_1_method_31_code 0 = .ok (.iconst (0), 1) := by decide +kernel
theorem dk_30_1 : decode prog_1_method_31_code 1 = .ok (.istore_n 2, 1) := by decide +kernel
theorem dk_30_2 : decode prog_1_method_31_code 2 = .ok (.iconst (0), 1) := by decide +kernel
theorem dk_30_3 : decode prog_1_method_31_code 3 = .ok (.istore_n 3, 1) := by decide +kernel
theorem dk_30_4 : decode prog_1_method_31_code 4 = .ok (.iload_n 3, 1) := by decide +kernel
theorem dk_30_5 : decode prog_1_method_31_code 5 = .ok (.bipush (7), 2) := by decide +kernel
theorem dk_30_7 : decode prog_1_method_31_code 7 = .ok (.if_icmp .ge (28), 3) := by decide +kernel
theorem dk_30_10 : decode prog_1_method_31_code 10 = .ok (.aload_n 0, 1) := by decide +kernel
theorem dk_30_11 : decode prog_1_method_31_code 11 = .ok (.iload_n 3, 1) := by decide +kernel
theorem dk_30_12 : decode prog_1_method_31_code 12 = .ok (.iaload, 1) := by decide +kernel
theorem dk_30_13 : decode prog_1_method_31_code 13 = .ok (.iconst (-1), 1) := by decide +kernel
theorem dk_30_14 : decode prog_1_method_31_code 14 = .ok (.if_icmp .eq (15), 3) := by decide +kernel
theorem dk_30_17 : decode prog_1_method_31_code 17 = .ok (.aload_n 0, 1) := by decide +kernel
theorem dk_30_18 : decode prog_1_method_31_code 18 = .ok (.iload_n 3, 1) := by decide +kernel
theorem dk_30_19 : decode prog_1_method_31_code 19 = .ok (.iload_n 1, 1) := by decide +kernel
theorem dk_30_20 : decode prog_1_method_31_code 20 = .ok (.invokestatic 178, 3) := by decide +kernel
theorem dk_30_23 : decode prog_1_method_31_code 23 = .ok (.ifCond .eq (6), 3) := by decide +kernel
theorem dk_30_26 : decode prog_1_method_31_code 26 = .ok (.iinc 2 (1), 3) := by decide +kernel
theorem dk_30_29 : decode prog_1_method_31_code 29 = .ok (.iinc 3 (1), 3) := by decide +kernel
theorem dk_30_32 : decode prog_1_method_31_code 32 = .ok (.goto (-28), 3) := by decide +kernel
theorem dk_30_35 : decode prog_1_method_31_code 35 = .ok (.iload_n 2, 1) := by decide +kernel
theorem dk_30_36 : decode prog_1_method_31_code 36 = .ok (.ireturn, 1) := by decide +kernel
set_option maxRecDepth 100000 in
set_option maxHeartbeats 4000000 in
theorem cc_30 {l : Launch} {s0 : State} (hst : l.stackTraces = false) (h0 : am_W0 s0) {d : Nat} (hall : ∀ mi ∈ am_idx, am_CC l s0 d mi) : am_CC l s0 (d + 1) 30 :=
  am_method (y := y_30) (cc := prog_1_method_31_code) (maxL := 4) (ret := (some .int)) (rm := am_rm (d + 1) 0 0) (ops := op_30) (C := am_T am_tabs am_ar d) (ar := 2) h0 (by decide) (by decide) fun p e s m args below meth c D A bS ad0 Q hct htab => by
    obtain ⟨hx, hb, hml, hown, hts, hb1, hb2, hA, hroot, hAs, -, -, hlocks, hr, hnm⟩ := hct
    exact List.forall_mem_cons.mpr ⟨ok_iconst hx hb dk_30_0 rfl,
    List.forall_mem_cons.mpr ⟨ok_istore_n hx hb dk_30_1 rfl (by decide),
    List.forall_mem_cons.mpr ⟨ok_iconst hx hb dk_30_2 rfl,
    List.forall_mem_cons.mpr ⟨ok_istore_n hx hb dk_30_3 rfl (by decide),
    List.forall_mem_cons.mpr ⟨ok_iload_n hx hb dk_30_4 rfl,
    List.forall_mem_cons.mpr ⟨ok_bipush hx hb dk_30_5 (by decide),
    List.forall_mem_cons.mpr ⟨ok_icmp_ge hx hb dk_30_7 (by decide),
    List.forall_mem_cons.mpr ⟨ok_aload_n hx hb dk_30_10 rfl,
    List.forall_mem_cons.mpr ⟨ok_iload_n hx hb dk_30_11 rfl,
    List.forall_mem_cons.mpr ⟨ok_iald hx hb dk_30_12,
    List.forall_mem_cons.mpr ⟨ok_iconst hx hb dk_30_13 rfl,
    List.forall_mem_cons.mpr ⟨ok_icmp_eq hx hb dk_30_14 (by decide),
    List.forall_mem_cons.mpr ⟨ok_aload_n hx hb dk_30_17 rfl,
    List.forall_mem_cons.mpr ⟨ok_iload_n hx hb dk_30_18 rfl,
    List.forall_mem_cons.mpr ⟨ok_iload_n hx hb dk_30_19 rfl,
    List.forall_mem_cons.mpr ⟨ok_cS hx hb hml hown hts hb1 hb2 hA hroot hAs rfl rfl (hcal_29 hall) tw_242 tw_151 tw_152 tw_1 nm_29 rfl rfl (by show d + 8 + 1 ≤ d + 1 + 8; omega) (by show 8 + (3 + 11) + (200 + 60 * d) ≤ 200 + 60 * (d + 1); omega) dk_30_20,
    List.forall_mem_cons.mpr ⟨ok_if_eq hx hb dk_30_23 (by decide),
    List.forall_mem_cons.mpr ⟨ok_iinc hx hb dk_30_26 rfl (by decide),
    List.forall_mem_cons.mpr ⟨ok_iinc hx hb dk_30_29 rfl (by decide),
    List.forall_mem_cons.mpr ⟨ok_goto hx hb dk_30_32 (by decide),
    List.forall_mem_cons.mpr ⟨ok_iload_n hx hb dk_30_35 rfl,
    List.forall_mem_cons.mpr ⟨ok_iret hx hb hb1 hb2 hr hlocks dk_30_36,
    fun _ h => absurd h List.not_mem_nil⟩⟩⟩⟩⟩⟩⟩⟩⟩⟩⟩⟩⟩⟩⟩⟩⟩⟩⟩⟩⟩⟩
