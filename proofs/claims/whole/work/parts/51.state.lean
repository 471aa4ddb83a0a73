/-! contracts: 51.state (laid by wip/whole/gen.py) -/
theorem dk_79_0 : decode prog_3_method_1_code 0 = .ok (.aload_n 0, 1) := by decide +kernel
theorem dk_79_1 : decode prog_3_method_1_code 1 = .ok (.invokespecial 3, 3) := by decide +kernel
theorem dk_79_4 : decode prog_3_method_1_code 4 = .ok (.aload_n 0, 1) := by decide +kernel
theorem dk_79_5 : decode prog_3_method_1_code 5 = .ok (.bipush (7), 2) := by decide +kernel
theorem dk_79_7 : decode prog_3_method_1_code 7 = .ok (.newarray .boolean, 2) := by decide +kernel
theorem dk_79_9 : decode prog_3_method_1_code 9 = .ok (.putfield 9, 3) := by decide +kernel
theorem dk_79_12 : decode prog_3_method_1_code 12 = .ok (.aload_n 0, 1) := by decide +kernel
theorem dk_79_13 : decode prog_3_method_1_code 13 = .ok (.bipush (7), 2) := by decide +kernel
theorem dk_79_15 : decode prog_3_method_1_code 15 = .ok (.newarray .int, 2) := by decide +kernel
theorem dk_79_17 : decode prog_3_method_1_code 17 = .ok (.putfield 15, 3) := by decide +kernel
theorem dk_79_20 : decode prog_3_method_1_code 20 = .ok (.aload_n 0, 1) := by decide +kernel
theorem dk_79_21 : decode prog_3_method_1_code 21 = .ok (.bipush (7), 2) := by decide +kernel
theorem dk_79_23 : decode prog_3_method_1_code 23 = .ok (.newarray .int, 2) := by decide +kernel
theorem dk_79_25 : decode prog_3_method_1_code 25 = .ok (.putfield 19, 3) := by decide +kernel
theorem dk_79_28 : decode prog_3_method_1_code 28 = .ok (.aload_n 0, 1) := by decide +kernel
theorem dk_79_29 : decode prog_3_method_1_code 29 = .ok (.bipush (7), 2) := by decide +kernel
theorem dk_79_31 : decode prog_3_method_1_code 31 = .ok (.newarray .int, 2) := by decide +kernel
theorem dk_79_33 : decode prog_3_method_1_code 33 = .ok (.putfield 22, 3) := by decide +kernel
theorem dk_79_36 : decode prog_3_method_1_code 36 = .ok (.aload_n 0, 1) := by decide +kernel
theorem dk_79_37 : decode prog_3_method_1_code 37 = .ok (.bipush (7), 2) := by decide +kernel
theorem dk_79_39 : decode prog_3_method_1_code 39 = .ok (.newarray .int, 2) := by decide +kernel
theorem dk_79_41 : decode prog_3_method_1_code 41 = .ok (.putfield 25, 3) := by decide +kernel
theorem dk_79_44 : decode prog_3_method_1_code 44 = .ok (.aload_n 0, 1) := by decide +kernel
theorem dk_79_45 : decode prog_3_method_1_code 45 = .ok (.bipush (7), 2) := by decide +kernel
theorem dk_79_47 : decode prog_3_method_1_code 47 = .ok (.newarray .int, 2) := by decide +kernel
theorem dk_79_49 : decode prog_3_method_1_code 49 = .ok (.putfield 28, 3) := by decide +kernel
theorem dk_79_52 : decode prog_3_method_1_code 52 = .ok (.aload_n 0, 1) := by decide +kernel
theorem dk_79_53 : decode prog_3_method_1_code 53 = .ok (.bipush (7), 2) := by decide +kernel
theorem dk_79_55 : decode prog_3_method_1_code 55 = .ok (.newarray .int, 2) := by decide +kernel
theorem dk_79_57 : decode prog_3_method_1_code 57 = .ok (.putfield 31, 3) := by decide +kernel
theorem dk_79_60 : decode prog_3_method_1_code 60 = .ok (.aload_n 0, 1) := by decide +kernel
theorem dk_79_61 : decode prog_3_method_1_code 61 = .ok (.bipush (6), 2) := by decide +kernel
theorem dk_79_63 : decode prog_3_method_1_code 63 = .ok (.bipush (6), 2) := by decide +kernel
theorem dk_79_65 : decode prog_3_method_1_code 65 = .ok (.multianewarray 34 2, 4) := by decide +kernel
theorem dk_79_69 : decode prog_3_method_1_code 69 = .ok (.putfield 36, 3) := by decide +kernel
theorem dk_79_72 : decode prog_3_method_1_code 72 = .ok (.aload_n 0, 1) := by decide +kernel
theorem dk_79_73 : decode prog_3_method_1_code 73 = .ok (.iconst (4), 1) := by decide +kernel
theorem dk_79_74 : decode prog_3_method_1_code 74 = .ok (.newarray .int, 2) := by decide +kernel
theorem dk_79_76 : decode prog_3_method_1_code 76 = .ok (.putfield 39, 3) := by decide +kernel
theorem dk_79_79 : decode prog_3_method_1_code 79 = .ok (.aload_n 0, 1) := by decide +kernel
theorem dk_79_80 : decode prog_3_method_1_code 80 = .ok (.iconst (4), 1) := by decide +kernel
theorem dk_79_81 : decode prog_3_method_1_code 81 = .ok (.newarray .int, 2) := by decide +kernel
theorem dk_79_83 : decode prog_3_method_1_code 83 = .ok (.putfield 42, 3) := by decide +kernel
theorem dk_79_86 : decode prog_3_method_1_code 86 = .ok (.aload_n 0, 1) := by decide +kernel
theorem dk_79_87 : decode prog_3_method_1_code 87 = .ok (.bipush (6), 2) := by decide +kernel
theorem dk_79_89 : decode prog_3_method_1_code 89 = .ok (.putfield 45, 3) := by decide +kernel
theorem dk_79_92 : decode prog_3_method_1_code 92 = .ok (.iconst (0), 1) := by decide +kernel
theorem dk_79_93 : decode prog_3_method_1_code 93 = .ok (.istore_n 1, 1) := by decide +kernel
theorem dk_79_94 : decode prog_3_method_1_code 94 = .ok (.iload_n 1, 1) := by decide +kernel
theorem dk_79_95 : decode prog_3_method_1_code 95 = .ok (.bipush (6), 2) := by decide +kernel
theorem dk_79_97 : decode prog_3_method_1_code 97 = .ok (.if_icmp .ge (20), 3) := by decide +kernel
theorem dk_79_100 : decode prog_3_method_1_code 100 = .ok (.aload_n 0, 1) := by decide +kernel
theorem dk_79_101 : decode prog_3_method_1_code 101 = .ok (.getfield 36, 3) := by decide +kernel
theorem dk_79_104 : decode prog_3_method_1_code 104 = .ok (.iload_n 1, 1) := by decide +kernel
theorem dk_79_105 : decode prog_3_method_1_code 105 = .ok (.aaload, 1) := by decide +kernel
theorem dk_79_106 : decode prog_3_method_1_code 106 = .ok (.bipush (60), 2) := by decide +kernel
theorem dk_79_108 : decode prog_3_method_1_code 108 = .ok (.invokestatic 49, 3) := by decide +kernel
theorem dk_79_111 : decode prog_3_method_1_code 111 = .ok (.iinc 1 (1), 3) := by decide +kernel
theorem dk_79_114 : decode prog_3_method_1_code 114 = .ok (.goto (-20), 3) := by decide +kernel
theorem dk_79_117 : decode prog_3_method_1_code 117 = .ok (.return_, 1) := by decide +kernel
set_option maxRecDepth 100000 in
set_option maxHeartbeats 4000000 in
theorem cc_79 {l : Launch} {s0 : State} (hst : l.stackTraces = false) (h0 : am_W0 s0) {d : Nat} (hall : ∀ mi ∈ am_idx, am_CC l s0 d mi) : am_CC l s0 (d + 1) 79 :=
  am_method (y := y_79) (cc := prog_3_method_1_code) (maxL := 2) (ret := none) (rm := am_rm (d + 1) 16 99) (ops := op_79) (C := am_T am_tabs am_ar d) (ar := 1) h0 (by decide) (by decide) fun p e s m args below meth c D A bS ad0 Q hct htab => by
    obtain ⟨hx, hb, hml, hown, hts, hb1, hb2, hA, hroot, hAs, -, -, hlocks, hr, hnm⟩ := hct
    exact List.forall_mem_cons.mpr ⟨ok_aload_n hx hb dk_79_0 rfl,
    List.forall_mem_cons.mpr ⟨ok_oinit hx hb hts hown hml tw_28 tw_21 tw_22 rfl (by show 1 ≤ d + 1 + 8; omega) (by show 20 ≤ 200 + 60 * (d + 1); omega) dk_79_1,
    List.forall_mem_cons.mpr ⟨ok_aload_n hx hb dk_79_4 rfl,
    List.forall_mem_cons.mpr ⟨ok_bipush hx hb dk_79_5 (by decide),
    List.forall_mem_cons.mpr ⟨ok_newa_boolean hx hb hts hA tw_88 rfl rfl dk_79_7,
    List.forall_mem_cons.mpr ⟨ok_putr hx hb hts hown hin_1 tyF_1 tyF_1_ok nmF_1 rfl (by decide) tw_34 rfl hnm rfl (tyF_1_ok 0 (by decide)) (fun _ => rfl) (fun _ => rfl) dk_79_9,
    List.forall_mem_cons.mpr ⟨ok_aload_n hx hb dk_79_12 rfl,
    List.forall_mem_cons.mpr ⟨ok_bipush hx hb dk_79_13 (by decide),
    List.forall_mem_cons.mpr ⟨ok_newa_int hx hb hts hA tw_89 rfl rfl dk_79_15,
    List.forall_mem_cons.mpr ⟨ok_putr hx hb hts hown hin_1 tyF_1 tyF_1_ok nmF_1 rfl (by decide) tw_37 rfl hnm rfl (tyF_1_ok 1 (by decide)) (fun _ => rfl) (fun _ => rfl) dk_79_17,
    List.forall_mem_cons.mpr ⟨ok_aload_n hx hb dk_79_20 rfl,
    List.forall_mem_cons.mpr ⟨ok_bipush hx hb dk_79_21 (by decide),
    List.forall_mem_cons.mpr ⟨ok_newa_int hx hb hts hA tw_89 rfl rfl dk_79_23,
    List.forall_mem_cons.mpr ⟨ok_putr hx hb hts hown hin_1 tyF_1 tyF_1_ok nmF_1 rfl (by decide) tw_39 rfl hnm rfl (tyF_1_ok 2 (by decide)) (fun _ => rfl) (fun _ => rfl) dk_79_25,
    List.forall_mem_cons.mpr ⟨ok_aload_n hx hb dk_79_28 rfl,
    List.forall_mem_cons.mpr ⟨ok_bipush hx hb dk_79_29 (by decide),
    List.forall_mem_cons.mpr ⟨ok_newa_int hx hb hts hA tw_89 rfl rfl dk_79_31,
    List.forall_mem_cons.mpr ⟨ok_putr hx hb hts hown hin_1 tyF_1 tyF_1_ok nmF_1 rfl (by decide) tw_41 rfl hnm rfl (tyF_1_ok 3 (by decide)) (fun _ => rfl) (fun _ => rfl) dk_79_33,
    List.forall_mem_cons.mpr ⟨ok_aload_n hx hb dk_79_36 rfl,
    List.forall_mem_cons.mpr ⟨ok_bipush hx hb dk_79_37 (by decide),
    List.forall_mem_cons.mpr ⟨ok_newa_int hx hb hts hA tw_89 rfl rfl dk_79_39,
    List.forall_mem_cons.mpr ⟨ok_putr hx hb hts hown hin_1 tyF_1 tyF_1_ok nmF_1 rfl (by decide) tw_43 rfl hnm rfl (tyF_1_ok 4 (by decide)) (fun _ => rfl) (fun _ => rfl) dk_79_41,
    List.forall_mem_cons.mpr ⟨ok_aload_n hx hb dk_79_44 rfl,
    List.forall_mem_cons.mpr ⟨ok_bipush hx hb dk_79_45 (by decide),
    List.forall_mem_cons.mpr ⟨ok_newa_int hx hb hts hA tw_89 rfl rfl dk_79_47,
    List.forall_mem_cons.mpr ⟨ok_putr hx hb hts hown hin_1 tyF_1 tyF_1_ok nmF_1 rfl (by decide) tw_45 rfl hnm rfl (tyF_1_ok 5 (by decide)) (fun _ => rfl) (fun _ => rfl) dk_79_49,
    List.forall_mem_cons.mpr ⟨ok_aload_n hx hb dk_79_52 rfl,
    List.forall_mem_cons.mpr ⟨ok_bipush hx hb dk_79_53 (by decide),
    List.forall_mem_cons.mpr ⟨ok_newa_int hx hb hts hA tw_89 rfl rfl dk_79_55,
    List.forall_mem_cons.mpr ⟨ok_putr hx hb hts hown hin_1 tyF_1 tyF_1_ok nmF_1 rfl (by decide) tw_47 rfl hnm rfl (tyF_1_ok 6 (by decide)) (fun _ => rfl) (fun _ => rfl) dk_79_57,
    List.forall_mem_cons.mpr ⟨ok_aload_n hx hb dk_79_60 rfl,
    List.forall_mem_cons.mpr ⟨ok_bipush hx hb dk_79_61 (by decide),
    List.forall_mem_cons.mpr ⟨ok_bipush hx hb dk_79_63 (by decide),
    List.forall_mem_cons.mpr ⟨ok_mna hx hb hts hown hA rfl rfl tw_29 tw_30 tw_89 dk_79_65,
    List.forall_mem_cons.mpr ⟨ok_putr hx hb hts hown hin_1 tyF_1 tyF_1_ok nmF_1 rfl (by decide) tw_51 rfl hnm rfl (tyF_1_ok 8 (by decide)) (fun _ => rfl) (fun _ => rfl) dk_79_69,
    List.forall_mem_cons.mpr ⟨ok_aload_n hx hb dk_79_72 rfl,
    List.forall_mem_cons.mpr ⟨ok_iconst hx hb dk_79_73 rfl,
    List.forall_mem_cons.mpr ⟨ok_newa_int hx hb hts hA tw_89 rfl rfl dk_79_74,
    List.forall_mem_cons.mpr ⟨ok_putr hx hb hts hown hin_1 tyF_1 tyF_1_ok nmF_1 rfl (by decide) tw_53 rfl hnm rfl (tyF_1_ok 9 (by decide)) (fun _ => rfl) (fun _ => rfl) dk_79_76,
    List.forall_mem_cons.mpr ⟨ok_aload_n hx hb dk_79_79 rfl,
    List.forall_mem_cons.mpr ⟨ok_iconst hx hb dk_79_80 rfl,
    List.forall_mem_cons.mpr ⟨ok_newa_int hx hb hts hA tw_89 rfl rfl dk_79_81,
    List.forall_mem_cons.mpr ⟨ok_putr hx hb hts hown hin_1 tyF_1 tyF_1_ok nmF_1 rfl (by decide) tw_55 rfl hnm rfl (tyF_1_ok 10 (by decide)) (fun _ => rfl) (fun _ => rfl) dk_79_83,
    List.forall_mem_cons.mpr ⟨ok_aload_n hx hb dk_79_86 rfl,
    List.forall_mem_cons.mpr ⟨ok_bipush hx hb dk_79_87 (by decide),
    List.forall_mem_cons.mpr ⟨ok_puti hx hb hts hown hin_1 tyF_1 tyF_1_ok nmF_1 rfl (by decide) tw_59 rfl (by decide +kernel) dk_79_89,
    List.forall_mem_cons.mpr ⟨ok_iconst hx hb dk_79_92 rfl,
    List.forall_mem_cons.mpr ⟨ok_istore_n hx hb dk_79_93 rfl (by decide),
    List.forall_mem_cons.mpr ⟨ok_iload_n hx hb dk_79_94 rfl,
    List.forall_mem_cons.mpr ⟨ok_bipush hx hb dk_79_95 (by decide),
    List.forall_mem_cons.mpr ⟨ok_icmp_ge hx hb dk_79_97 (by decide),
    List.forall_mem_cons.mpr ⟨ok_aload_n hx hb dk_79_100 rfl,
    List.forall_mem_cons.mpr ⟨ok_getr hx hb hts hown hin_1 rfl (by decide) tw_51 dk_79_101,
    List.forall_mem_cons.mpr ⟨ok_iload_n hx hb dk_79_104 rfl,
    List.forall_mem_cons.mpr ⟨ok_aald hx hb dk_79_105,
    List.forall_mem_cons.mpr ⟨ok_bipush hx hb dk_79_106 (by decide),
    List.forall_mem_cons.mpr ⟨ok_cS hx hb hml hown hts hb1 hb2 hA hroot hAs rfl rfl (hcal_112 hall) tw_31 tw_32 tw_33 tw_3 nm_112 rfl rfl (by show d + 8 + 1 ≤ d + 1 + 8; omega) (by show 8 + (4 + 11) + (200 + 60 * d) ≤ 200 + 60 * (d + 1); omega) dk_79_108,
    List.forall_mem_cons.mpr ⟨ok_iinc hx hb dk_79_111 rfl (by decide),
    List.forall_mem_cons.mpr ⟨ok_goto hx hb dk_79_114 (by decide),
    List.forall_mem_cons.mpr ⟨ok_vret hx hb hb1 hb2 hr hlocks dk_79_117,
    fun _ h => absurd h List.not_mem_nil⟩⟩⟩⟩⟩⟩⟩⟩⟩⟩⟩⟩⟩⟩⟩⟩⟩⟩⟩⟩⟩⟩⟩⟩⟩⟩⟩⟩⟩⟩⟩⟩⟩⟩⟩⟩⟩⟩⟩⟩⟩⟩⟩⟩⟩⟩⟩⟩⟩⟩⟩⟩⟩⟩⟩⟩⟩⟩⟩⟩
theorem dk_80_0 : decode prog_3_method_2_code 0 = .ok (.iload_n 1, 1) := by decide +kernel
theorem dk_80_1 : decode prog_3_method_2_code 1 = .ok (.iconst (0), 1) := by decide +kernel
theorem dk_80_2 : decode prog_3_method_2_code 2 = .ok (.bipush (6), 2) := by decide +kernel
theorem dk_80_4 : decode prog_3_method_2_code 4 = .ok (.invokestatic 55, 3) := by decide +kernel
theorem dk_80_7 : decode prog_3_method_2_code 7 = .ok (.ifCond .eq (16), 3) := by decide +kernel
theorem dk_80_10 : decode prog_3_method_2_code 10 = .ok (.aload_n 0, 1) := by decide +kernel
theorem dk_80_11 : decode prog_3_method_2_code 11 = .ok (.getfield 9, 3) := by decide +kernel
theorem dk_80_14 : decode prog_3_method_2_code 14 = .ok (.iload_n 1, 1) := by decide +kernel
theorem dk_80_15 : decode prog_3_method_2_code 15 = .ok (.baload, 1) := by decide +kernel
theorem dk_80_16 : decode prog_3_method_2_code 16 = .ok (.ifCond .eq (7), 3) := by decide +kernel
theorem dk_80_19 : decode prog_3_method_2_code 19 = .ok (.iconst (1), 1) := by decide +kernel
theorem dk_80_20 : decode prog_3_method_2_code 20 = .ok (.goto (4), 3) := by decide +kernel
theorem dk_80_23 : decode prog_3_method_2_code 23 = .ok (.iconst (0), 1) := by decide +kernel
theorem dk_80_24 : decode prog_3_method_2_code 24 = .ok (.ireturn, 1) := by decide +kernel
set_option maxRecDepth 100000 in
set_option maxHeartbeats 4000000 in
theorem cc_80 {l : Launch} {s0 : State} (hst : l.stackTraces = false) (h0 : am_W0 s0) {d : Nat} (hall : ∀ mi ∈ am_idx, am_CC l s0 d mi) : am_CC l s0 (d + 1) 80 :=
  am_method (y := y_80) (cc := prog_3_method_2_code) (maxL := 2) (ret := (some .boolean)) (rm := am_rm (d + 1) 0 0) (ops := op_80) (C := am_T am_tabs am_ar d) (ar := 2) h0 (by decide) (by decide) fun p e s m args below meth c D A bS ad0 Q hct htab => by
    obtain ⟨hx, hb, hml, hown, hts, hb1, hb2, hA, hroot, hAs, -, -, hlocks, hr, hnm⟩ := hct
    exact List.forall_mem_cons.mpr ⟨ok_iload_n hx hb dk_80_0 rfl,
    List.forall_mem_cons.mpr ⟨ok_iconst hx hb dk_80_1 rfl,
    List.forall_mem_cons.mpr ⟨ok_bipush hx hb dk_80_2 (by decide),
    List.forall_mem_cons.mpr ⟨ok_cN hx hb hml hown hts hb1 hb2 hA hroot hAs rfl rfl (hcal_27 hall) tw_231 tw_232 tw_233 tw_1 nm_27 rfl rfl (by show d + 8 + 1 ≤ d + 1 + 8; omega) (by show 8 + (3 + 11) + (200 + 60 * d) ≤ 200 + 60 * (d + 1); omega) dk_80_4,
    List.forall_mem_cons.mpr ⟨ok_if_eq hx hb dk_80_7 (by decide),
    List.forall_mem_cons.mpr ⟨ok_aload_n hx hb dk_80_10 rfl,
    List.forall_mem_cons.mpr ⟨ok_getr hx hb hts hown hin_1 rfl (by decide) tw_34 dk_80_11,
    List.forall_mem_cons.mpr ⟨ok_iload_n hx hb dk_80_14 rfl,
    List.forall_mem_cons.mpr ⟨ok_zald hx hb dk_80_15,
    List.forall_mem_cons.mpr ⟨ok_if_eq hx hb dk_80_16 (by decide),
    List.forall_mem_cons.mpr ⟨ok_iconst hx hb dk_80_19 rfl,
    List.forall_mem_cons.mpr ⟨ok_goto hx hb dk_80_20 (by decide),
    List.forall_mem_cons.mpr ⟨ok_iconst hx hb dk_80_23 rfl,
    List.forall_mem_cons.mpr ⟨ok_zret hx hb hb1 hb2 hr hlocks dk_80_24,
    fun _ h => absurd h List.not_mem_nil⟩⟩⟩⟩⟩⟩⟩⟩⟩⟩⟩⟩⟩⟩
theorem dk_81_0 : decode prog_3_method_3_code 0 = .ok (.iconst (0), 1) := by decide +kernel
theorem dk_81_1 : decode prog_3_method_3_code 1 = .ok (.istore_n 1, 1) := by decide +kernel
theorem dk_81_2 : decode prog_3_method_3_code 2 = .ok (.iload_n 1, 1) := by decide +kernel
theorem dk_81_3 : decode prog_3_method_3_code 3 = .ok (.bipush (7), 2) := by decide +kernel
theorem dk_81_5 : decode prog_3_method_3_code 5 = .ok (.if_icmp .ge (20), 3) := by decide +kernel
theorem dk_81_8 : decode prog_3_method_3_code 8 = .ok (.aload_n 0, 1) := by decide +kernel
theorem dk_81_9 : decode prog_3_method_3_code 9 = .ok (.getfield 9, 3) := by decide +kernel
theorem dk_81_12 : decode prog_3_method_3_code 12 = .ok (.iload_n 1, 1) := by decide +kernel
theorem dk_81_13 : decode prog_3_method_3_code 13 = .ok (.baload, 1) := by decide +kernel
theorem dk_81_14 : decode prog_3_method_3_code 14 = .ok (.ifCond .ne (5), 3) := by decide +kernel
theorem dk_81_17 : decode prog_3_method_3_code 17 = .ok (.iload_n 1, 1) := by decide +kernel
theorem dk_81_18 : decode prog_3_method_3_code 18 = .ok (.ireturn, 1) := by decide +kernel
theorem dk_81_19 : decode prog_3_method_3_code 19 = .ok (.iinc 1 (1), 3) := by decide +kernel
theorem dk_81_22 : decode prog_3_method_3_code 22 = .ok (.goto (-20), 3) := by decide +kernel
theorem dk_81_25 : decode prog_3_method_3_code 25 = .ok (.iconst (-1), 1) := by decide +kernel
theorem dk_81_26 : decode prog_3_method_3_code 26 = .ok (.ireturn, 1) := by decide +kernel
set_option maxRecDepth 100000 in
set_option maxHeartbeats 4000000 in
theorem cc_81 {l : Launch} {s0 : State} (hst : l.stackTraces = false) (h0 : am_W0 s0) {d : Nat} (hall : ∀ mi ∈ am_idx, am_CC l s0 d mi) : am_CC l s0 (d + 1) 81 :=
  am_method (y := y_81) (cc := prog_3_method_3_code) (maxL := 2) (ret := (some .int)) (rm := am_rm (d + 1) 0 0) (ops := op_81) (C := am_T am_tabs am_ar d) (ar := 1) h0 (by decide) (by decide) fun p e s m args below meth c D A bS ad0 Q hct htab => by
    obtain ⟨hx, hb, hml, hown, hts, hb1, hb2, hA, hroot, hAs, -, -, hlocks, hr, hnm⟩ := hct
    exact List.forall_mem_cons.mpr ⟨ok_iconst hx hb dk_81_0 rfl,
    List.forall_mem_cons.mpr ⟨ok_istore_n hx hb dk_81_1 rfl (by decide),
    List.forall_mem_cons.mpr ⟨ok_iload_n hx hb dk_81_2 rfl,
    List.forall_mem_cons.mpr ⟨ok_bipush hx hb dk_81_3 (by decide),
    List.forall_mem_cons.mpr ⟨ok_icmp_ge hx hb dk_81_5 (by decide),
    List.forall_mem_cons.mpr ⟨ok_aload_n hx hb dk_81_8 rfl,
    List.forall_mem_cons.mpr ⟨ok_getr hx hb hts hown hin_1 rfl (by decide) tw_34 dk_81_9,
    List.forall_mem_cons.mpr ⟨ok_iload_n hx hb dk_81_12 rfl,
    List.forall_mem_cons.mpr ⟨ok_zald hx hb dk_81_13,
    List.forall_mem_cons.mpr ⟨ok_if_ne hx hb dk_81_14 (by decide),
    List.forall_mem_cons.mpr ⟨ok_iload_n hx hb dk_81_17 rfl,
    List.forall_mem_cons.mpr ⟨ok_iret hx hb hb1 hb2 hr hlocks dk_81_18,
    List.forall_mem_cons.mpr ⟨ok_iinc hx hb dk_81_19 rfl (by decide),
    List.forall_mem_cons.mpr ⟨ok_goto hx hb dk_81_22 (by decide),
    List.forall_mem_cons.mpr ⟨ok_iconst hx hb dk_81_25 rfl,
    List.forall_mem_cons.mpr ⟨ok_iret hx hb hb1 hb2 hr hlocks dk_81_26,
    fun _ h => absurd h List.not_mem_nil⟩⟩⟩⟩⟩⟩⟩⟩⟩⟩⟩⟩⟩⟩⟩⟩
theorem dk_82_0 : decode prog_3_method_4_code 0 = .ok (.iload_n 2, 1) := by decide +kernel
theorem dk_82_1 : decode prog_3_method_4_code 1 = .ok (.aload_n 0, 1) := by decide +kernel
theorem dk_82_2 : decode prog_3_method_4_code 2 = .ok (.getfield 19, 3) := by decide +kernel
theorem dk_82_5 : decode prog_3_method_4_code 5 = .ok (.iload_n 1, 1) := by decide +kernel
theorem dk_82_6 : decode prog_3_method_4_code 6 = .ok (.iaload, 1) := by decide +kernel
theorem dk_82_7 : decode prog_3_method_4_code 7 = .ok (.aload_n 0, 1) := by decide +kernel
theorem dk_82_8 : decode prog_3_method_4_code 8 = .ok (.getfield 25, 3) := by decide +kernel
theorem dk_82_11 : decode prog_3_method_4_code 11 = .ok (.iload_n 1, 1) := by decide +kernel
theorem dk_82_12 : decode prog_3_method_4_code 12 = .ok (.iaload, 1) := by decide +kernel
theorem dk_82_13 : decode prog_3_method_4_code 13 = .ok (.invokestatic 55, 3) := by decide +kernel
theorem dk_82_16 : decode prog_3_method_4_code 16 = .ok (.ireturn, 1) := by decide +kernel
set_option maxRecDepth 100000 in
set_option maxHeartbeats 4000000 in
theorem cc_82 {l : Launch} {s0 : State} (hst : l.stackTraces = false) (h0 : am_W0 s0) {d : Nat} (hall : ∀ mi ∈ am_idx, am_CC l s0 d mi) : am_CC l s0 (d + 1) 82 :=
  am_method (y := y_82) (cc := prog_3_method_4_code) (maxL := 3) (ret := (some .boolean)) (rm := am_rm (d + 1) 0 0) (ops := op_82) (C := am_T am_tabs am_ar d) (ar := 3) h0 (by decide) (by decide) fun p e s m args below meth c D A bS ad0 Q hct htab => by
    obtain ⟨hx, hb, hml, hown, hts, hb1, hb2, hA, hroot, hAs, -, -, hlocks, hr, hnm⟩ := hct
    exact List.forall_mem_cons.mpr ⟨ok_iload_n hx hb dk_82_0 rfl,
    List.forall_mem_cons.mpr ⟨ok_aload_n hx hb dk_82_1 rfl,
    List.forall_mem_cons.mpr ⟨ok_getr hx hb hts hown hin_1 rfl (by decide) tw_39 dk_82_2,
    List.forall_mem_cons.mpr ⟨ok_iload_n hx hb dk_82_5 rfl,
    List.forall_mem_cons.mpr ⟨ok_iald hx hb dk_82_6,
    List.forall_mem_cons.mpr ⟨ok_aload_n hx hb dk_82_7 rfl,
    List.forall_mem_cons.mpr ⟨ok_getr hx hb hts hown hin_1 rfl (by decide) tw_43 dk_82_8,
    List.forall_mem_cons.mpr ⟨ok_iload_n hx hb dk_82_11 rfl,
    List.forall_mem_cons.mpr ⟨ok_iald hx hb dk_82_12,
    List.forall_mem_cons.mpr ⟨ok_cN hx hb hml hown hts hb1 hb2 hA hroot hAs rfl rfl (hcal_27 hall) tw_231 tw_232 tw_233 tw_1 nm_27 rfl rfl (by show d + 8 + 1 ≤ d + 1 + 8; omega) (by show 8 + (3 + 11) + (200 + 60 * d) ≤ 200 + 60 * (d + 1); omega) dk_82_13,
    List.forall_mem_cons.mpr ⟨ok_zret hx hb hb1 hb2 hr hlocks dk_82_16,
    fun _ h => absurd h List.not_mem_nil⟩⟩⟩⟩⟩⟩⟩⟩⟩⟩⟩
theorem dk_83_0 : decode prog_3_method_5_code 0 = .ok (.aload_n 0, 1) := by decide +kernel
theorem dk_83_1 : decode prog_3_method_5_code 1 = .ok (.getfield 31, 3) := by decide +kernel
theorem dk_83_4 : decode prog_3_method_5_code 4 = .ok (.iload_n 1, 1) := by decide +kernel
theorem dk_83_5 : decode prog_3_method_5_code 5 = .ok (.iaload, 1) := by decide +kernel
theorem dk_83_6 : decode prog_3_method_5_code 6 = .ok (.iconst (-1), 1) := by decide +kernel
theorem dk_83_7 : decode prog_3_method_5_code 7 = .ok (.if_icmp .eq (7), 3) := by decide +kernel
theorem dk_83_10 : decode prog_3_method_5_code 10 = .ok (.iconst (1), 1) := by decide +kernel
theorem dk_83_11 : decode prog_3_method_5_code 11 = .ok (.goto (4), 3) := by decide +kernel
theorem dk_83_14 : decode prog_3_method_5_code 14 = .ok (.iconst (0), 1) := by decide +kernel
theorem dk_83_15 : decode prog_3_method_5_code 15 = .ok (.ireturn, 1) := by decide +kernel
set_option maxRecDepth 100000 in
set_option maxHeartbeats 4000000 in
theorem cc_83 {l : Launch} {s0 : State} (hst : l.stackTraces = false) (h0 : am_W0 s0) {d : Nat} (hall : ∀ mi ∈ am_idx, am_CC l s0 d mi) : am_CC l s0 (d + 1) 83 :=
  am_method (y := y_83) (cc := prog_3_method_5_code) (maxL := 2) (ret := (some .boolean)) (rm := am_rm (d + 1) 0 0) (ops := op_83) (C := am_T am_tabs am_ar d) (ar := 2) h0 (by decide) (by decide) fun p e s m args below meth c D A bS ad0 Q hct htab => by
    obtain ⟨hx, hb, hml, hown, hts, hb1, hb2, hA, hroot, hAs, -, -, hlocks, hr, hnm⟩ := hct
    exact List.forall_mem_cons.mpr ⟨ok_aload_n hx hb dk_83_0 rfl,
    List.forall_mem_cons.mpr ⟨ok_getr hx hb hts hown hin_1 rfl (by decide) tw_47 dk_83_1,
    List.forall_mem_cons.mpr ⟨ok_iload_n hx hb dk_83_4 rfl,
    List.forall_mem_cons.mpr ⟨ok_iald hx hb dk_83_5,
    List.forall_mem_cons.mpr ⟨ok_iconst hx hb dk_83_6 rfl,
    List.forall_mem_cons.mpr ⟨ok_icmp_eq hx hb dk_83_7 (by decide),
    List.forall_mem_cons.mpr ⟨ok_iconst hx hb dk_83_10 rfl,
    List.forall_mem_cons.mpr ⟨ok_goto hx hb dk_83_11 (by decide),
    List.forall_mem_cons.mpr ⟨ok_iconst hx hb dk_83_14 rfl,
    List.forall_mem_cons.mpr ⟨ok_zret hx hb hb1 hb2 hr hlocks dk_83_15,
    fun _ h => absurd h List.not_mem_nil⟩⟩⟩⟩⟩⟩⟩⟩⟩⟩
theorem dk_84_0 : decode prog_3_method_6_code 0 = .ok (.aload_n 0, 1) := by decide +kernel
theorem dk_84_1 : decode prog_3_method_6_code 1 = .ok (.getfield 36, 3) := by decide +kernel
theorem dk_84_4 : decode prog_3_method_6_code 4 = .ok (.aload_n 0, 1) := by decide +kernel
theorem dk_84_5 : decode prog_3_method_6_code 5 = .ok (.getfield 15, 3) := by decide +kernel
theorem dk_84_8 : decode prog_3_method_6_code 8 = .ok (.iload_n 1, 1) := by decide +kernel
theorem dk_84_9 : decode prog_3_method_6_code 9 = .ok (.iaload, 1) := by decide +kernel
theorem dk_84_10 : decode prog_3_method_6_code 10 = .ok (.aaload, 1) := by decide +kernel
theorem dk_84_11 : decode prog_3_method_6_code 11 = .ok (.aload_n 0, 1) := by decide +kernel
theorem dk_84_12 : decode prog_3_method_6_code 12 = .ok (.getfield 15, 3) := by decide +kernel
theorem dk_84_15 : decode prog_3_method_6_code 15 = .ok (.iload_n 2, 1) := by decide +kernel
theorem dk_84_16 : decode prog_3_method_6_code 16 = .ok (.iaload, 1) := by decide +kernel
theorem dk_84_17 : decode prog_3_method_6_code 17 = .ok (.iaload, 1) := by decide +kernel
theorem dk_84_18 : decode prog_3_method_6_code 18 = .ok (.ireturn, 1) := by decide +kernel
set_option maxRecDepth 100000 in
set_option maxHeartbeats 4000000 in
theorem cc_84 {l : Launch} {s0 : State} (hst : l.stackTraces = false) (h0 : am_W0 s0) {d : Nat} (hall : ∀ mi ∈ am_idx, am_CC l s0 d mi) : am_CC l s0 (d + 1) 84 :=
  am_method (y := y_84) (cc := prog_3_method_6_code) (maxL := 3) (ret := (some .int)) (rm := am_rm (d + 1) 0 0) (ops := op_84) (C := am_T am_tabs am_ar d) (ar := 3) h0 (by decide) (by decide) fun p e s m args below meth c D A bS ad0 Q hct htab => by
    obtain ⟨hx, hb, hml, hown, hts, hb1, hb2, hA, hroot, hAs, -, -, hlocks, hr, hnm⟩ := hct
    exact List.forall_mem_cons.mpr ⟨ok_aload_n hx hb dk_84_0 rfl,
    List.forall_mem_cons.mpr ⟨ok_getr hx hb hts hown hin_1 rfl (by decide) tw_51 dk_84_1,
    List.forall_mem_cons.mpr ⟨ok_aload_n hx hb dk_84_4 rfl,
    List.forall_mem_cons.mpr ⟨ok_getr hx hb hts hown hin_1 rfl (by decide) tw_37 dk_84_5,
    List.forall_mem_cons.mpr ⟨ok_iload_n hx hb dk_84_8 rfl,
    List.forall_mem_cons.mpr ⟨ok_iald hx hb dk_84_9,
    List.forall_mem_cons.mpr ⟨ok_aald hx hb dk_84_10,
    List.forall_mem_cons.mpr ⟨ok_aload_n hx hb dk_84_11 rfl,
    List.forall_mem_cons.mpr ⟨ok_getr hx hb hts hown hin_1 rfl (by decide) tw_37 dk_84_12,
    List.forall_mem_cons.mpr ⟨ok_iload_n hx hb dk_84_15 rfl,
    List.forall_mem_cons.mpr ⟨ok_iald hx hb dk_84_16,
    List.forall_mem_cons.mpr ⟨ok_iald hx hb dk_84_17,
    List.forall_mem_cons.mpr ⟨ok_iret hx hb hb1 hb2 hr hlocks dk_84_18,
    fun _ h => absurd h List.not_mem_nil⟩⟩⟩⟩⟩⟩⟩⟩⟩⟩⟩⟩⟩
theorem dk_85_0 : decode prog_3_method_7_code 0 = .ok (.aload_n 0, 1) := by decide +kernel
theorem dk_85_1 : decode prog_3_method_7_code 1 = .ok (.getfield 28, 3) := by decide +kernel
theorem dk_85_4 : decode prog_3_method_7_code 4 = .ok (.iload_n 1, 1) := by decide +kernel
theorem dk_85_5 : decode prog_3_method_7_code 5 = .ok (.iaload, 1) := by decide +kernel
theorem dk_85_6 : decode prog_3_method_7_code 6 = .ok (.iconst (0), 1) := by decide +kernel
theorem dk_85_7 : decode prog_3_method_7_code 7 = .ok (.iload_n 2, 1) := by decide +kernel
theorem dk_85_8 : decode prog_3_method_7_code 8 = .ok (.aload_n 0, 1) := by decide +kernel
theorem dk_85_9 : decode prog_3_method_7_code 9 = .ok (.getfield 22, 3) := by decide +kernel
theorem dk_85_12 : decode prog_3_method_7_code 12 = .ok (.iload_n 1, 1) := by decide +kernel
theorem dk_85_13 : decode prog_3_method_7_code 13 = .ok (.iaload, 1) := by decide +kernel
theorem dk_85_14 : decode prog_3_method_7_code 14 = .ok (.isub, 1) := by decide +kernel
theorem dk_85_15 : decode prog_3_method_7_code 15 = .ok (.invokestatic 59, 3) := by decide +kernel
theorem dk_85_18 : decode prog_3_method_7_code 18 = .ok (.imul, 1) := by decide +kernel
theorem dk_85_19 : decode prog_3_method_7_code 19 = .ok (.ireturn, 1) := by decide +kernel
set_option maxRecDepth 100000 in
set_option maxHeartbeats 4000000 in
theorem cc_85 {l : Launch} {s0 : State} (hst : l.stackTraces = false) (h0 : am_W0 s0) {d : Nat} (hall : ∀ mi ∈ am_idx, am_CC l s0 d mi) : am_CC l s0 (d + 1) 85 :=
  am_method (y := y_85) (cc := prog_3_method_7_code) (maxL := 3) (ret := (some .int)) (rm := am_rm (d + 1) 0 0) (ops := op_85) (C := am_T am_tabs am_ar d) (ar := 3) h0 (by decide) (by decide) fun p e s m args below meth c D A bS ad0 Q hct htab => by
    obtain ⟨hx, hb, hml, hown, hts, hb1, hb2, hA, hroot, hAs, -, -, hlocks, hr, hnm⟩ := hct
    exact List.forall_mem_cons.mpr ⟨ok_aload_n hx hb dk_85_0 rfl,
    List.forall_mem_cons.mpr ⟨ok_getr hx hb hts hown hin_1 rfl (by decide) tw_45 dk_85_1,
    List.forall_mem_cons.mpr ⟨ok_iload_n hx hb dk_85_4 rfl,
    List.forall_mem_cons.mpr ⟨ok_iald hx hb dk_85_5,
    List.forall_mem_cons.mpr ⟨ok_iconst hx hb dk_85_6 rfl,
    List.forall_mem_cons.mpr ⟨ok_iload_n hx hb dk_85_7 rfl,
    List.forall_mem_cons.mpr ⟨ok_aload_n hx hb dk_85_8 rfl,
    List.forall_mem_cons.mpr ⟨ok_getr hx hb hts hown hin_1 rfl (by decide) tw_41 dk_85_9,
    List.forall_mem_cons.mpr ⟨ok_iload_n hx hb dk_85_12 rfl,
    List.forall_mem_cons.mpr ⟨ok_iald hx hb dk_85_13,
    List.forall_mem_cons.mpr ⟨ok_isub hx hb dk_85_14,
    List.forall_mem_cons.mpr ⟨ok_max hx hb hts hown hml rfl rfl tw_169 tw_170 tw_12 tw_171 rfl (by show 1 ≤ d + 1 + 8; omega) (by show 21 ≤ 200 + 60 * (d + 1); omega) dk_85_15,
    List.forall_mem_cons.mpr ⟨ok_imul hx hb dk_85_18,
    List.forall_mem_cons.mpr ⟨ok_iret hx hb hb1 hb2 hr hlocks dk_85_19,
    fun _ h => absurd h List.not_mem_nil⟩⟩⟩⟩⟩⟩⟩⟩⟩⟩⟩⟩⟩⟩
theorem dk_86_0 : decode prog_3_method_8_code 0 = .ok (.iconst (0), 1) := by decide +kernel
theorem dk_86_1 : decode prog_3_method_8_code 1 = .ok (.istore_n 2, 1) := by decide +kernel
theorem dk_86_2 : decode prog_3_method_8_code 2 = .ok (.iconst (0), 1) := by decide +kernel
theorem dk_86_3 : decode prog_3_method_8_code 3 = .ok (.istore_n 3, 1) := by decide +kernel
theorem dk_86_4 : decode prog_3_method_8_code 4 = .ok (.iload_n 3, 1) := by decide +kernel
theorem dk_86_5 : decode prog_3_method_8_code 5 = .ok (.bipush (7), 2) := by decide +kernel
theorem dk_86_7 : decode prog_3_method_8_code 7 = .ok (.if_icmp .ge (33), 3) := by decide +kernel
theorem dk_86_10 : decode prog_3_method_8_code 10 = .ok (.aload_n 0, 1) := by decide +kernel
theorem dk_86_11 : decode prog_3_method_8_code 11 = .ok (.getfield 9, 3) := by decide +kernel
theorem dk_86_14 : decode prog_3_method_8_code 14 = .ok (.iload_n 3, 1) := by decide +kernel
theorem dk_86_15 : decode prog_3_method_8_code 15 = .ok (.baload, 1) := by decide +kernel
theorem dk_86_16 : decode prog_3_method_8_code 16 = .ok (.ifCond .eq (18), 3) := by decide +kernel
theorem dk_86_19 : decode prog_3_method_8_code 19 = .ok (.aload_n 0, 1) := by decide +kernel
theorem dk_86_20 : decode prog_3_method_8_code 20 = .ok (.getfield 22, 3) := by decide +kernel
theorem dk_86_23 : decode prog_3_method_8_code 23 = .ok (.iload_n 3, 1) := by decide +kernel
theorem dk_86_24 : decode prog_3_method_8_code 24 = .ok (.iload_n 1, 1) := by decide +kernel
theorem dk_86_25 : decode prog_3_method_8_code 25 = .ok (.invokestatic 65, 3) := by decide +kernel
theorem dk_86_28 : decode prog_3_method_8_code 28 = .ok (.ifCond .eq (6), 3) := by decide +kernel
theorem dk_86_31 : decode prog_3_method_8_code 31 = .ok (.iinc 2 (1), 3) := by decide +kernel
theorem dk_86_34 : decode prog_3_method_8_code 34 = .ok (.iinc 3 (1), 3) := by decide +kernel
theorem dk_86_37 : decode prog_3_method_8_code 37 = .ok (.goto (-33), 3) := by decide +kernel
theorem dk_86_40 : decode prog_3_method_8_code 40 = .ok (.iload_n 2, 1) := by decide +kernel
theorem dk_86_41 : decode prog_3_method_8_code 41 = .ok (.ireturn, 1) := by decide +kernel
set_option maxRecDepth 100000 in
set_option maxHeartbeats 4000000 in
theorem cc_86 {l : Launch} {s0 : State} (hst : l.stackTraces = false) (h0 : am_W0 s0) {d : Nat} (hall : ∀ mi ∈ am_idx, am_CC l s0 d mi) : am_CC l s0 (d + 1) 86 :=
  am_method (y := y_86) (cc := prog_3_method_8_code) (maxL := 4) (ret := (some .int)) (rm := am_rm (d + 1) 0 0) (ops := op_86) (C := am_T am_tabs am_ar d) (ar := 2) h0 (by decide) (by decide) fun p e s m args below meth c D A bS ad0 Q hct htab => by
    obtain ⟨hx, hb, hml, hown, hts, hb1, hb2, hA, hroot, hAs, -, -, hlocks, hr, hnm⟩ := hct
    exact List.forall_mem_cons.mpr ⟨ok_iconst hx hb dk_86_0 rfl,
    List.forall_mem_cons.mpr ⟨ok_istore_n hx hb dk_86_1 rfl (by decide),
    List.forall_mem_cons.mpr ⟨ok_iconst hx hb dk_86_2 rfl,
    List.forall_mem_cons.mpr ⟨ok_istore_n hx hb dk_86_3 rfl (by decide),
    List.forall_mem_cons.mpr ⟨ok_iload_n hx hb dk_86_4 rfl,
    List.forall_mem_cons.mpr ⟨ok_bipush hx hb dk_86_5 (by decide),
    List.forall_mem_cons.mpr ⟨ok_icmp_ge hx hb dk_86_7 (by decide),
    List.forall_mem_cons.mpr ⟨ok_aload_n hx hb dk_86_10 rfl,
    List.forall_mem_cons.mpr ⟨ok_getr hx hb hts hown hin_1 rfl (by decide) tw_34 dk_86_11,
    List.forall_mem_cons.mpr ⟨ok_iload_n hx hb dk_86_14 rfl,
    List.forall_mem_cons.mpr ⟨ok_zald hx hb dk_86_15,
    List.forall_mem_cons.mpr ⟨ok_if_eq hx hb dk_86_16 (by decide),
    List.forall_mem_cons.mpr ⟨ok_aload_n hx hb dk_86_19 rfl,
    List.forall_mem_cons.mpr ⟨ok_getr hx hb hts hown hin_1 rfl (by decide) tw_41 dk_86_20,
    List.forall_mem_cons.mpr ⟨ok_iload_n hx hb dk_86_23 rfl,
    List.forall_mem_cons.mpr ⟨ok_iload_n hx hb dk_86_24 rfl,
    List.forall_mem_cons.mpr ⟨ok_cN hx hb hml hown hts hb1 hb2 hA hroot hAs rfl rfl (hcal_29 hall) tw_150 tw_151 tw_152 tw_1 nm_29 rfl rfl (by show d + 8 + 1 ≤ d + 1 + 8; omega) (by show 8 + (3 + 11) + (200 + 60 * d) ≤ 200 + 60 * (d + 1); omega) dk_86_25,
    List.forall_mem_cons.mpr ⟨ok_if_eq hx hb dk_86_28 (by decide),
    List.forall_mem_cons.mpr ⟨ok_iinc hx hb dk_86_31 rfl (by decide),
    List.forall_mem_cons.mpr ⟨ok_iinc hx hb dk_86_34 rfl (by decide),
    List.forall_mem_cons.mpr ⟨ok_goto hx hb dk_86_37 (by decide),
    List.forall_mem_cons.mpr ⟨ok_iload_n hx hb dk_86_40 rfl,
    List.forall_mem_cons.mpr ⟨ok_iret hx hb hb1 hb2 hr hlocks dk_86_41,
    fun _ h => absurd h List.not_mem_nil⟩⟩⟩⟩⟩⟩⟩⟩⟩⟩⟩⟩⟩⟩⟩⟩⟩⟩⟩⟩⟩⟩⟩
theorem dk_87_0 : decode prog_3_method_9_code 0 = .ok (.aload_n 0, 1) := by decide +kernel
theorem dk_87_1 : decode prog_3_method_9_code 1 = .ok (.iload_n 1, 1) := by decide +kernel
theorem dk_87_2 : decode prog_3_method_9_code 2 = .ok (.invokevirtual 69, 3) := by decide +kernel
theorem dk_87_5 : decode prog_3_method_9_code 5 = .ok (.ifCond .ne (16), 3) := by decide +kernel
theorem dk_87_8 : decode prog_3_method_9_code 8 = .ok (.iload_n 2, 1) := by decide +kernel
theorem dk_87_9 : decode prog_3_method_9_code 9 = .ok (.iload_n 3, 1) := by decide +kernel
theorem dk_87_10 : decode prog_3_method_9_code 10 = .ok (.isub, 1) := by decide +kernel
theorem dk_87_11 : decode prog_3_method_9_code 11 = .ok (.invokestatic 73, 3) := by decide +kernel
theorem dk_87_14 : decode prog_3_method_9_code 14 = .ok (.aload_n 0, 1) := by decide +kernel
theorem dk_87_15 : decode prog_3_method_9_code 15 = .ok (.getfield 45, 3) := by decide +kernel
theorem dk_87_18 : decode prog_3_method_9_code 18 = .ok (.if_icmp .gt (7), 3) := by decide +kernel
theorem dk_87_21 : decode prog_3_method_9_code 21 = .ok (.iconst (1), 1) := by decide +kernel
theorem dk_87_22 : decode prog_3_method_9_code 22 = .ok (.goto (4), 3) := by decide +kernel
theorem dk_87_25 : decode prog_3_method_9_code 25 = .ok (.iconst (0), 1) := by decide +kernel
theorem dk_87_26 : decode prog_3_method_9_code 26 = .ok (.ireturn, 1) := by decide +kernel
set_option maxRecDepth 100000 in
set_option maxHeartbeats 4000000 in
theorem cc_87 {l : Launch} {s0 : State} (hst : l.stackTraces = false) (h0 : am_W0 s0) {d : Nat} (hall : ∀ mi ∈ am_idx, am_CC l s0 d mi) : am_CC l s0 (d + 1) 87 :=
  am_method (y := y_87) (cc := prog_3_method_9_code) (maxL := 4) (ret := (some .boolean)) (rm := am_rm (d + 1) 0 0) (ops := op_87) (C := am_T am_tabs am_ar d) (ar := 4) h0 (by decide) (by decide) fun p e s m args below meth c D A bS ad0 Q hct htab => by
    obtain ⟨hx, hb, hml, hown, hts, hb1, hb2, hA, hroot, hAs, -, -, hlocks, hr, hnm⟩ := hct
    exact List.forall_mem_cons.mpr ⟨ok_aload_n hx hb dk_87_0 rfl,
    List.forall_mem_cons.mpr ⟨ok_iload_n hx hb dk_87_1 rfl,
    List.forall_mem_cons.mpr ⟨ok_cV hx hb hml hown hts hb1 hb2 hA hroot hAs rfl rfl rfl (hcal_83 hall) tw_157 tw_158 tw_159 tw_160 tw_2 nm_83 rfl rfl (by show d + 8 + 1 ≤ d + 1 + 8; omega) (by show 8 + (2 + 11) + (200 + 60 * d) ≤ 200 + 60 * (d + 1); omega) dk_87_2,
    List.forall_mem_cons.mpr ⟨ok_if_ne hx hb dk_87_5 (by decide),
    List.forall_mem_cons.mpr ⟨ok_iload_n hx hb dk_87_8 rfl,
    List.forall_mem_cons.mpr ⟨ok_iload_n hx hb dk_87_9 rfl,
    List.forall_mem_cons.mpr ⟨ok_isub hx hb dk_87_10,
    List.forall_mem_cons.mpr ⟨ok_abs hx hb hts hown hml rfl rfl tw_195 tw_196 tw_12 tw_197 rfl (by show 1 ≤ d + 1 + 8; omega) (by show 21 ≤ 200 + 60 * (d + 1); omega) dk_87_11,
    List.forall_mem_cons.mpr ⟨ok_aload_n hx hb dk_87_14 rfl,
    List.forall_mem_cons.mpr ⟨ok_geti hx hb hts hown hin_1 rfl (by decide) tw_59 dk_87_15,
    List.forall_mem_cons.mpr ⟨ok_icmp_gt hx hb dk_87_18 (by decide),
    List.forall_mem_cons.mpr ⟨ok_iconst hx hb dk_87_21 rfl,
    List.forall_mem_cons.mpr ⟨ok_goto hx hb dk_87_22 (by decide),
    List.forall_mem_cons.mpr ⟨ok_iconst hx hb dk_87_25 rfl,
    List.forall_mem_cons.mpr ⟨ok_zret hx hb hb1 hb2 hr hlocks dk_87_26,
    fun _ h => absurd h List.not_mem_nil⟩⟩⟩⟩⟩⟩⟩⟩⟩⟩⟩⟩⟩⟩⟩
theorem dk_88_0 : decode prog_3_method_10_code 0 = .ok (.aload_n 0, 1) := by decide +kernel
theorem dk_88_1 : decode prog_3_method_10_code 1 = .ok (.iload_n 1, 1) := by decide +kernel
theorem dk_88_2 : decode prog_3_method_10_code 2 = .ok (.invokevirtual 77, 3) := by decide +kernel
theorem dk_88_5 : decode prog_3_method_10_code 5 = .ok (.iconst (-1), 1) := by decide +kernel
theorem dk_88_6 : decode prog_3_method_10_code 6 = .ok (.if_icmp .eq (7), 3) := by decide +kernel
theorem dk_88_9 : decode prog_3_method_10_code 9 = .ok (.iconst (1), 1) := by decide +kernel
theorem dk_88_10 : decode prog_3_method_10_code 10 = .ok (.goto (4), 3) := by decide +kernel
theorem dk_88_13 : decode prog_3_method_10_code 13 = .ok (.iconst (0), 1) := by decide +kernel
theorem dk_88_14 : decode prog_3_method_10_code 14 = .ok (.ireturn, 1) := by decide +kernel
set_option maxRecDepth 100000 in
set_option maxHeartbeats 4000000 in
theorem cc_88 {l : Launch} {s0 : State} (hst : l.stackTraces = false) (h0 : am_W0 s0) {d : Nat} (hall : ∀ mi ∈ am_idx, am_CC l s0 d mi) : am_CC l s0 (d + 1) 88 :=
  am_method (y := y_88) (cc := prog_3_method_10_code) (maxL := 2) (ret := (some .boolean)) (rm := am_rm (d + 1) 0 0) (ops := op_88) (C := am_T am_tabs am_ar d) (ar := 2) h0 (by decide) (by decide) fun p e s m args below meth c D A bS ad0 Q hct htab => by
    obtain ⟨hx, hb, hml, hown, hts, hb1, hb2, hA, hroot, hAs, -, -, hlocks, hr, hnm⟩ := hct
    exact List.forall_mem_cons.mpr ⟨ok_aload_n hx hb dk_88_0 rfl,
    List.forall_mem_cons.mpr ⟨ok_iload_n hx hb dk_88_1 rfl,
    List.forall_mem_cons.mpr ⟨ok_cV hx hb hml hown hts hb1 hb2 hA hroot hAs rfl rfl rfl (hcal_89 hall) tw_165 tw_167 ts_1 tw_168 tw_2 nm_89 rfl rfl (by show d + 8 + 1 ≤ d + 1 + 8; omega) (by show 8 + (3 + 11) + (200 + 60 * d) ≤ 200 + 60 * (d + 1); omega) dk_88_2,
    List.forall_mem_cons.mpr ⟨ok_iconst hx hb dk_88_5 rfl,
    List.forall_mem_cons.mpr ⟨ok_icmp_eq hx hb dk_88_6 (by decide),
    List.forall_mem_cons.mpr ⟨ok_iconst hx hb dk_88_9 rfl,
    List.forall_mem_cons.mpr ⟨ok_goto hx hb dk_88_10 (by decide),
    List.forall_mem_cons.mpr ⟨ok_iconst hx hb dk_88_13 rfl,
    List.forall_mem_cons.mpr ⟨ok_zret hx hb hb1 hb2 hr hlocks dk_88_14,
    fun _ h => absurd h List.not_mem_nil⟩⟩⟩⟩⟩⟩⟩⟩⟩
theorem dk_89_0 : decode prog_3_method_11_code 0 = .ok (.iconst (0), 1) := by decide +kernel
theorem dk_89_1 : decode prog_3_method_11_code 1 = .ok (.istore_n 2, 1) := by decide +kernel
theorem dk_89_2 : decode prog_3_method_11_code 2 = .ok (.iload_n 2, 1) := by decide +kernel
theorem dk_89_3 : decode prog_3_method_11_code 3 = .ok (.aload_n 0, 1) := by decide +kernel
theorem dk_89_4 : decode prog_3_method_11_code 4 = .ok (.getfield 80, 3) := by decide +kernel
theorem dk_89_7 : decode prog_3_method_11_code 7 = .ok (.if_icmp .ge (31), 3) := by decide +kernel
theorem dk_89_10 : decode prog_3_method_11_code 10 = .ok (.aload_n 0, 1) := by decide +kernel
theorem dk_89_11 : decode prog_3_method_11_code 11 = .ok (.getfield 39, 3) := by decide +kernel
theorem dk_89_14 : decode prog_3_method_11_code 14 = .ok (.iload_n 2, 1) := by decide +kernel
theorem dk_89_15 : decode prog_3_method_11_code 15 = .ok (.iaload, 1) := by decide +kernel
theorem dk_89_16 : decode prog_3_method_11_code 16 = .ok (.iload_n 1, 1) := by decide +kernel
theorem dk_89_17 : decode prog_3_method_11_code 17 = .ok (.if_icmp .gt (15), 3) := by decide +kernel
theorem dk_89_20 : decode prog_3_method_11_code 20 = .ok (.iload_n 1, 1) := by decide +kernel
theorem dk_89_21 : decode prog_3_method_11_code 21 = .ok (.aload_n 0, 1) := by decide +kernel
theorem dk_89_22 : decode prog_3_method_11_code 22 = .ok (.getfield 42, 3) := by decide +kernel
theorem dk_89_25 : decode prog_3_method_11_code 25 = .ok (.iload_n 2, 1) := by decide +kernel
theorem dk_89_26 : decode prog_3_method_11_code 26 = .ok (.iaload, 1) := by decide +kernel
theorem dk_89_27 : decode prog_3_method_11_code 27 = .ok (.if_icmp .gt (5), 3) := by decide +kernel
theorem dk_89_30 : decode prog_3_method_11_code 30 = .ok (.iload_n 2, 1) := by decide +kernel
theorem dk_89_31 : decode prog_3_method_11_code 31 = .ok (.ireturn, 1) := by decide +kernel
theorem dk_89_32 : decode prog_3_method_11_code 32 = .ok (.iinc 2 (1), 3) := by decide +kernel
theorem dk_89_35 : decode prog_3_method_11_code 35 = .ok (.goto (-33), 3) := by decide +kernel
theorem dk_89_38 : decode prog_3_method_11_code 38 = .ok (.iconst (-1), 1) := by decide +kernel
theorem dk_89_39 : decode prog_3_method_11_code 39 = .ok (.ireturn, 1) := by decide +kernel
set_option maxRecDepth 100000 in
set_option maxHeartbeats 4000000 in
theorem cc_89 {l : Launch} {s0 : State} (hst : l.stackTraces = false) (h0 : am_W0 s0) {d : Nat} (hall : ∀ mi ∈ am_idx, am_CC l s0 d mi) : am_CC l s0 (d + 1) 89 :=
  am_method (y := y_89) (cc := prog_3_method_11_code) (maxL := 3) (ret := (some .int)) (rm := am_rm (d + 1) 0 0) (ops := op_89) (C := am_T am_tabs am_ar d) (ar := 2) h0 (by decide) (by decide) fun p e s m args below meth c D A bS ad0 Q hct htab => by
    obtain ⟨hx, hb, hml, hown, hts, hb1, hb2, hA, hroot, hAs, -, -, hlocks, hr, hnm⟩ := hct
    exact List.forall_mem_cons.mpr ⟨ok_iconst hx hb dk_89_0 rfl,
    List.forall_mem_cons.mpr ⟨ok_istore_n hx hb dk_89_1 rfl (by decide),
    List.forall_mem_cons.mpr ⟨ok_iload_n hx hb dk_89_2 rfl,
    List.forall_mem_cons.mpr ⟨ok_aload_n hx hb dk_89_3 rfl,
    List.forall_mem_cons.mpr ⟨ok_geti hx hb hts hown hin_1 rfl (by decide) tw_58 dk_89_4,
    List.forall_mem_cons.mpr ⟨ok_icmp_ge hx hb dk_89_7 (by decide),
    List.forall_mem_cons.mpr ⟨ok_aload_n hx hb dk_89_10 rfl,
    List.forall_mem_cons.mpr ⟨ok_getr hx hb hts hown hin_1 rfl (by decide) tw_53 dk_89_11,
    List.forall_mem_cons.mpr ⟨ok_iload_n hx hb dk_89_14 rfl,
    List.forall_mem_cons.mpr ⟨ok_iald hx hb dk_89_15,
    List.forall_mem_cons.mpr ⟨ok_iload_n hx hb dk_89_16 rfl,
    List.forall_mem_cons.mpr ⟨ok_icmp_gt hx hb dk_89_17 (by decide),
    List.forall_mem_cons.mpr ⟨ok_iload_n hx hb dk_89_20 rfl,
    List.forall_mem_cons.mpr ⟨ok_aload_n hx hb dk_89_21 rfl,
    List.forall_mem_cons.mpr ⟨ok_getr hx hb hts hown hin_1 rfl (by decide) tw_55 dk_89_22,
    List.forall_mem_cons.mpr ⟨ok_iload_n hx hb dk_89_25 rfl,
    List.forall_mem_cons.mpr ⟨ok_iald hx hb dk_89_26,
    List.forall_mem_cons.mpr ⟨ok_icmp_gt hx hb dk_89_27 (by decide),
    List.forall_mem_cons.mpr ⟨ok_iload_n hx hb dk_89_30 rfl,
    List.forall_mem_cons.mpr ⟨ok_iret hx hb hb1 hb2 hr hlocks dk_89_31,
    List.forall_mem_cons.mpr ⟨ok_iinc hx hb dk_89_32 rfl (by decide),
    List.forall_mem_cons.mpr ⟨ok_goto hx hb dk_89_35 (by decide),
    List.forall_mem_cons.mpr ⟨ok_iconst hx hb dk_89_38 rfl,
    List.forall_mem_cons.mpr ⟨ok_iret hx hb hb1 hb2 hr hlocks dk_89_39,
    fun _ h => absurd h List.not_mem_nil⟩⟩⟩⟩⟩⟩⟩⟩⟩⟩⟩⟩⟩⟩⟩⟩⟩⟩⟩⟩⟩⟩⟩⟩
theorem dk_90_0 : decode prog_3_method_12_code 0 = .ok (.iload_n 1, 1) := by decide +kernel
theorem dk_90_1 : decode prog_3_method_12_code 1 = .ok (.istore_n 2, 1) := by decide +kernel
theorem dk_90_2 : decode prog_3_method_12_code 2 = .ok (.aload_n 0, 1) := by decide +kernel
theorem dk_90_3 : decode prog_3_method_12_code 3 = .ok (.iload_n 2, 1) := by decide +kernel
theorem dk_90_4 : decode prog_3_method_12_code 4 = .ok (.invokevirtual 77, 3) := by decide +kernel
theorem dk_90_7 : decode prog_3_method_12_code 7 = .ok (.istore_n 3, 1) := by decide +kernel
theorem dk_90_8 : decode prog_3_method_12_code 8 = .ok (.iconst (0), 1) := by decide +kernel
theorem dk_90_9 : decode prog_3_method_12_code 9 = .ok (.istore 4, 2) := by decide +kernel
theorem dk_90_11 : decode prog_3_method_12_code 11 = .ok (.iload 4, 2) := by decide +kernel
theorem dk_90_13 : decode prog_3_method_12_code 13 = .ok (.aload_n 0, 1) := by decide +kernel
theorem dk_90_14 : decode prog_3_method_12_code 14 = .ok (.getfield 80, 3) := by decide +kernel
theorem dk_90_17 : decode prog_3_method_12_code 17 = .ok (.if_icmp .ge (29), 3) := by decide +kernel
theorem dk_90_20 : decode prog_3_method_12_code 20 = .ok (.iload_n 3, 1) := by decide +kernel
theorem dk_90_21 : decode prog_3_method_12_code 21 = .ok (.iconst (-1), 1) := by decide +kernel
theorem dk_90_22 : decode prog_3_method_12_code 22 = .ok (.if_icmp .eq (24), 3) := by decide +kernel
theorem dk_90_25 : decode prog_3_method_12_code 25 = .ok (.aload_n 0, 1) := by decide +kernel
theorem dk_90_26 : decode prog_3_method_12_code 26 = .ok (.getfield 42, 3) := by decide +kernel
theorem dk_90_29 : decode prog_3_method_12_code 29 = .ok (.iload_n 3, 1) := by decide +kernel
theorem dk_90_30 : decode prog_3_method_12_code 30 = .ok (.iaload, 1) := by decide +kernel
theorem dk_90_31 : decode prog_3_method_12_code 31 = .ok (.iconst (1), 1) := by decide +kernel
theorem dk_90_32 : decode prog_3_method_12_code 32 = .ok (.iadd, 1) := by decide +kernel
theorem dk_90_33 : decode prog_3_method_12_code 33 = .ok (.istore_n 2, 1) := by decide +kernel
theorem dk_90_34 : decode prog_3_method_12_code 34 = .ok (.aload_n 0, 1) := by decide +kernel
theorem dk_90_35 : decode prog_3_method_12_code 35 = .ok (.iload_n 2, 1) := by decide +kernel
theorem dk_90_36 : decode prog_3_method_12_code 36 = .ok (.invokevirtual 77, 3) := by decide +kernel
theorem dk_90_39 : decode prog_3_method_12_code 39 = .ok (.istore_n 3, 1) := by decide +kernel
theorem dk_90_40 : decode prog_3_method_12_code 40 = .ok (.iinc 4 (1), 3) := by decide +kernel
theorem dk_90_43 : decode prog_3_method_12_code 43 = .ok (.goto (-32), 3) := by decide +kernel
theorem dk_90_46 : decode prog_3_method_12_code 46 = .ok (.iload_n 2, 1) := by decide +kernel
theorem dk_90_47 : decode prog_3_method_12_code 47 = .ok (.ireturn, 1) := by decide +kernel
set_option maxRecDepth 100000 in
set_option maxHeartbeats 4000000 in
theorem cc_90 {l : Launch} {s0 : State} (hst : l.stackTraces = false) (h0 : am_W0 s0) {d : Nat} (hall : ∀ mi ∈ am_idx, am_CC l s0 d mi) : am_CC l s0 (d + 1) 90 :=
  am_method (y := y_90) (cc := prog_3_method_12_code) (maxL := 5) (ret := (some .int)) (rm := am_rm (d + 1) 0 0) (ops := op_90) (C := am_T am_tabs am_ar d) (ar := 2) h0 (by decide) (by decide) fun p e s m args below meth c D A bS ad0 Q hct htab => by
    obtain ⟨hx, hb, hml, hown, hts, hb1, hb2, hA, hroot, hAs, -, -, hlocks, hr, hnm⟩ := hct
    exact List.forall_mem_cons.mpr ⟨ok_iload_n hx hb dk_90_0 rfl,
    List.forall_mem_cons.mpr ⟨ok_istore_n hx hb dk_90_1 rfl (by decide),
    List.forall_mem_cons.mpr ⟨ok_aload_n hx hb dk_90_2 rfl,
    List.forall_mem_cons.mpr ⟨ok_iload_n hx hb dk_90_3 rfl,
    List.forall_mem_cons.mpr ⟨ok_cV hx hb hml hown hts hb1 hb2 hA hroot hAs rfl rfl rfl (hcal_89 hall) tw_165 tw_167 ts_1 tw_168 tw_2 nm_89 rfl rfl (by show d + 8 + 1 ≤ d + 1 + 8; omega) (by show 8 + (3 + 11) + (200 + 60 * d) ≤ 200 + 60 * (d + 1); omega) dk_90_4,
    List.forall_mem_cons.mpr ⟨ok_istore_n hx hb dk_90_7 rfl (by decide),
    List.forall_mem_cons.mpr ⟨ok_iconst hx hb dk_90_8 rfl,
    List.forall_mem_cons.mpr ⟨ok_istore hx hb dk_90_9 (by decide),
    List.forall_mem_cons.mpr ⟨ok_iload hx hb dk_90_11,
    List.forall_mem_cons.mpr ⟨ok_aload_n hx hb dk_90_13 rfl,
    List.forall_mem_cons.mpr ⟨ok_geti hx hb hts hown hin_1 rfl (by decide) tw_58 dk_90_14,
    List.forall_mem_cons.mpr ⟨ok_icmp_ge hx hb dk_90_17 (by decide),
    List.forall_mem_cons.mpr ⟨ok_iload_n hx hb dk_90_20 rfl,
    List.forall_mem_cons.mpr ⟨ok_iconst hx hb dk_90_21 rfl,
    List.forall_mem_cons.mpr ⟨ok_icmp_eq hx hb dk_90_22 (by decide),
    List.forall_mem_cons.mpr ⟨ok_aload_n hx hb dk_90_25 rfl,
    List.forall_mem_cons.mpr ⟨ok_getr hx hb hts hown hin_1 rfl (by decide) tw_55 dk_90_26,
    List.forall_mem_cons.mpr ⟨ok_iload_n hx hb dk_90_29 rfl,
    List.forall_mem_cons.mpr ⟨ok_iald hx hb dk_90_30,
    List.forall_mem_cons.mpr ⟨ok_iconst hx hb dk_90_31 rfl,
    List.forall_mem_cons.mpr ⟨ok_iadd hx hb dk_90_32,
    List.forall_mem_cons.mpr ⟨ok_istore_n hx hb dk_90_33 rfl (by decide),
    List.forall_mem_cons.mpr ⟨ok_aload_n hx hb dk_90_34 rfl,
    List.forall_mem_cons.mpr ⟨ok_iload_n hx hb dk_90_35 rfl,
    List.forall_mem_cons.mpr ⟨ok_cV hx hb hml hown hts hb1 hb2 hA hroot hAs rfl rfl rfl (hcal_89 hall) tw_165 tw_167 ts_1 tw_168 tw_2 nm_89 rfl rfl (by show d + 8 + 1 ≤ d + 1 + 8; omega) (by show 8 + (3 + 11) + (200 + 60 * d) ≤ 200 + 60 * (d + 1); omega) dk_90_36,
    List.forall_mem_cons.mpr ⟨ok_istore_n hx hb dk_90_39 rfl (by decide),
    List.forall_mem_cons.mpr ⟨ok_iinc hx hb dk_90_40 rfl (by decide),
    List.forall_mem_cons.mpr ⟨ok_goto hx hb dk_90_43 (by decide),
    List.forall_mem_cons.mpr ⟨ok_iload_n hx hb dk_90_46 rfl,
    List.forall_mem_cons.mpr ⟨ok_iret hx hb hb1 hb2 hr hlocks dk_90_47,
    fun _ h => absurd h List.not_mem_nil⟩⟩⟩⟩⟩⟩⟩⟩⟩⟩⟩⟩⟩⟩⟩⟩⟩⟩⟩⟩⟩⟩⟩⟩⟩⟩⟩⟩⟩⟩
theorem dk_91_0 : decode prog_3_method_13_code 0 = .ok (.aload_n 0, 1) := by decide +kernel
theorem dk_91_1 : decode prog_3_method_13_code 1 = .ok (.iload_n 1, 1) := by decide +kernel
theorem dk_91_2 : decode prog_3_method_13_code 2 = .ok (.invokevirtual 69, 3) := by decide +kernel
theorem dk_91_5 : decode prog_3_method_13_code 5 = .ok (.ifCond .eq (37), 3) := by decide +kernel
theorem dk_91_8 : decode prog_3_method_13_code 8 = .ok (.iload_n 2, 1) := by decide +kernel
theorem dk_91_9 : decode prog_3_method_13_code 9 = .ok (.aload_n 0, 1) := by decide +kernel
theorem dk_91_10 : decode prog_3_method_13_code 10 = .ok (.getfield 31, 3) := by decide +kernel
theorem dk_91_13 : decode prog_3_method_13_code 13 = .ok (.iload_n 1, 1) := by decide +kernel
theorem dk_91_14 : decode prog_3_method_13_code 14 = .ok (.iaload, 1) := by decide +kernel
theorem dk_91_15 : decode prog_3_method_13_code 15 = .ok (.if_icmp .gt (25), 3) := by decide +kernel
theorem dk_91_18 : decode prog_3_method_13_code 18 = .ok (.aload_n 0, 1) := by decide +kernel
theorem dk_91_19 : decode prog_3_method_13_code 19 = .ok (.aload_n 0, 1) := by decide +kernel
theorem dk_91_20 : decode prog_3_method_13_code 20 = .ok (.getfield 31, 3) := by decide +kernel
theorem dk_91_23 : decode prog_3_method_13_code 23 = .ok (.iload_n 1, 1) := by decide +kernel
theorem dk_91_24 : decode prog_3_method_13_code 24 = .ok (.iaload, 1) := by decide +kernel
theorem dk_91_25 : decode prog_3_method_13_code 25 = .ok (.invokevirtual 83, 3) := by decide +kernel
theorem dk_91_28 : decode prog_3_method_13_code 28 = .ok (.ifCond .ne (12), 3) := by decide +kernel
theorem dk_91_31 : decode prog_3_method_13_code 31 = .ok (.aload_n 0, 1) := by decide +kernel
theorem dk_91_32 : decode prog_3_method_13_code 32 = .ok (.getfield 31, 3) := by decide +kernel
theorem dk_91_35 : decode prog_3_method_13_code 35 = .ok (.iload_n 1, 1) := by decide +kernel
theorem dk_91_36 : decode prog_3_method_13_code 36 = .ok (.iaload, 1) := by decide +kernel
theorem dk_91_37 : decode prog_3_method_13_code 37 = .ok (.goto (4), 3) := by decide +kernel
theorem dk_91_40 : decode prog_3_method_13_code 40 = .ok (.iconst (-1), 1) := by decide +kernel
theorem dk_91_41 : decode prog_3_method_13_code 41 = .ok (.ireturn, 1) := by decide +kernel
theorem dk_91_42 : decode prog_3_method_13_code 42 = .ok (.aload_n 0, 1) := by decide +kernel
theorem dk_91_43 : decode prog_3_method_13_code 43 = .ok (.iload_n 2, 1) := by decide +kernel
theorem dk_91_44 : decode prog_3_method_13_code 44 = .ok (.aload_n 0, 1) := by decide +kernel
theorem dk_91_45 : decode prog_3_method_13_code 45 = .ok (.getfield 19, 3) := by decide +kernel
theorem dk_91_48 : decode prog_3_method_13_code 48 = .ok (.iload_n 1, 1) := by decide +kernel
theorem dk_91_49 : decode prog_3_method_13_code 49 = .ok (.iaload, 1) := by decide +kernel
theorem dk_91_50 : decode prog_3_method_13_code 50 = .ok (.invokestatic 59, 3) := by decide +kernel
theorem dk_91_53 : decode prog_3_method_13_code 53 = .ok (.invokevirtual 86, 3) := by decide +kernel
theorem dk_91_56 : decode prog_3_method_13_code 56 = .ok (.istore_n 3, 1) := by decide +kernel
theorem dk_91_57 : decode prog_3_method_13_code 57 = .ok (.iload_n 3, 1) := by decide +kernel
theorem dk_91_58 : decode prog_3_method_13_code 58 = .ok (.aload_n 0, 1) := by decide +kernel
theorem dk_91_59 : decode prog_3_method_13_code 59 = .ok (.getfield 25, 3) := by decide +kernel
theorem dk_91_62 : decode prog_3_method_13_code 62 = .ok (.iload_n 1, 1) := by decide +kernel
theorem dk_91_63 : decode prog_3_method_13_code 63 = .ok (.iaload, 1) := by decide +kernel
theorem dk_91_64 : decode prog_3_method_13_code 64 = .ok (.if_icmp .gt (7), 3) := by decide +kernel
theorem dk_91_67 : decode prog_3_method_13_code 67 = .ok (.iload_n 3, 1) := by decide +kernel
theorem dk_91_68 : decode prog_3_method_13_code 68 = .ok (.goto (4), 3) := by decide +kernel
theorem dk_91_71 : decode prog_3_method_13_code 71 = .ok (.iconst (-1), 1) := by decide +kernel
theorem dk_91_72 : decode prog_3_method_13_code 72 = .ok (.ireturn, 1) := by decide +kernel
set_option maxRecDepth 100000 in
set_option maxHeartbeats 4000000 in
theorem cc_91 {l : Launch} {s0 : State} (hst : l.stackTraces = false) (h0 : am_W0 s0) {d : Nat} (hall : ∀ mi ∈ am_idx, am_CC l s0 d mi) : am_CC l s0 (d + 1) 91 :=
  am_method (y := y_91) (cc := prog_3_method_13_code) (maxL := 4) (ret := (some .int)) (rm := am_rm (d + 1) 0 0) (ops := op_91) (C := am_T am_tabs am_ar d) (ar := 3) h0 (by decide) (by decide) fun p e s m args below meth c D A bS ad0 Q hct htab => by
    obtain ⟨hx, hb, hml, hown, hts, hb1, hb2, hA, hroot, hAs, -, -, hlocks, hr, hnm⟩ := hct
    exact List.forall_mem_cons.mpr ⟨ok_aload_n hx hb dk_91_0 rfl,
    List.forall_mem_cons.mpr ⟨ok_iload_n hx hb dk_91_1 rfl,
    List.forall_mem_cons.mpr ⟨ok_cV hx hb hml hown hts hb1 hb2 hA hroot hAs rfl rfl rfl (hcal_83 hall) tw_157 tw_158 tw_159 tw_160 tw_2 nm_83 rfl rfl (by show d + 8 + 1 ≤ d + 1 + 8; omega) (by show 8 + (2 + 11) + (200 + 60 * d) ≤ 200 + 60 * (d + 1); omega) dk_91_2,
    List.forall_mem_cons.mpr ⟨ok_if_eq hx hb dk_91_5 (by decide),
    List.forall_mem_cons.mpr ⟨ok_iload_n hx hb dk_91_8 rfl,
    List.forall_mem_cons.mpr ⟨ok_aload_n hx hb dk_91_9 rfl,
    List.forall_mem_cons.mpr ⟨ok_getr hx hb hts hown hin_1 rfl (by decide) tw_47 dk_91_10,
    List.forall_mem_cons.mpr ⟨ok_iload_n hx hb dk_91_13 rfl,
    List.forall_mem_cons.mpr ⟨ok_iald hx hb dk_91_14,
    List.forall_mem_cons.mpr ⟨ok_icmp_gt hx hb dk_91_15 (by decide),
    List.forall_mem_cons.mpr ⟨ok_aload_n hx hb dk_91_18 rfl,
    List.forall_mem_cons.mpr ⟨ok_aload_n hx hb dk_91_19 rfl,
    List.forall_mem_cons.mpr ⟨ok_getr hx hb hts hown hin_1 rfl (by decide) tw_47 dk_91_20,
    List.forall_mem_cons.mpr ⟨ok_iload_n hx hb dk_91_23 rfl,
    List.forall_mem_cons.mpr ⟨ok_iald hx hb dk_91_24,
    List.forall_mem_cons.mpr ⟨ok_cV hx hb hml hown hts hb1 hb2 hA hroot hAs rfl rfl rfl (hcal_88 hall) tw_161 tw_162 tw_163 tw_164 tw_2 nm_88 rfl rfl (by show d + 8 + 1 ≤ d + 1 + 8; omega) (by show 8 + (2 + 11) + (200 + 60 * d) ≤ 200 + 60 * (d + 1); omega) dk_91_25,
    List.forall_mem_cons.mpr ⟨ok_if_ne hx hb dk_91_28 (by decide),
    List.forall_mem_cons.mpr ⟨ok_aload_n hx hb dk_91_31 rfl,
    List.forall_mem_cons.mpr ⟨ok_getr hx hb hts hown hin_1 rfl (by decide) tw_47 dk_91_32,
    List.forall_mem_cons.mpr ⟨ok_iload_n hx hb dk_91_35 rfl,
    List.forall_mem_cons.mpr ⟨ok_iald hx hb dk_91_36,
    List.forall_mem_cons.mpr ⟨ok_goto hx hb dk_91_37 (by decide),
    List.forall_mem_cons.mpr ⟨ok_iconst hx hb dk_91_40 rfl,
    List.forall_mem_cons.mpr ⟨ok_iret hx hb hb1 hb2 hr hlocks dk_91_41,
    List.forall_mem_cons.mpr ⟨ok_aload_n hx hb dk_91_42 rfl,
    List.forall_mem_cons.mpr ⟨ok_iload_n hx hb dk_91_43 rfl,
    List.forall_mem_cons.mpr ⟨ok_aload_n hx hb dk_91_44 rfl,
    List.forall_mem_cons.mpr ⟨ok_getr hx hb hts hown hin_1 rfl (by decide) tw_39 dk_91_45,
    List.forall_mem_cons.mpr ⟨ok_iload_n hx hb dk_91_48 rfl,
    List.forall_mem_cons.mpr ⟨ok_iald hx hb dk_91_49,
    List.forall_mem_cons.mpr ⟨ok_max hx hb hts hown hml rfl rfl tw_169 tw_170 tw_12 tw_171 rfl (by show 1 ≤ d + 1 + 8; omega) (by show 21 ≤ 200 + 60 * (d + 1); omega) dk_91_50,
    List.forall_mem_cons.mpr ⟨ok_cV hx hb hml hown hts hb1 hb2 hA hroot hAs rfl rfl rfl (hcal_90 hall) tw_172 tw_174 ts_2 tw_175 tw_2 nm_90 rfl rfl (by show d + 8 + 1 ≤ d + 1 + 8; omega) (by show 8 + (5 + 11) + (200 + 60 * d) ≤ 200 + 60 * (d + 1); omega) dk_91_53,
    List.forall_mem_cons.mpr ⟨ok_istore_n hx hb dk_91_56 rfl (by decide),
    List.forall_mem_cons.mpr ⟨ok_iload_n hx hb dk_91_57 rfl,
    List.forall_mem_cons.mpr ⟨ok_aload_n hx hb dk_91_58 rfl,
    List.forall_mem_cons.mpr ⟨ok_getr hx hb hts hown hin_1 rfl (by decide) tw_43 dk_91_59,
    List.forall_mem_cons.mpr ⟨ok_iload_n hx hb dk_91_62 rfl,
    List.forall_mem_cons.mpr ⟨ok_iald hx hb dk_91_63,
    List.forall_mem_cons.mpr ⟨ok_icmp_gt hx hb dk_91_64 (by decide),
    List.forall_mem_cons.mpr ⟨ok_iload_n hx hb dk_91_67 rfl,
    List.forall_mem_cons.mpr ⟨ok_goto hx hb dk_91_68 (by decide),
    List.forall_mem_cons.mpr ⟨ok_iconst hx hb dk_91_71 rfl,
    List.forall_mem_cons.mpr ⟨ok_iret hx hb hb1 hb2 hr hlocks dk_91_72,
    fun _ h => absurd h List.not_mem_nil⟩⟩⟩⟩⟩⟩⟩⟩⟩⟩⟩⟩⟩⟩⟩⟩⟩⟩⟩⟩⟩⟩⟩⟩⟩⟩⟩⟩⟩⟩⟩⟩⟩⟩⟩⟩⟩⟩⟩⟩⟩⟩⟩
theorem dk_92_0 : decode prog_3_method_14_code 0 = .ok (.iconst (0), 1) := by decide +kernel
theorem dk_92_1 : decode prog_3_method_14_code 1 = .ok (.istore_n 3, 1) := by decide +kernel
theorem dk_92_2 : decode prog_3_method_14_code 2 = .ok (.iload_n 3, 1) := by decide +kernel
theorem dk_92_3 : decode prog_3_method_14_code 3 = .ok (.bipush (7), 2) := by decide +kernel
theorem dk_92_5 : decode prog_3_method_14_code 5 = .ok (.if_icmp .ge (49), 3) := by decide +kernel
theorem dk_92_8 : decode prog_3_method_14_code 8 = .ok (.iload_n 3, 1) := by decide +kernel
theorem dk_92_9 : decode prog_3_method_14_code 9 = .ok (.iload_n 1, 1) := by decide +kernel
theorem dk_92_10 : decode prog_3_method_14_code 10 = .ok (.if_icmp .eq (38), 3) := by decide +kernel
theorem dk_92_13 : decode prog_3_method_14_code 13 = .ok (.aload_n 0, 1) := by decide +kernel
theorem dk_92_14 : decode prog_3_method_14_code 14 = .ok (.getfield 9, 3) := by decide +kernel
theorem dk_92_17 : decode prog_3_method_14_code 17 = .ok (.iload_n 3, 1) := by decide +kernel
theorem dk_92_18 : decode prog_3_method_14_code 18 = .ok (.baload, 1) := by decide +kernel
theorem dk_92_19 : decode prog_3_method_14_code 19 = .ok (.ifCond .eq (29), 3) := by decide +kernel
theorem dk_92_22 : decode prog_3_method_14_code 22 = .ok (.aload_n 0, 1) := by decide +kernel
theorem dk_92_23 : decode prog_3_method_14_code 23 = .ok (.iload_n 3, 1) := by decide +kernel
theorem dk_92_24 : decode prog_3_method_14_code 24 = .ok (.invokevirtual 69, 3) := by decide +kernel
theorem dk_92_27 : decode prog_3_method_14_code 27 = .ok (.ifCond .eq (21), 3) := by decide +kernel
theorem dk_92_30 : decode prog_3_method_14_code 30 = .ok (.aload_n 0, 1) := by decide +kernel
theorem dk_92_31 : decode prog_3_method_14_code 31 = .ok (.iload_n 1, 1) := by decide +kernel
theorem dk_92_32 : decode prog_3_method_14_code 32 = .ok (.iload_n 2, 1) := by decide +kernel
theorem dk_92_33 : decode prog_3_method_14_code 33 = .ok (.iload_n 3, 1) := by decide +kernel
theorem dk_92_34 : decode prog_3_method_14_code 34 = .ok (.aload_n 0, 1) := by decide +kernel
theorem dk_92_35 : decode prog_3_method_14_code 35 = .ok (.getfield 31, 3) := by decide +kernel
theorem dk_92_38 : decode prog_3_method_14_code 38 = .ok (.iload_n 3, 1) := by decide +kernel
theorem dk_92_39 : decode prog_3_method_14_code 39 = .ok (.iaload, 1) := by decide +kernel
theorem dk_92_40 : decode prog_3_method_14_code 40 = .ok (.invokevirtual 89, 3) := by decide +kernel
theorem dk_92_43 : decode prog_3_method_14_code 43 = .ok (.ifCond .eq (5), 3) := by decide +kernel
theorem dk_92_46 : decode prog_3_method_14_code 46 = .ok (.iconst (1), 1) := by decide +kernel
theorem dk_92_47 : decode prog_3_method_14_code 47 = .ok (.ireturn, 1) := by decide +kernel
theorem dk_92_48 : decode prog_3_method_14_code 48 = .ok (.iinc 3 (1), 3) := by decide +kernel
theorem dk_92_51 : decode prog_3_method_14_code 51 = .ok (.goto (-49), 3) := by decide +kernel
theorem dk_92_54 : decode prog_3_method_14_code 54 = .ok (.iconst (0), 1) := by decide +kernel
theorem dk_92_55 : decode prog_3_method_14_code 55 = .ok (.ireturn, 1) := by decide +kernel
set_option maxRecDepth 100000 in
set_option maxHeartbeats 4000000 in
theorem cc_92 {l : Launch} {s0 : State} (hst : l.stackTraces = false) (h0 : am_W0 s0) {d : Nat} (hall : ∀ mi ∈ am_idx, am_CC l s0 d mi) : am_CC l s0 (d + 1) 92 :=
  am_method (y := y_92) (cc := prog_3_method_14_code) (maxL := 4) (ret := (some .boolean)) (rm := am_rm (d + 1) 0 0) (ops := op_92) (C := am_T am_tabs am_ar d) (ar := 3) h0 (by decide) (by decide) fun p e s m args below meth c D A bS ad0 Q hct htab => by
    obtain ⟨hx, hb, hml, hown, hts, hb1, hb2, hA, hroot, hAs, -, -, hlocks, hr, hnm⟩ := hct
    exact List.forall_mem_cons.mpr ⟨ok_iconst hx hb dk_92_0 rfl,
    List.forall_mem_cons.mpr ⟨ok_istore_n hx hb dk_92_1 rfl (by decide),
    List.forall_mem_cons.mpr ⟨ok_iload_n hx hb dk_92_2 rfl,
    List.forall_mem_cons.mpr ⟨ok_bipush hx hb dk_92_3 (by decide),
    List.forall_mem_cons.mpr ⟨ok_icmp_ge hx hb dk_92_5 (by decide),
    List.forall_mem_cons.mpr ⟨ok_iload_n hx hb dk_92_8 rfl,
    List.forall_mem_cons.mpr ⟨ok_iload_n hx hb dk_92_9 rfl,
    List.forall_mem_cons.mpr ⟨ok_icmp_eq hx hb dk_92_10 (by decide),
    List.forall_mem_cons.mpr ⟨ok_aload_n hx hb dk_92_13 rfl,
    List.forall_mem_cons.mpr ⟨ok_getr hx hb hts hown hin_1 rfl (by decide) tw_34 dk_92_14,
    List.forall_mem_cons.mpr ⟨ok_iload_n hx hb dk_92_17 rfl,
    List.forall_mem_cons.mpr ⟨ok_zald hx hb dk_92_18,
    List.forall_mem_cons.mpr ⟨ok_if_eq hx hb dk_92_19 (by decide),
    List.forall_mem_cons.mpr ⟨ok_aload_n hx hb dk_92_22 rfl,
    List.forall_mem_cons.mpr ⟨ok_iload_n hx hb dk_92_23 rfl,
    List.forall_mem_cons.mpr ⟨ok_cV hx hb hml hown hts hb1 hb2 hA hroot hAs rfl rfl rfl (hcal_83 hall) tw_157 tw_158 tw_159 tw_160 tw_2 nm_83 rfl rfl (by show d + 8 + 1 ≤ d + 1 + 8; omega) (by show 8 + (2 + 11) + (200 + 60 * d) ≤ 200 + 60 * (d + 1); omega) dk_92_24,
    List.forall_mem_cons.mpr ⟨ok_if_eq hx hb dk_92_27 (by decide),
    List.forall_mem_cons.mpr ⟨ok_aload_n hx hb dk_92_30 rfl,
    List.forall_mem_cons.mpr ⟨ok_iload_n hx hb dk_92_31 rfl,
    List.forall_mem_cons.mpr ⟨ok_iload_n hx hb dk_92_32 rfl,
    List.forall_mem_cons.mpr ⟨ok_iload_n hx hb dk_92_33 rfl,
    List.forall_mem_cons.mpr ⟨ok_aload_n hx hb dk_92_34 rfl,
    List.forall_mem_cons.mpr ⟨ok_getr hx hb hts hown hin_1 rfl (by decide) tw_47 dk_92_35,
    List.forall_mem_cons.mpr ⟨ok_iload_n hx hb dk_92_38 rfl,
    List.forall_mem_cons.mpr ⟨ok_iald hx hb dk_92_39,
    List.forall_mem_cons.mpr ⟨ok_cV hx hb hml hown hts hb1 hb2 hA hroot hAs rfl rfl rfl (hcal_93 hall) tw_442 tw_444 ts_13 tw_445 tw_2 nm_93 rfl rfl (by show d + 8 + 1 ≤ d + 1 + 8; omega) (by show 8 + (5 + 11) + (200 + 60 * d) ≤ 200 + 60 * (d + 1); omega) dk_92_40,
    List.forall_mem_cons.mpr ⟨ok_if_eq hx hb dk_92_43 (by decide),
    List.forall_mem_cons.mpr ⟨ok_iconst hx hb dk_92_46 rfl,
    List.forall_mem_cons.mpr ⟨ok_zret hx hb hb1 hb2 hr hlocks dk_92_47,
    List.forall_mem_cons.mpr ⟨ok_iinc hx hb dk_92_48 rfl (by decide),
    List.forall_mem_cons.mpr ⟨ok_goto hx hb dk_92_51 (by decide),
    List.forall_mem_cons.mpr ⟨ok_iconst hx hb dk_92_54 rfl,
    List.forall_mem_cons.mpr ⟨ok_zret hx hb hb1 hb2 hr hlocks dk_92_55,
    fun _ h => absurd h List.not_mem_nil⟩⟩⟩⟩⟩⟩⟩⟩⟩⟩⟩⟩⟩⟩⟩⟩⟩⟩⟩⟩⟩⟩⟩⟩⟩⟩⟩⟩⟩⟩⟩⟩⟩
theorem dk_93_0 : decode prog_3_method_15_code 0 = .ok (.iload_n 2, 1) := by decide +kernel
theorem dk_93_1 : decode prog_3_method_15_code 1 = .ok (.iload 4, 2) := by decide +kernel
theorem dk_93_3 : decode prog_3_method_15_code 3 = .ok (.if_icmp .ge (24), 3) := by decide +kernel
theorem dk_93_6 : decode prog_3_method_15_code 6 = .ok (.iload 4, 2) := by decide +kernel
theorem dk_93_8 : decode prog_3_method_15_code 8 = .ok (.iload_n 2, 1) := by decide +kernel
theorem dk_93_9 : decode prog_3_method_15_code 9 = .ok (.isub, 1) := by decide +kernel
theorem dk_93_10 : decode prog_3_method_15_code 10 = .ok (.aload_n 0, 1) := by decide +kernel
theorem dk_93_11 : decode prog_3_method_15_code 11 = .ok (.iload_n 1, 1) := by decide +kernel
theorem dk_93_12 : decode prog_3_method_15_code 12 = .ok (.iload_n 3, 1) := by decide +kernel
theorem dk_93_13 : decode prog_3_method_15_code 13 = .ok (.invokevirtual 93, 3) := by decide +kernel
theorem dk_93_16 : decode prog_3_method_15_code 16 = .ok (.if_icmp .ge (7), 3) := by decide +kernel
theorem dk_93_19 : decode prog_3_method_15_code 19 = .ok (.iconst (1), 1) := by decide +kernel
theorem dk_93_20 : decode prog_3_method_15_code 20 = .ok (.goto (25), 3) := by decide +kernel
theorem dk_93_23 : decode prog_3_method_15_code 23 = .ok (.iconst (0), 1) := by decide +kernel
theorem dk_93_24 : decode prog_3_method_15_code 24 = .ok (.goto (21), 3) := by decide +kernel
theorem dk_93_27 : decode prog_3_method_15_code 27 = .ok (.iload_n 2, 1) := by decide +kernel
theorem dk_93_28 : decode prog_3_method_15_code 28 = .ok (.iload 4, 2) := by decide +kernel
theorem dk_93_30 : decode prog_3_method_15_code 30 = .ok (.isub, 1) := by decide +kernel
theorem dk_93_31 : decode prog_3_method_15_code 31 = .ok (.aload_n 0, 1) := by decide +kernel
theorem dk_93_32 : decode prog_3_method_15_code 32 = .ok (.iload_n 3, 1) := by decide +kernel
theorem dk_93_33 : decode prog_3_method_15_code 33 = .ok (.iload_n 1, 1) := by decide +kernel
theorem dk_93_34 : decode prog_3_method_15_code 34 = .ok (.invokevirtual 93, 3) := by decide +kernel
theorem dk_93_37 : decode prog_3_method_15_code 37 = .ok (.if_icmp .ge (7), 3) := by decide +kernel
theorem dk_93_40 : decode prog_3_method_15_code 40 = .ok (.iconst (1), 1) := by decide +kernel
theorem dk_93_41 : decode prog_3_method_15_code 41 = .ok (.goto (4), 3) := by decide +kernel
theorem dk_93_44 : decode prog_3_method_15_code 44 = .ok (.iconst (0), 1) := by decide +kernel
theorem dk_93_45 : decode prog_3_method_15_code 45 = .ok (.ireturn, 1) := by decide +kernel
set_option maxRecDepth 100000 in
set_option maxHeartbeats 4000000 in
theorem cc_93 {l : Launch} {s0 : State} (hst : l.stackTraces = false) (h0 : am_W0 s0) {d : Nat} (hall : ∀ mi ∈ am_idx, am_CC l s0 d mi) : am_CC l s0 (d + 1) 93 :=
  am_method (y := y_93) (cc := prog_3_method_15_code) (maxL := 5) (ret := (some .boolean)) (rm := am_rm (d + 1) 0 0) (ops := op_93) (C := am_T am_tabs am_ar d) (ar := 5) h0 (by decide) (by decide) fun p e s m args below meth c D A bS ad0 Q hct htab => by
    obtain ⟨hx, hb, hml, hown, hts, hb1, hb2, hA, hroot, hAs, -, -, hlocks, hr, hnm⟩ := hct
    exact List.forall_mem_cons.mpr ⟨ok_iload_n hx hb dk_93_0 rfl,
    List.forall_mem_cons.mpr ⟨ok_iload hx hb dk_93_1,
    List.forall_mem_cons.mpr ⟨ok_icmp_ge hx hb dk_93_3 (by decide),
    List.forall_mem_cons.mpr ⟨ok_iload hx hb dk_93_6,
    List.forall_mem_cons.mpr ⟨ok_iload_n hx hb dk_93_8 rfl,
    List.forall_mem_cons.mpr ⟨ok_isub hx hb dk_93_9,
    List.forall_mem_cons.mpr ⟨ok_aload_n hx hb dk_93_10 rfl,
    List.forall_mem_cons.mpr ⟨ok_iload_n hx hb dk_93_11 rfl,
    List.forall_mem_cons.mpr ⟨ok_iload_n hx hb dk_93_12 rfl,
    List.forall_mem_cons.mpr ⟨ok_cV hx hb hml hown hts hb1 hb2 hA hroot hAs rfl rfl rfl (hcal_84 hall) tw_238 tw_203 tw_204 tw_205 tw_2 nm_84 rfl rfl (by show d + 8 + 1 ≤ d + 1 + 8; omega) (by show 8 + (3 + 11) + (200 + 60 * d) ≤ 200 + 60 * (d + 1); omega) dk_93_13,
    List.forall_mem_cons.mpr ⟨ok_icmp_ge hx hb dk_93_16 (by decide),
    List.forall_mem_cons.mpr ⟨ok_iconst hx hb dk_93_19 rfl,
    List.forall_mem_cons.mpr ⟨ok_goto hx hb dk_93_20 (by decide),
    List.forall_mem_cons.mpr ⟨ok_iconst hx hb dk_93_23 rfl,
    List.forall_mem_cons.mpr ⟨ok_goto hx hb dk_93_24 (by decide),
    List.forall_mem_cons.mpr ⟨ok_iload_n hx hb dk_93_27 rfl,
    List.forall_mem_cons.mpr ⟨ok_iload hx hb dk_93_28,
    List.forall_mem_cons.mpr ⟨ok_isub hx hb dk_93_30,
    List.forall_mem_cons.mpr ⟨ok_aload_n hx hb dk_93_31 rfl,
    List.forall_mem_cons.mpr ⟨ok_iload_n hx hb dk_93_32 rfl,
    List.forall_mem_cons.mpr ⟨ok_iload_n hx hb dk_93_33 rfl,
    List.forall_mem_cons.mpr ⟨ok_cV hx hb hml hown hts hb1 hb2 hA hroot hAs rfl rfl rfl (hcal_84 hall) tw_238 tw_203 tw_204 tw_205 tw_2 nm_84 rfl rfl (by show d + 8 + 1 ≤ d + 1 + 8; omega) (by show 8 + (3 + 11) + (200 + 60 * d) ≤ 200 + 60 * (d + 1); omega) dk_93_34,
    List.forall_mem_cons.mpr ⟨ok_icmp_ge hx hb dk_93_37 (by decide),
    List.forall_mem_cons.mpr ⟨ok_iconst hx hb dk_93_40 rfl,
    List.forall_mem_cons.mpr ⟨ok_goto hx hb dk_93_41 (by decide),
    List.forall_mem_cons.mpr ⟨ok_iconst hx hb dk_93_44 rfl,
    List.forall_mem_cons.mpr ⟨ok_zret hx hb hb1 hb2 hr hlocks dk_93_45,
    fun _ h => absurd h List.not_mem_nil⟩⟩⟩⟩⟩⟩⟩⟩⟩⟩⟩⟩⟩⟩⟩⟩⟩⟩⟩⟩⟩⟩⟩⟩⟩⟩⟩
theorem dk_94_0 : decode prog_3_method_16_code 0 = .ok (.iconst (0), 1) := by decide +kernel
theorem dk_94_1 : decode prog_3_method_16_code 1 = .ok (.istore_n 2, 1) := by decide +kernel
theorem dk_94_2 : decode prog_3_method_16_code 2 = .ok (.iload_n 2, 1) := by decide +kernel
theorem dk_94_3 : decode prog_3_method_16_code 3 = .ok (.bipush (7), 2) := by decide +kernel
theorem dk_94_5 : decode prog_3_method_16_code 5 = .ok (.if_icmp .ge (29), 3) := by decide +kernel
theorem dk_94_8 : decode prog_3_method_16_code 8 = .ok (.aload_n 0, 1) := by decide +kernel
theorem dk_94_9 : decode prog_3_method_16_code 9 = .ok (.getfield 9, 3) := by decide +kernel
theorem dk_94_12 : decode prog_3_method_16_code 12 = .ok (.iload_n 2, 1) := by decide +kernel
theorem dk_94_13 : decode prog_3_method_16_code 13 = .ok (.baload, 1) := by decide +kernel
theorem dk_94_14 : decode prog_3_method_16_code 14 = .ok (.ifCond .eq (14), 3) := by decide +kernel
theorem dk_94_17 : decode prog_3_method_16_code 17 = .ok (.aload_n 0, 1) := by decide +kernel
theorem dk_94_18 : decode prog_3_method_16_code 18 = .ok (.iload_n 2, 1) := by decide +kernel
theorem dk_94_19 : decode prog_3_method_16_code 19 = .ok (.aload_n 1, 1) := by decide +kernel
theorem dk_94_20 : decode prog_3_method_16_code 20 = .ok (.invokevirtual 96, 3) := by decide +kernel
theorem dk_94_23 : decode prog_3_method_16_code 23 = .ok (.ifCond .ne (5), 3) := by decide +kernel
theorem dk_94_26 : decode prog_3_method_16_code 26 = .ok (.iload_n 2, 1) := by decide +kernel
theorem dk_94_27 : decode prog_3_method_16_code 27 = .ok (.ireturn, 1) := by decide +kernel
theorem dk_94_28 : decode prog_3_method_16_code 28 = .ok (.iinc 2 (1), 3) := by decide +kernel
theorem dk_94_31 : decode prog_3_method_16_code 31 = .ok (.goto (-29), 3) := by decide +kernel
theorem dk_94_34 : decode prog_3_method_16_code 34 = .ok (.iconst (-1), 1) := by decide +kernel
theorem dk_94_35 : decode prog_3_method_16_code 35 = .ok (.ireturn, 1) := by decide +kernel
set_option maxRecDepth 100000 in
set_option maxHeartbeats 4000000 in
theorem cc_94 {l : Launch} {s0 : State} (hst : l.stackTraces = false) (h0 : am_W0 s0) {d : Nat} (hall : ∀ mi ∈ am_idx, am_CC l s0 d mi) : am_CC l s0 (d + 1) 94 :=
  am_method (y := y_94) (cc := prog_3_method_16_code) (maxL := 3) (ret := (some .int)) (rm := am_rm (d + 1) 0 0) (ops := op_94) (C := am_T am_tabs am_ar d) (ar := 2) h0 (by decide) (by decide) fun p e s m args below meth c D A bS ad0 Q hct htab => by
    obtain ⟨hx, hb, hml, hown, hts, hb1, hb2, hA, hroot, hAs, -, -, hlocks, hr, hnm⟩ := hct
    exact List.forall_mem_cons.mpr ⟨ok_iconst hx hb dk_94_0 rfl,
    List.forall_mem_cons.mpr ⟨ok_istore_n hx hb dk_94_1 rfl (by decide),
    List.forall_mem_cons.mpr ⟨ok_iload_n hx hb dk_94_2 rfl,
    List.forall_mem_cons.mpr ⟨ok_bipush hx hb dk_94_3 (by decide),
    List.forall_mem_cons.mpr ⟨ok_icmp_ge hx hb dk_94_5 (by decide),
    List.forall_mem_cons.mpr ⟨ok_aload_n hx hb dk_94_8 rfl,
    List.forall_mem_cons.mpr ⟨ok_getr hx hb hts hown hin_1 rfl (by decide) tw_34 dk_94_9,
    List.forall_mem_cons.mpr ⟨ok_iload_n hx hb dk_94_12 rfl,
    List.forall_mem_cons.mpr ⟨ok_zald hx hb dk_94_13,
    List.forall_mem_cons.mpr ⟨ok_if_eq hx hb dk_94_14 (by decide),
    List.forall_mem_cons.mpr ⟨ok_aload_n hx hb dk_94_17 rfl,
    List.forall_mem_cons.mpr ⟨ok_iload_n hx hb dk_94_18 rfl,
    List.forall_mem_cons.mpr ⟨ok_aload_n hx hb dk_94_19 rfl,
    List.forall_mem_cons.mpr ⟨ok_cV hx hb hml hown hts hb1 hb2 hA hroot hAs rfl rfl rfl (hcal_95 hall) tw_223 tw_225 ts_7 tw_226 tw_2 nm_95 rfl rfl (by show d + 8 + 1 ≤ d + 1 + 8; omega) (by show 8 + (4 + 11) + (200 + 60 * d) ≤ 200 + 60 * (d + 1); omega) dk_94_20,
    List.forall_mem_cons.mpr ⟨ok_if_ne hx hb dk_94_23 (by decide),
    List.forall_mem_cons.mpr ⟨ok_iload_n hx hb dk_94_26 rfl,
    List.forall_mem_cons.mpr ⟨ok_iret hx hb hb1 hb2 hr hlocks dk_94_27,
    List.forall_mem_cons.mpr ⟨ok_iinc hx hb dk_94_28 rfl (by decide),
    List.forall_mem_cons.mpr ⟨ok_goto hx hb dk_94_31 (by decide),
    List.forall_mem_cons.mpr ⟨ok_iconst hx hb dk_94_34 rfl,
    List.forall_mem_cons.mpr ⟨ok_iret hx hb hb1 hb2 hr hlocks dk_94_35,
    fun _ h => absurd h List.not_mem_nil⟩⟩⟩⟩⟩⟩⟩⟩⟩⟩⟩⟩⟩⟩⟩⟩⟩⟩⟩⟩⟩
theorem dk_95_0 : decode prog_3_method_17_code 0 = .ok (.aload_n 2, 1) := by decide +kernel
theorem dk_95_1 : decode prog_3_method_17_code 1 = .ok (.iload_n 1, 1) := by decide +kernel
theorem dk_95_2 : decode prog_3_method_17_code 2 = .ok (.iaload, 1) := by decide +kernel
theorem dk_95_3 : decode prog_3_method_17_code 3 = .ok (.istore_n 3, 1) := by decide +kernel
theorem dk_95_4 : decode prog_3_method_17_code 4 = .ok (.iload_n 3, 1) := by decide +kernel
theorem dk_95_5 : decode prog_3_method_17_code 5 = .ok (.iconst (-1), 1) := by decide +kernel
theorem dk_95_6 : decode prog_3_method_17_code 6 = .ok (.if_icmp .eq (20), 3) := by decide +kernel
theorem dk_95_9 : decode prog_3_method_17_code 9 = .ok (.aload_n 0, 1) := by decide +kernel
theorem dk_95_10 : decode prog_3_method_17_code 10 = .ok (.iload_n 1, 1) := by decide +kernel
theorem dk_95_11 : decode prog_3_method_17_code 11 = .ok (.iload_n 3, 1) := by decide +kernel
theorem dk_95_12 : decode prog_3_method_17_code 12 = .ok (.invokevirtual 100, 3) := by decide +kernel
theorem dk_95_15 : decode prog_3_method_17_code 15 = .ok (.ifCond .eq (11), 3) := by decide +kernel
theorem dk_95_18 : decode prog_3_method_17_code 18 = .ok (.aload_n 0, 1) := by decide +kernel
theorem dk_95_19 : decode prog_3_method_17_code 19 = .ok (.iload_n 3, 1) := by decide +kernel
theorem dk_95_20 : decode prog_3_method_17_code 20 = .ok (.invokevirtual 83, 3) := by decide +kernel
theorem dk_95_23 : decode prog_3_method_17_code 23 = .ok (.ifCond .eq (5), 3) := by decide +kernel
theorem dk_95_26 : decode prog_3_method_17_code 26 = .ok (.iconst (0), 1) := by decide +kernel
theorem dk_95_27 : decode prog_3_method_17_code 27 = .ok (.ireturn, 1) := by decide +kernel
theorem dk_95_28 : decode prog_3_method_17_code 28 = .ok (.aload_n 0, 1) := by decide +kernel
theorem dk_95_29 : decode prog_3_method_17_code 29 = .ok (.iload_n 1, 1) := by decide +kernel
theorem dk_95_30 : decode prog_3_method_17_code 30 = .ok (.invokevirtual 69, 3) := by decide +kernel
theorem dk_95_33 : decode prog_3_method_17_code 33 = .ok (.ifCond .eq (15), 3) := by decide +kernel
theorem dk_95_36 : decode prog_3_method_17_code 36 = .ok (.aload_n 0, 1) := by decide +kernel
theorem dk_95_37 : decode prog_3_method_17_code 37 = .ok (.getfield 31, 3) := by decide +kernel
theorem dk_95_40 : decode prog_3_method_17_code 40 = .ok (.iload_n 1, 1) := by decide +kernel
theorem dk_95_41 : decode prog_3_method_17_code 41 = .ok (.iaload, 1) := by decide +kernel
theorem dk_95_42 : decode prog_3_method_17_code 42 = .ok (.iload_n 3, 1) := by decide +kernel
theorem dk_95_43 : decode prog_3_method_17_code 43 = .ok (.if_icmp .eq (5), 3) := by decide +kernel
theorem dk_95_46 : decode prog_3_method_17_code 46 = .ok (.iconst (0), 1) := by decide +kernel
theorem dk_95_47 : decode prog_3_method_17_code 47 = .ok (.ireturn, 1) := by decide +kernel
theorem dk_95_48 : decode prog_3_method_17_code 48 = .ok (.aload_n 0, 1) := by decide +kernel
theorem dk_95_49 : decode prog_3_method_17_code 49 = .ok (.iload_n 1, 1) := by decide +kernel
theorem dk_95_50 : decode prog_3_method_17_code 50 = .ok (.aload_n 2, 1) := by decide +kernel
theorem dk_95_51 : decode prog_3_method_17_code 51 = .ok (.invokevirtual 104, 3) := by decide +kernel
theorem dk_95_54 : decode prog_3_method_17_code 54 = .ok (.ifCond .ne (25), 3) := by decide +kernel
theorem dk_95_57 : decode prog_3_method_17_code 57 = .ok (.aload_n 0, 1) := by decide +kernel
theorem dk_95_58 : decode prog_3_method_17_code 58 = .ok (.iload_n 1, 1) := by decide +kernel
theorem dk_95_59 : decode prog_3_method_17_code 59 = .ok (.aload_n 2, 1) := by decide +kernel
theorem dk_95_60 : decode prog_3_method_17_code 60 = .ok (.iload_n 1, 1) := by decide +kernel
theorem dk_95_61 : decode prog_3_method_17_code 61 = .ok (.invokestatic 107, 3) := by decide +kernel
theorem dk_95_64 : decode prog_3_method_17_code 64 = .ok (.aload_n 0, 1) := by decide +kernel
theorem dk_95_65 : decode prog_3_method_17_code 65 = .ok (.iload_n 1, 1) := by decide +kernel
theorem dk_95_66 : decode prog_3_method_17_code 66 = .ok (.invokevirtual 111, 3) := by decide +kernel
theorem dk_95_69 : decode prog_3_method_17_code 69 = .ok (.invokevirtual 114, 3) := by decide +kernel
theorem dk_95_72 : decode prog_3_method_17_code 72 = .ok (.ifCond .eq (7), 3) := by decide +kernel
theorem dk_95_75 : decode prog_3_method_17_code 75 = .ok (.iconst (1), 1) := by decide +kernel
theorem dk_95_76 : decode prog_3_method_17_code 76 = .ok (.goto (4), 3) := by decide +kernel
theorem dk_95_79 : decode prog_3_method_17_code 79 = .ok (.iconst (0), 1) := by decide +kernel
theorem dk_95_80 : decode prog_3_method_17_code 80 = .ok (.ireturn, 1) := by decide +kernel
set_option maxRecDepth 100000 in
set_option maxHeartbeats 4000000 in
theorem cc_95 {l : Launch} {s0 : State} (hst : l.stackTraces = false) (h0 : am_W0 s0) {d : Nat} (hall : ∀ mi ∈ am_idx, am_CC l s0 d mi) : am_CC l s0 (d + 1) 95 :=
  am_method (y := y_95) (cc := prog_3_method_17_code) (maxL := 4) (ret := (some .boolean)) (rm := am_rm (d + 1) 0 0) (ops := op_95) (C := am_T am_tabs am_ar d) (ar := 3) h0 (by decide) (by decide) fun p e s m args below meth c D A bS ad0 Q hct htab => by
    obtain ⟨hx, hb, hml, hown, hts, hb1, hb2, hA, hroot, hAs, -, -, hlocks, hr, hnm⟩ := hct
    exact List.forall_mem_cons.mpr ⟨ok_aload_n hx hb dk_95_0 rfl,
    List.forall_mem_cons.mpr ⟨ok_iload_n hx hb dk_95_1 rfl,
    List.forall_mem_cons.mpr ⟨ok_iald hx hb dk_95_2,
    List.forall_mem_cons.mpr ⟨ok_istore_n hx hb dk_95_3 rfl (by decide),
    List.forall_mem_cons.mpr ⟨ok_iload_n hx hb dk_95_4 rfl,
    List.forall_mem_cons.mpr ⟨ok_iconst hx hb dk_95_5 rfl,
    List.forall_mem_cons.mpr ⟨ok_icmp_eq hx hb dk_95_6 (by decide),
    List.forall_mem_cons.mpr ⟨ok_aload_n hx hb dk_95_9 rfl,
    List.forall_mem_cons.mpr ⟨ok_iload_n hx hb dk_95_10 rfl,
    List.forall_mem_cons.mpr ⟨ok_iload_n hx hb dk_95_11 rfl,
    List.forall_mem_cons.mpr ⟨ok_cV hx hb hml hown hts hb1 hb2 hA hroot hAs rfl rfl rfl (hcal_82 hall) tw_227 tw_228 tw_229 tw_230 tw_2 nm_82 rfl rfl (by show d + 8 + 1 ≤ d + 1 + 8; omega) (by show 8 + (3 + 11) + (200 + 60 * d) ≤ 200 + 60 * (d + 1); omega) dk_95_12,
    List.forall_mem_cons.mpr ⟨ok_if_eq hx hb dk_95_15 (by decide),
    List.forall_mem_cons.mpr ⟨ok_aload_n hx hb dk_95_18 rfl,
    List.forall_mem_cons.mpr ⟨ok_iload_n hx hb dk_95_19 rfl,
    List.forall_mem_cons.mpr ⟨ok_cV hx hb hml hown hts hb1 hb2 hA hroot hAs rfl rfl rfl (hcal_88 hall) tw_161 tw_162 tw_163 tw_164 tw_2 nm_88 rfl rfl (by show d + 8 + 1 ≤ d + 1 + 8; omega) (by show 8 + (2 + 11) + (200 + 60 * d) ≤ 200 + 60 * (d + 1); omega) dk_95_20,
    List.forall_mem_cons.mpr ⟨ok_if_eq hx hb dk_95_23 (by decide),
    List.forall_mem_cons.mpr ⟨ok_iconst hx hb dk_95_26 rfl,
    List.forall_mem_cons.mpr ⟨ok_zret hx hb hb1 hb2 hr hlocks dk_95_27,
    List.forall_mem_cons.mpr ⟨ok_aload_n hx hb dk_95_28 rfl,
    List.forall_mem_cons.mpr ⟨ok_iload_n hx hb dk_95_29 rfl,
    List.forall_mem_cons.mpr ⟨ok_cV hx hb hml hown hts hb1 hb2 hA hroot hAs rfl rfl rfl (hcal_83 hall) tw_157 tw_158 tw_159 tw_160 tw_2 nm_83 rfl rfl (by show d + 8 + 1 ≤ d + 1 + 8; omega) (by show 8 + (2 + 11) + (200 + 60 * d) ≤ 200 + 60 * (d + 1); omega) dk_95_30,
    List.forall_mem_cons.mpr ⟨ok_if_eq hx hb dk_95_33 (by decide),
    List.forall_mem_cons.mpr ⟨ok_aload_n hx hb dk_95_36 rfl,
    List.forall_mem_cons.mpr ⟨ok_getr hx hb hts hown hin_1 rfl (by decide) tw_47 dk_95_37,
    List.forall_mem_cons.mpr ⟨ok_iload_n hx hb dk_95_40 rfl,
    List.forall_mem_cons.mpr ⟨ok_iald hx hb dk_95_41,
    List.forall_mem_cons.mpr ⟨ok_iload_n hx hb dk_95_42 rfl,
    List.forall_mem_cons.mpr ⟨ok_icmp_eq hx hb dk_95_43 (by decide),
    List.forall_mem_cons.mpr ⟨ok_iconst hx hb dk_95_46 rfl,
    List.forall_mem_cons.mpr ⟨ok_zret hx hb hb1 hb2 hr hlocks dk_95_47,
    List.forall_mem_cons.mpr ⟨ok_aload_n hx hb dk_95_48 rfl,
    List.forall_mem_cons.mpr ⟨ok_iload_n hx hb dk_95_49 rfl,
    List.forall_mem_cons.mpr ⟨ok_aload_n hx hb dk_95_50 rfl,
    List.forall_mem_cons.mpr ⟨ok_cV hx hb hml hown hts hb1 hb2 hA hroot hAs rfl rfl rfl (hcal_96 hall) tw_234 tw_236 ts_8 tw_237 tw_2 nm_96 rfl rfl (by show d + 8 + 1 ≤ d + 1 + 8; omega) (by show 8 + (4 + 11) + (200 + 60 * d) ≤ 200 + 60 * (d + 1); omega) dk_95_51,
    List.forall_mem_cons.mpr ⟨ok_if_ne hx hb dk_95_54 (by decide),
    List.forall_mem_cons.mpr ⟨ok_aload_n hx hb dk_95_57 rfl,
    List.forall_mem_cons.mpr ⟨ok_iload_n hx hb dk_95_58 rfl,
    List.forall_mem_cons.mpr ⟨ok_aload_n hx hb dk_95_59 rfl,
    List.forall_mem_cons.mpr ⟨ok_iload_n hx hb dk_95_60 rfl,
    List.forall_mem_cons.mpr ⟨ok_cN hx hb hml hown hts hb1 hb2 hA hroot hAs rfl rfl (hcal_30 hall) tw_239 tw_240 tw_241 tw_1 nm_30 rfl rfl (by show d + 8 + 1 ≤ d + 1 + 8; omega) (by show 8 + (4 + 11) + (200 + 60 * d) ≤ 200 + 60 * (d + 1); omega) dk_95_61,
    List.forall_mem_cons.mpr ⟨ok_aload_n hx hb dk_95_64 rfl,
    List.forall_mem_cons.mpr ⟨ok_iload_n hx hb dk_95_65 rfl,
    List.forall_mem_cons.mpr ⟨ok_cV hx hb hml hown hts hb1 hb2 hA hroot hAs rfl rfl rfl (hcal_86 hall) tw_243 tw_147 tw_148 tw_149 tw_2 nm_86 rfl rfl (by show d + 8 + 1 ≤ d + 1 + 8; omega) (by show 8 + (4 + 11) + (200 + 60 * d) ≤ 200 + 60 * (d + 1); omega) dk_95_66,
    List.forall_mem_cons.mpr ⟨ok_cV hx hb hml hown hts hb1 hb2 hA hroot hAs rfl rfl rfl (hcal_87 hall) tw_244 tw_192 tw_193 tw_194 tw_2 nm_87 rfl rfl (by show d + 8 + 1 ≤ d + 1 + 8; omega) (by show 8 + (4 + 11) + (200 + 60 * d) ≤ 200 + 60 * (d + 1); omega) dk_95_69,
    List.forall_mem_cons.mpr ⟨ok_if_eq hx hb dk_95_72 (by decide),
    List.forall_mem_cons.mpr ⟨ok_iconst hx hb dk_95_75 rfl,
    List.forall_mem_cons.mpr ⟨ok_goto hx hb dk_95_76 (by decide),
    List.forall_mem_cons.mpr ⟨ok_iconst hx hb dk_95_79 rfl,
    List.forall_mem_cons.mpr ⟨ok_zret hx hb hb1 hb2 hr hlocks dk_95_80,
    fun _ h => absurd h List.not_mem_nil⟩⟩⟩⟩⟩⟩⟩⟩⟩⟩⟩⟩⟩⟩⟩⟩⟩⟩⟩⟩⟩⟩⟩⟩⟩⟩⟩⟩⟩⟩⟩⟩⟩⟩⟩⟩⟩⟩⟩⟩⟩⟩⟩⟩⟩⟩⟩⟩⟩
theorem dk_96_0 : decode prog_3_method_18_code 0 = .ok (.iconst (0), 1) := by decide +kernel
theorem dk_96_1 : decode prog_3_method_18_code 1 = .ok (.istore_n 3, 1) := by decide +kernel
theorem dk_96_2 : decode prog_3_method_18_code 2 = .ok (.iload_n 3, 1) := by decide +kernel
theorem dk_96_3 : decode prog_3_method_18_code 3 = .ok (.bipush (7), 2) := by decide +kernel
theorem dk_96_5 : decode prog_3_method_18_code 5 = .ok (.if_icmp .ge (43), 3) := by decide +kernel
theorem dk_96_8 : decode prog_3_method_18_code 8 = .ok (.aload_n 2, 1) := by decide +kernel
theorem dk_96_9 : decode prog_3_method_18_code 9 = .ok (.iload_n 3, 1) := by decide +kernel
theorem dk_96_10 : decode prog_3_method_18_code 10 = .ok (.iaload, 1) := by decide +kernel
theorem dk_96_11 : decode prog_3_method_18_code 11 = .ok (.iconst (-1), 1) := by decide +kernel
theorem dk_96_12 : decode prog_3_method_18_code 12 = .ok (.if_icmp .eq (30), 3) := by decide +kernel
theorem dk_96_15 : decode prog_3_method_18_code 15 = .ok (.aload_n 2, 1) := by decide +kernel
theorem dk_96_16 : decode prog_3_method_18_code 16 = .ok (.iload_n 3, 1) := by decide +kernel
theorem dk_96_17 : decode prog_3_method_18_code 17 = .ok (.iload_n 1, 1) := by decide +kernel
theorem dk_96_18 : decode prog_3_method_18_code 18 = .ok (.invokestatic 65, 3) := by decide +kernel
theorem dk_96_21 : decode prog_3_method_18_code 21 = .ok (.ifCond .eq (21), 3) := by decide +kernel
theorem dk_96_24 : decode prog_3_method_18_code 24 = .ok (.aload_n 2, 1) := by decide +kernel
theorem dk_96_25 : decode prog_3_method_18_code 25 = .ok (.iload_n 1, 1) := by decide +kernel
theorem dk_96_26 : decode prog_3_method_18_code 26 = .ok (.iaload, 1) := by decide +kernel
theorem dk_96_27 : decode prog_3_method_18_code 27 = .ok (.aload_n 2, 1) := by decide +kernel
theorem dk_96_28 : decode prog_3_method_18_code 28 = .ok (.iload_n 3, 1) := by decide +kernel
theorem dk_96_29 : decode prog_3_method_18_code 29 = .ok (.iaload, 1) := by decide +kernel
theorem dk_96_30 : decode prog_3_method_18_code 30 = .ok (.isub, 1) := by decide +kernel
theorem dk_96_31 : decode prog_3_method_18_code 31 = .ok (.aload_n 0, 1) := by decide +kernel
theorem dk_96_32 : decode prog_3_method_18_code 32 = .ok (.iload_n 3, 1) := by decide +kernel
theorem dk_96_33 : decode prog_3_method_18_code 33 = .ok (.iload_n 1, 1) := by decide +kernel
theorem dk_96_34 : decode prog_3_method_18_code 34 = .ok (.invokevirtual 93, 3) := by decide +kernel
theorem dk_96_37 : decode prog_3_method_18_code 37 = .ok (.if_icmp .ge (5), 3) := by decide +kernel
theorem dk_96_40 : decode prog_3_method_18_code 40 = .ok (.iconst (1), 1) := by decide +kernel
theorem dk_96_41 : decode prog_3_method_18_code 41 = .ok (.ireturn, 1) := by decide +kernel
theorem dk_96_42 : decode prog_3_method_18_code 42 = .ok (.iinc 3 (1), 3) := by decide +kernel
theorem dk_96_45 : decode prog_3_method_18_code 45 = .ok (.goto (-43), 3) := by decide +kernel
theorem dk_96_48 : decode prog_3_method_18_code 48 = .ok (.iconst (0), 1) := by decide +kernel
theorem dk_96_49 : decode prog_3_method_18_code 49 = .ok (.ireturn, 1) := by decide +kernel
set_option maxRecDepth 100000 in
set_option maxHeartbeats 4000000 in
theorem cc_96 {l : Launch} {s0 : State} (hst : l.stackTraces = false) (h0 : am_W0 s0) {d : Nat} (hall : ∀ mi ∈ am_idx, am_CC l s0 d mi) : am_CC l s0 (d + 1) 96 :=
  am_method (y := y_96) (cc := prog_3_method_18_code) (maxL := 4) (ret := (some .boolean)) (rm := am_rm (d + 1) 0 0) (ops := op_96) (C := am_T am_tabs am_ar d) (ar := 3) h0 (by decide) (by decide) fun p e s m args below meth c D A bS ad0 Q hct htab => by
    obtain ⟨hx, hb, hml, hown, hts, hb1, hb2, hA, hroot, hAs, -, -, hlocks, hr, hnm⟩ := hct
    exact List.forall_mem_cons.mpr ⟨ok_iconst hx hb dk_96_0 rfl,
    List.forall_mem_cons.mpr ⟨ok_istore_n hx hb dk_96_1 rfl (by decide),
    List.forall_mem_cons.mpr ⟨ok_iload_n hx hb dk_96_2 rfl,
    List.forall_mem_cons.mpr ⟨ok_bipush hx hb dk_96_3 (by decide),
    List.forall_mem_cons.mpr ⟨ok_icmp_ge hx hb dk_96_5 (by decide),
    List.forall_mem_cons.mpr ⟨ok_aload_n hx hb dk_96_8 rfl,
    List.forall_mem_cons.mpr ⟨ok_iload_n hx hb dk_96_9 rfl,
    List.forall_mem_cons.mpr ⟨ok_iald hx hb dk_96_10,
    List.forall_mem_cons.mpr ⟨ok_iconst hx hb dk_96_11 rfl,
    List.forall_mem_cons.mpr ⟨ok_icmp_eq hx hb dk_96_12 (by decide),
    List.forall_mem_cons.mpr ⟨ok_aload_n hx hb dk_96_15 rfl,
    List.forall_mem_cons.mpr ⟨ok_iload_n hx hb dk_96_16 rfl,
    List.forall_mem_cons.mpr ⟨ok_iload_n hx hb dk_96_17 rfl,
    List.forall_mem_cons.mpr ⟨ok_cN hx hb hml hown hts hb1 hb2 hA hroot hAs rfl rfl (hcal_29 hall) tw_150 tw_151 tw_152 tw_1 nm_29 rfl rfl (by show d + 8 + 1 ≤ d + 1 + 8; omega) (by show 8 + (3 + 11) + (200 + 60 * d) ≤ 200 + 60 * (d + 1); omega) dk_96_18,
    List.forall_mem_cons.mpr ⟨ok_if_eq hx hb dk_96_21 (by decide),
    List.forall_mem_cons.mpr ⟨ok_aload_n hx hb dk_96_24 rfl,
    List.forall_mem_cons.mpr ⟨ok_iload_n hx hb dk_96_25 rfl,
    List.forall_mem_cons.mpr ⟨ok_iald hx hb dk_96_26,
    List.forall_mem_cons.mpr ⟨ok_aload_n hx hb dk_96_27 rfl,
    List.forall_mem_cons.mpr ⟨ok_iload_n hx hb dk_96_28 rfl,
    List.forall_mem_cons.mpr ⟨ok_iald hx hb dk_96_29,
    List.forall_mem_cons.mpr ⟨ok_isub hx hb dk_96_30,
    List.forall_mem_cons.mpr ⟨ok_aload_n hx hb dk_96_31 rfl,
    List.forall_mem_cons.mpr ⟨ok_iload_n hx hb dk_96_32 rfl,
    List.forall_mem_cons.mpr ⟨ok_iload_n hx hb dk_96_33 rfl,
    List.forall_mem_cons.mpr ⟨ok_cV hx hb hml hown hts hb1 hb2 hA hroot hAs rfl rfl rfl (hcal_84 hall) tw_238 tw_203 tw_204 tw_205 tw_2 nm_84 rfl rfl (by show d + 8 + 1 ≤ d + 1 + 8; omega) (by show 8 + (3 + 11) + (200 + 60 * d) ≤ 200 + 60 * (d + 1); omega) dk_96_34,
    List.forall_mem_cons.mpr ⟨ok_icmp_ge hx hb dk_96_37 (by decide),
    List.forall_mem_cons.mpr ⟨ok_iconst hx hb dk_96_40 rfl,
    List.forall_mem_cons.mpr ⟨ok_zret hx hb hb1 hb2 hr hlocks dk_96_41,
    List.forall_mem_cons.mpr ⟨ok_iinc hx hb dk_96_42 rfl (by decide),
    List.forall_mem_cons.mpr ⟨ok_goto hx hb dk_96_45 (by decide),
    List.forall_mem_cons.mpr ⟨ok_iconst hx hb dk_96_48 rfl,
    List.forall_mem_cons.mpr ⟨ok_zret hx hb hb1 hb2 hr hlocks dk_96_49,
    fun _ h => absurd h List.not_mem_nil⟩⟩⟩⟩⟩⟩⟩⟩⟩⟩⟩⟩⟩⟩⟩⟩⟩⟩⟩⟩⟩⟩⟩⟩⟩⟩⟩⟩⟩⟩⟩⟩⟩
