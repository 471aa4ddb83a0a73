/-! contracts: 53.model1 (laid by wip/whole/gen.py) -/
theorem dk_31_0 : decode prog_5_method_1_code 0 = .ok (.aload_n 0, 1) := by decide +kernel
theorem dk_31_1 : decode prog_5_method_1_code 1 = .ok (.invokespecial 1, 3) := by decide +kernel
theorem dk_31_4 : decode prog_5_method_1_code 4 = .ok (.aload_n 0, 1) := by decide +kernel
theorem dk_31_5 : decode prog_5_method_1_code 5 = .ok (.bipush (7), 2) := by decide +kernel
theorem dk_31_7 : decode prog_5_method_1_code 7 = .ok (.newarray .boolean, 2) := by decide +kernel
theorem dk_31_9 : decode prog_5_method_1_code 9 = .ok (.putfield 7, 3) := by decide +kernel
theorem dk_31_12 : decode prog_5_method_1_code 12 = .ok (.aload_n 0, 1) := by decide +kernel
theorem dk_31_13 : decode prog_5_method_1_code 13 = .ok (.bipush (7), 2) := by decide +kernel
theorem dk_31_15 : decode prog_5_method_1_code 15 = .ok (.newarray .int, 2) := by decide +kernel
theorem dk_31_17 : decode prog_5_method_1_code 17 = .ok (.putfield 13, 3) := by decide +kernel
theorem dk_31_20 : decode prog_5_method_1_code 20 = .ok (.aload_n 0, 1) := by decide +kernel
theorem dk_31_21 : decode prog_5_method_1_code 21 = .ok (.bipush (7), 2) := by decide +kernel
theorem dk_31_23 : decode prog_5_method_1_code 23 = .ok (.newarray .int, 2) := by decide +kernel
theorem dk_31_25 : decode prog_5_method_1_code 25 = .ok (.putfield 17, 3) := by decide +kernel
theorem dk_31_28 : decode prog_5_method_1_code 28 = .ok (.aload_n 0, 1) := by decide +kernel
theorem dk_31_29 : decode prog_5_method_1_code 29 = .ok (.bipush (7), 2) := by decide +kernel
theorem dk_31_31 : decode prog_5_method_1_code 31 = .ok (.newarray .int, 2) := by decide +kernel
theorem dk_31_33 : decode prog_5_method_1_code 33 = .ok (.putfield 20, 3) := by decide +kernel
theorem dk_31_36 : decode prog_5_method_1_code 36 = .ok (.aload_n 0, 1) := by decide +kernel
theorem dk_31_37 : decode prog_5_method_1_code 37 = .ok (.bipush (7), 2) := by decide +kernel
theorem dk_31_39 : decode prog_5_method_1_code 39 = .ok (.newarray .int, 2) := by decide +kernel
theorem dk_31_41 : decode prog_5_method_1_code 41 = .ok (.putfield 23, 3) := by decide +kernel
theorem dk_31_44 : decode prog_5_method_1_code 44 = .ok (.aload_n 0, 1) := by decide +kernel
theorem dk_31_45 : decode prog_5_method_1_code 45 = .ok (.bipush (7), 2) := by decide +kernel
theorem dk_31_47 : decode prog_5_method_1_code 47 = .ok (.newarray .int, 2) := by decide +kernel
theorem dk_31_49 : decode prog_5_method_1_code 49 = .ok (.putfield 26, 3) := by decide +kernel
theorem dk_31_52 : decode prog_5_method_1_code 52 = .ok (.aload_n 0, 1) := by decide +kernel
theorem dk_31_53 : decode prog_5_method_1_code 53 = .ok (.bipush (7), 2) := by decide +kernel
theorem dk_31_55 : decode prog_5_method_1_code 55 = .ok (.newarray .int, 2) := by decide +kernel
theorem dk_31_57 : decode prog_5_method_1_code 57 = .ok (.putfield 29, 3) := by decide +kernel
theorem dk_31_60 : decode prog_5_method_1_code 60 = .ok (.aload_n 0, 1) := by decide +kernel
theorem dk_31_61 : decode prog_5_method_1_code 61 = .ok (.bipush (36), 2) := by decide +kernel
theorem dk_31_63 : decode prog_5_method_1_code 63 = .ok (.newarray .int, 2) := by decide +kernel
theorem dk_31_65 : decode prog_5_method_1_code 65 = .ok (.putfield 32, 3) := by decide +kernel
theorem dk_31_68 : decode prog_5_method_1_code 68 = .ok (.aload_n 0, 1) := by decide +kernel
theorem dk_31_69 : decode prog_5_method_1_code 69 = .ok (.iconst (4), 1) := by decide +kernel
theorem dk_31_70 : decode prog_5_method_1_code 70 = .ok (.newarray .int, 2) := by decide +kernel
theorem dk_31_72 : decode prog_5_method_1_code 72 = .ok (.putfield 35, 3) := by decide +kernel
theorem dk_31_75 : decode prog_5_method_1_code 75 = .ok (.aload_n 0, 1) := by decide +kernel
theorem dk_31_76 : decode prog_5_method_1_code 76 = .ok (.iconst (4), 1) := by decide +kernel
theorem dk_31_77 : decode prog_5_method_1_code 77 = .ok (.newarray .int, 2) := by decide +kernel
theorem dk_31_79 : decode prog_5_method_1_code 79 = .ok (.putfield 38, 3) := by decide +kernel
theorem dk_31_82 : decode prog_5_method_1_code 82 = .ok (.aload_n 0, 1) := by decide +kernel
theorem dk_31_83 : decode prog_5_method_1_code 83 = .ok (.bipush (6), 2) := by decide +kernel
theorem dk_31_85 : decode prog_5_method_1_code 85 = .ok (.putfield 41, 3) := by decide +kernel
theorem dk_31_88 : decode prog_5_method_1_code 88 = .ok (.aload_n 0, 1) := by decide +kernel
theorem dk_31_89 : decode prog_5_method_1_code 89 = .ok (.bipush (7), 2) := by decide +kernel
theorem dk_31_91 : decode prog_5_method_1_code 91 = .ok (.newarray .int, 2) := by decide +kernel
theorem dk_31_93 : decode prog_5_method_1_code 93 = .ok (.putfield 45, 3) := by decide +kernel
theorem dk_31_96 : decode prog_5_method_1_code 96 = .ok (.aload_n 0, 1) := by decide +kernel
theorem dk_31_97 : decode prog_5_method_1_code 97 = .ok (.bipush (7), 2) := by decide +kernel
theorem dk_31_99 : decode prog_5_method_1_code 99 = .ok (.newarray .int, 2) := by decide +kernel
theorem dk_31_101 : decode prog_5_method_1_code 101 = .ok (.putfield 48, 3) := by decide +kernel
theorem dk_31_104 : decode prog_5_method_1_code 104 = .ok (.aload_n 0, 1) := by decide +kernel
theorem dk_31_105 : decode prog_5_method_1_code 105 = .ok (.bipush (7), 2) := by decide +kernel
theorem dk_31_107 : decode prog_5_method_1_code 107 = .ok (.newarray .int, 2) := by decide +kernel
theorem dk_31_109 : decode prog_5_method_1_code 109 = .ok (.putfield 51, 3) := by decide +kernel
theorem dk_31_112 : decode prog_5_method_1_code 112 = .ok (.aload_n 0, 1) := by decide +kernel
theorem dk_31_113 : decode prog_5_method_1_code 113 = .ok (.bipush (8), 2) := by decide +kernel
theorem dk_31_115 : decode prog_5_method_1_code 115 = .ok (.newarray .int, 2) := by decide +kernel
theorem dk_31_117 : decode prog_5_method_1_code 117 = .ok (.putfield 54, 3) := by decide +kernel
theorem dk_31_120 : decode prog_5_method_1_code 120 = .ok (.aload_n 0, 1) := by decide +kernel
theorem dk_31_121 : decode prog_5_method_1_code 121 = .ok (.bipush (7), 2) := by decide +kernel
theorem dk_31_123 : decode prog_5_method_1_code 123 = .ok (.newarray .boolean, 2) := by decide +kernel
theorem dk_31_125 : decode prog_5_method_1_code 125 = .ok (.putfield 57, 3) := by decide +kernel
theorem dk_31_128 : decode prog_5_method_1_code 128 = .ok (.aload_n 0, 1) := by decide +kernel
theorem dk_31_129 : decode prog_5_method_1_code 129 = .ok (.bipush (7), 2) := by decide +kernel
theorem dk_31_131 : decode prog_5_method_1_code 131 = .ok (.newarray .int, 2) := by decide +kernel
theorem dk_31_133 : decode prog_5_method_1_code 133 = .ok (.putfield 60, 3) := by decide +kernel
theorem dk_31_136 : decode prog_5_method_1_code 136 = .ok (.aload_n 0, 1) := by decide +kernel
theorem dk_31_137 : decode prog_5_method_1_code 137 = .ok (.bipush (8), 2) := by decide +kernel
theorem dk_31_139 : decode prog_5_method_1_code 139 = .ok (.newarray .int, 2) := by decide +kernel
theorem dk_31_141 : decode prog_5_method_1_code 141 = .ok (.putfield 63, 3) := by decide +kernel
theorem dk_31_144 : decode prog_5_method_1_code 144 = .ok (.aload_n 0, 1) := by decide +kernel
theorem dk_31_145 : decode prog_5_method_1_code 145 = .ok (.bipush (7), 2) := by decide +kernel
theorem dk_31_147 : decode prog_5_method_1_code 147 = .ok (.newarray .int, 2) := by decide +kernel
theorem dk_31_149 : decode prog_5_method_1_code 149 = .ok (.putfield 66, 3) := by decide +kernel
theorem dk_31_152 : decode prog_5_method_1_code 152 = .ok (.iconst (0), 1) := by decide +kernel
theorem dk_31_153 : decode prog_5_method_1_code 153 = .ok (.istore_n 1, 1) := by decide +kernel
theorem dk_31_154 : decode prog_5_method_1_code 154 = .ok (.iload_n 1, 1) := by decide +kernel
theorem dk_31_155 : decode prog_5_method_1_code 155 = .ok (.bipush (36), 2) := by decide +kernel
theorem dk_31_157 : decode prog_5_method_1_code 157 = .ok (.if_icmp .ge (17), 3) := by decide +kernel
theorem dk_31_160 : decode prog_5_method_1_code 160 = .ok (.aload_n 0, 1) := by decide +kernel
theorem dk_31_161 : decode prog_5_method_1_code 161 = .ok (.getfield 32, 3) := by decide +kernel
theorem dk_31_164 : decode prog_5_method_1_code 164 = .ok (.iload_n 1, 1) := by decide +kernel
theorem dk_31_165 : decode prog_5_method_1_code 165 = .ok (.bipush (60), 2) := by decide +kernel
theorem dk_31_167 : decode prog_5_method_1_code 167 = .ok (.iastore, 1) := by decide +kernel
theorem dk_31_168 : decode prog_5_method_1_code 168 = .ok (.iinc 1 (1), 3) := by decide +kernel
theorem dk_31_171 : decode prog_5_method_1_code 171 = .ok (.goto (-17), 3) := by decide +kernel
theorem dk_31_174 : decode prog_5_method_1_code 174 = .ok (.iconst (0), 1) := by decide +kernel
theorem dk_31_175 : decode prog_5_method_1_code 175 = .ok (.istore_n 1, 1) := by decide +kernel
theorem dk_31_176 : decode prog_5_method_1_code 176 = .ok (.iload_n 1, 1) := by decide +kernel
theorem dk_31_177 : decode prog_5_method_1_code 177 = .ok (.bipush (7), 2) := by decide +kernel
theorem dk_31_179 : decode prog_5_method_1_code 179 = .ok (.if_icmp .ge (30), 3) := by decide +kernel
theorem dk_31_182 : decode prog_5_method_1_code 182 = .ok (.aload_n 0, 1) := by decide +kernel
theorem dk_31_183 : decode prog_5_method_1_code 183 = .ok (.getfield 45, 3) := by decide +kernel
theorem dk_31_186 : decode prog_5_method_1_code 186 = .ok (.iload_n 1, 1) := by decide +kernel
theorem dk_31_187 : decode prog_5_method_1_code 187 = .ok (.iconst (-1), 1) := by decide +kernel
theorem dk_31_188 : decode prog_5_method_1_code 188 = .ok (.iastore, 1) := by decide +kernel
theorem dk_31_189 : decode prog_5_method_1_code 189 = .ok (.aload_n 0, 1) := by decide +kernel
theorem dk_31_190 : decode prog_5_method_1_code 190 = .ok (.getfield 48, 3) := by decide +kernel
theorem dk_31_193 : decode prog_5_method_1_code 193 = .ok (.iload_n 1, 1) := by decide +kernel
theorem dk_31_194 : decode prog_5_method_1_code 194 = .ok (.iconst (-1), 1) := by decide +kernel
theorem dk_31_195 : decode prog_5_method_1_code 195 = .ok (.iastore, 1) := by decide +kernel
theorem dk_31_196 : decode prog_5_method_1_code 196 = .ok (.aload_n 0, 1) := by decide +kernel
theorem dk_31_197 : decode prog_5_method_1_code 197 = .ok (.getfield 29, 3) := by decide +kernel
theorem dk_31_200 : decode prog_5_method_1_code 200 = .ok (.iload_n 1, 1) := by decide +kernel
theorem dk_31_201 : decode prog_5_method_1_code 201 = .ok (.iconst (-1), 1) := by decide +kernel
theorem dk_31_202 : decode prog_5_method_1_code 202 = .ok (.iastore, 1) := by decide +kernel
theorem dk_31_203 : decode prog_5_method_1_code 203 = .ok (.iinc 1 (1), 3) := by decide +kernel
theorem dk_31_206 : decode prog_5_method_1_code 206 = .ok (.goto (-30), 3) := by decide +kernel
theorem dk_31_209 : decode prog_5_method_1_code 209 = .ok (.return_, 1) := by decide +kernel
set_option maxRecDepth 100000 in
set_option maxHeartbeats 4000000 in
theorem cc_31 {l : Launch} {s0 : State} (hst : l.stackTraces = false) (h0 : am_W0 s0) {d : Nat} (hall : ∀ mi ∈ am_idx, am_CC l s0 d mi) : am_CC l s0 (d + 1) 31 :=
  am_method (y := y_31) (cc := prog_5_method_1_code) (maxL := 2) (ret := none) (rm := am_rm (d + 1) 18 151) (ops := op_31) (C := am_T am_tabs am_ar d) (ar := 1) h0 (by decide) (by decide) fun p e s m args below meth c D A bS ad0 Q hct htab => by
    obtain ⟨hx, hb, hml, hown, hts, hb1, hb2, hA, hroot, hAs, -, -, hlocks, hr, hnm⟩ := hct
    exact List.forall_mem_cons.mpr ⟨ok_aload_n hx hb dk_31_0 rfl,
    List.forall_mem_cons.mpr ⟨ok_oinit hx hb hts hown hml tw_532 tw_21 tw_22 rfl (by show 1 ≤ d + 1 + 8; omega) (by show 20 ≤ 200 + 60 * (d + 1); omega) dk_31_1,
    List.forall_mem_cons.mpr ⟨ok_aload_n hx hb dk_31_4 rfl,
    List.forall_mem_cons.mpr ⟨ok_bipush hx hb dk_31_5 (by decide),
    List.forall_mem_cons.mpr ⟨ok_newa_boolean hx hb hts hA tw_88 rfl rfl dk_31_7,
    List.forall_mem_cons.mpr ⟨ok_putr hx hb hts hown hin_3 tyF_3 tyF_3_ok nmF_3 rfl (by decide) tw_534 rfl hnm rfl (tyF_3_ok 1 (by decide)) (fun _ => rfl) (fun _ => rfl) dk_31_9,
    List.forall_mem_cons.mpr ⟨ok_aload_n hx hb dk_31_12 rfl,
    List.forall_mem_cons.mpr ⟨ok_bipush hx hb dk_31_13 (by decide),
    List.forall_mem_cons.mpr ⟨ok_newa_int hx hb hts hA tw_89 rfl rfl dk_31_15,
    List.forall_mem_cons.mpr ⟨ok_putr hx hb hts hown hin_3 tyF_3 tyF_3_ok nmF_3 rfl (by decide) tw_535 rfl hnm rfl (tyF_3_ok 2 (by decide)) (fun _ => rfl) (fun _ => rfl) dk_31_17,
    List.forall_mem_cons.mpr ⟨ok_aload_n hx hb dk_31_20 rfl,
    List.forall_mem_cons.mpr ⟨ok_bipush hx hb dk_31_21 (by decide),
    List.forall_mem_cons.mpr ⟨ok_newa_int hx hb hts hA tw_89 rfl rfl dk_31_23,
    List.forall_mem_cons.mpr ⟨ok_putr hx hb hts hown hin_3 tyF_3 tyF_3_ok nmF_3 rfl (by decide) tw_536 rfl hnm rfl (tyF_3_ok 3 (by decide)) (fun _ => rfl) (fun _ => rfl) dk_31_25,
    List.forall_mem_cons.mpr ⟨ok_aload_n hx hb dk_31_28 rfl,
    List.forall_mem_cons.mpr ⟨ok_bipush hx hb dk_31_29 (by decide),
    List.forall_mem_cons.mpr ⟨ok_newa_int hx hb hts hA tw_89 rfl rfl dk_31_31,
    List.forall_mem_cons.mpr ⟨ok_putr hx hb hts hown hin_3 tyF_3 tyF_3_ok nmF_3 rfl (by decide) tw_537 rfl hnm rfl (tyF_3_ok 4 (by decide)) (fun _ => rfl) (fun _ => rfl) dk_31_33,
    List.forall_mem_cons.mpr ⟨ok_aload_n hx hb dk_31_36 rfl,
    List.forall_mem_cons.mpr ⟨ok_bipush hx hb dk_31_37 (by decide),
    List.forall_mem_cons.mpr ⟨ok_newa_int hx hb hts hA tw_89 rfl rfl dk_31_39,
    List.forall_mem_cons.mpr ⟨ok_putr hx hb hts hown hin_3 tyF_3 tyF_3_ok nmF_3 rfl (by decide) tw_538 rfl hnm rfl (tyF_3_ok 5 (by decide)) (fun _ => rfl) (fun _ => rfl) dk_31_41,
    List.forall_mem_cons.mpr ⟨ok_aload_n hx hb dk_31_44 rfl,
    List.forall_mem_cons.mpr ⟨ok_bipush hx hb dk_31_45 (by decide),
    List.forall_mem_cons.mpr ⟨ok_newa_int hx hb hts hA tw_89 rfl rfl dk_31_47,
    List.forall_mem_cons.mpr ⟨ok_putr hx hb hts hown hin_3 tyF_3 tyF_3_ok nmF_3 rfl (by decide) tw_539 rfl hnm rfl (tyF_3_ok 6 (by decide)) (fun _ => rfl) (fun _ => rfl) dk_31_49,
    List.forall_mem_cons.mpr ⟨ok_aload_n hx hb dk_31_52 rfl,
    List.forall_mem_cons.mpr ⟨ok_bipush hx hb dk_31_53 (by decide),
    List.forall_mem_cons.mpr ⟨ok_newa_int hx hb hts hA tw_89 rfl rfl dk_31_55,
    List.forall_mem_cons.mpr ⟨ok_putr hx hb hts hown hin_3 tyF_3 tyF_3_ok nmF_3 rfl (by decide) tw_540 rfl hnm rfl (tyF_3_ok 7 (by decide)) (fun _ => rfl) (fun _ => rfl) dk_31_57,
    List.forall_mem_cons.mpr ⟨ok_aload_n hx hb dk_31_60 rfl,
    List.forall_mem_cons.mpr ⟨ok_bipush hx hb dk_31_61 (by decide),
    List.forall_mem_cons.mpr ⟨ok_newa_int hx hb hts hA tw_89 rfl rfl dk_31_63,
    List.forall_mem_cons.mpr ⟨ok_putr hx hb hts hown hin_3 tyF_3 tyF_3_ok nmF_3 rfl (by decide) tw_541 rfl hnm rfl (tyF_3_ok 8 (by decide)) (fun _ => rfl) (fun _ => rfl) dk_31_65,
    List.forall_mem_cons.mpr ⟨ok_aload_n hx hb dk_31_68 rfl,
    List.forall_mem_cons.mpr ⟨ok_iconst hx hb dk_31_69 rfl,
    List.forall_mem_cons.mpr ⟨ok_newa_int hx hb hts hA tw_89 rfl rfl dk_31_70,
    List.forall_mem_cons.mpr ⟨ok_putr hx hb hts hown hin_3 tyF_3 tyF_3_ok nmF_3 rfl (by decide) tw_543 rfl hnm rfl (tyF_3_ok 10 (by decide)) (fun _ => rfl) (fun _ => rfl) dk_31_72,
    List.forall_mem_cons.mpr ⟨ok_aload_n hx hb dk_31_75 rfl,
    List.forall_mem_cons.mpr ⟨ok_iconst hx hb dk_31_76 rfl,
    List.forall_mem_cons.mpr ⟨ok_newa_int hx hb hts hA tw_89 rfl rfl dk_31_77,
    List.forall_mem_cons.mpr ⟨ok_putr hx hb hts hown hin_3 tyF_3 tyF_3_ok nmF_3 rfl (by decide) tw_544 rfl hnm rfl (tyF_3_ok 11 (by decide)) (fun _ => rfl) (fun _ => rfl) dk_31_79,
    List.forall_mem_cons.mpr ⟨ok_aload_n hx hb dk_31_82 rfl,
    List.forall_mem_cons.mpr ⟨ok_bipush hx hb dk_31_83 (by decide),
    List.forall_mem_cons.mpr ⟨ok_puti hx hb hts hown hin_3 tyF_3 tyF_3_ok nmF_3 rfl (by decide) tw_545 rfl (by decide +kernel) dk_31_85,
    List.forall_mem_cons.mpr ⟨ok_aload_n hx hb dk_31_88 rfl,
    List.forall_mem_cons.mpr ⟨ok_bipush hx hb dk_31_89 (by decide),
    List.forall_mem_cons.mpr ⟨ok_newa_int hx hb hts hA tw_89 rfl rfl dk_31_91,
    List.forall_mem_cons.mpr ⟨ok_putr hx hb hts hown hin_3 tyF_3 tyF_3_ok nmF_3 rfl (by decide) tw_546 rfl hnm rfl (tyF_3_ok 13 (by decide)) (fun _ => rfl) (fun _ => rfl) dk_31_93,
    List.forall_mem_cons.mpr ⟨ok_aload_n hx hb dk_31_96 rfl,
    List.forall_mem_cons.mpr ⟨ok_bipush hx hb dk_31_97 (by decide),
    List.forall_mem_cons.mpr ⟨ok_newa_int hx hb hts hA tw_89 rfl rfl dk_31_99,
    List.forall_mem_cons.mpr ⟨ok_putr hx hb hts hown hin_3 tyF_3 tyF_3_ok nmF_3 rfl (by decide) tw_547 rfl hnm rfl (tyF_3_ok 14 (by decide)) (fun _ => rfl) (fun _ => rfl) dk_31_101,
    List.forall_mem_cons.mpr ⟨ok_aload_n hx hb dk_31_104 rfl,
    List.forall_mem_cons.mpr ⟨ok_bipush hx hb dk_31_105 (by decide),
    List.forall_mem_cons.mpr ⟨ok_newa_int hx hb hts hA tw_89 rfl rfl dk_31_107,
    List.forall_mem_cons.mpr ⟨ok_putr hx hb hts hown hin_3 tyF_3 tyF_3_ok nmF_3 rfl (by decide) tw_549 rfl hnm rfl (tyF_3_ok 16 (by decide)) (fun _ => rfl) (fun _ => rfl) dk_31_109,
    List.forall_mem_cons.mpr ⟨ok_aload_n hx hb dk_31_112 rfl,
    List.forall_mem_cons.mpr ⟨ok_bipush hx hb dk_31_113 (by decide),
    List.forall_mem_cons.mpr ⟨ok_newa_int hx hb hts hA tw_89 rfl rfl dk_31_115,
    List.forall_mem_cons.mpr ⟨ok_putr hx hb hts hown hin_3 tyF_3 tyF_3_ok nmF_3 rfl (by decide) tw_550 rfl hnm rfl (tyF_3_ok 17 (by decide)) (fun _ => rfl) (fun _ => rfl) dk_31_117,
    List.forall_mem_cons.mpr ⟨ok_aload_n hx hb dk_31_120 rfl,
    List.forall_mem_cons.mpr ⟨ok_bipush hx hb dk_31_121 (by decide),
    List.forall_mem_cons.mpr ⟨ok_newa_boolean hx hb hts hA tw_88 rfl rfl dk_31_123,
    List.forall_mem_cons.mpr ⟨ok_putr hx hb hts hown hin_3 tyF_3 tyF_3_ok nmF_3 rfl (by decide) tw_551 rfl hnm rfl (tyF_3_ok 18 (by decide)) (fun _ => rfl) (fun _ => rfl) dk_31_125,
    List.forall_mem_cons.mpr ⟨ok_aload_n hx hb dk_31_128 rfl,
    List.forall_mem_cons.mpr ⟨ok_bipush hx hb dk_31_129 (by decide),
    List.forall_mem_cons.mpr ⟨ok_newa_int hx hb hts hA tw_89 rfl rfl dk_31_131,
    List.forall_mem_cons.mpr ⟨ok_putr hx hb hts hown hin_3 tyF_3 tyF_3_ok nmF_3 rfl (by decide) tw_552 rfl hnm rfl (tyF_3_ok 19 (by decide)) (fun _ => rfl) (fun _ => rfl) dk_31_133,
    List.forall_mem_cons.mpr ⟨ok_aload_n hx hb dk_31_136 rfl,
    List.forall_mem_cons.mpr ⟨ok_bipush hx hb dk_31_137 (by decide),
    List.forall_mem_cons.mpr ⟨ok_newa_int hx hb hts hA tw_89 rfl rfl dk_31_139,
    List.forall_mem_cons.mpr ⟨ok_putr hx hb hts hown hin_3 tyF_3 tyF_3_ok nmF_3 rfl (by decide) tw_553 rfl hnm rfl (tyF_3_ok 20 (by decide)) (fun _ => rfl) (fun _ => rfl) dk_31_141,
    List.forall_mem_cons.mpr ⟨ok_aload_n hx hb dk_31_144 rfl,
    List.forall_mem_cons.mpr ⟨ok_bipush hx hb dk_31_145 (by decide),
    List.forall_mem_cons.mpr ⟨ok_newa_int hx hb hts hA tw_89 rfl rfl dk_31_147,
    List.forall_mem_cons.mpr ⟨ok_putr hx hb hts hown hin_3 tyF_3 tyF_3_ok nmF_3 rfl (by decide) tw_554 rfl hnm rfl (tyF_3_ok 21 (by decide)) (fun _ => rfl) (fun _ => rfl) dk_31_149,
    List.forall_mem_cons.mpr ⟨ok_iconst hx hb dk_31_152 rfl,
    List.forall_mem_cons.mpr ⟨ok_istore_n hx hb dk_31_153 rfl (by decide),
    List.forall_mem_cons.mpr ⟨ok_iload_n hx hb dk_31_154 rfl,
    List.forall_mem_cons.mpr ⟨ok_bipush hx hb dk_31_155 (by decide),
    List.forall_mem_cons.mpr ⟨ok_icmp_ge hx hb dk_31_157 (by decide),
    List.forall_mem_cons.mpr ⟨ok_aload_n hx hb dk_31_160 rfl,
    List.forall_mem_cons.mpr ⟨ok_getr hx hb hts hown hin_3 rfl (by decide) tw_541 dk_31_161,
    List.forall_mem_cons.mpr ⟨ok_iload_n hx hb dk_31_164 rfl,
    List.forall_mem_cons.mpr ⟨ok_bipush hx hb dk_31_165 (by decide),
    List.forall_mem_cons.mpr ⟨ok_iast hx hb dk_31_167,
    List.forall_mem_cons.mpr ⟨ok_iinc hx hb dk_31_168 rfl (by decide),
    List.forall_mem_cons.mpr ⟨ok_goto hx hb dk_31_171 (by decide),
    List.forall_mem_cons.mpr ⟨ok_iconst hx hb dk_31_174 rfl,
    List.forall_mem_cons.mpr ⟨ok_istore_n hx hb dk_31_175 rfl (by decide),
    List.forall_mem_cons.mpr ⟨ok_iload_n hx hb dk_31_176 rfl,
    List.forall_mem_cons.mpr ⟨ok_bipush hx hb dk_31_177 (by decide),
    List.forall_mem_cons.mpr ⟨ok_icmp_ge hx hb dk_31_179 (by decide),
    List.forall_mem_cons.mpr ⟨ok_aload_n hx hb dk_31_182 rfl,
    List.forall_mem_cons.mpr ⟨ok_getr hx hb hts hown hin_3 rfl (by decide) tw_546 dk_31_183,
    List.forall_mem_cons.mpr ⟨ok_iload_n hx hb dk_31_186 rfl,
    List.forall_mem_cons.mpr ⟨ok_iconst hx hb dk_31_187 rfl,
    List.forall_mem_cons.mpr ⟨ok_iast hx hb dk_31_188,
    List.forall_mem_cons.mpr ⟨ok_aload_n hx hb dk_31_189 rfl,
    List.forall_mem_cons.mpr ⟨ok_getr hx hb hts hown hin_3 rfl (by decide) tw_547 dk_31_190,
    List.forall_mem_cons.mpr ⟨ok_iload_n hx hb dk_31_193 rfl,
    List.forall_mem_cons.mpr ⟨ok_iconst hx hb dk_31_194 rfl,
    List.forall_mem_cons.mpr ⟨ok_iast hx hb dk_31_195,
    List.forall_mem_cons.mpr ⟨ok_aload_n hx hb dk_31_196 rfl,
    List.forall_mem_cons.mpr ⟨ok_getr hx hb hts hown hin_3 rfl (by decide) tw_540 dk_31_197,
    List.forall_mem_cons.mpr ⟨ok_iload_n hx hb dk_31_200 rfl,
    List.forall_mem_cons.mpr ⟨ok_iconst hx hb dk_31_201 rfl,
    List.forall_mem_cons.mpr ⟨ok_iast hx hb dk_31_202,
    List.forall_mem_cons.mpr ⟨ok_iinc hx hb dk_31_203 rfl (by decide),
    List.forall_mem_cons.mpr ⟨ok_goto hx hb dk_31_206 (by decide),
    List.forall_mem_cons.mpr ⟨ok_vret hx hb hb1 hb2 hr hlocks dk_31_209,
    fun _ h => absurd h List.not_mem_nil⟩⟩⟩⟩⟩⟩⟩⟩⟩⟩⟩⟩⟩⟩⟩⟩⟩⟩⟩⟩⟩⟩⟩⟩⟩⟩⟩⟩⟩⟩⟩⟩⟩⟩⟩⟩⟩⟩⟩⟩⟩⟩⟩⟩⟩⟩⟩⟩⟩⟩⟩⟩⟩⟩⟩⟩⟩⟩⟩⟩⟩⟩⟩⟩⟩⟩⟩⟩⟩⟩⟩⟩⟩⟩⟩⟩⟩⟩⟩⟩⟩⟩⟩⟩⟩⟩⟩⟩⟩⟩⟩⟩⟩⟩⟩⟩⟩⟩⟩⟩⟩⟩⟩⟩⟩⟩⟩⟩⟩⟩⟩⟩
theorem dk_32_0 : decode prog_5_method_2_code 0 = .ok (.aload_n 0, 1) := by decide +kernel
theorem dk_32_1 : decode prog_5_method_2_code 1 = .ok (.getfield 69, 3) := by decide +kernel
theorem dk_32_4 : decode prog_5_method_2_code 4 = .ok (.ireturn, 1) := by decide +kernel
set_option maxRecDepth 100000 in
set_option maxHeartbeats 4000000 in
theorem cc_32 {l : Launch} {s0 : State} (hst : l.stackTraces = false) (h0 : am_W0 s0) {d : Nat} (hall : ∀ mi ∈ am_idx, am_CC l s0 d mi) : am_CC l s0 (d + 1) 32 :=
  am_method (y := y_32) (cc := prog_5_method_2_code) (maxL := 1) (ret := (some .int)) (rm := am_rm (d + 1) 0 0) (ops := op_32) (C := am_T am_tabs am_ar d) (ar := 1) h0 (by decide) (by decide) fun p e s m args below meth c D A bS ad0 Q hct htab => by
    obtain ⟨hx, hb, hml, hown, hts, hb1, hb2, hA, hroot, hAs, -, -, hlocks, hr, hnm⟩ := hct
    exact List.forall_mem_cons.mpr ⟨ok_aload_n hx hb dk_32_0 rfl,
    List.forall_mem_cons.mpr ⟨ok_geti hx hb hts hown hin_3 rfl (by decide) tw_533 dk_32_1,
    List.forall_mem_cons.mpr ⟨ok_iret hx hb hb1 hb2 hr hlocks dk_32_4,
    fun _ h => absurd h List.not_mem_nil⟩⟩⟩
theorem dk_33_0 : decode prog_5_method_3_code 0 = .ok (.iload_n 1, 1) := by decide +kernel
theorem dk_33_1 : decode prog_5_method_3_code 1 = .ok (.ifCond .lt (22), 3) := by decide +kernel
theorem dk_33_4 : decode prog_5_method_3_code 4 = .ok (.iload_n 1, 1) := by decide +kernel
theorem dk_33_5 : decode prog_5_method_3_code 5 = .ok (.bipush (7), 2) := by decide +kernel
theorem dk_33_7 : decode prog_5_method_3_code 7 = .ok (.if_icmp .ge (16), 3) := by decide +kernel
theorem dk_33_10 : decode prog_5_method_3_code 10 = .ok (.aload_n 0, 1) := by decide +kernel
theorem dk_33_11 : decode prog_5_method_3_code 11 = .ok (.getfield 7, 3) := by decide +kernel
theorem dk_33_14 : decode prog_5_method_3_code 14 = .ok (.iload_n 1, 1) := by decide +kernel
theorem dk_33_15 : decode prog_5_method_3_code 15 = .ok (.baload, 1) := by decide +kernel
theorem dk_33_16 : decode prog_5_method_3_code 16 = .ok (.ifCond .eq (7), 3) := by decide +kernel
theorem dk_33_19 : decode prog_5_method_3_code 19 = .ok (.iconst (1), 1) := by decide +kernel
theorem dk_33_20 : decode prog_5_method_3_code 20 = .ok (.goto (4), 3) := by decide +kernel
theorem dk_33_23 : decode prog_5_method_3_code 23 = .ok (.iconst (0), 1) := by decide +kernel
theorem dk_33_24 : decode prog_5_method_3_code 24 = .ok (.ireturn, 1) := by decide +kernel
set_option maxRecDepth 100000 in
set_option maxHeartbeats 4000000 in
theorem cc_33 {l : Launch} {s0 : State} (hst : l.stackTraces = false) (h0 : am_W0 s0) {d : Nat} (hall : ∀ mi ∈ am_idx, am_CC l s0 d mi) : am_CC l s0 (d + 1) 33 :=
  am_method (y := y_33) (cc := prog_5_method_3_code) (maxL := 2) (ret := (some .boolean)) (rm := am_rm (d + 1) 0 0) (ops := op_33) (C := am_T am_tabs am_ar d) (ar := 2) h0 (by decide) (by decide) fun p e s m args below meth c D A bS ad0 Q hct htab => by
    obtain ⟨hx, hb, hml, hown, hts, hb1, hb2, hA, hroot, hAs, -, -, hlocks, hr, hnm⟩ := hct
    exact List.forall_mem_cons.mpr ⟨ok_iload_n hx hb dk_33_0 rfl,
    List.forall_mem_cons.mpr ⟨ok_if_lt hx hb dk_33_1 (by decide),
    List.forall_mem_cons.mpr ⟨ok_iload_n hx hb dk_33_4 rfl,
    List.forall_mem_cons.mpr ⟨ok_bipush hx hb dk_33_5 (by decide),
    List.forall_mem_cons.mpr ⟨ok_icmp_ge hx hb dk_33_7 (by decide),
    List.forall_mem_cons.mpr ⟨ok_aload_n hx hb dk_33_10 rfl,
    List.forall_mem_cons.mpr ⟨ok_getr hx hb hts hown hin_3 rfl (by decide) tw_534 dk_33_11,
    List.forall_mem_cons.mpr ⟨ok_iload_n hx hb dk_33_14 rfl,
    List.forall_mem_cons.mpr ⟨ok_zald hx hb dk_33_15,
    List.forall_mem_cons.mpr ⟨ok_if_eq hx hb dk_33_16 (by decide),
    List.forall_mem_cons.mpr ⟨ok_iconst hx hb dk_33_19 rfl,
    List.forall_mem_cons.mpr ⟨ok_goto hx hb dk_33_20 (by decide),
    List.forall_mem_cons.mpr ⟨ok_iconst hx hb dk_33_23 rfl,
    List.forall_mem_cons.mpr ⟨ok_zret hx hb hb1 hb2 hr hlocks dk_33_24,
    fun _ h => absurd h List.not_mem_nil⟩⟩⟩⟩⟩⟩⟩⟩⟩⟩⟩⟩⟩⟩
theorem dk_34_0 : decode prog_5_method_4_code 0 = .ok (.iload_n 0, 1) := by decide +kernel
theorem dk_34_1 : decode prog_5_method_4_code 1 = .ok (.ifCond .lt (14), 3) := by decide +kernel
theorem dk_34_4 : decode prog_5_method_4_code 4 = .ok (.iload_n 0, 1) := by decide +kernel
theorem dk_34_5 : decode prog_5_method_4_code 5 = .ok (.sipush (3000), 3) := by decide +kernel
theorem dk_34_8 : decode prog_5_method_4_code 8 = .ok (.if_icmp .gt (7), 3) := by decide +kernel
theorem dk_34_11 : decode prog_5_method_4_code 11 = .ok (.iconst (1), 1) := by decide +kernel
theorem dk_34_12 : decode prog_5_method_4_code 12 = .ok (.goto (4), 3) := by decide +kernel
theorem dk_34_15 : decode prog_5_method_4_code 15 = .ok (.iconst (0), 1) := by decide +kernel
theorem dk_34_16 : decode prog_5_method_4_code 16 = .ok (.ireturn, 1) := by decide +kernel
set_option maxRecDepth 100000 in
set_option maxHeartbeats 4000000 in
theorem cc_34 {l : Launch} {s0 : State} (hst : l.stackTraces = false) (h0 : am_W0 s0) {d : Nat} (hall : ∀ mi ∈ am_idx, am_CC l s0 d mi) : am_CC l s0 (d + 1) 34 :=
  am_method (y := y_34) (cc := prog_5_method_4_code) (maxL := 1) (ret := (some .boolean)) (rm := am_rm (d + 1) 0 0) (ops := op_34) (C := am_T am_tabs am_ar d) (ar := 1) h0 (by decide) (by decide) fun p e s m args below meth c D A bS ad0 Q hct htab => by
    obtain ⟨hx, hb, hml, hown, hts, hb1, hb2, hA, hroot, hAs, -, -, hlocks, hr, hnm⟩ := hct
    exact List.forall_mem_cons.mpr ⟨ok_iload_n hx hb dk_34_0 rfl,
    List.forall_mem_cons.mpr ⟨ok_if_lt hx hb dk_34_1 (by decide),
    List.forall_mem_cons.mpr ⟨ok_iload_n hx hb dk_34_4 rfl,
    List.forall_mem_cons.mpr ⟨ok_sipush hx hb dk_34_5 (by decide),
    List.forall_mem_cons.mpr ⟨ok_icmp_gt hx hb dk_34_8 (by decide),
    List.forall_mem_cons.mpr ⟨ok_iconst hx hb dk_34_11 rfl,
    List.forall_mem_cons.mpr ⟨ok_goto hx hb dk_34_12 (by decide),
    List.forall_mem_cons.mpr ⟨ok_iconst hx hb dk_34_15 rfl,
    List.forall_mem_cons.mpr ⟨ok_zret hx hb hb1 hb2 hr hlocks dk_34_16,
    fun _ h => absurd h List.not_mem_nil⟩⟩⟩⟩⟩⟩⟩⟩⟩
theorem dk_35_0 : decode prog_5_method_5_code 0 = .ok (.iconst (0), 1) := by decide +kernel
theorem dk_35_1 : decode prog_5_method_5_code 1 = .ok (.istore_n 1, 1) := by decide +kernel
theorem dk_35_2 : decode prog_5_method_5_code 2 = .ok (.iconst (0), 1) := by decide +kernel
theorem dk_35_3 : decode prog_5_method_5_code 3 = .ok (.istore_n 2, 1) := by decide +kernel
theorem dk_35_4 : decode prog_5_method_5_code 4 = .ok (.iload_n 2, 1) := by decide +kernel
theorem dk_35_5 : decode prog_5_method_5_code 5 = .ok (.bipush (7), 2) := by decide +kernel
theorem dk_35_7 : decode prog_5_method_5_code 7 = .ok (.if_icmp .ge (26), 3) := by decide +kernel
theorem dk_35_10 : decode prog_5_method_5_code 10 = .ok (.aload_n 0, 1) := by decide +kernel
theorem dk_35_11 : decode prog_5_method_5_code 11 = .ok (.getfield 7, 3) := by decide +kernel
theorem dk_35_14 : decode prog_5_method_5_code 14 = .ok (.iload_n 2, 1) := by decide +kernel
theorem dk_35_15 : decode prog_5_method_5_code 15 = .ok (.baload, 1) := by decide +kernel
theorem dk_35_16 : decode prog_5_method_5_code 16 = .ok (.ifCond .eq (9), 3) := by decide +kernel
theorem dk_35_19 : decode prog_5_method_5_code 19 = .ok (.iload_n 1, 1) := by decide +kernel
theorem dk_35_20 : decode prog_5_method_5_code 20 = .ok (.iconst (1), 1) := by decide +kernel
theorem dk_35_21 : decode prog_5_method_5_code 21 = .ok (.iadd, 1) := by decide +kernel
theorem dk_35_22 : decode prog_5_method_5_code 22 = .ok (.goto (4), 3) := by decide +kernel
theorem dk_35_25 : decode prog_5_method_5_code 25 = .ok (.iload_n 1, 1) := by decide +kernel
theorem dk_35_26 : decode prog_5_method_5_code 26 = .ok (.istore_n 1, 1) := by decide +kernel
theorem dk_35_27 : decode prog_5_method_5_code 27 = .ok (.iinc 2 (1), 3) := by decide +kernel
theorem dk_35_30 : decode prog_5_method_5_code 30 = .ok (.goto (-26), 3) := by decide +kernel
theorem dk_35_33 : decode prog_5_method_5_code 33 = .ok (.iload_n 1, 1) := by decide +kernel
theorem dk_35_34 : decode prog_5_method_5_code 34 = .ok (.ireturn, 1) := by decide +kernel
set_option maxRecDepth 100000 in
set_option maxHeartbeats 4000000 in
theorem cc_35 {l : Launch} {s0 : State} (hst : l.stackTraces = false) (h0 : am_W0 s0) {d : Nat} (hall : ∀ mi ∈ am_idx, am_CC l s0 d mi) : am_CC l s0 (d + 1) 35 :=
  am_method (y := y_35) (cc := prog_5_method_5_code) (maxL := 3) (ret := (some .int)) (rm := am_rm (d + 1) 0 0) (ops := op_35) (C := am_T am_tabs am_ar d) (ar := 1) h0 (by decide) (by decide) fun p e s m args below meth c D A bS ad0 Q hct htab => by
    obtain ⟨hx, hb, hml, hown, hts, hb1, hb2, hA, hroot, hAs, -, -, hlocks, hr, hnm⟩ := hct
    exact List.forall_mem_cons.mpr ⟨ok_iconst hx hb dk_35_0 rfl,
    List.forall_mem_cons.mpr ⟨ok_istore_n hx hb dk_35_1 rfl (by decide),
    List.forall_mem_cons.mpr ⟨ok_iconst hx hb dk_35_2 rfl,
    List.forall_mem_cons.mpr ⟨ok_istore_n hx hb dk_35_3 rfl (by decide),
    List.forall_mem_cons.mpr ⟨ok_iload_n hx hb dk_35_4 rfl,
    List.forall_mem_cons.mpr ⟨ok_bipush hx hb dk_35_5 (by decide),
    List.forall_mem_cons.mpr ⟨ok_icmp_ge hx hb dk_35_7 (by decide),
    List.forall_mem_cons.mpr ⟨ok_aload_n hx hb dk_35_10 rfl,
    List.forall_mem_cons.mpr ⟨ok_getr hx hb hts hown hin_3 rfl (by decide) tw_534 dk_35_11,
    List.forall_mem_cons.mpr ⟨ok_iload_n hx hb dk_35_14 rfl,
    List.forall_mem_cons.mpr ⟨ok_zald hx hb dk_35_15,
    List.forall_mem_cons.mpr ⟨ok_if_eq hx hb dk_35_16 (by decide),
    List.forall_mem_cons.mpr ⟨ok_iload_n hx hb dk_35_19 rfl,
    List.forall_mem_cons.mpr ⟨ok_iconst hx hb dk_35_20 rfl,
    List.forall_mem_cons.mpr ⟨ok_iadd hx hb dk_35_21,
    List.forall_mem_cons.mpr ⟨ok_goto hx hb dk_35_22 (by decide),
    List.forall_mem_cons.mpr ⟨ok_iload_n hx hb dk_35_25 rfl,
    List.forall_mem_cons.mpr ⟨ok_istore_n hx hb dk_35_26 rfl (by decide),
    List.forall_mem_cons.mpr ⟨ok_iinc hx hb dk_35_27 rfl (by decide),
    List.forall_mem_cons.mpr ⟨ok_goto hx hb dk_35_30 (by decide),
    List.forall_mem_cons.mpr ⟨ok_iload_n hx hb dk_35_33 rfl,
    List.forall_mem_cons.mpr ⟨ok_iret hx hb hb1 hb2 hr hlocks dk_35_34,
    fun _ h => absurd h List.not_mem_nil⟩⟩⟩⟩⟩⟩⟩⟩⟩⟩⟩⟩⟩⟩⟩⟩⟩⟩⟩⟩⟩⟩
theorem dk_36_0 : decode prog_5_method_6_code 0 = .ok (.iload_n 1, 1) := by decide +kernel
theorem dk_36_1 : decode prog_5_method_6_code 1 = .ok (.ifCond .lt (34), 3) := by decide +kernel
theorem dk_36_4 : decode prog_5_method_6_code 4 = .ok (.iload_n 1, 1) := by decide +kernel
theorem dk_36_5 : decode prog_5_method_6_code 5 = .ok (.iconst (5), 1) := by decide +kernel
theorem dk_36_6 : decode prog_5_method_6_code 6 = .ok (.if_icmp .gt (29), 3) := by decide +kernel
theorem dk_36_9 : decode prog_5_method_6_code 9 = .ok (.iload_n 2, 1) := by decide +kernel
theorem dk_36_10 : decode prog_5_method_6_code 10 = .ok (.ifCond .lt (25), 3) := by decide +kernel
theorem dk_36_13 : decode prog_5_method_6_code 13 = .ok (.iload_n 2, 1) := by decide +kernel
theorem dk_36_14 : decode prog_5_method_6_code 14 = .ok (.iconst (5), 1) := by decide +kernel
theorem dk_36_15 : decode prog_5_method_6_code 15 = .ok (.if_icmp .gt (20), 3) := by decide +kernel
theorem dk_36_18 : decode prog_5_method_6_code 18 = .ok (.iload_n 3, 1) := by decide +kernel
theorem dk_36_19 : decode prog_5_method_6_code 19 = .ok (.bipush (45), 2) := by decide +kernel
theorem dk_36_21 : decode prog_5_method_6_code 21 = .ok (.if_icmp .lt (14), 3) := by decide +kernel
theorem dk_36_24 : decode prog_5_method_6_code 24 = .ok (.iload_n 3, 1) := by decide +kernel
theorem dk_36_25 : decode prog_5_method_6_code 25 = .ok (.sipush (300), 3) := by decide +kernel
theorem dk_36_28 : decode prog_5_method_6_code 28 = .ok (.if_icmp .gt (7), 3) := by decide +kernel
theorem dk_36_31 : decode prog_5_method_6_code 31 = .ok (.iconst (1), 1) := by decide +kernel
theorem dk_36_32 : decode prog_5_method_6_code 32 = .ok (.goto (4), 3) := by decide +kernel
theorem dk_36_35 : decode prog_5_method_6_code 35 = .ok (.iconst (0), 1) := by decide +kernel
theorem dk_36_36 : decode prog_5_method_6_code 36 = .ok (.istore 4, 2) := by decide +kernel
theorem dk_36_38 : decode prog_5_method_6_code 38 = .ok (.aload_n 0, 1) := by decide +kernel
theorem dk_36_39 : decode prog_5_method_6_code 39 = .ok (.iload 4, 2) := by decide +kernel
theorem dk_36_41 : decode prog_5_method_6_code 41 = .ok (.ifCond .eq (7), 3) := by decide +kernel
theorem dk_36_44 : decode prog_5_method_6_code 44 = .ok (.iconst (0), 1) := by decide +kernel
theorem dk_36_45 : decode prog_5_method_6_code 45 = .ok (.goto (4), 3) := by decide +kernel
theorem dk_36_48 : decode prog_5_method_6_code 48 = .ok (.iconst (1), 1) := by decide +kernel
theorem dk_36_49 : decode prog_5_method_6_code 49 = .ok (.putfield 69, 3) := by decide +kernel
theorem dk_36_52 : decode prog_5_method_6_code 52 = .ok (.iload 4, 2) := by decide +kernel
theorem dk_36_54 : decode prog_5_method_6_code 54 = .ok (.ifCond .ne (5), 3) := by decide +kernel
theorem dk_36_57 : decode prog_5_method_6_code 57 = .ok (.iconst (0), 1) := by decide +kernel
theorem dk_36_58 : decode prog_5_method_6_code 58 = .ok (.ireturn, 1) := by decide +kernel
theorem dk_36_59 : decode prog_5_method_6_code 59 = .ok (.aload_n 0, 1) := by decide +kernel
theorem dk_36_60 : decode prog_5_method_6_code 60 = .ok (.getfield 32, 3) := by decide +kernel
theorem dk_36_63 : decode prog_5_method_6_code 63 = .ok (.bipush (6), 2) := by decide +kernel
theorem dk_36_65 : decode prog_5_method_6_code 65 = .ok (.iload_n 1, 1) := by decide +kernel
theorem dk_36_66 : decode prog_5_method_6_code 66 = .ok (.imul, 1) := by decide +kernel
theorem dk_36_67 : decode prog_5_method_6_code 67 = .ok (.iload_n 2, 1) := by decide +kernel
theorem dk_36_68 : decode prog_5_method_6_code 68 = .ok (.iadd, 1) := by decide +kernel
theorem dk_36_69 : decode prog_5_method_6_code 69 = .ok (.iaload, 1) := by decide +kernel
theorem dk_36_70 : decode prog_5_method_6_code 70 = .ok (.istore 5, 2) := by decide +kernel
theorem dk_36_72 : decode prog_5_method_6_code 72 = .ok (.aload_n 0, 1) := by decide +kernel
theorem dk_36_73 : decode prog_5_method_6_code 73 = .ok (.getfield 32, 3) := by decide +kernel
theorem dk_36_76 : decode prog_5_method_6_code 76 = .ok (.bipush (6), 2) := by decide +kernel
theorem dk_36_78 : decode prog_5_method_6_code 78 = .ok (.iload_n 1, 1) := by decide +kernel
theorem dk_36_79 : decode prog_5_method_6_code 79 = .ok (.imul, 1) := by decide +kernel
theorem dk_36_80 : decode prog_5_method_6_code 80 = .ok (.iload_n 2, 1) := by decide +kernel
theorem dk_36_81 : decode prog_5_method_6_code 81 = .ok (.iadd, 1) := by decide +kernel
theorem dk_36_82 : decode prog_5_method_6_code 82 = .ok (.iload_n 3, 1) := by decide +kernel
theorem dk_36_83 : decode prog_5_method_6_code 83 = .ok (.iastore, 1) := by decide +kernel
theorem dk_36_84 : decode prog_5_method_6_code 84 = .ok (.iload 5, 2) := by decide +kernel
theorem dk_36_86 : decode prog_5_method_6_code 86 = .ok (.ireturn, 1) := by decide +kernel
set_option maxRecDepth 100000 in
set_option maxHeartbeats 4000000 in
theorem cc_36 {l : Launch} {s0 : State} (hst : l.stackTraces = false) (h0 : am_W0 s0) {d : Nat} (hall : ∀ mi ∈ am_idx, am_CC l s0 d mi) : am_CC l s0 (d + 1) 36 :=
  am_method (y := y_36) (cc := prog_5_method_6_code) (maxL := 6) (ret := (some .int)) (rm := am_rm (d + 1) 0 0) (ops := op_36) (C := am_T am_tabs am_ar d) (ar := 4) h0 (by decide) (by decide) fun p e s m args below meth c D A bS ad0 Q hct htab => by
    obtain ⟨hx, hb, hml, hown, hts, hb1, hb2, hA, hroot, hAs, -, -, hlocks, hr, hnm⟩ := hct
    exact List.forall_mem_cons.mpr ⟨ok_iload_n hx hb dk_36_0 rfl,
    List.forall_mem_cons.mpr ⟨ok_if_lt hx hb dk_36_1 (by decide),
    List.forall_mem_cons.mpr ⟨ok_iload_n hx hb dk_36_4 rfl,
    List.forall_mem_cons.mpr ⟨ok_iconst hx hb dk_36_5 rfl,
    List.forall_mem_cons.mpr ⟨ok_icmp_gt hx hb dk_36_6 (by decide),
    List.forall_mem_cons.mpr ⟨ok_iload_n hx hb dk_36_9 rfl,
    List.forall_mem_cons.mpr ⟨ok_if_lt hx hb dk_36_10 (by decide),
    List.forall_mem_cons.mpr ⟨ok_iload_n hx hb dk_36_13 rfl,
    List.forall_mem_cons.mpr ⟨ok_iconst hx hb dk_36_14 rfl,
    List.forall_mem_cons.mpr ⟨ok_icmp_gt hx hb dk_36_15 (by decide),
    List.forall_mem_cons.mpr ⟨ok_iload_n hx hb dk_36_18 rfl,
    List.forall_mem_cons.mpr ⟨ok_bipush hx hb dk_36_19 (by decide),
    List.forall_mem_cons.mpr ⟨ok_icmp_lt hx hb dk_36_21 (by decide),
    List.forall_mem_cons.mpr ⟨ok_iload_n hx hb dk_36_24 rfl,
    List.forall_mem_cons.mpr ⟨ok_sipush hx hb dk_36_25 (by decide),
    List.forall_mem_cons.mpr ⟨ok_icmp_gt hx hb dk_36_28 (by decide),
    List.forall_mem_cons.mpr ⟨ok_iconst hx hb dk_36_31 rfl,
    List.forall_mem_cons.mpr ⟨ok_goto hx hb dk_36_32 (by decide),
    List.forall_mem_cons.mpr ⟨ok_iconst hx hb dk_36_35 rfl,
    List.forall_mem_cons.mpr ⟨ok_istore hx hb dk_36_36 (by decide),
    List.forall_mem_cons.mpr ⟨ok_aload_n hx hb dk_36_38 rfl,
    List.forall_mem_cons.mpr ⟨ok_iload hx hb dk_36_39,
    List.forall_mem_cons.mpr ⟨ok_if_eq hx hb dk_36_41 (by decide),
    List.forall_mem_cons.mpr ⟨ok_iconst hx hb dk_36_44 rfl,
    List.forall_mem_cons.mpr ⟨ok_goto hx hb dk_36_45 (by decide),
    List.forall_mem_cons.mpr ⟨ok_iconst hx hb dk_36_48 rfl,
    List.forall_mem_cons.mpr ⟨ok_puti hx hb hts hown hin_3 tyF_3 tyF_3_ok nmF_3 rfl (by decide) tw_533 rfl (by decide +kernel) dk_36_49,
    List.forall_mem_cons.mpr ⟨ok_iload hx hb dk_36_52,
    List.forall_mem_cons.mpr ⟨ok_if_ne hx hb dk_36_54 (by decide),
    List.forall_mem_cons.mpr ⟨ok_iconst hx hb dk_36_57 rfl,
    List.forall_mem_cons.mpr ⟨ok_iret hx hb hb1 hb2 hr hlocks dk_36_58,
    List.forall_mem_cons.mpr ⟨ok_aload_n hx hb dk_36_59 rfl,
    List.forall_mem_cons.mpr ⟨ok_getr hx hb hts hown hin_3 rfl (by decide) tw_541 dk_36_60,
    List.forall_mem_cons.mpr ⟨ok_bipush hx hb dk_36_63 (by decide),
    List.forall_mem_cons.mpr ⟨ok_iload_n hx hb dk_36_65 rfl,
    List.forall_mem_cons.mpr ⟨ok_imul hx hb dk_36_66,
    List.forall_mem_cons.mpr ⟨ok_iload_n hx hb dk_36_67 rfl,
    List.forall_mem_cons.mpr ⟨ok_iadd hx hb dk_36_68,
    List.forall_mem_cons.mpr ⟨ok_iald hx hb dk_36_69,
    List.forall_mem_cons.mpr ⟨ok_istore hx hb dk_36_70 (by decide),
    List.forall_mem_cons.mpr ⟨ok_aload_n hx hb dk_36_72 rfl,
    List.forall_mem_cons.mpr ⟨ok_getr hx hb hts hown hin_3 rfl (by decide) tw_541 dk_36_73,
    List.forall_mem_cons.mpr ⟨ok_bipush hx hb dk_36_76 (by decide),
    List.forall_mem_cons.mpr ⟨ok_iload_n hx hb dk_36_78 rfl,
    List.forall_mem_cons.mpr ⟨ok_imul hx hb dk_36_79,
    List.forall_mem_cons.mpr ⟨ok_iload_n hx hb dk_36_80 rfl,
    List.forall_mem_cons.mpr ⟨ok_iadd hx hb dk_36_81,
    List.forall_mem_cons.mpr ⟨ok_iload_n hx hb dk_36_82 rfl,
    List.forall_mem_cons.mpr ⟨ok_iast hx hb dk_36_83,
    List.forall_mem_cons.mpr ⟨ok_iload hx hb dk_36_84,
    List.forall_mem_cons.mpr ⟨ok_iret hx hb hb1 hb2 hr hlocks dk_36_86,
    fun _ h => absurd h List.not_mem_nil⟩⟩⟩⟩⟩⟩⟩⟩⟩⟩⟩⟩⟩⟩⟩⟩⟩⟩⟩⟩⟩⟩⟩⟩⟩⟩⟩⟩⟩⟩⟩⟩⟩⟩⟩⟩⟩⟩⟩⟩⟩⟩⟩⟩⟩⟩⟩⟩⟩⟩⟩
theorem dk_37_0 : decode prog_5_method_7_code 0 = .ok (.iload_n 2, 1) := by decide +kernel
theorem dk_37_1 : decode prog_5_method_7_code 1 = .ok (.ifCond .lt (26), 3) := by decide +kernel
theorem dk_37_4 : decode prog_5_method_7_code 4 = .ok (.iload_n 2, 1) := by decide +kernel
theorem dk_37_5 : decode prog_5_method_7_code 5 = .ok (.iload_n 3, 1) := by decide +kernel
theorem dk_37_6 : decode prog_5_method_7_code 6 = .ok (.if_icmp .gt (21), 3) := by decide +kernel
theorem dk_37_9 : decode prog_5_method_7_code 9 = .ok (.iload_n 3, 1) := by decide +kernel
theorem dk_37_10 : decode prog_5_method_7_code 10 = .ok (.iload 4, 2) := by decide +kernel
theorem dk_37_12 : decode prog_5_method_7_code 12 = .ok (.if_icmp .gt (15), 3) := by decide +kernel
theorem dk_37_15 : decode prog_5_method_7_code 15 = .ok (.iload 4, 2) := by decide +kernel
theorem dk_37_17 : decode prog_5_method_7_code 17 = .ok (.sipush (3000), 3) := by decide +kernel
theorem dk_37_20 : decode prog_5_method_7_code 20 = .ok (.if_icmp .gt (7), 3) := by decide +kernel
theorem dk_37_23 : decode prog_5_method_7_code 23 = .ok (.iconst (1), 1) := by decide +kernel
theorem dk_37_24 : decode prog_5_method_7_code 24 = .ok (.goto (4), 3) := by decide +kernel
theorem dk_37_27 : decode prog_5_method_7_code 27 = .ok (.iconst (0), 1) := by decide +kernel
theorem dk_37_28 : decode prog_5_method_7_code 28 = .ok (.istore 6, 2) := by decide +kernel
theorem dk_37_30 : decode prog_5_method_7_code 30 = .ok (.iload_n 1, 1) := by decide +kernel
theorem dk_37_31 : decode prog_5_method_7_code 31 = .ok (.ifCond .lt (29), 3) := by decide +kernel
theorem dk_37_34 : decode prog_5_method_7_code 34 = .ok (.iload_n 1, 1) := by decide +kernel
theorem dk_37_35 : decode prog_5_method_7_code 35 = .ok (.iconst (5), 1) := by decide +kernel
theorem dk_37_36 : decode prog_5_method_7_code 36 = .ok (.if_icmp .gt (24), 3) := by decide +kernel
theorem dk_37_39 : decode prog_5_method_7_code 39 = .ok (.iload 6, 2) := by decide +kernel
theorem dk_37_41 : decode prog_5_method_7_code 41 = .ok (.ifCond .eq (19), 3) := by decide +kernel
theorem dk_37_44 : decode prog_5_method_7_code 44 = .ok (.iload 5, 2) := by decide +kernel
theorem dk_37_46 : decode prog_5_method_7_code 46 = .ok (.ifCond .lt (14), 3) := by decide +kernel
theorem dk_37_49 : decode prog_5_method_7_code 49 = .ok (.iload 5, 2) := by decide +kernel
theorem dk_37_51 : decode prog_5_method_7_code 51 = .ok (.bipush (100), 2) := by decide +kernel
theorem dk_37_53 : decode prog_5_method_7_code 53 = .ok (.if_icmp .gt (7), 3) := by decide +kernel
theorem dk_37_56 : decode prog_5_method_7_code 56 = .ok (.iconst (1), 1) := by decide +kernel
theorem dk_37_57 : decode prog_5_method_7_code 57 = .ok (.goto (4), 3) := by decide +kernel
theorem dk_37_60 : decode prog_5_method_7_code 60 = .ok (.iconst (0), 1) := by decide +kernel
theorem dk_37_61 : decode prog_5_method_7_code 61 = .ok (.istore 7, 2) := by decide +kernel
theorem dk_37_63 : decode prog_5_method_7_code 63 = .ok (.aload_n 0, 1) := by decide +kernel
theorem dk_37_64 : decode prog_5_method_7_code 64 = .ok (.iload 7, 2) := by decide +kernel
theorem dk_37_66 : decode prog_5_method_7_code 66 = .ok (.ifCond .ne (7), 3) := by decide +kernel
theorem dk_37_69 : decode prog_5_method_7_code 69 = .ok (.iconst (1), 1) := by decide +kernel
theorem dk_37_70 : decode prog_5_method_7_code 70 = .ok (.goto (17), 3) := by decide +kernel
theorem dk_37_73 : decode prog_5_method_7_code 73 = .ok (.aload_n 0, 1) := by decide +kernel
theorem dk_37_74 : decode prog_5_method_7_code 74 = .ok (.invokevirtual 72, 3) := by decide +kernel
theorem dk_37_77 : decode prog_5_method_7_code 77 = .ok (.bipush (7), 2) := by decide +kernel
theorem dk_37_79 : decode prog_5_method_7_code 79 = .ok (.if_icmp .ne (7), 3) := by decide +kernel
theorem dk_37_82 : decode prog_5_method_7_code 82 = .ok (.iconst (2), 1) := by decide +kernel
theorem dk_37_83 : decode prog_5_method_7_code 83 = .ok (.goto (4), 3) := by decide +kernel
theorem dk_37_86 : decode prog_5_method_7_code 86 = .ok (.iconst (0), 1) := by decide +kernel
theorem dk_37_87 : decode prog_5_method_7_code 87 = .ok (.putfield 69, 3) := by decide +kernel
theorem dk_37_90 : decode prog_5_method_7_code 90 = .ok (.aload_n 0, 1) := by decide +kernel
theorem dk_37_91 : decode prog_5_method_7_code 91 = .ok (.getfield 69, 3) := by decide +kernel
theorem dk_37_94 : decode prog_5_method_7_code 94 = .ok (.ifCond .le (5), 3) := by decide +kernel
theorem dk_37_97 : decode prog_5_method_7_code 97 = .ok (.iconst (0), 1) := by decide +kernel
theorem dk_37_98 : decode prog_5_method_7_code 98 = .ok (.ireturn, 1) := by decide +kernel
theorem dk_37_99 : decode prog_5_method_7_code 99 = .ok (.iconst (0), 1) := by decide +kernel
theorem dk_37_100 : decode prog_5_method_7_code 100 = .ok (.istore 8, 2) := by decide +kernel
theorem dk_37_102 : decode prog_5_method_7_code 102 = .ok (.aload_n 0, 1) := by decide +kernel
theorem dk_37_103 : decode prog_5_method_7_code 103 = .ok (.getfield 7, 3) := by decide +kernel
theorem dk_37_106 : decode prog_5_method_7_code 106 = .ok (.iload 8, 2) := by decide +kernel
theorem dk_37_108 : decode prog_5_method_7_code 108 = .ok (.baload, 1) := by decide +kernel
theorem dk_37_109 : decode prog_5_method_7_code 109 = .ok (.ifCond .eq (9), 3) := by decide +kernel
theorem dk_37_112 : decode prog_5_method_7_code 112 = .ok (.iinc 8 (1), 3) := by decide +kernel
theorem dk_37_115 : decode prog_5_method_7_code 115 = .ok (.goto (-13), 3) := by decide +kernel
theorem dk_37_118 : decode prog_5_method_7_code 118 = .ok (.aload_n 0, 1) := by decide +kernel
theorem dk_37_119 : decode prog_5_method_7_code 119 = .ok (.getfield 7, 3) := by decide +kernel
theorem dk_37_122 : decode prog_5_method_7_code 122 = .ok (.iload 8, 2) := by decide +kernel
theorem dk_37_124 : decode prog_5_method_7_code 124 = .ok (.iconst (1), 1) := by decide +kernel
theorem dk_37_125 : decode prog_5_method_7_code 125 = .ok (.bastore, 1) := by decide +kernel
theorem dk_37_126 : decode prog_5_method_7_code 126 = .ok (.aload_n 0, 1) := by decide +kernel
theorem dk_37_127 : decode prog_5_method_7_code 127 = .ok (.getfield 13, 3) := by decide +kernel
theorem dk_37_130 : decode prog_5_method_7_code 130 = .ok (.iload 8, 2) := by decide +kernel
theorem dk_37_132 : decode prog_5_method_7_code 132 = .ok (.iload_n 1, 1) := by decide +kernel
theorem dk_37_133 : decode prog_5_method_7_code 133 = .ok (.iastore, 1) := by decide +kernel
theorem dk_37_134 : decode prog_5_method_7_code 134 = .ok (.aload_n 0, 1) := by decide +kernel
theorem dk_37_135 : decode prog_5_method_7_code 135 = .ok (.getfield 17, 3) := by decide +kernel
theorem dk_37_138 : decode prog_5_method_7_code 138 = .ok (.iload 8, 2) := by decide +kernel
theorem dk_37_140 : decode prog_5_method_7_code 140 = .ok (.iload_n 2, 1) := by decide +kernel
theorem dk_37_141 : decode prog_5_method_7_code 141 = .ok (.iastore, 1) := by decide +kernel
theorem dk_37_142 : decode prog_5_method_7_code 142 = .ok (.aload_n 0, 1) := by decide +kernel
theorem dk_37_143 : decode prog_5_method_7_code 143 = .ok (.getfield 20, 3) := by decide +kernel
theorem dk_37_146 : decode prog_5_method_7_code 146 = .ok (.iload 8, 2) := by decide +kernel
theorem dk_37_148 : decode prog_5_method_7_code 148 = .ok (.iload_n 3, 1) := by decide +kernel
theorem dk_37_149 : decode prog_5_method_7_code 149 = .ok (.iastore, 1) := by decide +kernel
theorem dk_37_150 : decode prog_5_method_7_code 150 = .ok (.aload_n 0, 1) := by decide +kernel
theorem dk_37_151 : decode prog_5_method_7_code 151 = .ok (.getfield 23, 3) := by decide +kernel
theorem dk_37_154 : decode prog_5_method_7_code 154 = .ok (.iload 8, 2) := by decide +kernel
theorem dk_37_156 : decode prog_5_method_7_code 156 = .ok (.iload 4, 2) := by decide +kernel
theorem dk_37_158 : decode prog_5_method_7_code 158 = .ok (.iastore, 1) := by decide +kernel
theorem dk_37_159 : decode prog_5_method_7_code 159 = .ok (.aload_n 0, 1) := by decide +kernel
theorem dk_37_160 : decode prog_5_method_7_code 160 = .ok (.getfield 26, 3) := by decide +kernel
theorem dk_37_163 : decode prog_5_method_7_code 163 = .ok (.iload 8, 2) := by decide +kernel
theorem dk_37_165 : decode prog_5_method_7_code 165 = .ok (.iload 5, 2) := by decide +kernel
theorem dk_37_167 : decode prog_5_method_7_code 167 = .ok (.iastore, 1) := by decide +kernel
theorem dk_37_168 : decode prog_5_method_7_code 168 = .ok (.aload_n 0, 1) := by decide +kernel
theorem dk_37_169 : decode prog_5_method_7_code 169 = .ok (.getfield 29, 3) := by decide +kernel
theorem dk_37_172 : decode prog_5_method_7_code 172 = .ok (.iload 8, 2) := by decide +kernel
theorem dk_37_174 : decode prog_5_method_7_code 174 = .ok (.iconst (-1), 1) := by decide +kernel
theorem dk_37_175 : decode prog_5_method_7_code 175 = .ok (.iastore, 1) := by decide +kernel
theorem dk_37_176 : decode prog_5_method_7_code 176 = .ok (.iload 8, 2) := by decide +kernel
theorem dk_37_178 : decode prog_5_method_7_code 178 = .ok (.ireturn, 1) := by decide +kernel
set_option maxRecDepth 100000 in
set_option maxHeartbeats 4000000 in
theorem cc_37 {l : Launch} {s0 : State} (hst : l.stackTraces = false) (h0 : am_W0 s0) {d : Nat} (hall : ∀ mi ∈ am_idx, am_CC l s0 d mi) : am_CC l s0 (d + 1) 37 :=
  am_method (y := y_37) (cc := prog_5_method_7_code) (maxL := 9) (ret := (some .int)) (rm := am_rm (d + 1) 0 0) (ops := op_37) (C := am_T am_tabs am_ar d) (ar := 6) h0 (by decide) (by decide) fun p e s m args below meth c D A bS ad0 Q hct htab => by
    obtain ⟨hx, hb, hml, hown, hts, hb1, hb2, hA, hroot, hAs, -, -, hlocks, hr, hnm⟩ := hct
    exact List.forall_mem_cons.mpr ⟨ok_iload_n hx hb dk_37_0 rfl,
    List.forall_mem_cons.mpr ⟨ok_if_lt hx hb dk_37_1 (by decide),
    List.forall_mem_cons.mpr ⟨ok_iload_n hx hb dk_37_4 rfl,
    List.forall_mem_cons.mpr ⟨ok_iload_n hx hb dk_37_5 rfl,
    List.forall_mem_cons.mpr ⟨ok_icmp_gt hx hb dk_37_6 (by decide),
    List.forall_mem_cons.mpr ⟨ok_iload_n hx hb dk_37_9 rfl,
    List.forall_mem_cons.mpr ⟨ok_iload hx hb dk_37_10,
    List.forall_mem_cons.mpr ⟨ok_icmp_gt hx hb dk_37_12 (by decide),
    List.forall_mem_cons.mpr ⟨ok_iload hx hb dk_37_15,
    List.forall_mem_cons.mpr ⟨ok_sipush hx hb dk_37_17 (by decide),
    List.forall_mem_cons.mpr ⟨ok_icmp_gt hx hb dk_37_20 (by decide),
    List.forall_mem_cons.mpr ⟨ok_iconst hx hb dk_37_23 rfl,
    List.forall_mem_cons.mpr ⟨ok_goto hx hb dk_37_24 (by decide),
    List.forall_mem_cons.mpr ⟨ok_iconst hx hb dk_37_27 rfl,
    List.forall_mem_cons.mpr ⟨ok_istore hx hb dk_37_28 (by decide),
    List.forall_mem_cons.mpr ⟨ok_iload_n hx hb dk_37_30 rfl,
    List.forall_mem_cons.mpr ⟨ok_if_lt hx hb dk_37_31 (by decide),
    List.forall_mem_cons.mpr ⟨ok_iload_n hx hb dk_37_34 rfl,
    List.forall_mem_cons.mpr ⟨ok_iconst hx hb dk_37_35 rfl,
    List.forall_mem_cons.mpr ⟨ok_icmp_gt hx hb dk_37_36 (by decide),
    List.forall_mem_cons.mpr ⟨ok_iload hx hb dk_37_39,
    List.forall_mem_cons.mpr ⟨ok_if_eq hx hb dk_37_41 (by decide),
    List.forall_mem_cons.mpr ⟨ok_iload hx hb dk_37_44,
    List.forall_mem_cons.mpr ⟨ok_if_lt hx hb dk_37_46 (by decide),
    List.forall_mem_cons.mpr ⟨ok_iload hx hb dk_37_49,
    List.forall_mem_cons.mpr ⟨ok_bipush hx hb dk_37_51 (by decide),
    List.forall_mem_cons.mpr ⟨ok_icmp_gt hx hb dk_37_53 (by decide),
    List.forall_mem_cons.mpr ⟨ok_iconst hx hb dk_37_56 rfl,
    List.forall_mem_cons.mpr ⟨ok_goto hx hb dk_37_57 (by decide),
    List.forall_mem_cons.mpr ⟨ok_iconst hx hb dk_37_60 rfl,
    List.forall_mem_cons.mpr ⟨ok_istore hx hb dk_37_61 (by decide),
    List.forall_mem_cons.mpr ⟨ok_aload_n hx hb dk_37_63 rfl,
    List.forall_mem_cons.mpr ⟨ok_iload hx hb dk_37_64,
    List.forall_mem_cons.mpr ⟨ok_if_ne hx hb dk_37_66 (by decide),
    List.forall_mem_cons.mpr ⟨ok_iconst hx hb dk_37_69 rfl,
    List.forall_mem_cons.mpr ⟨ok_goto hx hb dk_37_70 (by decide),
    List.forall_mem_cons.mpr ⟨ok_aload_n hx hb dk_37_73 rfl,
    List.forall_mem_cons.mpr ⟨ok_cV hx hb hml hown hts hb1 hb2 hA hroot hAs rfl rfl rfl (hcal_35 hall) tw_612 tw_614 ts_17 tw_615 tw_5 nm_35 rfl rfl (by show d + 8 + 1 ≤ d + 1 + 8; omega) (by show 8 + (3 + 11) + (200 + 60 * d) ≤ 200 + 60 * (d + 1); omega) dk_37_74,
    List.forall_mem_cons.mpr ⟨ok_bipush hx hb dk_37_77 (by decide),
    List.forall_mem_cons.mpr ⟨ok_icmp_ne hx hb dk_37_79 (by decide),
    List.forall_mem_cons.mpr ⟨ok_iconst hx hb dk_37_82 rfl,
    List.forall_mem_cons.mpr ⟨ok_goto hx hb dk_37_83 (by decide),
    List.forall_mem_cons.mpr ⟨ok_iconst hx hb dk_37_86 rfl,
    List.forall_mem_cons.mpr ⟨ok_puti hx hb hts hown hin_3 tyF_3 tyF_3_ok nmF_3 rfl (by decide) tw_533 rfl (by decide +kernel) dk_37_87,
    List.forall_mem_cons.mpr ⟨ok_aload_n hx hb dk_37_90 rfl,
    List.forall_mem_cons.mpr ⟨ok_geti hx hb hts hown hin_3 rfl (by decide) tw_533 dk_37_91,
    List.forall_mem_cons.mpr ⟨ok_if_le hx hb dk_37_94 (by decide),
    List.forall_mem_cons.mpr ⟨ok_iconst hx hb dk_37_97 rfl,
    List.forall_mem_cons.mpr ⟨ok_iret hx hb hb1 hb2 hr hlocks dk_37_98,
    List.forall_mem_cons.mpr ⟨ok_iconst hx hb dk_37_99 rfl,
    List.forall_mem_cons.mpr ⟨ok_istore hx hb dk_37_100 (by decide),
    List.forall_mem_cons.mpr ⟨ok_aload_n hx hb dk_37_102 rfl,
    List.forall_mem_cons.mpr ⟨ok_getr hx hb hts hown hin_3 rfl (by decide) tw_534 dk_37_103,
    List.forall_mem_cons.mpr ⟨ok_iload hx hb dk_37_106,
    List.forall_mem_cons.mpr ⟨ok_zald hx hb dk_37_108,
    List.forall_mem_cons.mpr ⟨ok_if_eq hx hb dk_37_109 (by decide),
    List.forall_mem_cons.mpr ⟨ok_iinc hx hb dk_37_112 rfl (by decide),
    List.forall_mem_cons.mpr ⟨ok_goto hx hb dk_37_115 (by decide),
    List.forall_mem_cons.mpr ⟨ok_aload_n hx hb dk_37_118 rfl,
    List.forall_mem_cons.mpr ⟨ok_getr hx hb hts hown hin_3 rfl (by decide) tw_534 dk_37_119,
    List.forall_mem_cons.mpr ⟨ok_iload hx hb dk_37_122,
    List.forall_mem_cons.mpr ⟨ok_iconst hx hb dk_37_124 rfl,
    List.forall_mem_cons.mpr ⟨ok_zast hx hb dk_37_125,
    List.forall_mem_cons.mpr ⟨ok_aload_n hx hb dk_37_126 rfl,
    List.forall_mem_cons.mpr ⟨ok_getr hx hb hts hown hin_3 rfl (by decide) tw_535 dk_37_127,
    List.forall_mem_cons.mpr ⟨ok_iload hx hb dk_37_130,
    List.forall_mem_cons.mpr ⟨ok_iload_n hx hb dk_37_132 rfl,
    List.forall_mem_cons.mpr ⟨ok_iast hx hb dk_37_133,
    List.forall_mem_cons.mpr ⟨ok_aload_n hx hb dk_37_134 rfl,
    List.forall_mem_cons.mpr ⟨ok_getr hx hb hts hown hin_3 rfl (by decide) tw_536 dk_37_135,
    List.forall_mem_cons.mpr ⟨ok_iload hx hb dk_37_138,
    List.forall_mem_cons.mpr ⟨ok_iload_n hx hb dk_37_140 rfl,
    List.forall_mem_cons.mpr ⟨ok_iast hx hb dk_37_141,
    List.forall_mem_cons.mpr ⟨ok_aload_n hx hb dk_37_142 rfl,
    List.forall_mem_cons.mpr ⟨ok_getr hx hb hts hown hin_3 rfl (by decide) tw_537 dk_37_143,
    List.forall_mem_cons.mpr ⟨ok_iload hx hb dk_37_146,
    List.forall_mem_cons.mpr ⟨ok_iload_n hx hb dk_37_148 rfl,
    List.forall_mem_cons.mpr ⟨ok_iast hx hb dk_37_149,
    List.forall_mem_cons.mpr ⟨ok_aload_n hx hb dk_37_150 rfl,
    List.forall_mem_cons.mpr ⟨ok_getr hx hb hts hown hin_3 rfl (by decide) tw_538 dk_37_151,
    List.forall_mem_cons.mpr ⟨ok_iload hx hb dk_37_154,
    List.forall_mem_cons.mpr ⟨ok_iload hx hb dk_37_156,
    List.forall_mem_cons.mpr ⟨ok_iast hx hb dk_37_158,
    List.forall_mem_cons.mpr ⟨ok_aload_n hx hb dk_37_159 rfl,
    List.forall_mem_cons.mpr ⟨ok_getr hx hb hts hown hin_3 rfl (by decide) tw_539 dk_37_160,
    List.forall_mem_cons.mpr ⟨ok_iload hx hb dk_37_163,
    List.forall_mem_cons.mpr ⟨ok_iload hx hb dk_37_165,
    List.forall_mem_cons.mpr ⟨ok_iast hx hb dk_37_167,
    List.forall_mem_cons.mpr ⟨ok_aload_n hx hb dk_37_168 rfl,
    List.forall_mem_cons.mpr ⟨ok_getr hx hb hts hown hin_3 rfl (by decide) tw_540 dk_37_169,
    List.forall_mem_cons.mpr ⟨ok_iload hx hb dk_37_172,
    List.forall_mem_cons.mpr ⟨ok_iconst hx hb dk_37_174 rfl,
    List.forall_mem_cons.mpr ⟨ok_iast hx hb dk_37_175,
    List.forall_mem_cons.mpr ⟨ok_iload hx hb dk_37_176,
    List.forall_mem_cons.mpr ⟨ok_iret hx hb hb1 hb2 hr hlocks dk_37_178,
    fun _ h => absurd h List.not_mem_nil⟩⟩⟩⟩⟩⟩⟩⟩⟩⟩⟩⟩⟩⟩⟩⟩⟩⟩⟩⟩⟩⟩⟩⟩⟩⟩⟩⟩⟩⟩⟩⟩⟩⟩⟩⟩⟩⟩⟩⟩⟩⟩⟩⟩⟩⟩⟩⟩⟩⟩⟩⟩⟩⟩⟩⟩⟩⟩⟩⟩⟩⟩⟩⟩⟩⟩⟩⟩⟩⟩⟩⟩⟩⟩⟩⟩⟩⟩⟩⟩⟩⟩⟩⟩⟩⟩⟩⟩⟩⟩⟩⟩⟩⟩⟩
theorem dk_38_0 : decode prog_5_method_8_code 0 = .ok (.aload_n 0, 1) := by decide +kernel
theorem dk_38_1 : decode prog_5_method_8_code 1 = .ok (.aload_n 0, 1) := by decide +kernel
theorem dk_38_2 : decode prog_5_method_8_code 2 = .ok (.iload_n 1, 1) := by decide +kernel
theorem dk_38_3 : decode prog_5_method_8_code 3 = .ok (.invokevirtual 76, 3) := by decide +kernel
theorem dk_38_6 : decode prog_5_method_8_code 6 = .ok (.ifCond .eq (7), 3) := by decide +kernel
theorem dk_38_9 : decode prog_5_method_8_code 9 = .ok (.iconst (0), 1) := by decide +kernel
theorem dk_38_10 : decode prog_5_method_8_code 10 = .ok (.goto (4), 3) := by decide +kernel
theorem dk_38_13 : decode prog_5_method_8_code 13 = .ok (.iconst (1), 1) := by decide +kernel
theorem dk_38_14 : decode prog_5_method_8_code 14 = .ok (.putfield 69, 3) := by decide +kernel
theorem dk_38_17 : decode prog_5_method_8_code 17 = .ok (.aload_n 0, 1) := by decide +kernel
theorem dk_38_18 : decode prog_5_method_8_code 18 = .ok (.getfield 69, 3) := by decide +kernel
theorem dk_38_21 : decode prog_5_method_8_code 21 = .ok (.ifCond .le (5), 3) := by decide +kernel
theorem dk_38_24 : decode prog_5_method_8_code 24 = .ok (.iconst (0), 1) := by decide +kernel
theorem dk_38_25 : decode prog_5_method_8_code 25 = .ok (.ireturn, 1) := by decide +kernel
theorem dk_38_26 : decode prog_5_method_8_code 26 = .ok (.aload_n 0, 1) := by decide +kernel
theorem dk_38_27 : decode prog_5_method_8_code 27 = .ok (.getfield 7, 3) := by decide +kernel
theorem dk_38_30 : decode prog_5_method_8_code 30 = .ok (.iload_n 1, 1) := by decide +kernel
theorem dk_38_31 : decode prog_5_method_8_code 31 = .ok (.iconst (0), 1) := by decide +kernel
theorem dk_38_32 : decode prog_5_method_8_code 32 = .ok (.bastore, 1) := by decide +kernel
theorem dk_38_33 : decode prog_5_method_8_code 33 = .ok (.aload_n 0, 1) := by decide +kernel
theorem dk_38_34 : decode prog_5_method_8_code 34 = .ok (.getfield 45, 3) := by decide +kernel
theorem dk_38_37 : decode prog_5_method_8_code 37 = .ok (.iload_n 1, 1) := by decide +kernel
theorem dk_38_38 : decode prog_5_method_8_code 38 = .ok (.iconst (-1), 1) := by decide +kernel
theorem dk_38_39 : decode prog_5_method_8_code 39 = .ok (.iastore, 1) := by decide +kernel
theorem dk_38_40 : decode prog_5_method_8_code 40 = .ok (.aload_n 0, 1) := by decide +kernel
theorem dk_38_41 : decode prog_5_method_8_code 41 = .ok (.getfield 48, 3) := by decide +kernel
theorem dk_38_44 : decode prog_5_method_8_code 44 = .ok (.iload_n 1, 1) := by decide +kernel
theorem dk_38_45 : decode prog_5_method_8_code 45 = .ok (.iconst (-1), 1) := by decide +kernel
theorem dk_38_46 : decode prog_5_method_8_code 46 = .ok (.iastore, 1) := by decide +kernel
theorem dk_38_47 : decode prog_5_method_8_code 47 = .ok (.aload_n 0, 1) := by decide +kernel
theorem dk_38_48 : decode prog_5_method_8_code 48 = .ok (.invokevirtual 72, 3) := by decide +kernel
theorem dk_38_51 : decode prog_5_method_8_code 51 = .ok (.ireturn, 1) := by decide +kernel
set_option maxRecDepth 100000 in
set_option maxHeartbeats 4000000 in
theorem cc_38 {l : Launch} {s0 : State} (hst : l.stackTraces = false) (h0 : am_W0 s0) {d : Nat} (hall : ∀ mi ∈ am_idx, am_CC l s0 d mi) : am_CC l s0 (d + 1) 38 :=
  am_method (y := y_38) (cc := prog_5_method_8_code) (maxL := 2) (ret := (some .int)) (rm := am_rm (d + 1) 0 0) (ops := op_38) (C := am_T am_tabs am_ar d) (ar := 2) h0 (by decide) (by decide) fun p e s m args below meth c D A bS ad0 Q hct htab => by
    obtain ⟨hx, hb, hml, hown, hts, hb1, hb2, hA, hroot, hAs, -, -, hlocks, hr, hnm⟩ := hct
    exact List.forall_mem_cons.mpr ⟨ok_aload_n hx hb dk_38_0 rfl,
    List.forall_mem_cons.mpr ⟨ok_aload_n hx hb dk_38_1 rfl,
    List.forall_mem_cons.mpr ⟨ok_iload_n hx hb dk_38_2 rfl,
    List.forall_mem_cons.mpr ⟨ok_cV hx hb hml hown hts hb1 hb2 hA hroot hAs rfl rfl rfl (hcal_33 hall) tw_620 tw_622 ts_18 tw_623 tw_5 nm_33 rfl rfl (by show d + 8 + 1 ≤ d + 1 + 8; omega) (by show 8 + (2 + 11) + (200 + 60 * d) ≤ 200 + 60 * (d + 1); omega) dk_38_3,
    List.forall_mem_cons.mpr ⟨ok_if_eq hx hb dk_38_6 (by decide),
    List.forall_mem_cons.mpr ⟨ok_iconst hx hb dk_38_9 rfl,
    List.forall_mem_cons.mpr ⟨ok_goto hx hb dk_38_10 (by decide),
    List.forall_mem_cons.mpr ⟨ok_iconst hx hb dk_38_13 rfl,
    List.forall_mem_cons.mpr ⟨ok_puti hx hb hts hown hin_3 tyF_3 tyF_3_ok nmF_3 rfl (by decide) tw_533 rfl (by decide +kernel) dk_38_14,
    List.forall_mem_cons.mpr ⟨ok_aload_n hx hb dk_38_17 rfl,
    List.forall_mem_cons.mpr ⟨ok_geti hx hb hts hown hin_3 rfl (by decide) tw_533 dk_38_18,
    List.forall_mem_cons.mpr ⟨ok_if_le hx hb dk_38_21 (by decide),
    List.forall_mem_cons.mpr ⟨ok_iconst hx hb dk_38_24 rfl,
    List.forall_mem_cons.mpr ⟨ok_iret hx hb hb1 hb2 hr hlocks dk_38_25,
    List.forall_mem_cons.mpr ⟨ok_aload_n hx hb dk_38_26 rfl,
    List.forall_mem_cons.mpr ⟨ok_getr hx hb hts hown hin_3 rfl (by decide) tw_534 dk_38_27,
    List.forall_mem_cons.mpr ⟨ok_iload_n hx hb dk_38_30 rfl,
    List.forall_mem_cons.mpr ⟨ok_iconst hx hb dk_38_31 rfl,
    List.forall_mem_cons.mpr ⟨ok_zast hx hb dk_38_32,
    List.forall_mem_cons.mpr ⟨ok_aload_n hx hb dk_38_33 rfl,
    List.forall_mem_cons.mpr ⟨ok_getr hx hb hts hown hin_3 rfl (by decide) tw_546 dk_38_34,
    List.forall_mem_cons.mpr ⟨ok_iload_n hx hb dk_38_37 rfl,
    List.forall_mem_cons.mpr ⟨ok_iconst hx hb dk_38_38 rfl,
    List.forall_mem_cons.mpr ⟨ok_iast hx hb dk_38_39,
    List.forall_mem_cons.mpr ⟨ok_aload_n hx hb dk_38_40 rfl,
    List.forall_mem_cons.mpr ⟨ok_getr hx hb hts hown hin_3 rfl (by decide) tw_547 dk_38_41,
    List.forall_mem_cons.mpr ⟨ok_iload_n hx hb dk_38_44 rfl,
    List.forall_mem_cons.mpr ⟨ok_iconst hx hb dk_38_45 rfl,
    List.forall_mem_cons.mpr ⟨ok_iast hx hb dk_38_46,
    List.forall_mem_cons.mpr ⟨ok_aload_n hx hb dk_38_47 rfl,
    List.forall_mem_cons.mpr ⟨ok_cV hx hb hml hown hts hb1 hb2 hA hroot hAs rfl rfl rfl (hcal_35 hall) tw_612 tw_614 ts_17 tw_615 tw_5 nm_35 rfl rfl (by show d + 8 + 1 ≤ d + 1 + 8; omega) (by show 8 + (3 + 11) + (200 + 60 * d) ≤ 200 + 60 * (d + 1); omega) dk_38_48,
    List.forall_mem_cons.mpr ⟨ok_iret hx hb hb1 hb2 hr hlocks dk_38_51,
    fun _ h => absurd h List.not_mem_nil⟩⟩⟩⟩⟩⟩⟩⟩⟩⟩⟩⟩⟩⟩⟩⟩⟩⟩⟩⟩⟩⟩⟩⟩⟩⟩⟩⟩⟩⟩⟩⟩
theorem dk_39_0 : decode prog_5_method_9_code 0 = .ok (.aload_n 0, 1) := by decide +kernel
theorem dk_39_1 : decode prog_5_method_9_code 1 = .ok (.aload_n 0, 1) := by decide +kernel
theorem dk_39_2 : decode prog_5_method_9_code 2 = .ok (.iload_n 1, 1) := by decide +kernel
theorem dk_39_3 : decode prog_5_method_9_code 3 = .ok (.invokevirtual 76, 3) := by decide +kernel
theorem dk_39_6 : decode prog_5_method_9_code 6 = .ok (.ifCond .ne (7), 3) := by decide +kernel
theorem dk_39_9 : decode prog_5_method_9_code 9 = .ok (.iconst (1), 1) := by decide +kernel
theorem dk_39_10 : decode prog_5_method_9_code 10 = .ok (.goto (28), 3) := by decide +kernel
theorem dk_39_13 : decode prog_5_method_9_code 13 = .ok (.iload_n 2, 1) := by decide +kernel
theorem dk_39_14 : decode prog_5_method_9_code 14 = .ok (.aload_n 0, 1) := by decide +kernel
theorem dk_39_15 : decode prog_5_method_9_code 15 = .ok (.getfield 17, 3) := by decide +kernel
theorem dk_39_18 : decode prog_5_method_9_code 18 = .ok (.iload_n 1, 1) := by decide +kernel
theorem dk_39_19 : decode prog_5_method_9_code 19 = .ok (.iaload, 1) := by decide +kernel
theorem dk_39_20 : decode prog_5_method_9_code 20 = .ok (.if_icmp .lt (13), 3) := by decide +kernel
theorem dk_39_23 : decode prog_5_method_9_code 23 = .ok (.iload_n 2, 1) := by decide +kernel
theorem dk_39_24 : decode prog_5_method_9_code 24 = .ok (.aload_n 0, 1) := by decide +kernel
theorem dk_39_25 : decode prog_5_method_9_code 25 = .ok (.getfield 23, 3) := by decide +kernel
theorem dk_39_28 : decode prog_5_method_9_code 28 = .ok (.iload_n 1, 1) := by decide +kernel
theorem dk_39_29 : decode prog_5_method_9_code 29 = .ok (.iaload, 1) := by decide +kernel
theorem dk_39_30 : decode prog_5_method_9_code 30 = .ok (.if_icmp .le (7), 3) := by decide +kernel
theorem dk_39_33 : decode prog_5_method_9_code 33 = .ok (.iconst (2), 1) := by decide +kernel
theorem dk_39_34 : decode prog_5_method_9_code 34 = .ok (.goto (4), 3) := by decide +kernel
theorem dk_39_37 : decode prog_5_method_9_code 37 = .ok (.iconst (0), 1) := by decide +kernel
theorem dk_39_38 : decode prog_5_method_9_code 38 = .ok (.putfield 69, 3) := by decide +kernel
theorem dk_39_41 : decode prog_5_method_9_code 41 = .ok (.aload_n 0, 1) := by decide +kernel
theorem dk_39_42 : decode prog_5_method_9_code 42 = .ok (.getfield 69, 3) := by decide +kernel
theorem dk_39_45 : decode prog_5_method_9_code 45 = .ok (.ifCond .le (5), 3) := by decide +kernel
theorem dk_39_48 : decode prog_5_method_9_code 48 = .ok (.iconst (0), 1) := by decide +kernel
theorem dk_39_49 : decode prog_5_method_9_code 49 = .ok (.ireturn, 1) := by decide +kernel
theorem dk_39_50 : decode prog_5_method_9_code 50 = .ok (.aload_n 0, 1) := by decide +kernel
theorem dk_39_51 : decode prog_5_method_9_code 51 = .ok (.getfield 20, 3) := by decide +kernel
theorem dk_39_54 : decode prog_5_method_9_code 54 = .ok (.iload_n 1, 1) := by decide +kernel
theorem dk_39_55 : decode prog_5_method_9_code 55 = .ok (.iaload, 1) := by decide +kernel
theorem dk_39_56 : decode prog_5_method_9_code 56 = .ok (.istore_n 3, 1) := by decide +kernel
theorem dk_39_57 : decode prog_5_method_9_code 57 = .ok (.aload_n 0, 1) := by decide +kernel
theorem dk_39_58 : decode prog_5_method_9_code 58 = .ok (.getfield 20, 3) := by decide +kernel
theorem dk_39_61 : decode prog_5_method_9_code 61 = .ok (.iload_n 1, 1) := by decide +kernel
theorem dk_39_62 : decode prog_5_method_9_code 62 = .ok (.iload_n 2, 1) := by decide +kernel
theorem dk_39_63 : decode prog_5_method_9_code 63 = .ok (.iastore, 1) := by decide +kernel
theorem dk_39_64 : decode prog_5_method_9_code 64 = .ok (.iload_n 3, 1) := by decide +kernel
theorem dk_39_65 : decode prog_5_method_9_code 65 = .ok (.ireturn, 1) := by decide +kernel
set_option maxRecDepth 100000 in
set_option maxHeartbeats 4000000 in
theorem cc_39 {l : Launch} {s0 : State} (hst : l.stackTraces = false) (h0 : am_W0 s0) {d : Nat} (hall : ∀ mi ∈ am_idx, am_CC l s0 d mi) : am_CC l s0 (d + 1) 39 :=
  am_method (y := y_39) (cc := prog_5_method_9_code) (maxL := 4) (ret := (some .int)) (rm := am_rm (d + 1) 0 0) (ops := op_39) (C := am_T am_tabs am_ar d) (ar := 3) h0 (by decide) (by decide) fun p e s m args below meth c D A bS ad0 Q hct htab => by
    obtain ⟨hx, hb, hml, hown, hts, hb1, hb2, hA, hroot, hAs, -, -, hlocks, hr, hnm⟩ := hct
    exact List.forall_mem_cons.mpr ⟨ok_aload_n hx hb dk_39_0 rfl,
    List.forall_mem_cons.mpr ⟨ok_aload_n hx hb dk_39_1 rfl,
    List.forall_mem_cons.mpr ⟨ok_iload_n hx hb dk_39_2 rfl,
    List.forall_mem_cons.mpr ⟨ok_cV hx hb hml hown hts hb1 hb2 hA hroot hAs rfl rfl rfl (hcal_33 hall) tw_620 tw_622 ts_18 tw_623 tw_5 nm_33 rfl rfl (by show d + 8 + 1 ≤ d + 1 + 8; omega) (by show 8 + (2 + 11) + (200 + 60 * d) ≤ 200 + 60 * (d + 1); omega) dk_39_3,
    List.forall_mem_cons.mpr ⟨ok_if_ne hx hb dk_39_6 (by decide),
    List.forall_mem_cons.mpr ⟨ok_iconst hx hb dk_39_9 rfl,
    List.forall_mem_cons.mpr ⟨ok_goto hx hb dk_39_10 (by decide),
    List.forall_mem_cons.mpr ⟨ok_iload_n hx hb dk_39_13 rfl,
    List.forall_mem_cons.mpr ⟨ok_aload_n hx hb dk_39_14 rfl,
    List.forall_mem_cons.mpr ⟨ok_getr hx hb hts hown hin_3 rfl (by decide) tw_536 dk_39_15,
    List.forall_mem_cons.mpr ⟨ok_iload_n hx hb dk_39_18 rfl,
    List.forall_mem_cons.mpr ⟨ok_iald hx hb dk_39_19,
    List.forall_mem_cons.mpr ⟨ok_icmp_lt hx hb dk_39_20 (by decide),
    List.forall_mem_cons.mpr ⟨ok_iload_n hx hb dk_39_23 rfl,
    List.forall_mem_cons.mpr ⟨ok_aload_n hx hb dk_39_24 rfl,
    List.forall_mem_cons.mpr ⟨ok_getr hx hb hts hown hin_3 rfl (by decide) tw_538 dk_39_25,
    List.forall_mem_cons.mpr ⟨ok_iload_n hx hb dk_39_28 rfl,
    List.forall_mem_cons.mpr ⟨ok_iald hx hb dk_39_29,
    List.forall_mem_cons.mpr ⟨ok_icmp_le hx hb dk_39_30 (by decide),
    List.forall_mem_cons.mpr ⟨ok_iconst hx hb dk_39_33 rfl,
    List.forall_mem_cons.mpr ⟨ok_goto hx hb dk_39_34 (by decide),
    List.forall_mem_cons.mpr ⟨ok_iconst hx hb dk_39_37 rfl,
    List.forall_mem_cons.mpr ⟨ok_puti hx hb hts hown hin_3 tyF_3 tyF_3_ok nmF_3 rfl (by decide) tw_533 rfl (by decide +kernel) dk_39_38,
    List.forall_mem_cons.mpr ⟨ok_aload_n hx hb dk_39_41 rfl,
    List.forall_mem_cons.mpr ⟨ok_geti hx hb hts hown hin_3 rfl (by decide) tw_533 dk_39_42,
    List.forall_mem_cons.mpr ⟨ok_if_le hx hb dk_39_45 (by decide),
    List.forall_mem_cons.mpr ⟨ok_iconst hx hb dk_39_48 rfl,
    List.forall_mem_cons.mpr ⟨ok_iret hx hb hb1 hb2 hr hlocks dk_39_49,
    List.forall_mem_cons.mpr ⟨ok_aload_n hx hb dk_39_50 rfl,
    List.forall_mem_cons.mpr ⟨ok_getr hx hb hts hown hin_3 rfl (by decide) tw_537 dk_39_51,
    List.forall_mem_cons.mpr ⟨ok_iload_n hx hb dk_39_54 rfl,
    List.forall_mem_cons.mpr ⟨ok_iald hx hb dk_39_55,
    List.forall_mem_cons.mpr ⟨ok_istore_n hx hb dk_39_56 rfl (by decide),
    List.forall_mem_cons.mpr ⟨ok_aload_n hx hb dk_39_57 rfl,
    List.forall_mem_cons.mpr ⟨ok_getr hx hb hts hown hin_3 rfl (by decide) tw_537 dk_39_58,
    List.forall_mem_cons.mpr ⟨ok_iload_n hx hb dk_39_61 rfl,
    List.forall_mem_cons.mpr ⟨ok_iload_n hx hb dk_39_62 rfl,
    List.forall_mem_cons.mpr ⟨ok_iast hx hb dk_39_63,
    List.forall_mem_cons.mpr ⟨ok_iload_n hx hb dk_39_64 rfl,
    List.forall_mem_cons.mpr ⟨ok_iret hx hb hb1 hb2 hr hlocks dk_39_65,
    fun _ h => absurd h List.not_mem_nil⟩⟩⟩⟩⟩⟩⟩⟩⟩⟩⟩⟩⟩⟩⟩⟩⟩⟩⟩⟩⟩⟩⟩⟩⟩⟩⟩⟩⟩⟩⟩⟩⟩⟩⟩⟩⟩⟩⟩⟩
theorem dk_40_0 : decode prog_5_method_10_code 0 = .ok (.aload_n 0, 1) := by decide +kernel
theorem dk_40_1 : decode prog_5_method_10_code 1 = .ok (.iload_n 1, 1) := by decide +kernel
theorem dk_40_2 : decode prog_5_method_10_code 2 = .ok (.ifCond .lt (13), 3) := by decide +kernel
theorem dk_40_5 : decode prog_5_method_10_code 5 = .ok (.iload_n 1, 1) := by decide +kernel
theorem dk_40_6 : decode prog_5_method_10_code 6 = .ok (.bipush (6), 2) := by decide +kernel
theorem dk_40_8 : decode prog_5_method_10_code 8 = .ok (.if_icmp .gt (7), 3) := by decide +kernel
theorem dk_40_11 : decode prog_5_method_10_code 11 = .ok (.iconst (0), 1) := by decide +kernel
theorem dk_40_12 : decode prog_5_method_10_code 12 = .ok (.goto (4), 3) := by decide +kernel
theorem dk_40_15 : decode prog_5_method_10_code 15 = .ok (.iconst (1), 1) := by decide +kernel
theorem dk_40_16 : decode prog_5_method_10_code 16 = .ok (.putfield 69, 3) := by decide +kernel
theorem dk_40_19 : decode prog_5_method_10_code 19 = .ok (.aload_n 0, 1) := by decide +kernel
theorem dk_40_20 : decode prog_5_method_10_code 20 = .ok (.getfield 69, 3) := by decide +kernel
theorem dk_40_23 : decode prog_5_method_10_code 23 = .ok (.ifCond .le (5), 3) := by decide +kernel
theorem dk_40_26 : decode prog_5_method_10_code 26 = .ok (.iconst (0), 1) := by decide +kernel
theorem dk_40_27 : decode prog_5_method_10_code 27 = .ok (.ireturn, 1) := by decide +kernel
theorem dk_40_28 : decode prog_5_method_10_code 28 = .ok (.aload_n 0, 1) := by decide +kernel
theorem dk_40_29 : decode prog_5_method_10_code 29 = .ok (.getfield 41, 3) := by decide +kernel
theorem dk_40_32 : decode prog_5_method_10_code 32 = .ok (.istore_n 2, 1) := by decide +kernel
theorem dk_40_33 : decode prog_5_method_10_code 33 = .ok (.aload_n 0, 1) := by decide +kernel
theorem dk_40_34 : decode prog_5_method_10_code 34 = .ok (.iload_n 1, 1) := by decide +kernel
theorem dk_40_35 : decode prog_5_method_10_code 35 = .ok (.putfield 41, 3) := by decide +kernel
theorem dk_40_38 : decode prog_5_method_10_code 38 = .ok (.iload_n 2, 1) := by decide +kernel
theorem dk_40_39 : decode prog_5_method_10_code 39 = .ok (.ireturn, 1) := by decide +kernel
set_option maxRecDepth 100000 in
set_option maxHeartbeats 4000000 in
theorem cc_40 {l : Launch} {s0 : State} (hst : l.stackTraces = false) (h0 : am_W0 s0) {d : Nat} (hall : ∀ mi ∈ am_idx, am_CC l s0 d mi) : am_CC l s0 (d + 1) 40 :=
  am_method (y := y_40) (cc := prog_5_method_10_code) (maxL := 3) (ret := (some .int)) (rm := am_rm (d + 1) 0 0) (ops := op_40) (C := am_T am_tabs am_ar d) (ar := 2) h0 (by decide) (by decide) fun p e s m args below meth c D A bS ad0 Q hct htab => by
    obtain ⟨hx, hb, hml, hown, hts, hb1, hb2, hA, hroot, hAs, -, -, hlocks, hr, hnm⟩ := hct
    exact List.forall_mem_cons.mpr ⟨ok_aload_n hx hb dk_40_0 rfl,
    List.forall_mem_cons.mpr ⟨ok_iload_n hx hb dk_40_1 rfl,
    List.forall_mem_cons.mpr ⟨ok_if_lt hx hb dk_40_2 (by decide),
    List.forall_mem_cons.mpr ⟨ok_iload_n hx hb dk_40_5 rfl,
    List.forall_mem_cons.mpr ⟨ok_bipush hx hb dk_40_6 (by decide),
    List.forall_mem_cons.mpr ⟨ok_icmp_gt hx hb dk_40_8 (by decide),
    List.forall_mem_cons.mpr ⟨ok_iconst hx hb dk_40_11 rfl,
    List.forall_mem_cons.mpr ⟨ok_goto hx hb dk_40_12 (by decide),
    List.forall_mem_cons.mpr ⟨ok_iconst hx hb dk_40_15 rfl,
    List.forall_mem_cons.mpr ⟨ok_puti hx hb hts hown hin_3 tyF_3 tyF_3_ok nmF_3 rfl (by decide) tw_533 rfl (by decide +kernel) dk_40_16,
    List.forall_mem_cons.mpr ⟨ok_aload_n hx hb dk_40_19 rfl,
    List.forall_mem_cons.mpr ⟨ok_geti hx hb hts hown hin_3 rfl (by decide) tw_533 dk_40_20,
    List.forall_mem_cons.mpr ⟨ok_if_le hx hb dk_40_23 (by decide),
    List.forall_mem_cons.mpr ⟨ok_iconst hx hb dk_40_26 rfl,
    List.forall_mem_cons.mpr ⟨ok_iret hx hb hb1 hb2 hr hlocks dk_40_27,
    List.forall_mem_cons.mpr ⟨ok_aload_n hx hb dk_40_28 rfl,
    List.forall_mem_cons.mpr ⟨ok_geti hx hb hts hown hin_3 rfl (by decide) tw_545 dk_40_29,
    List.forall_mem_cons.mpr ⟨ok_istore_n hx hb dk_40_32 rfl (by decide),
    List.forall_mem_cons.mpr ⟨ok_aload_n hx hb dk_40_33 rfl,
    List.forall_mem_cons.mpr ⟨ok_iload_n hx hb dk_40_34 rfl,
    List.forall_mem_cons.mpr ⟨ok_puti hx hb hts hown hin_3 tyF_3 tyF_3_ok nmF_3 rfl (by decide) tw_545 rfl (by decide +kernel) dk_40_35,
    List.forall_mem_cons.mpr ⟨ok_iload_n hx hb dk_40_38 rfl,
    List.forall_mem_cons.mpr ⟨ok_iret hx hb hb1 hb2 hr hlocks dk_40_39,
    fun _ h => absurd h List.not_mem_nil⟩⟩⟩⟩⟩⟩⟩⟩⟩⟩⟩⟩⟩⟩⟩⟩⟩⟩⟩⟩⟩⟩⟩
theorem dk_41_0 : decode prog_5_method_11_code 0 = .ok (.aload_n 0, 1) := by decide +kernel
theorem dk_41_1 : decode prog_5_method_11_code 1 = .ok (.iload_n 1, 1) := by decide +kernel
theorem dk_41_2 : decode prog_5_method_11_code 2 = .ok (.invokestatic 80, 3) := by decide +kernel
theorem dk_41_5 : decode prog_5_method_11_code 5 = .ok (.ifCond .eq (15), 3) := by decide +kernel
theorem dk_41_8 : decode prog_5_method_11_code 8 = .ok (.iload_n 2, 1) := by decide +kernel
theorem dk_41_9 : decode prog_5_method_11_code 9 = .ok (.invokestatic 80, 3) := by decide +kernel
theorem dk_41_12 : decode prog_5_method_11_code 12 = .ok (.ifCond .eq (8), 3) := by decide +kernel
theorem dk_41_15 : decode prog_5_method_11_code 15 = .ok (.iload_n 1, 1) := by decide +kernel
theorem dk_41_16 : decode prog_5_method_11_code 16 = .ok (.iload_n 2, 1) := by decide +kernel
theorem dk_41_17 : decode prog_5_method_11_code 17 = .ok (.if_icmp .le (7), 3) := by decide +kernel
theorem dk_41_20 : decode prog_5_method_11_code 20 = .ok (.iconst (1), 1) := by decide +kernel
theorem dk_41_21 : decode prog_5_method_11_code 21 = .ok (.goto (16), 3) := by decide +kernel
theorem dk_41_24 : decode prog_5_method_11_code 24 = .ok (.aload_n 0, 1) := by decide +kernel
theorem dk_41_25 : decode prog_5_method_11_code 25 = .ok (.getfield 83, 3) := by decide +kernel
theorem dk_41_28 : decode prog_5_method_11_code 28 = .ok (.iconst (4), 1) := by decide +kernel
theorem dk_41_29 : decode prog_5_method_11_code 29 = .ok (.if_icmp .ne (7), 3) := by decide +kernel
theorem dk_41_32 : decode prog_5_method_11_code 32 = .ok (.iconst (2), 1) := by decide +kernel
theorem dk_41_33 : decode prog_5_method_11_code 33 = .ok (.goto (4), 3) := by decide +kernel
theorem dk_41_36 : decode prog_5_method_11_code 36 = .ok (.iconst (0), 1) := by decide +kernel
theorem dk_41_37 : decode prog_5_method_11_code 37 = .ok (.putfield 69, 3) := by decide +kernel
theorem dk_41_40 : decode prog_5_method_11_code 40 = .ok (.aload_n 0, 1) := by decide +kernel
theorem dk_41_41 : decode prog_5_method_11_code 41 = .ok (.getfield 69, 3) := by decide +kernel
theorem dk_41_44 : decode prog_5_method_11_code 44 = .ok (.ifCond .le (5), 3) := by decide +kernel
theorem dk_41_47 : decode prog_5_method_11_code 47 = .ok (.iconst (0), 1) := by decide +kernel
theorem dk_41_48 : decode prog_5_method_11_code 48 = .ok (.ireturn, 1) := by decide +kernel
theorem dk_41_49 : decode prog_5_method_11_code 49 = .ok (.aload_n 0, 1) := by decide +kernel
theorem dk_41_50 : decode prog_5_method_11_code 50 = .ok (.getfield 35, 3) := by decide +kernel
theorem dk_41_53 : decode prog_5_method_11_code 53 = .ok (.aload_n 0, 1) := by decide +kernel
theorem dk_41_54 : decode prog_5_method_11_code 54 = .ok (.getfield 83, 3) := by decide +kernel
theorem dk_41_57 : decode prog_5_method_11_code 57 = .ok (.iload_n 1, 1) := by decide +kernel
theorem dk_41_58 : decode prog_5_method_11_code 58 = .ok (.iastore, 1) := by decide +kernel
theorem dk_41_59 : decode prog_5_method_11_code 59 = .ok (.aload_n 0, 1) := by decide +kernel
theorem dk_41_60 : decode prog_5_method_11_code 60 = .ok (.getfield 38, 3) := by decide +kernel
theorem dk_41_63 : decode prog_5_method_11_code 63 = .ok (.aload_n 0, 1) := by decide +kernel
theorem dk_41_64 : decode prog_5_method_11_code 64 = .ok (.getfield 83, 3) := by decide +kernel
theorem dk_41_67 : decode prog_5_method_11_code 67 = .ok (.iload_n 2, 1) := by decide +kernel
theorem dk_41_68 : decode prog_5_method_11_code 68 = .ok (.iastore, 1) := by decide +kernel
theorem dk_41_69 : decode prog_5_method_11_code 69 = .ok (.aload_n 0, 1) := by decide +kernel
theorem dk_41_70 : decode prog_5_method_11_code 70 = .ok (.dup, 1) := by decide +kernel
theorem dk_41_71 : decode prog_5_method_11_code 71 = .ok (.getfield 83, 3) := by decide +kernel
theorem dk_41_74 : decode prog_5_method_11_code 74 = .ok (.iconst (1), 1) := by decide +kernel
theorem dk_41_75 : decode prog_5_method_11_code 75 = .ok (.iadd, 1) := by decide +kernel
theorem dk_41_76 : decode prog_5_method_11_code 76 = .ok (.putfield 83, 3) := by decide +kernel
theorem dk_41_79 : decode prog_5_method_11_code 79 = .ok (.aload_n 0, 1) := by decide +kernel
theorem dk_41_80 : decode prog_5_method_11_code 80 = .ok (.getfield 83, 3) := by decide +kernel
theorem dk_41_83 : decode prog_5_method_11_code 83 = .ok (.ireturn, 1) := by decide +kernel
set_option maxRecDepth 100000 in
set_option maxHeartbeats 4000000 in
theorem cc_41 {l : Launch} {s0 : State} (hst : l.stackTraces = false) (h0 : am_W0 s0) {d : Nat} (hall : ∀ mi ∈ am_idx, am_CC l s0 d mi) : am_CC l s0 (d + 1) 41 :=
  am_method (y := y_41) (cc := prog_5_method_11_code) (maxL := 3) (ret := (some .int)) (rm := am_rm (d + 1) 0 0) (ops := op_41) (C := am_T am_tabs am_ar d) (ar := 3) h0 (by decide) (by decide) fun p e s m args below meth c D A bS ad0 Q hct htab => by
    obtain ⟨hx, hb, hml, hown, hts, hb1, hb2, hA, hroot, hAs, -, -, hlocks, hr, hnm⟩ := hct
    exact List.forall_mem_cons.mpr ⟨ok_aload_n hx hb dk_41_0 rfl,
    List.forall_mem_cons.mpr ⟨ok_iload_n hx hb dk_41_1 rfl,
    List.forall_mem_cons.mpr ⟨ok_cS hx hb hml hown hts hb1 hb2 hA hroot hAs rfl rfl (hcal_34 hall) tw_636 tw_637 tw_638 tw_5 nm_34 rfl rfl (by show d + 8 + 1 ≤ d + 1 + 8; omega) (by show 8 + (1 + 11) + (200 + 60 * d) ≤ 200 + 60 * (d + 1); omega) dk_41_2,
    List.forall_mem_cons.mpr ⟨ok_if_eq hx hb dk_41_5 (by decide),
    List.forall_mem_cons.mpr ⟨ok_iload_n hx hb dk_41_8 rfl,
    List.forall_mem_cons.mpr ⟨ok_cS hx hb hml hown hts hb1 hb2 hA hroot hAs rfl rfl (hcal_34 hall) tw_636 tw_637 tw_638 tw_5 nm_34 rfl rfl (by show d + 8 + 1 ≤ d + 1 + 8; omega) (by show 8 + (1 + 11) + (200 + 60 * d) ≤ 200 + 60 * (d + 1); omega) dk_41_9,
    List.forall_mem_cons.mpr ⟨ok_if_eq hx hb dk_41_12 (by decide),
    List.forall_mem_cons.mpr ⟨ok_iload_n hx hb dk_41_15 rfl,
    List.forall_mem_cons.mpr ⟨ok_iload_n hx hb dk_41_16 rfl,
    List.forall_mem_cons.mpr ⟨ok_icmp_le hx hb dk_41_17 (by decide),
    List.forall_mem_cons.mpr ⟨ok_iconst hx hb dk_41_20 rfl,
    List.forall_mem_cons.mpr ⟨ok_goto hx hb dk_41_21 (by decide),
    List.forall_mem_cons.mpr ⟨ok_aload_n hx hb dk_41_24 rfl,
    List.forall_mem_cons.mpr ⟨ok_geti hx hb hts hown hin_3 rfl (by decide) tw_542 dk_41_25,
    List.forall_mem_cons.mpr ⟨ok_iconst hx hb dk_41_28 rfl,
    List.forall_mem_cons.mpr ⟨ok_icmp_ne hx hb dk_41_29 (by decide),
    List.forall_mem_cons.mpr ⟨ok_iconst hx hb dk_41_32 rfl,
    List.forall_mem_cons.mpr ⟨ok_goto hx hb dk_41_33 (by decide),
    List.forall_mem_cons.mpr ⟨ok_iconst hx hb dk_41_36 rfl,
    List.forall_mem_cons.mpr ⟨ok_puti hx hb hts hown hin_3 tyF_3 tyF_3_ok nmF_3 rfl (by decide) tw_533 rfl (by decide +kernel) dk_41_37,
    List.forall_mem_cons.mpr ⟨ok_aload_n hx hb dk_41_40 rfl,
    List.forall_mem_cons.mpr ⟨ok_geti hx hb hts hown hin_3 rfl (by decide) tw_533 dk_41_41,
    List.forall_mem_cons.mpr ⟨ok_if_le hx hb dk_41_44 (by decide),
    List.forall_mem_cons.mpr ⟨ok_iconst hx hb dk_41_47 rfl,
    List.forall_mem_cons.mpr ⟨ok_iret hx hb hb1 hb2 hr hlocks dk_41_48,
    List.forall_mem_cons.mpr ⟨ok_aload_n hx hb dk_41_49 rfl,
    List.forall_mem_cons.mpr ⟨ok_getr hx hb hts hown hin_3 rfl (by decide) tw_543 dk_41_50,
    List.forall_mem_cons.mpr ⟨ok_aload_n hx hb dk_41_53 rfl,
    List.forall_mem_cons.mpr ⟨ok_geti hx hb hts hown hin_3 rfl (by decide) tw_542 dk_41_54,
    List.forall_mem_cons.mpr ⟨ok_iload_n hx hb dk_41_57 rfl,
    List.forall_mem_cons.mpr ⟨ok_iast hx hb dk_41_58,
    List.forall_mem_cons.mpr ⟨ok_aload_n hx hb dk_41_59 rfl,
    List.forall_mem_cons.mpr ⟨ok_getr hx hb hts hown hin_3 rfl (by decide) tw_544 dk_41_60,
    List.forall_mem_cons.mpr ⟨ok_aload_n hx hb dk_41_63 rfl,
    List.forall_mem_cons.mpr ⟨ok_geti hx hb hts hown hin_3 rfl (by decide) tw_542 dk_41_64,
    List.forall_mem_cons.mpr ⟨ok_iload_n hx hb dk_41_67 rfl,
    List.forall_mem_cons.mpr ⟨ok_iast hx hb dk_41_68,
    List.forall_mem_cons.mpr ⟨ok_aload_n hx hb dk_41_69 rfl,
    List.forall_mem_cons.mpr ⟨ok_dup hx hb dk_41_70,
    List.forall_mem_cons.mpr ⟨ok_geti hx hb hts hown hin_3 rfl (by decide) tw_542 dk_41_71,
    List.forall_mem_cons.mpr ⟨ok_iconst hx hb dk_41_74 rfl,
    List.forall_mem_cons.mpr ⟨ok_iadd hx hb dk_41_75,
    List.forall_mem_cons.mpr ⟨ok_puti hx hb hts hown hin_3 tyF_3 tyF_3_ok nmF_3 rfl (by decide) tw_542 rfl (by decide +kernel) dk_41_76,
    List.forall_mem_cons.mpr ⟨ok_aload_n hx hb dk_41_79 rfl,
    List.forall_mem_cons.mpr ⟨ok_geti hx hb hts hown hin_3 rfl (by decide) tw_542 dk_41_80,
    List.forall_mem_cons.mpr ⟨ok_iret hx hb hb1 hb2 hr hlocks dk_41_83,
    fun _ h => absurd h List.not_mem_nil⟩⟩⟩⟩⟩⟩⟩⟩⟩⟩⟩⟩⟩⟩⟩⟩⟩⟩⟩⟩⟩⟩⟩⟩⟩⟩⟩⟩⟩⟩⟩⟩⟩⟩⟩⟩⟩⟩⟩⟩⟩⟩⟩⟩⟩⟩
theorem dk_42_0 : decode prog_5_method_12_code 0 = .ok (.aload_n 0, 1) := by decide +kernel
theorem dk_42_1 : decode prog_5_method_12_code 1 = .ok (.iconst (0), 1) := by decide +kernel
theorem dk_42_2 : decode prog_5_method_12_code 2 = .ok (.putfield 69, 3) := by decide +kernel
theorem dk_42_5 : decode prog_5_method_12_code 5 = .ok (.aload_n 0, 1) := by decide +kernel
theorem dk_42_6 : decode prog_5_method_12_code 6 = .ok (.getfield 83, 3) := by decide +kernel
theorem dk_42_9 : decode prog_5_method_12_code 9 = .ok (.istore_n 1, 1) := by decide +kernel
theorem dk_42_10 : decode prog_5_method_12_code 10 = .ok (.aload_n 0, 1) := by decide +kernel
theorem dk_42_11 : decode prog_5_method_12_code 11 = .ok (.iconst (0), 1) := by decide +kernel
theorem dk_42_12 : decode prog_5_method_12_code 12 = .ok (.putfield 83, 3) := by decide +kernel
theorem dk_42_15 : decode prog_5_method_12_code 15 = .ok (.iload_n 1, 1) := by decide +kernel
theorem dk_42_16 : decode prog_5_method_12_code 16 = .ok (.ireturn, 1) := by decide +kernel
set_option maxRecDepth 100000 in
set_option maxHeartbeats 4000000 in
theorem cc_42 {l : Launch} {s0 : State} (hst : l.stackTraces = false) (h0 : am_W0 s0) {d : Nat} (hall : ∀ mi ∈ am_idx, am_CC l s0 d mi) : am_CC l s0 (d + 1) 42 :=
  am_method (y := y_42) (cc := prog_5_method_12_code) (maxL := 2) (ret := (some .int)) (rm := am_rm (d + 1) 0 0) (ops := op_42) (C := am_T am_tabs am_ar d) (ar := 1) h0 (by decide) (by decide) fun p e s m args below meth c D A bS ad0 Q hct htab => by
    obtain ⟨hx, hb, hml, hown, hts, hb1, hb2, hA, hroot, hAs, -, -, hlocks, hr, hnm⟩ := hct
    exact List.forall_mem_cons.mpr ⟨ok_aload_n hx hb dk_42_0 rfl,
    List.forall_mem_cons.mpr ⟨ok_iconst hx hb dk_42_1 rfl,
    List.forall_mem_cons.mpr ⟨ok_puti hx hb hts hown hin_3 tyF_3 tyF_3_ok nmF_3 rfl (by decide) tw_533 rfl (by decide +kernel) dk_42_2,
    List.forall_mem_cons.mpr ⟨ok_aload_n hx hb dk_42_5 rfl,
    List.forall_mem_cons.mpr ⟨ok_geti hx hb hts hown hin_3 rfl (by decide) tw_542 dk_42_6,
    List.forall_mem_cons.mpr ⟨ok_istore_n hx hb dk_42_9 rfl (by decide),
    List.forall_mem_cons.mpr ⟨ok_aload_n hx hb dk_42_10 rfl,
    List.forall_mem_cons.mpr ⟨ok_iconst hx hb dk_42_11 rfl,
    List.forall_mem_cons.mpr ⟨ok_puti hx hb hts hown hin_3 tyF_3 tyF_3_ok nmF_3 rfl (by decide) tw_542 rfl (by decide +kernel) dk_42_12,
    List.forall_mem_cons.mpr ⟨ok_iload_n hx hb dk_42_15 rfl,
    List.forall_mem_cons.mpr ⟨ok_iret hx hb hb1 hb2 hr hlocks dk_42_16,
    fun _ h => absurd h List.not_mem_nil⟩⟩⟩⟩⟩⟩⟩⟩⟩⟩⟩
theorem dk_43_0 : decode prog_5_method_13_code 0 = .ok (.iconst (0), 1) := by decide +kernel
theorem dk_43_1 : decode prog_5_method_13_code 1 = .ok (.istore_n 2, 1) := by decide +kernel
theorem dk_43_2 : decode prog_5_method_13_code 2 = .ok (.iconst (0), 1) := by decide +kernel
theorem dk_43_3 : decode prog_5_method_13_code 3 = .ok (.istore_n 3, 1) := by decide +kernel
theorem dk_43_4 : decode prog_5_method_13_code 4 = .ok (.iload_n 3, 1) := by decide +kernel
theorem dk_43_5 : decode prog_5_method_13_code 5 = .ok (.aload_n 0, 1) := by decide +kernel
theorem dk_43_6 : decode prog_5_method_13_code 6 = .ok (.getfield 83, 3) := by decide +kernel
theorem dk_43_9 : decode prog_5_method_13_code 9 = .ok (.if_icmp .ge (39), 3) := by decide +kernel
theorem dk_43_12 : decode prog_5_method_13_code 12 = .ok (.iload_n 2, 1) := by decide +kernel
theorem dk_43_13 : decode prog_5_method_13_code 13 = .ok (.ifCond .ne (23), 3) := by decide +kernel
theorem dk_43_16 : decode prog_5_method_13_code 16 = .ok (.iload_n 1, 1) := by decide +kernel
theorem dk_43_17 : decode prog_5_method_13_code 17 = .ok (.aload_n 0, 1) := by decide +kernel
theorem dk_43_18 : decode prog_5_method_13_code 18 = .ok (.getfield 35, 3) := by decide +kernel
theorem dk_43_21 : decode prog_5_method_13_code 21 = .ok (.iload_n 3, 1) := by decide +kernel
theorem dk_43_22 : decode prog_5_method_13_code 22 = .ok (.iaload, 1) := by decide +kernel
theorem dk_43_23 : decode prog_5_method_13_code 23 = .ok (.if_icmp .lt (17), 3) := by decide +kernel
theorem dk_43_26 : decode prog_5_method_13_code 26 = .ok (.iload_n 1, 1) := by decide +kernel
theorem dk_43_27 : decode prog_5_method_13_code 27 = .ok (.aload_n 0, 1) := by decide +kernel
theorem dk_43_28 : decode prog_5_method_13_code 28 = .ok (.getfield 38, 3) := by decide +kernel
theorem dk_43_31 : decode prog_5_method_13_code 31 = .ok (.iload_n 3, 1) := by decide +kernel
theorem dk_43_32 : decode prog_5_method_13_code 32 = .ok (.iaload, 1) := by decide +kernel
theorem dk_43_33 : decode prog_5_method_13_code 33 = .ok (.if_icmp .gt (7), 3) := by decide +kernel
theorem dk_43_36 : decode prog_5_method_13_code 36 = .ok (.iconst (1), 1) := by decide +kernel
theorem dk_43_37 : decode prog_5_method_13_code 37 = .ok (.goto (4), 3) := by decide +kernel
theorem dk_43_40 : decode prog_5_method_13_code 40 = .ok (.iconst (0), 1) := by decide +kernel
theorem dk_43_41 : decode prog_5_method_13_code 41 = .ok (.istore_n 2, 1) := by decide +kernel
theorem dk_43_42 : decode prog_5_method_13_code 42 = .ok (.iinc 3 (1), 3) := by decide +kernel
theorem dk_43_45 : decode prog_5_method_13_code 45 = .ok (.goto (-41), 3) := by decide +kernel
theorem dk_43_48 : decode prog_5_method_13_code 48 = .ok (.iload_n 2, 1) := by decide +kernel
theorem dk_43_49 : decode prog_5_method_13_code 49 = .ok (.ireturn, 1) := by decide +kernel
set_option maxRecDepth 100000 in
set_option maxHeartbeats 4000000 in
theorem cc_43 {l : Launch} {s0 : State} (hst : l.stackTraces = false) (h0 : am_W0 s0) {d : Nat} (hall : ∀ mi ∈ am_idx, am_CC l s0 d mi) : am_CC l s0 (d + 1) 43 :=
  am_method (y := y_43) (cc := prog_5_method_13_code) (maxL := 4) (ret := (some .boolean)) (rm := am_rm (d + 1) 0 0) (ops := op_43) (C := am_T am_tabs am_ar d) (ar := 2) h0 (by decide) (by decide) fun p e s m args below meth c D A bS ad0 Q hct htab => by
    obtain ⟨hx, hb, hml, hown, hts, hb1, hb2, hA, hroot, hAs, -, -, hlocks, hr, hnm⟩ := hct
    exact List.forall_mem_cons.mpr ⟨ok_iconst hx hb dk_43_0 rfl,
    List.forall_mem_cons.mpr ⟨ok_istore_n hx hb dk_43_1 rfl (by decide),
    List.forall_mem_cons.mpr ⟨ok_iconst hx hb dk_43_2 rfl,
    List.forall_mem_cons.mpr ⟨ok_istore_n hx hb dk_43_3 rfl (by decide),
    List.forall_mem_cons.mpr ⟨ok_iload_n hx hb dk_43_4 rfl,
    List.forall_mem_cons.mpr ⟨ok_aload_n hx hb dk_43_5 rfl,
    List.forall_mem_cons.mpr ⟨ok_geti hx hb hts hown hin_3 rfl (by decide) tw_542 dk_43_6,
    List.forall_mem_cons.mpr ⟨ok_icmp_ge hx hb dk_43_9 (by decide),
    List.forall_mem_cons.mpr ⟨ok_iload_n hx hb dk_43_12 rfl,
    List.forall_mem_cons.mpr ⟨ok_if_ne hx hb dk_43_13 (by decide),
    List.forall_mem_cons.mpr ⟨ok_iload_n hx hb dk_43_16 rfl,
    List.forall_mem_cons.mpr ⟨ok_aload_n hx hb dk_43_17 rfl,
    List.forall_mem_cons.mpr ⟨ok_getr hx hb hts hown hin_3 rfl (by decide) tw_543 dk_43_18,
    List.forall_mem_cons.mpr ⟨ok_iload_n hx hb dk_43_21 rfl,
    List.forall_mem_cons.mpr ⟨ok_iald hx hb dk_43_22,
    List.forall_mem_cons.mpr ⟨ok_icmp_lt hx hb dk_43_23 (by decide),
    List.forall_mem_cons.mpr ⟨ok_iload_n hx hb dk_43_26 rfl,
    List.forall_mem_cons.mpr ⟨ok_aload_n hx hb dk_43_27 rfl,
    List.forall_mem_cons.mpr ⟨ok_getr hx hb hts hown hin_3 rfl (by decide) tw_544 dk_43_28,
    List.forall_mem_cons.mpr ⟨ok_iload_n hx hb dk_43_31 rfl,
    List.forall_mem_cons.mpr ⟨ok_iald hx hb dk_43_32,
    List.forall_mem_cons.mpr ⟨ok_icmp_gt hx hb dk_43_33 (by decide),
    List.forall_mem_cons.mpr ⟨ok_iconst hx hb dk_43_36 rfl,
    List.forall_mem_cons.mpr ⟨ok_goto hx hb dk_43_37 (by decide),
    List.forall_mem_cons.mpr ⟨ok_iconst hx hb dk_43_40 rfl,
    List.forall_mem_cons.mpr ⟨ok_istore_n hx hb dk_43_41 rfl (by decide),
    List.forall_mem_cons.mpr ⟨ok_iinc hx hb dk_43_42 rfl (by decide),
    List.forall_mem_cons.mpr ⟨ok_goto hx hb dk_43_45 (by decide),
    List.forall_mem_cons.mpr ⟨ok_iload_n hx hb dk_43_48 rfl,
    List.forall_mem_cons.mpr ⟨ok_zret hx hb hb1 hb2 hr hlocks dk_43_49,
    fun _ h => absurd h List.not_mem_nil⟩⟩⟩⟩⟩⟩⟩⟩⟩⟩⟩⟩⟩⟩⟩⟩⟩⟩⟩⟩⟩⟩⟩⟩⟩⟩⟩⟩⟩⟩
theorem dk_44_0 : decode prog_5_method_14_code 0 = .ok (.iload_n 2, 1) := by decide +kernel
theorem dk_44_1 : decode prog_5_method_14_code 1 = .ok (.iload 4, 2) := by decide +kernel
theorem dk_44_3 : decode prog_5_method_14_code 3 = .ok (.if_icmp .eq (68), 3) := by decide +kernel
theorem dk_44_6 : decode prog_5_method_14_code 6 = .ok (.iload_n 2, 1) := by decide +kernel
theorem dk_44_7 : decode prog_5_method_14_code 7 = .ok (.iload 4, 2) := by decide +kernel
theorem dk_44_9 : decode prog_5_method_14_code 9 = .ok (.if_icmp .ge (34), 3) := by decide +kernel
theorem dk_44_12 : decode prog_5_method_14_code 12 = .ok (.iload 4, 2) := by decide +kernel
theorem dk_44_14 : decode prog_5_method_14_code 14 = .ok (.iload_n 2, 1) := by decide +kernel
theorem dk_44_15 : decode prog_5_method_14_code 15 = .ok (.isub, 1) := by decide +kernel
theorem dk_44_16 : decode prog_5_method_14_code 16 = .ok (.aload_n 0, 1) := by decide +kernel
theorem dk_44_17 : decode prog_5_method_14_code 17 = .ok (.getfield 32, 3) := by decide +kernel
theorem dk_44_20 : decode prog_5_method_14_code 20 = .ok (.bipush (6), 2) := by decide +kernel
theorem dk_44_22 : decode prog_5_method_14_code 22 = .ok (.aload_n 0, 1) := by decide +kernel
theorem dk_44_23 : decode prog_5_method_14_code 23 = .ok (.getfield 13, 3) := by decide +kernel
theorem dk_44_26 : decode prog_5_method_14_code 26 = .ok (.iload_n 1, 1) := by decide +kernel
theorem dk_44_27 : decode prog_5_method_14_code 27 = .ok (.iaload, 1) := by decide +kernel
theorem dk_44_28 : decode prog_5_method_14_code 28 = .ok (.imul, 1) := by decide +kernel
theorem dk_44_29 : decode prog_5_method_14_code 29 = .ok (.aload_n 0, 1) := by decide +kernel
theorem dk_44_30 : decode prog_5_method_14_code 30 = .ok (.getfield 13, 3) := by decide +kernel
theorem dk_44_33 : decode prog_5_method_14_code 33 = .ok (.iload_n 3, 1) := by decide +kernel
theorem dk_44_34 : decode prog_5_method_14_code 34 = .ok (.iaload, 1) := by decide +kernel
theorem dk_44_35 : decode prog_5_method_14_code 35 = .ok (.iadd, 1) := by decide +kernel
theorem dk_44_36 : decode prog_5_method_14_code 36 = .ok (.iaload, 1) := by decide +kernel
theorem dk_44_37 : decode prog_5_method_14_code 37 = .ok (.if_icmp .ge (38), 3) := by decide +kernel
theorem dk_44_40 : decode prog_5_method_14_code 40 = .ok (.goto (31), 3) := by decide +kernel
theorem dk_44_43 : decode prog_5_method_14_code 43 = .ok (.iload_n 2, 1) := by decide +kernel
theorem dk_44_44 : decode prog_5_method_14_code 44 = .ok (.iload 4, 2) := by decide +kernel
theorem dk_44_46 : decode prog_5_method_14_code 46 = .ok (.isub, 1) := by decide +kernel
theorem dk_44_47 : decode prog_5_method_14_code 47 = .ok (.aload_n 0, 1) := by decide +kernel
theorem dk_44_48 : decode prog_5_method_14_code 48 = .ok (.getfield 32, 3) := by decide +kernel
theorem dk_44_51 : decode prog_5_method_14_code 51 = .ok (.bipush (6), 2) := by decide +kernel
theorem dk_44_53 : decode prog_5_method_14_code 53 = .ok (.aload_n 0, 1) := by decide +kernel
theorem dk_44_54 : decode prog_5_method_14_code 54 = .ok (.getfield 13, 3) := by decide +kernel
theorem dk_44_57 : decode prog_5_method_14_code 57 = .ok (.iload_n 3, 1) := by decide +kernel
theorem dk_44_58 : decode prog_5_method_14_code 58 = .ok (.iaload, 1) := by decide +kernel
theorem dk_44_59 : decode prog_5_method_14_code 59 = .ok (.imul, 1) := by decide +kernel
theorem dk_44_60 : decode prog_5_method_14_code 60 = .ok (.aload_n 0, 1) := by decide +kernel
theorem dk_44_61 : decode prog_5_method_14_code 61 = .ok (.getfield 13, 3) := by decide +kernel
theorem dk_44_64 : decode prog_5_method_14_code 64 = .ok (.iload_n 1, 1) := by decide +kernel
theorem dk_44_65 : decode prog_5_method_14_code 65 = .ok (.iaload, 1) := by decide +kernel
theorem dk_44_66 : decode prog_5_method_14_code 66 = .ok (.iadd, 1) := by decide +kernel
theorem dk_44_67 : decode prog_5_method_14_code 67 = .ok (.iaload, 1) := by decide +kernel
theorem dk_44_68 : decode prog_5_method_14_code 68 = .ok (.if_icmp .ge (7), 3) := by decide +kernel
theorem dk_44_71 : decode prog_5_method_14_code 71 = .ok (.iconst (1), 1) := by decide +kernel
theorem dk_44_72 : decode prog_5_method_14_code 72 = .ok (.goto (4), 3) := by decide +kernel
theorem dk_44_75 : decode prog_5_method_14_code 75 = .ok (.iconst (0), 1) := by decide +kernel
theorem dk_44_76 : decode prog_5_method_14_code 76 = .ok (.ireturn, 1) := by decide +kernel
set_option maxRecDepth 100000 in
set_option maxHeartbeats 4000000 in
theorem cc_44 {l : Launch} {s0 : State} (hst : l.stackTraces = false) (h0 : am_W0 s0) {d : Nat} (hall : ∀ mi ∈ am_idx, am_CC l s0 d mi) : am_CC l s0 (d + 1) 44 :=
  am_method (y := y_44) (cc := prog_5_method_14_code) (maxL := 5) (ret := (some .boolean)) (rm := am_rm (d + 1) 0 0) (ops := op_44) (C := am_T am_tabs am_ar d) (ar := 5) h0 (by decide) (by decide) fun p e s m args below meth c D A bS ad0 Q hct htab => by
    obtain ⟨hx, hb, hml, hown, hts, hb1, hb2, hA, hroot, hAs, -, -, hlocks, hr, hnm⟩ := hct
    exact List.forall_mem_cons.mpr ⟨ok_iload_n hx hb dk_44_0 rfl,
    List.forall_mem_cons.mpr ⟨ok_iload hx hb dk_44_1,
    List.forall_mem_cons.mpr ⟨ok_icmp_eq hx hb dk_44_3 (by decide),
    List.forall_mem_cons.mpr ⟨ok_iload_n hx hb dk_44_6 rfl,
    List.forall_mem_cons.mpr ⟨ok_iload hx hb dk_44_7,
    List.forall_mem_cons.mpr ⟨ok_icmp_ge hx hb dk_44_9 (by decide),
    List.forall_mem_cons.mpr ⟨ok_iload hx hb dk_44_12,
    List.forall_mem_cons.mpr ⟨ok_iload_n hx hb dk_44_14 rfl,
    List.forall_mem_cons.mpr ⟨ok_isub hx hb dk_44_15,
    List.forall_mem_cons.mpr ⟨ok_aload_n hx hb dk_44_16 rfl,
    List.forall_mem_cons.mpr ⟨ok_getr hx hb hts hown hin_3 rfl (by decide) tw_541 dk_44_17,
    List.forall_mem_cons.mpr ⟨ok_bipush hx hb dk_44_20 (by decide),
    List.forall_mem_cons.mpr ⟨ok_aload_n hx hb dk_44_22 rfl,
    List.forall_mem_cons.mpr ⟨ok_getr hx hb hts hown hin_3 rfl (by decide) tw_535 dk_44_23,
    List.forall_mem_cons.mpr ⟨ok_iload_n hx hb dk_44_26 rfl,
    List.forall_mem_cons.mpr ⟨ok_iald hx hb dk_44_27,
    List.forall_mem_cons.mpr ⟨ok_imul hx hb dk_44_28,
    List.forall_mem_cons.mpr ⟨ok_aload_n hx hb dk_44_29 rfl,
    List.forall_mem_cons.mpr ⟨ok_getr hx hb hts hown hin_3 rfl (by decide) tw_535 dk_44_30,
    List.forall_mem_cons.mpr ⟨ok_iload_n hx hb dk_44_33 rfl,
    List.forall_mem_cons.mpr ⟨ok_iald hx hb dk_44_34,
    List.forall_mem_cons.mpr ⟨ok_iadd hx hb dk_44_35,
    List.forall_mem_cons.mpr ⟨ok_iald hx hb dk_44_36,
    List.forall_mem_cons.mpr ⟨ok_icmp_ge hx hb dk_44_37 (by decide),
    List.forall_mem_cons.mpr ⟨ok_goto hx hb dk_44_40 (by decide),
    List.forall_mem_cons.mpr ⟨ok_iload_n hx hb dk_44_43 rfl,
    List.forall_mem_cons.mpr ⟨ok_iload hx hb dk_44_44,
    List.forall_mem_cons.mpr ⟨ok_isub hx hb dk_44_46,
    List.forall_mem_cons.mpr ⟨ok_aload_n hx hb dk_44_47 rfl,
    List.forall_mem_cons.mpr ⟨ok_getr hx hb hts hown hin_3 rfl (by decide) tw_541 dk_44_48,
    List.forall_mem_cons.mpr ⟨ok_bipush hx hb dk_44_51 (by decide),
    List.forall_mem_cons.mpr ⟨ok_aload_n hx hb dk_44_53 rfl,
    List.forall_mem_cons.mpr ⟨ok_getr hx hb hts hown hin_3 rfl (by decide) tw_535 dk_44_54,
    List.forall_mem_cons.mpr ⟨ok_iload_n hx hb dk_44_57 rfl,
    List.forall_mem_cons.mpr ⟨ok_iald hx hb dk_44_58,
    List.forall_mem_cons.mpr ⟨ok_imul hx hb dk_44_59,
    List.forall_mem_cons.mpr ⟨ok_aload_n hx hb dk_44_60 rfl,
    List.forall_mem_cons.mpr ⟨ok_getr hx hb hts hown hin_3 rfl (by decide) tw_535 dk_44_61,
    List.forall_mem_cons.mpr ⟨ok_iload_n hx hb dk_44_64 rfl,
    List.forall_mem_cons.mpr ⟨ok_iald hx hb dk_44_65,
    List.forall_mem_cons.mpr ⟨ok_iadd hx hb dk_44_66,
    List.forall_mem_cons.mpr ⟨ok_iald hx hb dk_44_67,
    List.forall_mem_cons.mpr ⟨ok_icmp_ge hx hb dk_44_68 (by decide),
    List.forall_mem_cons.mpr ⟨ok_iconst hx hb dk_44_71 rfl,
    List.forall_mem_cons.mpr ⟨ok_goto hx hb dk_44_72 (by decide),
    List.forall_mem_cons.mpr ⟨ok_iconst hx hb dk_44_75 rfl,
    List.forall_mem_cons.mpr ⟨ok_zret hx hb hb1 hb2 hr hlocks dk_44_76,
    fun _ h => absurd h List.not_mem_nil⟩⟩⟩⟩⟩⟩⟩⟩⟩⟩⟩⟩⟩⟩⟩⟩⟩⟩⟩⟩⟩⟩⟩⟩⟩⟩⟩⟩⟩⟩⟩⟩⟩⟩⟩⟩⟩⟩⟩⟩⟩⟩⟩⟩⟩⟩⟩
theorem dk_45_0 : decode prog_5_method_15_code 0 = .ok (.aload_n 0, 1) := by decide +kernel
theorem dk_45_1 : decode prog_5_method_15_code 1 = .ok (.aload_n 0, 1) := by decide +kernel
theorem dk_45_2 : decode prog_5_method_15_code 2 = .ok (.iload_n 1, 1) := by decide +kernel
theorem dk_45_3 : decode prog_5_method_15_code 3 = .ok (.invokevirtual 76, 3) := by decide +kernel
theorem dk_45_6 : decode prog_5_method_15_code 6 = .ok (.ifCond .ne (7), 3) := by decide +kernel
theorem dk_45_9 : decode prog_5_method_15_code 9 = .ok (.iconst (1), 1) := by decide +kernel
theorem dk_45_10 : decode prog_5_method_15_code 10 = .ok (.goto (40), 3) := by decide +kernel
theorem dk_45_13 : decode prog_5_method_15_code 13 = .ok (.iload_n 2, 1) := by decide +kernel
theorem dk_45_14 : decode prog_5_method_15_code 14 = .ok (.aload_n 0, 1) := by decide +kernel
theorem dk_45_15 : decode prog_5_method_15_code 15 = .ok (.getfield 17, 3) := by decide +kernel
theorem dk_45_18 : decode prog_5_method_15_code 18 = .ok (.iload_n 1, 1) := by decide +kernel
theorem dk_45_19 : decode prog_5_method_15_code 19 = .ok (.iaload, 1) := by decide +kernel
theorem dk_45_20 : decode prog_5_method_15_code 20 = .ok (.if_icmp .lt (13), 3) := by decide +kernel
theorem dk_45_23 : decode prog_5_method_15_code 23 = .ok (.iload_n 2, 1) := by decide +kernel
theorem dk_45_24 : decode prog_5_method_15_code 24 = .ok (.aload_n 0, 1) := by decide +kernel
theorem dk_45_25 : decode prog_5_method_15_code 25 = .ok (.getfield 23, 3) := by decide +kernel
theorem dk_45_28 : decode prog_5_method_15_code 28 = .ok (.iload_n 1, 1) := by decide +kernel
theorem dk_45_29 : decode prog_5_method_15_code 29 = .ok (.iaload, 1) := by decide +kernel
theorem dk_45_30 : decode prog_5_method_15_code 30 = .ok (.if_icmp .le (7), 3) := by decide +kernel
theorem dk_45_33 : decode prog_5_method_15_code 33 = .ok (.iconst (2), 1) := by decide +kernel
theorem dk_45_34 : decode prog_5_method_15_code 34 = .ok (.goto (16), 3) := by decide +kernel
theorem dk_45_37 : decode prog_5_method_15_code 37 = .ok (.aload_n 0, 1) := by decide +kernel
theorem dk_45_38 : decode prog_5_method_15_code 38 = .ok (.iload_n 2, 1) := by decide +kernel
theorem dk_45_39 : decode prog_5_method_15_code 39 = .ok (.invokevirtual 86, 3) := by decide +kernel
theorem dk_45_42 : decode prog_5_method_15_code 42 = .ok (.ifCond .eq (7), 3) := by decide +kernel
theorem dk_45_45 : decode prog_5_method_15_code 45 = .ok (.iconst (3), 1) := by decide +kernel
theorem dk_45_46 : decode prog_5_method_15_code 46 = .ok (.goto (4), 3) := by decide +kernel
theorem dk_45_49 : decode prog_5_method_15_code 49 = .ok (.iconst (0), 1) := by decide +kernel
theorem dk_45_50 : decode prog_5_method_15_code 50 = .ok (.putfield 69, 3) := by decide +kernel
theorem dk_45_53 : decode prog_5_method_15_code 53 = .ok (.iconst (0), 1) := by decide +kernel
theorem dk_45_54 : decode prog_5_method_15_code 54 = .ok (.istore_n 3, 1) := by decide +kernel
theorem dk_45_55 : decode prog_5_method_15_code 55 = .ok (.iload_n 3, 1) := by decide +kernel
theorem dk_45_56 : decode prog_5_method_15_code 56 = .ok (.bipush (7), 2) := by decide +kernel
theorem dk_45_58 : decode prog_5_method_15_code 58 = .ok (.if_icmp .ge (60), 3) := by decide +kernel
theorem dk_45_61 : decode prog_5_method_15_code 61 = .ok (.aload_n 0, 1) := by decide +kernel
theorem dk_45_62 : decode prog_5_method_15_code 62 = .ok (.getfield 69, 3) := by decide +kernel
theorem dk_45_65 : decode prog_5_method_15_code 65 = .ok (.ifCond .ne (53), 3) := by decide +kernel
theorem dk_45_68 : decode prog_5_method_15_code 68 = .ok (.iload_n 3, 1) := by decide +kernel
theorem dk_45_69 : decode prog_5_method_15_code 69 = .ok (.iload_n 1, 1) := by decide +kernel
theorem dk_45_70 : decode prog_5_method_15_code 70 = .ok (.if_icmp .eq (42), 3) := by decide +kernel
theorem dk_45_73 : decode prog_5_method_15_code 73 = .ok (.aload_n 0, 1) := by decide +kernel
theorem dk_45_74 : decode prog_5_method_15_code 74 = .ok (.getfield 7, 3) := by decide +kernel
theorem dk_45_77 : decode prog_5_method_15_code 77 = .ok (.iload_n 3, 1) := by decide +kernel
theorem dk_45_78 : decode prog_5_method_15_code 78 = .ok (.baload, 1) := by decide +kernel
theorem dk_45_79 : decode prog_5_method_15_code 79 = .ok (.ifCond .eq (33), 3) := by decide +kernel
theorem dk_45_82 : decode prog_5_method_15_code 82 = .ok (.aload_n 0, 1) := by decide +kernel
theorem dk_45_83 : decode prog_5_method_15_code 83 = .ok (.getfield 29, 3) := by decide +kernel
theorem dk_45_86 : decode prog_5_method_15_code 86 = .ok (.iload_n 3, 1) := by decide +kernel
theorem dk_45_87 : decode prog_5_method_15_code 87 = .ok (.iaload, 1) := by decide +kernel
theorem dk_45_88 : decode prog_5_method_15_code 88 = .ok (.ifCond .lt (24), 3) := by decide +kernel
theorem dk_45_91 : decode prog_5_method_15_code 91 = .ok (.aload_n 0, 1) := by decide +kernel
theorem dk_45_92 : decode prog_5_method_15_code 92 = .ok (.iload_n 1, 1) := by decide +kernel
theorem dk_45_93 : decode prog_5_method_15_code 93 = .ok (.iload_n 2, 1) := by decide +kernel
theorem dk_45_94 : decode prog_5_method_15_code 94 = .ok (.iload_n 3, 1) := by decide +kernel
theorem dk_45_95 : decode prog_5_method_15_code 95 = .ok (.aload_n 0, 1) := by decide +kernel
theorem dk_45_96 : decode prog_5_method_15_code 96 = .ok (.getfield 29, 3) := by decide +kernel
theorem dk_45_99 : decode prog_5_method_15_code 99 = .ok (.iload_n 3, 1) := by decide +kernel
theorem dk_45_100 : decode prog_5_method_15_code 100 = .ok (.iaload, 1) := by decide +kernel
theorem dk_45_101 : decode prog_5_method_15_code 101 = .ok (.invokevirtual 89, 3) := by decide +kernel
theorem dk_45_104 : decode prog_5_method_15_code 104 = .ok (.ifCond .eq (8), 3) := by decide +kernel
theorem dk_45_107 : decode prog_5_method_15_code 107 = .ok (.aload_n 0, 1) := by decide +kernel
theorem dk_45_108 : decode prog_5_method_15_code 108 = .ok (.iconst (3), 1) := by decide +kernel
theorem dk_45_109 : decode prog_5_method_15_code 109 = .ok (.putfield 69, 3) := by decide +kernel
theorem dk_45_112 : decode prog_5_method_15_code 112 = .ok (.iinc 3 (1), 3) := by decide +kernel
theorem dk_45_115 : decode prog_5_method_15_code 115 = .ok (.goto (-60), 3) := by decide +kernel
theorem dk_45_118 : decode prog_5_method_15_code 118 = .ok (.aload_n 0, 1) := by decide +kernel
theorem dk_45_119 : decode prog_5_method_15_code 119 = .ok (.getfield 69, 3) := by decide +kernel
theorem dk_45_122 : decode prog_5_method_15_code 122 = .ok (.ifCond .ne (10), 3) := by decide +kernel
theorem dk_45_125 : decode prog_5_method_15_code 125 = .ok (.aload_n 0, 1) := by decide +kernel
theorem dk_45_126 : decode prog_5_method_15_code 126 = .ok (.getfield 29, 3) := by decide +kernel
theorem dk_45_129 : decode prog_5_method_15_code 129 = .ok (.iload_n 1, 1) := by decide +kernel
theorem dk_45_130 : decode prog_5_method_15_code 130 = .ok (.iload_n 2, 1) := by decide +kernel
theorem dk_45_131 : decode prog_5_method_15_code 131 = .ok (.iastore, 1) := by decide +kernel
theorem dk_45_132 : decode prog_5_method_15_code 132 = .ok (.return_, 1) := by decide +kernel
set_option maxRecDepth 100000 in
set_option maxHeartbeats 4000000 in
theorem cc_45 {l : Launch} {s0 : State} (hst : l.stackTraces = false) (h0 : am_W0 s0) {d : Nat} (hall : ∀ mi ∈ am_idx, am_CC l s0 d mi) : am_CC l s0 (d + 1) 45 :=
  am_method (y := y_45) (cc := prog_5_method_15_code) (maxL := 4) (ret := none) (rm := am_rm (d + 1) 0 0) (ops := op_45) (C := am_T am_tabs am_ar d) (ar := 3) h0 (by decide) (by decide) fun p e s m args below meth c D A bS ad0 Q hct htab => by
    obtain ⟨hx, hb, hml, hown, hts, hb1, hb2, hA, hroot, hAs, -, -, hlocks, hr, hnm⟩ := hct
    exact List.forall_mem_cons.mpr ⟨ok_aload_n hx hb dk_45_0 rfl,
    List.forall_mem_cons.mpr ⟨ok_aload_n hx hb dk_45_1 rfl,
    List.forall_mem_cons.mpr ⟨ok_iload_n hx hb dk_45_2 rfl,
    List.forall_mem_cons.mpr ⟨ok_cV hx hb hml hown hts hb1 hb2 hA hroot hAs rfl rfl rfl (hcal_33 hall) tw_620 tw_622 ts_18 tw_623 tw_5 nm_33 rfl rfl (by show d + 8 + 1 ≤ d + 1 + 8; omega) (by show 8 + (2 + 11) + (200 + 60 * d) ≤ 200 + 60 * (d + 1); omega) dk_45_3,
    List.forall_mem_cons.mpr ⟨ok_if_ne hx hb dk_45_6 (by decide),
    List.forall_mem_cons.mpr ⟨ok_iconst hx hb dk_45_9 rfl,
    List.forall_mem_cons.mpr ⟨ok_goto hx hb dk_45_10 (by decide),
    List.forall_mem_cons.mpr ⟨ok_iload_n hx hb dk_45_13 rfl,
    List.forall_mem_cons.mpr ⟨ok_aload_n hx hb dk_45_14 rfl,
    List.forall_mem_cons.mpr ⟨ok_getr hx hb hts hown hin_3 rfl (by decide) tw_536 dk_45_15,
    List.forall_mem_cons.mpr ⟨ok_iload_n hx hb dk_45_18 rfl,
    List.forall_mem_cons.mpr ⟨ok_iald hx hb dk_45_19,
    List.forall_mem_cons.mpr ⟨ok_icmp_lt hx hb dk_45_20 (by decide),
    List.forall_mem_cons.mpr ⟨ok_iload_n hx hb dk_45_23 rfl,
    List.forall_mem_cons.mpr ⟨ok_aload_n hx hb dk_45_24 rfl,
    List.forall_mem_cons.mpr ⟨ok_getr hx hb hts hown hin_3 rfl (by decide) tw_538 dk_45_25,
    List.forall_mem_cons.mpr ⟨ok_iload_n hx hb dk_45_28 rfl,
    List.forall_mem_cons.mpr ⟨ok_iald hx hb dk_45_29,
    List.forall_mem_cons.mpr ⟨ok_icmp_le hx hb dk_45_30 (by decide),
    List.forall_mem_cons.mpr ⟨ok_iconst hx hb dk_45_33 rfl,
    List.forall_mem_cons.mpr ⟨ok_goto hx hb dk_45_34 (by decide),
    List.forall_mem_cons.mpr ⟨ok_aload_n hx hb dk_45_37 rfl,
    List.forall_mem_cons.mpr ⟨ok_iload_n hx hb dk_45_38 rfl,
    List.forall_mem_cons.mpr ⟨ok_cV hx hb hml hown hts hb1 hb2 hA hroot hAs rfl rfl rfl (hcal_43 hall) tw_647 tw_649 ts_19 tw_650 tw_5 nm_43 rfl rfl (by show d + 8 + 1 ≤ d + 1 + 8; omega) (by show 8 + (4 + 11) + (200 + 60 * d) ≤ 200 + 60 * (d + 1); omega) dk_45_39,
    List.forall_mem_cons.mpr ⟨ok_if_eq hx hb dk_45_42 (by decide),
    List.forall_mem_cons.mpr ⟨ok_iconst hx hb dk_45_45 rfl,
    List.forall_mem_cons.mpr ⟨ok_goto hx hb dk_45_46 (by decide),
    List.forall_mem_cons.mpr ⟨ok_iconst hx hb dk_45_49 rfl,
    List.forall_mem_cons.mpr ⟨ok_puti hx hb hts hown hin_3 tyF_3 tyF_3_ok nmF_3 rfl (by decide) tw_533 rfl (by decide +kernel) dk_45_50,
    List.forall_mem_cons.mpr ⟨ok_iconst hx hb dk_45_53 rfl,
    List.forall_mem_cons.mpr ⟨ok_istore_n hx hb dk_45_54 rfl (by decide),
    List.forall_mem_cons.mpr ⟨ok_iload_n hx hb dk_45_55 rfl,
    List.forall_mem_cons.mpr ⟨ok_bipush hx hb dk_45_56 (by decide),
    List.forall_mem_cons.mpr ⟨ok_icmp_ge hx hb dk_45_58 (by decide),
    List.forall_mem_cons.mpr ⟨ok_aload_n hx hb dk_45_61 rfl,
    List.forall_mem_cons.mpr ⟨ok_geti hx hb hts hown hin_3 rfl (by decide) tw_533 dk_45_62,
    List.forall_mem_cons.mpr ⟨ok_if_ne hx hb dk_45_65 (by decide),
    List.forall_mem_cons.mpr ⟨ok_iload_n hx hb dk_45_68 rfl,
    List.forall_mem_cons.mpr ⟨ok_iload_n hx hb dk_45_69 rfl,
    List.forall_mem_cons.mpr ⟨ok_icmp_eq hx hb dk_45_70 (by decide),
    List.forall_mem_cons.mpr ⟨ok_aload_n hx hb dk_45_73 rfl,
    List.forall_mem_cons.mpr ⟨ok_getr hx hb hts hown hin_3 rfl (by decide) tw_534 dk_45_74,
    List.forall_mem_cons.mpr ⟨ok_iload_n hx hb dk_45_77 rfl,
    List.forall_mem_cons.mpr ⟨ok_zald hx hb dk_45_78,
    List.forall_mem_cons.mpr ⟨ok_if_eq hx hb dk_45_79 (by decide),
    List.forall_mem_cons.mpr ⟨ok_aload_n hx hb dk_45_82 rfl,
    List.forall_mem_cons.mpr ⟨ok_getr hx hb hts hown hin_3 rfl (by decide) tw_540 dk_45_83,
    List.forall_mem_cons.mpr ⟨ok_iload_n hx hb dk_45_86 rfl,
    List.forall_mem_cons.mpr ⟨ok_iald hx hb dk_45_87,
    List.forall_mem_cons.mpr ⟨ok_if_lt hx hb dk_45_88 (by decide),
    List.forall_mem_cons.mpr ⟨ok_aload_n hx hb dk_45_91 rfl,
    List.forall_mem_cons.mpr ⟨ok_iload_n hx hb dk_45_92 rfl,
    List.forall_mem_cons.mpr ⟨ok_iload_n hx hb dk_45_93 rfl,
    List.forall_mem_cons.mpr ⟨ok_iload_n hx hb dk_45_94 rfl,
    List.forall_mem_cons.mpr ⟨ok_aload_n hx hb dk_45_95 rfl,
    List.forall_mem_cons.mpr ⟨ok_getr hx hb hts hown hin_3 rfl (by decide) tw_540 dk_45_96,
    List.forall_mem_cons.mpr ⟨ok_iload_n hx hb dk_45_99 rfl,
    List.forall_mem_cons.mpr ⟨ok_iald hx hb dk_45_100,
    List.forall_mem_cons.mpr ⟨ok_cV hx hb hml hown hts hb1 hb2 hA hroot hAs rfl rfl rfl (hcal_44 hall) tw_651 tw_653 ts_20 tw_654 tw_5 nm_44 rfl rfl (by show d + 8 + 1 ≤ d + 1 + 8; omega) (by show 8 + (5 + 11) + (200 + 60 * d) ≤ 200 + 60 * (d + 1); omega) dk_45_101,
    List.forall_mem_cons.mpr ⟨ok_if_eq hx hb dk_45_104 (by decide),
    List.forall_mem_cons.mpr ⟨ok_aload_n hx hb dk_45_107 rfl,
    List.forall_mem_cons.mpr ⟨ok_iconst hx hb dk_45_108 rfl,
    List.forall_mem_cons.mpr ⟨ok_puti hx hb hts hown hin_3 tyF_3 tyF_3_ok nmF_3 rfl (by decide) tw_533 rfl (by decide +kernel) dk_45_109,
    List.forall_mem_cons.mpr ⟨ok_iinc hx hb dk_45_112 rfl (by decide),
    List.forall_mem_cons.mpr ⟨ok_goto hx hb dk_45_115 (by decide),
    List.forall_mem_cons.mpr ⟨ok_aload_n hx hb dk_45_118 rfl,
    List.forall_mem_cons.mpr ⟨ok_geti hx hb hts hown hin_3 rfl (by decide) tw_533 dk_45_119,
    List.forall_mem_cons.mpr ⟨ok_if_ne hx hb dk_45_122 (by decide),
    List.forall_mem_cons.mpr ⟨ok_aload_n hx hb dk_45_125 rfl,
    List.forall_mem_cons.mpr ⟨ok_getr hx hb hts hown hin_3 rfl (by decide) tw_540 dk_45_126,
    List.forall_mem_cons.mpr ⟨ok_iload_n hx hb dk_45_129 rfl,
    List.forall_mem_cons.mpr ⟨ok_iload_n hx hb dk_45_130 rfl,
    List.forall_mem_cons.mpr ⟨ok_iast hx hb dk_45_131,
    List.forall_mem_cons.mpr ⟨ok_vret hx hb hb1 hb2 hr hlocks dk_45_132,
    fun _ h => absurd h List.not_mem_nil⟩⟩⟩⟩⟩⟩⟩⟩⟩⟩⟩⟩⟩⟩⟩⟩⟩⟩⟩⟩⟩⟩⟩⟩⟩⟩⟩⟩⟩⟩⟩⟩⟩⟩⟩⟩⟩⟩⟩⟩⟩⟩⟩⟩⟩⟩⟩⟩⟩⟩⟩⟩⟩⟩⟩⟩⟩⟩⟩⟩⟩⟩⟩⟩⟩⟩⟩⟩⟩⟩⟩⟩⟩⟩
theorem dk_46_0 : decode prog_5_method_16_code 0 = .ok (.aload_n 0, 1) := by decide +kernel
theorem dk_46_1 : decode prog_5_method_16_code 1 = .ok (.aload_n 0, 1) := by decide +kernel
theorem dk_46_2 : decode prog_5_method_16_code 2 = .ok (.iload_n 1, 1) := by decide +kernel
theorem dk_46_3 : decode prog_5_method_16_code 3 = .ok (.invokevirtual 76, 3) := by decide +kernel
theorem dk_46_6 : decode prog_5_method_16_code 6 = .ok (.ifCond .eq (7), 3) := by decide +kernel
theorem dk_46_9 : decode prog_5_method_16_code 9 = .ok (.iconst (0), 1) := by decide +kernel
theorem dk_46_10 : decode prog_5_method_16_code 10 = .ok (.goto (4), 3) := by decide +kernel
theorem dk_46_13 : decode prog_5_method_16_code 13 = .ok (.iconst (1), 1) := by decide +kernel
theorem dk_46_14 : decode prog_5_method_16_code 14 = .ok (.putfield 69, 3) := by decide +kernel
theorem dk_46_17 : decode prog_5_method_16_code 17 = .ok (.aload_n 0, 1) := by decide +kernel
theorem dk_46_18 : decode prog_5_method_16_code 18 = .ok (.getfield 69, 3) := by decide +kernel
theorem dk_46_21 : decode prog_5_method_16_code 21 = .ok (.ifCond .le (5), 3) := by decide +kernel
theorem dk_46_24 : decode prog_5_method_16_code 24 = .ok (.iconst (0), 1) := by decide +kernel
theorem dk_46_25 : decode prog_5_method_16_code 25 = .ok (.ireturn, 1) := by decide +kernel
theorem dk_46_26 : decode prog_5_method_16_code 26 = .ok (.aload_n 0, 1) := by decide +kernel
theorem dk_46_27 : decode prog_5_method_16_code 27 = .ok (.getfield 29, 3) := by decide +kernel
theorem dk_46_30 : decode prog_5_method_16_code 30 = .ok (.iload_n 1, 1) := by decide +kernel
theorem dk_46_31 : decode prog_5_method_16_code 31 = .ok (.iaload, 1) := by decide +kernel
theorem dk_46_32 : decode prog_5_method_16_code 32 = .ok (.ifCond .lt (7), 3) := by decide +kernel
theorem dk_46_35 : decode prog_5_method_16_code 35 = .ok (.iconst (1), 1) := by decide +kernel
theorem dk_46_36 : decode prog_5_method_16_code 36 = .ok (.goto (4), 3) := by decide +kernel
theorem dk_46_39 : decode prog_5_method_16_code 39 = .ok (.iconst (0), 1) := by decide +kernel
theorem dk_46_40 : decode prog_5_method_16_code 40 = .ok (.istore_n 2, 1) := by decide +kernel
theorem dk_46_41 : decode prog_5_method_16_code 41 = .ok (.aload_n 0, 1) := by decide +kernel
theorem dk_46_42 : decode prog_5_method_16_code 42 = .ok (.getfield 29, 3) := by decide +kernel
theorem dk_46_45 : decode prog_5_method_16_code 45 = .ok (.iload_n 1, 1) := by decide +kernel
theorem dk_46_46 : decode prog_5_method_16_code 46 = .ok (.iconst (-1), 1) := by decide +kernel
theorem dk_46_47 : decode prog_5_method_16_code 47 = .ok (.iastore, 1) := by decide +kernel
theorem dk_46_48 : decode prog_5_method_16_code 48 = .ok (.iload_n 2, 1) := by decide +kernel
theorem dk_46_49 : decode prog_5_method_16_code 49 = .ok (.ireturn, 1) := by decide +kernel
set_option maxRecDepth 100000 in
set_option maxHeartbeats 4000000 in
theorem cc_46 {l : Launch} {s0 : State} (hst : l.stackTraces = false) (h0 : am_W0 s0) {d : Nat} (hall : ∀ mi ∈ am_idx, am_CC l s0 d mi) : am_CC l s0 (d + 1) 46 :=
  am_method (y := y_46) (cc := prog_5_method_16_code) (maxL := 3) (ret := (some .boolean)) (rm := am_rm (d + 1) 0 0) (ops := op_46) (C := am_T am_tabs am_ar d) (ar := 2) h0 (by decide) (by decide) fun p e s m args below meth c D A bS ad0 Q hct htab => by
    obtain ⟨hx, hb, hml, hown, hts, hb1, hb2, hA, hroot, hAs, -, -, hlocks, hr, hnm⟩ := hct
    exact List.forall_mem_cons.mpr ⟨ok_aload_n hx hb dk_46_0 rfl,
    List.forall_mem_cons.mpr ⟨ok_aload_n hx hb dk_46_1 rfl,
    List.forall_mem_cons.mpr ⟨ok_iload_n hx hb dk_46_2 rfl,
    List.forall_mem_cons.mpr ⟨ok_cV hx hb hml hown hts hb1 hb2 hA hroot hAs rfl rfl rfl (hcal_33 hall) tw_620 tw_622 ts_18 tw_623 tw_5 nm_33 rfl rfl (by show d + 8 + 1 ≤ d + 1 + 8; omega) (by show 8 + (2 + 11) + (200 + 60 * d) ≤ 200 + 60 * (d + 1); omega) dk_46_3,
    List.forall_mem_cons.mpr ⟨ok_if_eq hx hb dk_46_6 (by decide),
    List.forall_mem_cons.mpr ⟨ok_iconst hx hb dk_46_9 rfl,
    List.forall_mem_cons.mpr ⟨ok_goto hx hb dk_46_10 (by decide),
    List.forall_mem_cons.mpr ⟨ok_iconst hx hb dk_46_13 rfl,
    List.forall_mem_cons.mpr ⟨ok_puti hx hb hts hown hin_3 tyF_3 tyF_3_ok nmF_3 rfl (by decide) tw_533 rfl (by decide +kernel) dk_46_14,
    List.forall_mem_cons.mpr ⟨ok_aload_n hx hb dk_46_17 rfl,
    List.forall_mem_cons.mpr ⟨ok_geti hx hb hts hown hin_3 rfl (by decide) tw_533 dk_46_18,
    List.forall_mem_cons.mpr ⟨ok_if_le hx hb dk_46_21 (by decide),
    List.forall_mem_cons.mpr ⟨ok_iconst hx hb dk_46_24 rfl,
    List.forall_mem_cons.mpr ⟨ok_zret hx hb hb1 hb2 hr hlocks dk_46_25,
    List.forall_mem_cons.mpr ⟨ok_aload_n hx hb dk_46_26 rfl,
    List.forall_mem_cons.mpr ⟨ok_getr hx hb hts hown hin_3 rfl (by decide) tw_540 dk_46_27,
    List.forall_mem_cons.mpr ⟨ok_iload_n hx hb dk_46_30 rfl,
    List.forall_mem_cons.mpr ⟨ok_iald hx hb dk_46_31,
    List.forall_mem_cons.mpr ⟨ok_if_lt hx hb dk_46_32 (by decide),
    List.forall_mem_cons.mpr ⟨ok_iconst hx hb dk_46_35 rfl,
    List.forall_mem_cons.mpr ⟨ok_goto hx hb dk_46_36 (by decide),
    List.forall_mem_cons.mpr ⟨ok_iconst hx hb dk_46_39 rfl,
    List.forall_mem_cons.mpr ⟨ok_istore_n hx hb dk_46_40 rfl (by decide),
    List.forall_mem_cons.mpr ⟨ok_aload_n hx hb dk_46_41 rfl,
    List.forall_mem_cons.mpr ⟨ok_getr hx hb hts hown hin_3 rfl (by decide) tw_540 dk_46_42,
    List.forall_mem_cons.mpr ⟨ok_iload_n hx hb dk_46_45 rfl,
    List.forall_mem_cons.mpr ⟨ok_iconst hx hb dk_46_46 rfl,
    List.forall_mem_cons.mpr ⟨ok_iast hx hb dk_46_47,
    List.forall_mem_cons.mpr ⟨ok_iload_n hx hb dk_46_48 rfl,
    List.forall_mem_cons.mpr ⟨ok_zret hx hb hb1 hb2 hr hlocks dk_46_49,
    fun _ h => absurd h List.not_mem_nil⟩⟩⟩⟩⟩⟩⟩⟩⟩⟩⟩⟩⟩⟩⟩⟩⟩⟩⟩⟩⟩⟩⟩⟩⟩⟩⟩⟩⟩⟩
theorem dk_47_0 : decode prog_5_method_17_code 0 = .ok (.iconst (0), 1) := by decide +kernel
theorem dk_47_1 : decode prog_5_method_17_code 1 = .ok (.istore_n 2, 1) := by decide +kernel
theorem dk_47_2 : decode prog_5_method_17_code 2 = .ok (.iconst (0), 1) := by decide +kernel
theorem dk_47_3 : decode prog_5_method_17_code 3 = .ok (.istore_n 3, 1) := by decide +kernel
theorem dk_47_4 : decode prog_5_method_17_code 4 = .ok (.iload_n 3, 1) := by decide +kernel
theorem dk_47_5 : decode prog_5_method_17_code 5 = .ok (.bipush (7), 2) := by decide +kernel
theorem dk_47_7 : decode prog_5_method_17_code 7 = .ok (.if_icmp .ge (61), 3) := by decide +kernel
theorem dk_47_10 : decode prog_5_method_17_code 10 = .ok (.aload_n 0, 1) := by decide +kernel
theorem dk_47_11 : decode prog_5_method_17_code 11 = .ok (.getfield 7, 3) := by decide +kernel
theorem dk_47_14 : decode prog_5_method_17_code 14 = .ok (.iload_n 3, 1) := by decide +kernel
theorem dk_47_15 : decode prog_5_method_17_code 15 = .ok (.baload, 1) := by decide +kernel
theorem dk_47_16 : decode prog_5_method_17_code 16 = .ok (.ifCond .eq (44), 3) := by decide +kernel
theorem dk_47_19 : decode prog_5_method_17_code 19 = .ok (.aload_n 0, 1) := by decide +kernel
theorem dk_47_20 : decode prog_5_method_17_code 20 = .ok (.getfield 20, 3) := by decide +kernel
theorem dk_47_23 : decode prog_5_method_17_code 23 = .ok (.iload_n 3, 1) := by decide +kernel
theorem dk_47_24 : decode prog_5_method_17_code 24 = .ok (.iaload, 1) := by decide +kernel
theorem dk_47_25 : decode prog_5_method_17_code 25 = .ok (.aload_n 0, 1) := by decide +kernel
theorem dk_47_26 : decode prog_5_method_17_code 26 = .ok (.getfield 20, 3) := by decide +kernel
theorem dk_47_29 : decode prog_5_method_17_code 29 = .ok (.iload_n 1, 1) := by decide +kernel
theorem dk_47_30 : decode prog_5_method_17_code 30 = .ok (.iaload, 1) := by decide +kernel
theorem dk_47_31 : decode prog_5_method_17_code 31 = .ok (.if_icmp .lt (23), 3) := by decide +kernel
theorem dk_47_34 : decode prog_5_method_17_code 34 = .ok (.aload_n 0, 1) := by decide +kernel
theorem dk_47_35 : decode prog_5_method_17_code 35 = .ok (.getfield 20, 3) := by decide +kernel
theorem dk_47_38 : decode prog_5_method_17_code 38 = .ok (.iload_n 3, 1) := by decide +kernel
theorem dk_47_39 : decode prog_5_method_17_code 39 = .ok (.iaload, 1) := by decide +kernel
theorem dk_47_40 : decode prog_5_method_17_code 40 = .ok (.aload_n 0, 1) := by decide +kernel
theorem dk_47_41 : decode prog_5_method_17_code 41 = .ok (.getfield 20, 3) := by decide +kernel
theorem dk_47_44 : decode prog_5_method_17_code 44 = .ok (.iload_n 1, 1) := by decide +kernel
theorem dk_47_45 : decode prog_5_method_17_code 45 = .ok (.iaload, 1) := by decide +kernel
theorem dk_47_46 : decode prog_5_method_17_code 46 = .ok (.if_icmp .ne (14), 3) := by decide +kernel
theorem dk_47_49 : decode prog_5_method_17_code 49 = .ok (.iload_n 3, 1) := by decide +kernel
theorem dk_47_50 : decode prog_5_method_17_code 50 = .ok (.iload_n 1, 1) := by decide +kernel
theorem dk_47_51 : decode prog_5_method_17_code 51 = .ok (.if_icmp .ge (9), 3) := by decide +kernel
theorem dk_47_54 : decode prog_5_method_17_code 54 = .ok (.iload_n 2, 1) := by decide +kernel
theorem dk_47_55 : decode prog_5_method_17_code 55 = .ok (.iconst (1), 1) := by decide +kernel
theorem dk_47_56 : decode prog_5_method_17_code 56 = .ok (.iadd, 1) := by decide +kernel
theorem dk_47_57 : decode prog_5_method_17_code 57 = .ok (.goto (4), 3) := by decide +kernel
theorem dk_47_60 : decode prog_5_method_17_code 60 = .ok (.iload_n 2, 1) := by decide +kernel
theorem dk_47_61 : decode prog_5_method_17_code 61 = .ok (.istore_n 2, 1) := by decide +kernel
theorem dk_47_62 : decode prog_5_method_17_code 62 = .ok (.iinc 3 (1), 3) := by decide +kernel
theorem dk_47_65 : decode prog_5_method_17_code 65 = .ok (.goto (-61), 3) := by decide +kernel
theorem dk_47_68 : decode prog_5_method_17_code 68 = .ok (.iload_n 2, 1) := by decide +kernel
theorem dk_47_69 : decode prog_5_method_17_code 69 = .ok (.ireturn, 1) := by decide +kernel
set_option maxRecDepth 100000 in
set_option maxHeartbeats 4000000 in
theorem cc_47 {l : Launch} {s0 : State} (hst : l.stackTraces = false) (h0 : am_W0 s0) {d : Nat} (hall : ∀ mi ∈ am_idx, am_CC l s0 d mi) : am_CC l s0 (d + 1) 47 :=
  am_method (y := y_47) (cc := prog_5_method_17_code) (maxL := 4) (ret := (some .int)) (rm := am_rm (d + 1) 0 0) (ops := op_47) (C := am_T am_tabs am_ar d) (ar := 2) h0 (by decide) (by decide) fun p e s m args below meth c D A bS ad0 Q hct htab => by
    obtain ⟨hx, hb, hml, hown, hts, hb1, hb2, hA, hroot, hAs, -, -, hlocks, hr, hnm⟩ := hct
    exact List.forall_mem_cons.mpr ⟨ok_iconst hx hb dk_47_0 rfl,
    List.forall_mem_cons.mpr ⟨ok_istore_n hx hb dk_47_1 rfl (by decide),
    List.forall_mem_cons.mpr ⟨ok_iconst hx hb dk_47_2 rfl,
    List.forall_mem_cons.mpr ⟨ok_istore_n hx hb dk_47_3 rfl (by decide),
    List.forall_mem_cons.mpr ⟨ok_iload_n hx hb dk_47_4 rfl,
    List.forall_mem_cons.mpr ⟨ok_bipush hx hb dk_47_5 (by decide),
    List.forall_mem_cons.mpr ⟨ok_icmp_ge hx hb dk_47_7 (by decide),
    List.forall_mem_cons.mpr ⟨ok_aload_n hx hb dk_47_10 rfl,
    List.forall_mem_cons.mpr ⟨ok_getr hx hb hts hown hin_3 rfl (by decide) tw_534 dk_47_11,
    List.forall_mem_cons.mpr ⟨ok_iload_n hx hb dk_47_14 rfl,
    List.forall_mem_cons.mpr ⟨ok_zald hx hb dk_47_15,
    List.forall_mem_cons.mpr ⟨ok_if_eq hx hb dk_47_16 (by decide),
    List.forall_mem_cons.mpr ⟨ok_aload_n hx hb dk_47_19 rfl,
    List.forall_mem_cons.mpr ⟨ok_getr hx hb hts hown hin_3 rfl (by decide) tw_537 dk_47_20,
    List.forall_mem_cons.mpr ⟨ok_iload_n hx hb dk_47_23 rfl,
    List.forall_mem_cons.mpr ⟨ok_iald hx hb dk_47_24,
    List.forall_mem_cons.mpr ⟨ok_aload_n hx hb dk_47_25 rfl,
    List.forall_mem_cons.mpr ⟨ok_getr hx hb hts hown hin_3 rfl (by decide) tw_537 dk_47_26,
    List.forall_mem_cons.mpr ⟨ok_iload_n hx hb dk_47_29 rfl,
    List.forall_mem_cons.mpr ⟨ok_iald hx hb dk_47_30,
    List.forall_mem_cons.mpr ⟨ok_icmp_lt hx hb dk_47_31 (by decide),
    List.forall_mem_cons.mpr ⟨ok_aload_n hx hb dk_47_34 rfl,
    List.forall_mem_cons.mpr ⟨ok_getr hx hb hts hown hin_3 rfl (by decide) tw_537 dk_47_35,
    List.forall_mem_cons.mpr ⟨ok_iload_n hx hb dk_47_38 rfl,
    List.forall_mem_cons.mpr ⟨ok_iald hx hb dk_47_39,
    List.forall_mem_cons.mpr ⟨ok_aload_n hx hb dk_47_40 rfl,
    List.forall_mem_cons.mpr ⟨ok_getr hx hb hts hown hin_3 rfl (by decide) tw_537 dk_47_41,
    List.forall_mem_cons.mpr ⟨ok_iload_n hx hb dk_47_44 rfl,
    List.forall_mem_cons.mpr ⟨ok_iald hx hb dk_47_45,
    List.forall_mem_cons.mpr ⟨ok_icmp_ne hx hb dk_47_46 (by decide),
    List.forall_mem_cons.mpr ⟨ok_iload_n hx hb dk_47_49 rfl,
    List.forall_mem_cons.mpr ⟨ok_iload_n hx hb dk_47_50 rfl,
    List.forall_mem_cons.mpr ⟨ok_icmp_ge hx hb dk_47_51 (by decide),
    List.forall_mem_cons.mpr ⟨ok_iload_n hx hb dk_47_54 rfl,
    List.forall_mem_cons.mpr ⟨ok_iconst hx hb dk_47_55 rfl,
    List.forall_mem_cons.mpr ⟨ok_iadd hx hb dk_47_56,
    List.forall_mem_cons.mpr ⟨ok_goto hx hb dk_47_57 (by decide),
    List.forall_mem_cons.mpr ⟨ok_iload_n hx hb dk_47_60 rfl,
    List.forall_mem_cons.mpr ⟨ok_istore_n hx hb dk_47_61 rfl (by decide),
    List.forall_mem_cons.mpr ⟨ok_iinc hx hb dk_47_62 rfl (by decide),
    List.forall_mem_cons.mpr ⟨ok_goto hx hb dk_47_65 (by decide),
    List.forall_mem_cons.mpr ⟨ok_iload_n hx hb dk_47_68 rfl,
    List.forall_mem_cons.mpr ⟨ok_iret hx hb hb1 hb2 hr hlocks dk_47_69,
    fun _ h => absurd h List.not_mem_nil⟩⟩⟩⟩⟩⟩⟩⟩⟩⟩⟩⟩⟩⟩⟩⟩⟩⟩⟩⟩⟩⟩⟩⟩⟩⟩⟩⟩⟩⟩⟩⟩⟩⟩⟩⟩⟩⟩⟩⟩⟩⟩⟩
theorem dk_48_0 : decode prog_5_method_18_code 0 = .ok (.aload_n 0, 1) := by decide +kernel
theorem dk_48_1 : decode prog_5_method_18_code 1 = .ok (.aload_n 0, 1) := by decide +kernel
theorem dk_48_2 : decode prog_5_method_18_code 2 = .ok (.invokevirtual 72, 3) := by decide +kernel
theorem dk_48_5 : decode prog_5_method_18_code 5 = .ok (.putfield 93, 3) := by decide +kernel
theorem dk_48_8 : decode prog_5_method_18_code 8 = .ok (.iconst (0), 1) := by decide +kernel
theorem dk_48_9 : decode prog_5_method_18_code 9 = .ok (.istore_n 1, 1) := by decide +kernel
theorem dk_48_10 : decode prog_5_method_18_code 10 = .ok (.iload_n 1, 1) := by decide +kernel
theorem dk_48_11 : decode prog_5_method_18_code 11 = .ok (.bipush (7), 2) := by decide +kernel
theorem dk_48_13 : decode prog_5_method_18_code 13 = .ok (.if_icmp .ge (29), 3) := by decide +kernel
theorem dk_48_16 : decode prog_5_method_18_code 16 = .ok (.aload_n 0, 1) := by decide +kernel
theorem dk_48_17 : decode prog_5_method_18_code 17 = .ok (.getfield 7, 3) := by decide +kernel
theorem dk_48_20 : decode prog_5_method_18_code 20 = .ok (.iload_n 1, 1) := by decide +kernel
theorem dk_48_21 : decode prog_5_method_18_code 21 = .ok (.baload, 1) := by decide +kernel
theorem dk_48_22 : decode prog_5_method_18_code 22 = .ok (.ifCond .eq (14), 3) := by decide +kernel
theorem dk_48_25 : decode prog_5_method_18_code 25 = .ok (.aload_n 0, 1) := by decide +kernel
theorem dk_48_26 : decode prog_5_method_18_code 26 = .ok (.getfield 51, 3) := by decide +kernel
theorem dk_48_29 : decode prog_5_method_18_code 29 = .ok (.aload_n 0, 1) := by decide +kernel
theorem dk_48_30 : decode prog_5_method_18_code 30 = .ok (.iload_n 1, 1) := by decide +kernel
theorem dk_48_31 : decode prog_5_method_18_code 31 = .ok (.invokevirtual 96, 3) := by decide +kernel
theorem dk_48_34 : decode prog_5_method_18_code 34 = .ok (.iload_n 1, 1) := by decide +kernel
theorem dk_48_35 : decode prog_5_method_18_code 35 = .ok (.iastore, 1) := by decide +kernel
theorem dk_48_36 : decode prog_5_method_18_code 36 = .ok (.iinc 1 (1), 3) := by decide +kernel
theorem dk_48_39 : decode prog_5_method_18_code 39 = .ok (.goto (-29), 3) := by decide +kernel
theorem dk_48_42 : decode prog_5_method_18_code 42 = .ok (.return_, 1) := by decide +kernel
set_option maxRecDepth 100000 in
set_option maxHeartbeats 4000000 in
theorem cc_48 {l : Launch} {s0 : State} (hst : l.stackTraces = false) (h0 : am_W0 s0) {d : Nat} (hall : ∀ mi ∈ am_idx, am_CC l s0 d mi) : am_CC l s0 (d + 1) 48 :=
  am_method (y := y_48) (cc := prog_5_method_18_code) (maxL := 2) (ret := none) (rm := am_rm (d + 1) 0 0) (ops := op_48) (C := am_T am_tabs am_ar d) (ar := 1) h0 (by decide) (by decide) fun p e s m args below meth c D A bS ad0 Q hct htab => by
    obtain ⟨hx, hb, hml, hown, hts, hb1, hb2, hA, hroot, hAs, -, -, hlocks, hr, hnm⟩ := hct
    exact List.forall_mem_cons.mpr ⟨ok_aload_n hx hb dk_48_0 rfl,
    List.forall_mem_cons.mpr ⟨ok_aload_n hx hb dk_48_1 rfl,
    List.forall_mem_cons.mpr ⟨ok_cV hx hb hml hown hts hb1 hb2 hA hroot hAs rfl rfl rfl (hcal_35 hall) tw_612 tw_614 ts_17 tw_615 tw_5 nm_35 rfl rfl (by show d + 8 + 1 ≤ d + 1 + 8; omega) (by show 8 + (3 + 11) + (200 + 60 * d) ≤ 200 + 60 * (d + 1); omega) dk_48_2,
    List.forall_mem_cons.mpr ⟨ok_puti hx hb hts hown hin_3 tyF_3 tyF_3_ok nmF_3 rfl (by decide) tw_548 rfl (by decide +kernel) dk_48_5,
    List.forall_mem_cons.mpr ⟨ok_iconst hx hb dk_48_8 rfl,
    List.forall_mem_cons.mpr ⟨ok_istore_n hx hb dk_48_9 rfl (by decide),
    List.forall_mem_cons.mpr ⟨ok_iload_n hx hb dk_48_10 rfl,
    List.forall_mem_cons.mpr ⟨ok_bipush hx hb dk_48_11 (by decide),
    List.forall_mem_cons.mpr ⟨ok_icmp_ge hx hb dk_48_13 (by decide),
    List.forall_mem_cons.mpr ⟨ok_aload_n hx hb dk_48_16 rfl,
    List.forall_mem_cons.mpr ⟨ok_getr hx hb hts hown hin_3 rfl (by decide) tw_534 dk_48_17,
    List.forall_mem_cons.mpr ⟨ok_iload_n hx hb dk_48_20 rfl,
    List.forall_mem_cons.mpr ⟨ok_zald hx hb dk_48_21,
    List.forall_mem_cons.mpr ⟨ok_if_eq hx hb dk_48_22 (by decide),
    List.forall_mem_cons.mpr ⟨ok_aload_n hx hb dk_48_25 rfl,
    List.forall_mem_cons.mpr ⟨ok_getr hx hb hts hown hin_3 rfl (by decide) tw_549 dk_48_26,
    List.forall_mem_cons.mpr ⟨ok_aload_n hx hb dk_48_29 rfl,
    List.forall_mem_cons.mpr ⟨ok_iload_n hx hb dk_48_30 rfl,
    List.forall_mem_cons.mpr ⟨ok_cV hx hb hml hown hts hb1 hb2 hA hroot hAs rfl rfl rfl (hcal_47 hall) tw_671 tw_673 ts_23 tw_674 tw_5 nm_47 rfl rfl (by show d + 8 + 1 ≤ d + 1 + 8; omega) (by show 8 + (4 + 11) + (200 + 60 * d) ≤ 200 + 60 * (d + 1); omega) dk_48_31,
    List.forall_mem_cons.mpr ⟨ok_iload_n hx hb dk_48_34 rfl,
    List.forall_mem_cons.mpr ⟨ok_iast hx hb dk_48_35,
    List.forall_mem_cons.mpr ⟨ok_iinc hx hb dk_48_36 rfl (by decide),
    List.forall_mem_cons.mpr ⟨ok_goto hx hb dk_48_39 (by decide),
    List.forall_mem_cons.mpr ⟨ok_vret hx hb hb1 hb2 hr hlocks dk_48_42,
    fun _ h => absurd h List.not_mem_nil⟩⟩⟩⟩⟩⟩⟩⟩⟩⟩⟩⟩⟩⟩⟩⟩⟩⟩⟩⟩⟩⟩⟩⟩
theorem dk_49_0 : decode prog_5_method_19_code 0 = .ok (.iload_n 1, 1) := by decide +kernel
theorem dk_49_1 : decode prog_5_method_19_code 1 = .ok (.istore_n 2, 1) := by decide +kernel
theorem dk_49_2 : decode prog_5_method_19_code 2 = .ok (.iconst (0), 1) := by decide +kernel
theorem dk_49_3 : decode prog_5_method_19_code 3 = .ok (.istore_n 3, 1) := by decide +kernel
theorem dk_49_4 : decode prog_5_method_19_code 4 = .ok (.iload_n 3, 1) := by decide +kernel
theorem dk_49_5 : decode prog_5_method_19_code 5 = .ok (.iconst (4), 1) := by decide +kernel
theorem dk_49_6 : decode prog_5_method_19_code 6 = .ok (.if_icmp .ge (63), 3) := by decide +kernel
theorem dk_49_9 : decode prog_5_method_19_code 9 = .ok (.iconst (0), 1) := by decide +kernel
theorem dk_49_10 : decode prog_5_method_19_code 10 = .ok (.istore 4, 2) := by decide +kernel
theorem dk_49_12 : decode prog_5_method_19_code 12 = .ok (.iload 4, 2) := by decide +kernel
theorem dk_49_14 : decode prog_5_method_19_code 14 = .ok (.aload_n 0, 1) := by decide +kernel
theorem dk_49_15 : decode prog_5_method_19_code 15 = .ok (.getfield 83, 3) := by decide +kernel
theorem dk_49_18 : decode prog_5_method_19_code 18 = .ok (.if_icmp .ge (45), 3) := by decide +kernel
theorem dk_49_21 : decode prog_5_method_19_code 21 = .ok (.iload_n 2, 1) := by decide +kernel
theorem dk_49_22 : decode prog_5_method_19_code 22 = .ok (.aload_n 0, 1) := by decide +kernel
theorem dk_49_23 : decode prog_5_method_19_code 23 = .ok (.getfield 35, 3) := by decide +kernel
theorem dk_49_26 : decode prog_5_method_19_code 26 = .ok (.iload 4, 2) := by decide +kernel
theorem dk_49_28 : decode prog_5_method_19_code 28 = .ok (.iaload, 1) := by decide +kernel
theorem dk_49_29 : decode prog_5_method_19_code 29 = .ok (.if_icmp .lt (26), 3) := by decide +kernel
theorem dk_49_32 : decode prog_5_method_19_code 32 = .ok (.iload_n 2, 1) := by decide +kernel
theorem dk_49_33 : decode prog_5_method_19_code 33 = .ok (.aload_n 0, 1) := by decide +kernel
theorem dk_49_34 : decode prog_5_method_19_code 34 = .ok (.getfield 38, 3) := by decide +kernel
theorem dk_49_37 : decode prog_5_method_19_code 37 = .ok (.iload 4, 2) := by decide +kernel
theorem dk_49_39 : decode prog_5_method_19_code 39 = .ok (.iaload, 1) := by decide +kernel
theorem dk_49_40 : decode prog_5_method_19_code 40 = .ok (.if_icmp .gt (15), 3) := by decide +kernel
theorem dk_49_43 : decode prog_5_method_19_code 43 = .ok (.aload_n 0, 1) := by decide +kernel
theorem dk_49_44 : decode prog_5_method_19_code 44 = .ok (.getfield 38, 3) := by decide +kernel
theorem dk_49_47 : decode prog_5_method_19_code 47 = .ok (.iload 4, 2) := by decide +kernel
theorem dk_49_49 : decode prog_5_method_19_code 49 = .ok (.iaload, 1) := by decide +kernel
theorem dk_49_50 : decode prog_5_method_19_code 50 = .ok (.iconst (1), 1) := by decide +kernel
theorem dk_49_51 : decode prog_5_method_19_code 51 = .ok (.iadd, 1) := by decide +kernel
theorem dk_49_52 : decode prog_5_method_19_code 52 = .ok (.goto (4), 3) := by decide +kernel
theorem dk_49_55 : decode prog_5_method_19_code 55 = .ok (.iload_n 2, 1) := by decide +kernel
theorem dk_49_56 : decode prog_5_method_19_code 56 = .ok (.istore_n 2, 1) := by decide +kernel
theorem dk_49_57 : decode prog_5_method_19_code 57 = .ok (.iinc 4 (1), 3) := by decide +kernel
theorem dk_49_60 : decode prog_5_method_19_code 60 = .ok (.goto (-48), 3) := by decide +kernel
theorem dk_49_63 : decode prog_5_method_19_code 63 = .ok (.iinc 3 (1), 3) := by decide +kernel
theorem dk_49_66 : decode prog_5_method_19_code 66 = .ok (.goto (-62), 3) := by decide +kernel
theorem dk_49_69 : decode prog_5_method_19_code 69 = .ok (.iload_n 2, 1) := by decide +kernel
theorem dk_49_70 : decode prog_5_method_19_code 70 = .ok (.ireturn, 1) := by decide +kernel
set_option maxRecDepth 100000 in
set_option maxHeartbeats 4000000 in
theorem cc_49 {l : Launch} {s0 : State} (hst : l.stackTraces = false) (h0 : am_W0 s0) {d : Nat} (hall : ∀ mi ∈ am_idx, am_CC l s0 d mi) : am_CC l s0 (d + 1) 49 :=
  am_method (y := y_49) (cc := prog_5_method_19_code) (maxL := 5) (ret := (some .int)) (rm := am_rm (d + 1) 0 0) (ops := op_49) (C := am_T am_tabs am_ar d) (ar := 2) h0 (by decide) (by decide) fun p e s m args below meth c D A bS ad0 Q hct htab => by
    obtain ⟨hx, hb, hml, hown, hts, hb1, hb2, hA, hroot, hAs, -, -, hlocks, hr, hnm⟩ := hct
    exact List.forall_mem_cons.mpr ⟨ok_iload_n hx hb dk_49_0 rfl,
    List.forall_mem_cons.mpr ⟨ok_istore_n hx hb dk_49_1 rfl (by decide),
    List.forall_mem_cons.mpr ⟨ok_iconst hx hb dk_49_2 rfl,
    List.forall_mem_cons.mpr ⟨ok_istore_n hx hb dk_49_3 rfl (by decide),
    List.forall_mem_cons.mpr ⟨ok_iload_n hx hb dk_49_4 rfl,
    List.forall_mem_cons.mpr ⟨ok_iconst hx hb dk_49_5 rfl,
    List.forall_mem_cons.mpr ⟨ok_icmp_ge hx hb dk_49_6 (by decide),
    List.forall_mem_cons.mpr ⟨ok_iconst hx hb dk_49_9 rfl,
    List.forall_mem_cons.mpr ⟨ok_istore hx hb dk_49_10 (by decide),
    List.forall_mem_cons.mpr ⟨ok_iload hx hb dk_49_12,
    List.forall_mem_cons.mpr ⟨ok_aload_n hx hb dk_49_14 rfl,
    List.forall_mem_cons.mpr ⟨ok_geti hx hb hts hown hin_3 rfl (by decide) tw_542 dk_49_15,
    List.forall_mem_cons.mpr ⟨ok_icmp_ge hx hb dk_49_18 (by decide),
    List.forall_mem_cons.mpr ⟨ok_iload_n hx hb dk_49_21 rfl,
    List.forall_mem_cons.mpr ⟨ok_aload_n hx hb dk_49_22 rfl,
    List.forall_mem_cons.mpr ⟨ok_getr hx hb hts hown hin_3 rfl (by decide) tw_543 dk_49_23,
    List.forall_mem_cons.mpr ⟨ok_iload hx hb dk_49_26,
    List.forall_mem_cons.mpr ⟨ok_iald hx hb dk_49_28,
    List.forall_mem_cons.mpr ⟨ok_icmp_lt hx hb dk_49_29 (by decide),
    List.forall_mem_cons.mpr ⟨ok_iload_n hx hb dk_49_32 rfl,
    List.forall_mem_cons.mpr ⟨ok_aload_n hx hb dk_49_33 rfl,
    List.forall_mem_cons.mpr ⟨ok_getr hx hb hts hown hin_3 rfl (by decide) tw_544 dk_49_34,
    List.forall_mem_cons.mpr ⟨ok_iload hx hb dk_49_37,
    List.forall_mem_cons.mpr ⟨ok_iald hx hb dk_49_39,
    List.forall_mem_cons.mpr ⟨ok_icmp_gt hx hb dk_49_40 (by decide),
    List.forall_mem_cons.mpr ⟨ok_aload_n hx hb dk_49_43 rfl,
    List.forall_mem_cons.mpr ⟨ok_getr hx hb hts hown hin_3 rfl (by decide) tw_544 dk_49_44,
    List.forall_mem_cons.mpr ⟨ok_iload hx hb dk_49_47,
    List.forall_mem_cons.mpr ⟨ok_iald hx hb dk_49_49,
    List.forall_mem_cons.mpr ⟨ok_iconst hx hb dk_49_50 rfl,
    List.forall_mem_cons.mpr ⟨ok_iadd hx hb dk_49_51,
    List.forall_mem_cons.mpr ⟨ok_goto hx hb dk_49_52 (by decide),
    List.forall_mem_cons.mpr ⟨ok_iload_n hx hb dk_49_55 rfl,
    List.forall_mem_cons.mpr ⟨ok_istore_n hx hb dk_49_56 rfl (by decide),
    List.forall_mem_cons.mpr ⟨ok_iinc hx hb dk_49_57 rfl (by decide),
    List.forall_mem_cons.mpr ⟨ok_goto hx hb dk_49_60 (by decide),
    List.forall_mem_cons.mpr ⟨ok_iinc hx hb dk_49_63 rfl (by decide),
    List.forall_mem_cons.mpr ⟨ok_goto hx hb dk_49_66 (by decide),
    List.forall_mem_cons.mpr ⟨ok_iload_n hx hb dk_49_69 rfl,
    List.forall_mem_cons.mpr ⟨ok_iret hx hb hb1 hb2 hr hlocks dk_49_70,
    fun _ h => absurd h List.not_mem_nil⟩⟩⟩⟩⟩⟩⟩⟩⟩⟩⟩⟩⟩⟩⟩⟩⟩⟩⟩⟩⟩⟩⟩⟩⟩⟩⟩⟩⟩⟩⟩⟩⟩⟩⟩⟩⟩⟩⟩⟩
theorem dk_50_0 : decode prog_5_method_20_code 0 = .ok (.aload_n 0, 1) := by decide +kernel
theorem dk_50_1 : decode prog_5_method_20_code 1 = .ok (.iload_n 2, 1) := by decide +kernel
theorem dk_50_2 : decode prog_5_method_20_code 2 = .ok (.aload_n 0, 1) := by decide +kernel
theorem dk_50_3 : decode prog_5_method_20_code 3 = .ok (.getfield 17, 3) := by decide +kernel
theorem dk_50_6 : decode prog_5_method_20_code 6 = .ok (.iload_n 1, 1) := by decide +kernel
theorem dk_50_7 : decode prog_5_method_20_code 7 = .ok (.iaload, 1) := by decide +kernel
theorem dk_50_8 : decode prog_5_method_20_code 8 = .ok (.if_icmp .le (7), 3) := by decide +kernel
theorem dk_50_11 : decode prog_5_method_20_code 11 = .ok (.iload_n 2, 1) := by decide +kernel
theorem dk_50_12 : decode prog_5_method_20_code 12 = .ok (.goto (9), 3) := by decide +kernel
theorem dk_50_15 : decode prog_5_method_20_code 15 = .ok (.aload_n 0, 1) := by decide +kernel
theorem dk_50_16 : decode prog_5_method_20_code 16 = .ok (.getfield 17, 3) := by decide +kernel
theorem dk_50_19 : decode prog_5_method_20_code 19 = .ok (.iload_n 1, 1) := by decide +kernel
theorem dk_50_20 : decode prog_5_method_20_code 20 = .ok (.iaload, 1) := by decide +kernel
theorem dk_50_21 : decode prog_5_method_20_code 21 = .ok (.invokevirtual 100, 3) := by decide +kernel
theorem dk_50_24 : decode prog_5_method_20_code 24 = .ok (.istore_n 3, 1) := by decide +kernel
theorem dk_50_25 : decode prog_5_method_20_code 25 = .ok (.aload_n 0, 1) := by decide +kernel
theorem dk_50_26 : decode prog_5_method_20_code 26 = .ok (.getfield 29, 3) := by decide +kernel
theorem dk_50_29 : decode prog_5_method_20_code 29 = .ok (.iload_n 1, 1) := by decide +kernel
theorem dk_50_30 : decode prog_5_method_20_code 30 = .ok (.iaload, 1) := by decide +kernel
theorem dk_50_31 : decode prog_5_method_20_code 31 = .ok (.ifCond .lt (37), 3) := by decide +kernel
theorem dk_50_34 : decode prog_5_method_20_code 34 = .ok (.aload_n 0, 1) := by decide +kernel
theorem dk_50_35 : decode prog_5_method_20_code 35 = .ok (.getfield 29, 3) := by decide +kernel
theorem dk_50_38 : decode prog_5_method_20_code 38 = .ok (.iload_n 1, 1) := by decide +kernel
theorem dk_50_39 : decode prog_5_method_20_code 39 = .ok (.iaload, 1) := by decide +kernel
theorem dk_50_40 : decode prog_5_method_20_code 40 = .ok (.iload_n 2, 1) := by decide +kernel
theorem dk_50_41 : decode prog_5_method_20_code 41 = .ok (.if_icmp .lt (25), 3) := by decide +kernel
theorem dk_50_44 : decode prog_5_method_20_code 44 = .ok (.aload_n 0, 1) := by decide +kernel
theorem dk_50_45 : decode prog_5_method_20_code 45 = .ok (.aload_n 0, 1) := by decide +kernel
theorem dk_50_46 : decode prog_5_method_20_code 46 = .ok (.getfield 29, 3) := by decide +kernel
theorem dk_50_49 : decode prog_5_method_20_code 49 = .ok (.iload_n 1, 1) := by decide +kernel
theorem dk_50_50 : decode prog_5_method_20_code 50 = .ok (.iaload, 1) := by decide +kernel
theorem dk_50_51 : decode prog_5_method_20_code 51 = .ok (.invokevirtual 86, 3) := by decide +kernel
theorem dk_50_54 : decode prog_5_method_20_code 54 = .ok (.ifCond .ne (12), 3) := by decide +kernel
theorem dk_50_57 : decode prog_5_method_20_code 57 = .ok (.aload_n 0, 1) := by decide +kernel
theorem dk_50_58 : decode prog_5_method_20_code 58 = .ok (.getfield 29, 3) := by decide +kernel
theorem dk_50_61 : decode prog_5_method_20_code 61 = .ok (.iload_n 1, 1) := by decide +kernel
theorem dk_50_62 : decode prog_5_method_20_code 62 = .ok (.iaload, 1) := by decide +kernel
theorem dk_50_63 : decode prog_5_method_20_code 63 = .ok (.goto (4), 3) := by decide +kernel
theorem dk_50_66 : decode prog_5_method_20_code 66 = .ok (.iconst (-1), 1) := by decide +kernel
theorem dk_50_67 : decode prog_5_method_20_code 67 = .ok (.ireturn, 1) := by decide +kernel
theorem dk_50_68 : decode prog_5_method_20_code 68 = .ok (.iload_n 3, 1) := by decide +kernel
theorem dk_50_69 : decode prog_5_method_20_code 69 = .ok (.aload_n 0, 1) := by decide +kernel
theorem dk_50_70 : decode prog_5_method_20_code 70 = .ok (.getfield 23, 3) := by decide +kernel
theorem dk_50_73 : decode prog_5_method_20_code 73 = .ok (.iload_n 1, 1) := by decide +kernel
theorem dk_50_74 : decode prog_5_method_20_code 74 = .ok (.iaload, 1) := by decide +kernel
theorem dk_50_75 : decode prog_5_method_20_code 75 = .ok (.if_icmp .gt (7), 3) := by decide +kernel
theorem dk_50_78 : decode prog_5_method_20_code 78 = .ok (.iload_n 3, 1) := by decide +kernel
theorem dk_50_79 : decode prog_5_method_20_code 79 = .ok (.goto (4), 3) := by decide +kernel
theorem dk_50_82 : decode prog_5_method_20_code 82 = .ok (.iconst (-1), 1) := by decide +kernel
theorem dk_50_83 : decode prog_5_method_20_code 83 = .ok (.ireturn, 1) := by decide +kernel
set_option maxRecDepth 100000 in
set_option maxHeartbeats 4000000 in
theorem cc_50 {l : Launch} {s0 : State} (hst : l.stackTraces = false) (h0 : am_W0 s0) {d : Nat} (hall : ∀ mi ∈ am_idx, am_CC l s0 d mi) : am_CC l s0 (d + 1) 50 :=
  am_method (y := y_50) (cc := prog_5_method_20_code) (maxL := 4) (ret := (some .int)) (rm := am_rm (d + 1) 0 0) (ops := op_50) (C := am_T am_tabs am_ar d) (ar := 3) h0 (by decide) (by decide) fun p e s m args below meth c D A bS ad0 Q hct htab => by
    obtain ⟨hx, hb, hml, hown, hts, hb1, hb2, hA, hroot, hAs, -, -, hlocks, hr, hnm⟩ := hct
    exact List.forall_mem_cons.mpr ⟨ok_aload_n hx hb dk_50_0 rfl,
    List.forall_mem_cons.mpr ⟨ok_iload_n hx hb dk_50_1 rfl,
    List.forall_mem_cons.mpr ⟨ok_aload_n hx hb dk_50_2 rfl,
    List.forall_mem_cons.mpr ⟨ok_getr hx hb hts hown hin_3 rfl (by decide) tw_536 dk_50_3,
    List.forall_mem_cons.mpr ⟨ok_iload_n hx hb dk_50_6 rfl,
    List.forall_mem_cons.mpr ⟨ok_iald hx hb dk_50_7,
    List.forall_mem_cons.mpr ⟨ok_icmp_le hx hb dk_50_8 (by decide),
    List.forall_mem_cons.mpr ⟨ok_iload_n hx hb dk_50_11 rfl,
    List.forall_mem_cons.mpr ⟨ok_goto hx hb dk_50_12 (by decide),
    List.forall_mem_cons.mpr ⟨ok_aload_n hx hb dk_50_15 rfl,
    List.forall_mem_cons.mpr ⟨ok_getr hx hb hts hown hin_3 rfl (by decide) tw_536 dk_50_16,
    List.forall_mem_cons.mpr ⟨ok_iload_n hx hb dk_50_19 rfl,
    List.forall_mem_cons.mpr ⟨ok_iald hx hb dk_50_20,
    List.forall_mem_cons.mpr ⟨ok_cV hx hb hml hown hts hb1 hb2 hA hroot hAs rfl rfl rfl (hcal_49 hall) tw_687 tw_689 ts_27 tw_690 tw_5 nm_49 rfl rfl (by show d + 8 + 1 ≤ d + 1 + 8; omega) (by show 8 + (5 + 11) + (200 + 60 * d) ≤ 200 + 60 * (d + 1); omega) dk_50_21,
    List.forall_mem_cons.mpr ⟨ok_istore_n hx hb dk_50_24 rfl (by decide),
    List.forall_mem_cons.mpr ⟨ok_aload_n hx hb dk_50_25 rfl,
    List.forall_mem_cons.mpr ⟨ok_getr hx hb hts hown hin_3 rfl (by decide) tw_540 dk_50_26,
    List.forall_mem_cons.mpr ⟨ok_iload_n hx hb dk_50_29 rfl,
    List.forall_mem_cons.mpr ⟨ok_iald hx hb dk_50_30,
    List.forall_mem_cons.mpr ⟨ok_if_lt hx hb dk_50_31 (by decide),
    List.forall_mem_cons.mpr ⟨ok_aload_n hx hb dk_50_34 rfl,
    List.forall_mem_cons.mpr ⟨ok_getr hx hb hts hown hin_3 rfl (by decide) tw_540 dk_50_35,
    List.forall_mem_cons.mpr ⟨ok_iload_n hx hb dk_50_38 rfl,
    List.forall_mem_cons.mpr ⟨ok_iald hx hb dk_50_39,
    List.forall_mem_cons.mpr ⟨ok_iload_n hx hb dk_50_40 rfl,
    List.forall_mem_cons.mpr ⟨ok_icmp_lt hx hb dk_50_41 (by decide),
    List.forall_mem_cons.mpr ⟨ok_aload_n hx hb dk_50_44 rfl,
    List.forall_mem_cons.mpr ⟨ok_aload_n hx hb dk_50_45 rfl,
    List.forall_mem_cons.mpr ⟨ok_getr hx hb hts hown hin_3 rfl (by decide) tw_540 dk_50_46,
    List.forall_mem_cons.mpr ⟨ok_iload_n hx hb dk_50_49 rfl,
    List.forall_mem_cons.mpr ⟨ok_iald hx hb dk_50_50,
    List.forall_mem_cons.mpr ⟨ok_cV hx hb hml hown hts hb1 hb2 hA hroot hAs rfl rfl rfl (hcal_43 hall) tw_647 tw_649 ts_19 tw_650 tw_5 nm_43 rfl rfl (by show d + 8 + 1 ≤ d + 1 + 8; omega) (by show 8 + (4 + 11) + (200 + 60 * d) ≤ 200 + 60 * (d + 1); omega) dk_50_51,
    List.forall_mem_cons.mpr ⟨ok_if_ne hx hb dk_50_54 (by decide),
    List.forall_mem_cons.mpr ⟨ok_aload_n hx hb dk_50_57 rfl,
    List.forall_mem_cons.mpr ⟨ok_getr hx hb hts hown hin_3 rfl (by decide) tw_540 dk_50_58,
    List.forall_mem_cons.mpr ⟨ok_iload_n hx hb dk_50_61 rfl,
    List.forall_mem_cons.mpr ⟨ok_iald hx hb dk_50_62,
    List.forall_mem_cons.mpr ⟨ok_goto hx hb dk_50_63 (by decide),
    List.forall_mem_cons.mpr ⟨ok_iconst hx hb dk_50_66 rfl,
    List.forall_mem_cons.mpr ⟨ok_iret hx hb hb1 hb2 hr hlocks dk_50_67,
    List.forall_mem_cons.mpr ⟨ok_iload_n hx hb dk_50_68 rfl,
    List.forall_mem_cons.mpr ⟨ok_aload_n hx hb dk_50_69 rfl,
    List.forall_mem_cons.mpr ⟨ok_getr hx hb hts hown hin_3 rfl (by decide) tw_538 dk_50_70,
    List.forall_mem_cons.mpr ⟨ok_iload_n hx hb dk_50_73 rfl,
    List.forall_mem_cons.mpr ⟨ok_iald hx hb dk_50_74,
    List.forall_mem_cons.mpr ⟨ok_icmp_gt hx hb dk_50_75 (by decide),
    List.forall_mem_cons.mpr ⟨ok_iload_n hx hb dk_50_78 rfl,
    List.forall_mem_cons.mpr ⟨ok_goto hx hb dk_50_79 (by decide),
    List.forall_mem_cons.mpr ⟨ok_iconst hx hb dk_50_82 rfl,
    List.forall_mem_cons.mpr ⟨ok_iret hx hb hb1 hb2 hr hlocks dk_50_83,
    fun _ h => absurd h List.not_mem_nil⟩⟩⟩⟩⟩⟩⟩⟩⟩⟩⟩⟩⟩⟩⟩⟩⟩⟩⟩⟩⟩⟩⟩⟩⟩⟩⟩⟩⟩⟩⟩⟩⟩⟩⟩⟩⟩⟩⟩⟩⟩⟩⟩⟩⟩⟩⟩⟩⟩⟩
