/-! contracts: 54.model2 (laid by wip/whole/gen.py) -/
theorem dk_51_0 : decode prog_5_method_21_code 0 = .ok (.iload_n 2, 1) := by decide +kernel
theorem dk_51_1 : decode prog_5_method_21_code 1 = .ok (.aload_n 0, 1) := by decide +kernel
theorem dk_51_2 : decode prog_5_method_21_code 2 = .ok (.getfield 20, 3) := by decide +kernel
theorem dk_51_5 : decode prog_5_method_21_code 5 = .ok (.iload_n 1, 1) := by decide +kernel
theorem dk_51_6 : decode prog_5_method_21_code 6 = .ok (.iaload, 1) := by decide +kernel
theorem dk_51_7 : decode prog_5_method_21_code 7 = .ok (.if_icmp .le (21), 3) := by decide +kernel
theorem dk_51_10 : decode prog_5_method_21_code 10 = .ok (.aload_n 0, 1) := by decide +kernel
theorem dk_51_11 : decode prog_5_method_21_code 11 = .ok (.getfield 26, 3) := by decide +kernel
theorem dk_51_14 : decode prog_5_method_21_code 14 = .ok (.iload_n 1, 1) := by decide +kernel
theorem dk_51_15 : decode prog_5_method_21_code 15 = .ok (.iaload, 1) := by decide +kernel
theorem dk_51_16 : decode prog_5_method_21_code 16 = .ok (.iload_n 2, 1) := by decide +kernel
theorem dk_51_17 : decode prog_5_method_21_code 17 = .ok (.aload_n 0, 1) := by decide +kernel
theorem dk_51_18 : decode prog_5_method_21_code 18 = .ok (.getfield 20, 3) := by decide +kernel
theorem dk_51_21 : decode prog_5_method_21_code 21 = .ok (.iload_n 1, 1) := by decide +kernel
theorem dk_51_22 : decode prog_5_method_21_code 22 = .ok (.iaload, 1) := by decide +kernel
theorem dk_51_23 : decode prog_5_method_21_code 23 = .ok (.isub, 1) := by decide +kernel
theorem dk_51_24 : decode prog_5_method_21_code 24 = .ok (.imul, 1) := by decide +kernel
theorem dk_51_25 : decode prog_5_method_21_code 25 = .ok (.goto (4), 3) := by decide +kernel
theorem dk_51_28 : decode prog_5_method_21_code 28 = .ok (.iconst (0), 1) := by decide +kernel
theorem dk_51_29 : decode prog_5_method_21_code 29 = .ok (.ireturn, 1) := by decide +kernel
set_option maxRecDepth 100000 in
set_option maxHeartbeats 4000000 in
theorem cc_51 {l : Launch} {s0 : State} (hst : l.stackTraces = false) (h0 : am_W0 s0) {d : Nat} (hall : ∀ mi ∈ am_idx, am_CC l s0 d mi) : am_CC l s0 (d + 1) 51 :=
  am_method (y := y_51) (cc := prog_5_method_21_code) (maxL := 3) (ret := (some .int)) (rm := am_rm (d + 1) 0 0) (ops := op_51) (C := am_T am_tabs am_ar d) (ar := 3) h0 (by decide) (by decide) fun p e s m args below meth c D A bS ad0 Q hct htab => by
    obtain ⟨hx, hb, hml, hown, hts, hb1, hb2, hA, hroot, hAs, -, -, hlocks, hr, hnm⟩ := hct
    exact List.forall_mem_cons.mpr ⟨ok_iload_n hx hb dk_51_0 rfl,
    List.forall_mem_cons.mpr ⟨ok_aload_n hx hb dk_51_1 rfl,
    List.forall_mem_cons.mpr ⟨ok_getr hx hb hts hown hin_3 rfl (by decide) tw_537 dk_51_2,
    List.forall_mem_cons.mpr ⟨ok_iload_n hx hb dk_51_5 rfl,
    List.forall_mem_cons.mpr ⟨ok_iald hx hb dk_51_6,
    List.forall_mem_cons.mpr ⟨ok_icmp_le hx hb dk_51_7 (by decide),
    List.forall_mem_cons.mpr ⟨ok_aload_n hx hb dk_51_10 rfl,
    List.forall_mem_cons.mpr ⟨ok_getr hx hb hts hown hin_3 rfl (by decide) tw_539 dk_51_11,
    List.forall_mem_cons.mpr ⟨ok_iload_n hx hb dk_51_14 rfl,
    List.forall_mem_cons.mpr ⟨ok_iald hx hb dk_51_15,
    List.forall_mem_cons.mpr ⟨ok_iload_n hx hb dk_51_16 rfl,
    List.forall_mem_cons.mpr ⟨ok_aload_n hx hb dk_51_17 rfl,
    List.forall_mem_cons.mpr ⟨ok_getr hx hb hts hown hin_3 rfl (by decide) tw_537 dk_51_18,
    List.forall_mem_cons.mpr ⟨ok_iload_n hx hb dk_51_21 rfl,
    List.forall_mem_cons.mpr ⟨ok_iald hx hb dk_51_22,
    List.forall_mem_cons.mpr ⟨ok_isub hx hb dk_51_23,
    List.forall_mem_cons.mpr ⟨ok_imul hx hb dk_51_24,
    List.forall_mem_cons.mpr ⟨ok_goto hx hb dk_51_25 (by decide),
    List.forall_mem_cons.mpr ⟨ok_iconst hx hb dk_51_28 rfl,
    List.forall_mem_cons.mpr ⟨ok_iret hx hb hb1 hb2 hr hlocks dk_51_29,
    fun _ h => absurd h List.not_mem_nil⟩⟩⟩⟩⟩⟩⟩⟩⟩⟩⟩⟩⟩⟩⟩⟩⟩⟩⟩⟩
theorem dk_52_0 : decode prog_5_method_22_code 0 = .ok (.aload_n 0, 1) := by decide +kernel
theorem dk_52_1 : decode prog_5_method_22_code 1 = .ok (.getfield 51, 3) := by decide +kernel
theorem dk_52_4 : decode prog_5_method_22_code 4 = .ok (.iload_n 2, 1) := by decide +kernel
theorem dk_52_5 : decode prog_5_method_22_code 5 = .ok (.iaload, 1) := by decide +kernel
theorem dk_52_6 : decode prog_5_method_22_code 6 = .ok (.istore 4, 2) := by decide +kernel
theorem dk_52_8 : decode prog_5_method_22_code 8 = .ok (.iload_n 1, 1) := by decide +kernel
theorem dk_52_9 : decode prog_5_method_22_code 9 = .ok (.iload_n 2, 1) := by decide +kernel
theorem dk_52_10 : decode prog_5_method_22_code 10 = .ok (.if_icmp .le (9), 3) := by decide +kernel
theorem dk_52_13 : decode prog_5_method_22_code 13 = .ok (.iload_n 1, 1) := by decide +kernel
theorem dk_52_14 : decode prog_5_method_22_code 14 = .ok (.iload_n 2, 1) := by decide +kernel
theorem dk_52_15 : decode prog_5_method_22_code 15 = .ok (.isub, 1) := by decide +kernel
theorem dk_52_16 : decode prog_5_method_22_code 16 = .ok (.goto (6), 3) := by decide +kernel
theorem dk_52_19 : decode prog_5_method_22_code 19 = .ok (.iload_n 2, 1) := by decide +kernel
theorem dk_52_20 : decode prog_5_method_22_code 20 = .ok (.iload_n 1, 1) := by decide +kernel
theorem dk_52_21 : decode prog_5_method_22_code 21 = .ok (.isub, 1) := by decide +kernel
theorem dk_52_22 : decode prog_5_method_22_code 22 = .ok (.istore 5, 2) := by decide +kernel
theorem dk_52_24 : decode prog_5_method_22_code 24 = .ok (.aload_n 0, 1) := by decide +kernel
theorem dk_52_25 : decode prog_5_method_22_code 25 = .ok (.getfield 29, 3) := by decide +kernel
theorem dk_52_28 : decode prog_5_method_22_code 28 = .ok (.iload 4, 2) := by decide +kernel
theorem dk_52_30 : decode prog_5_method_22_code 30 = .ok (.iaload, 1) := by decide +kernel
theorem dk_52_31 : decode prog_5_method_22_code 31 = .ok (.ifCond .ge (11), 3) := by decide +kernel
theorem dk_52_34 : decode prog_5_method_22_code 34 = .ok (.iload 5, 2) := by decide +kernel
theorem dk_52_36 : decode prog_5_method_22_code 36 = .ok (.iload_n 3, 1) := by decide +kernel
theorem dk_52_37 : decode prog_5_method_22_code 37 = .ok (.if_icmp .le (5), 3) := by decide +kernel
theorem dk_52_40 : decode prog_5_method_22_code 40 = .ok (.iconst (0), 1) := by decide +kernel
theorem dk_52_41 : decode prog_5_method_22_code 41 = .ok (.ireturn, 1) := by decide +kernel
theorem dk_52_42 : decode prog_5_method_22_code 42 = .ok (.iconst (0), 1) := by decide +kernel
theorem dk_52_43 : decode prog_5_method_22_code 43 = .ok (.istore 6, 2) := by decide +kernel
theorem dk_52_45 : decode prog_5_method_22_code 45 = .ok (.iconst (0), 1) := by decide +kernel
theorem dk_52_46 : decode prog_5_method_22_code 46 = .ok (.istore 7, 2) := by decide +kernel
theorem dk_52_48 : decode prog_5_method_22_code 48 = .ok (.iload 7, 2) := by decide +kernel
theorem dk_52_50 : decode prog_5_method_22_code 50 = .ok (.iload_n 1, 1) := by decide +kernel
theorem dk_52_51 : decode prog_5_method_22_code 51 = .ok (.if_icmp .ge (72), 3) := by decide +kernel
theorem dk_52_54 : decode prog_5_method_22_code 54 = .ok (.aload_n 0, 1) := by decide +kernel
theorem dk_52_55 : decode prog_5_method_22_code 55 = .ok (.getfield 51, 3) := by decide +kernel
theorem dk_52_58 : decode prog_5_method_22_code 58 = .ok (.aload_n 0, 1) := by decide +kernel
theorem dk_52_59 : decode prog_5_method_22_code 59 = .ok (.getfield 54, 3) := by decide +kernel
theorem dk_52_62 : decode prog_5_method_22_code 62 = .ok (.iload 7, 2) := by decide +kernel
theorem dk_52_64 : decode prog_5_method_22_code 64 = .ok (.iaload, 1) := by decide +kernel
theorem dk_52_65 : decode prog_5_method_22_code 65 = .ok (.iaload, 1) := by decide +kernel
theorem dk_52_66 : decode prog_5_method_22_code 66 = .ok (.istore 8, 2) := by decide +kernel
theorem dk_52_68 : decode prog_5_method_22_code 68 = .ok (.aload_n 0, 1) := by decide +kernel
theorem dk_52_69 : decode prog_5_method_22_code 69 = .ok (.getfield 60, 3) := by decide +kernel
theorem dk_52_72 : decode prog_5_method_22_code 72 = .ok (.iload 7, 2) := by decide +kernel
theorem dk_52_74 : decode prog_5_method_22_code 74 = .ok (.iaload, 1) := by decide +kernel
theorem dk_52_75 : decode prog_5_method_22_code 75 = .ok (.aload_n 0, 1) := by decide +kernel
theorem dk_52_76 : decode prog_5_method_22_code 76 = .ok (.getfield 32, 3) := by decide +kernel
theorem dk_52_79 : decode prog_5_method_22_code 79 = .ok (.bipush (6), 2) := by decide +kernel
theorem dk_52_81 : decode prog_5_method_22_code 81 = .ok (.aload_n 0, 1) := by decide +kernel
theorem dk_52_82 : decode prog_5_method_22_code 82 = .ok (.getfield 13, 3) := by decide +kernel
theorem dk_52_85 : decode prog_5_method_22_code 85 = .ok (.iload 8, 2) := by decide +kernel
theorem dk_52_87 : decode prog_5_method_22_code 87 = .ok (.iaload, 1) := by decide +kernel
theorem dk_52_88 : decode prog_5_method_22_code 88 = .ok (.imul, 1) := by decide +kernel
theorem dk_52_89 : decode prog_5_method_22_code 89 = .ok (.aload_n 0, 1) := by decide +kernel
theorem dk_52_90 : decode prog_5_method_22_code 90 = .ok (.getfield 13, 3) := by decide +kernel
theorem dk_52_93 : decode prog_5_method_22_code 93 = .ok (.iload 4, 2) := by decide +kernel
theorem dk_52_95 : decode prog_5_method_22_code 95 = .ok (.iaload, 1) := by decide +kernel
theorem dk_52_96 : decode prog_5_method_22_code 96 = .ok (.iadd, 1) := by decide +kernel
theorem dk_52_97 : decode prog_5_method_22_code 97 = .ok (.iaload, 1) := by decide +kernel
theorem dk_52_98 : decode prog_5_method_22_code 98 = .ok (.iadd, 1) := by decide +kernel
theorem dk_52_99 : decode prog_5_method_22_code 99 = .ok (.istore 9, 2) := by decide +kernel
theorem dk_52_101 : decode prog_5_method_22_code 101 = .ok (.iload 9, 2) := by decide +kernel
theorem dk_52_103 : decode prog_5_method_22_code 103 = .ok (.iload 6, 2) := by decide +kernel
theorem dk_52_105 : decode prog_5_method_22_code 105 = .ok (.if_icmp .le (8), 3) := by decide +kernel
theorem dk_52_108 : decode prog_5_method_22_code 108 = .ok (.iload 9, 2) := by decide +kernel
theorem dk_52_110 : decode prog_5_method_22_code 110 = .ok (.goto (5), 3) := by decide +kernel
theorem dk_52_113 : decode prog_5_method_22_code 113 = .ok (.iload 6, 2) := by decide +kernel
theorem dk_52_115 : decode prog_5_method_22_code 115 = .ok (.istore 6, 2) := by decide +kernel
theorem dk_52_117 : decode prog_5_method_22_code 117 = .ok (.iinc 7 (1), 3) := by decide +kernel
theorem dk_52_120 : decode prog_5_method_22_code 120 = .ok (.goto (-72), 3) := by decide +kernel
theorem dk_52_123 : decode prog_5_method_22_code 123 = .ok (.aload_n 0, 1) := by decide +kernel
theorem dk_52_124 : decode prog_5_method_22_code 124 = .ok (.iload 4, 2) := by decide +kernel
theorem dk_52_126 : decode prog_5_method_22_code 126 = .ok (.iload 6, 2) := by decide +kernel
theorem dk_52_128 : decode prog_5_method_22_code 128 = .ok (.invokevirtual 103, 3) := by decide +kernel
theorem dk_52_131 : decode prog_5_method_22_code 131 = .ok (.istore 7, 2) := by decide +kernel
theorem dk_52_133 : decode prog_5_method_22_code 133 = .ok (.iload 7, 2) := by decide +kernel
theorem dk_52_135 : decode prog_5_method_22_code 135 = .ok (.ifCond .ge (5), 3) := by decide +kernel
theorem dk_52_138 : decode prog_5_method_22_code 138 = .ok (.iconst (0), 1) := by decide +kernel
theorem dk_52_139 : decode prog_5_method_22_code 139 = .ok (.ireturn, 1) := by decide +kernel
theorem dk_52_140 : decode prog_5_method_22_code 140 = .ok (.aload_n 0, 1) := by decide +kernel
theorem dk_52_141 : decode prog_5_method_22_code 141 = .ok (.getfield 60, 3) := by decide +kernel
theorem dk_52_144 : decode prog_5_method_22_code 144 = .ok (.iload_n 1, 1) := by decide +kernel
theorem dk_52_145 : decode prog_5_method_22_code 145 = .ok (.iload 7, 2) := by decide +kernel
theorem dk_52_147 : decode prog_5_method_22_code 147 = .ok (.iastore, 1) := by decide +kernel
theorem dk_52_148 : decode prog_5_method_22_code 148 = .ok (.aload_n 0, 1) := by decide +kernel
theorem dk_52_149 : decode prog_5_method_22_code 149 = .ok (.getfield 63, 3) := by decide +kernel
theorem dk_52_152 : decode prog_5_method_22_code 152 = .ok (.iload_n 1, 1) := by decide +kernel
theorem dk_52_153 : decode prog_5_method_22_code 153 = .ok (.iconst (1), 1) := by decide +kernel
theorem dk_52_154 : decode prog_5_method_22_code 154 = .ok (.iadd, 1) := by decide +kernel
theorem dk_52_155 : decode prog_5_method_22_code 155 = .ok (.aload_n 0, 1) := by decide +kernel
theorem dk_52_156 : decode prog_5_method_22_code 156 = .ok (.getfield 63, 3) := by decide +kernel
theorem dk_52_159 : decode prog_5_method_22_code 159 = .ok (.iload_n 1, 1) := by decide +kernel
theorem dk_52_160 : decode prog_5_method_22_code 160 = .ok (.iaload, 1) := by decide +kernel
theorem dk_52_161 : decode prog_5_method_22_code 161 = .ok (.aload_n 0, 1) := by decide +kernel
theorem dk_52_162 : decode prog_5_method_22_code 162 = .ok (.iload 4, 2) := by decide +kernel
theorem dk_52_164 : decode prog_5_method_22_code 164 = .ok (.iload 7, 2) := by decide +kernel
theorem dk_52_166 : decode prog_5_method_22_code 166 = .ok (.invokevirtual 107, 3) := by decide +kernel
theorem dk_52_169 : decode prog_5_method_22_code 169 = .ok (.iadd, 1) := by decide +kernel
theorem dk_52_170 : decode prog_5_method_22_code 170 = .ok (.iastore, 1) := by decide +kernel
theorem dk_52_171 : decode prog_5_method_22_code 171 = .ok (.iconst (1), 1) := by decide +kernel
theorem dk_52_172 : decode prog_5_method_22_code 172 = .ok (.ireturn, 1) := by decide +kernel
set_option maxRecDepth 100000 in
set_option maxHeartbeats 4000000 in
theorem cc_52 {l : Launch} {s0 : State} (hst : l.stackTraces = false) (h0 : am_W0 s0) {d : Nat} (hall : ∀ mi ∈ am_idx, am_CC l s0 d mi) : am_CC l s0 (d + 1) 52 :=
  am_method (y := y_52) (cc := prog_5_method_22_code) (maxL := 10) (ret := (some .boolean)) (rm := am_rm (d + 1) 0 0) (ops := op_52) (C := am_T am_tabs am_ar d) (ar := 4) h0 (by decide) (by decide) fun p e s m args below meth c D A bS ad0 Q hct htab => by
    obtain ⟨hx, hb, hml, hown, hts, hb1, hb2, hA, hroot, hAs, -, -, hlocks, hr, hnm⟩ := hct
    exact List.forall_mem_cons.mpr ⟨ok_aload_n hx hb dk_52_0 rfl,
    List.forall_mem_cons.mpr ⟨ok_getr hx hb hts hown hin_3 rfl (by decide) tw_549 dk_52_1,
    List.forall_mem_cons.mpr ⟨ok_iload_n hx hb dk_52_4 rfl,
    List.forall_mem_cons.mpr ⟨ok_iald hx hb dk_52_5,
    List.forall_mem_cons.mpr ⟨ok_istore hx hb dk_52_6 (by decide),
    List.forall_mem_cons.mpr ⟨ok_iload_n hx hb dk_52_8 rfl,
    List.forall_mem_cons.mpr ⟨ok_iload_n hx hb dk_52_9 rfl,
    List.forall_mem_cons.mpr ⟨ok_icmp_le hx hb dk_52_10 (by decide),
    List.forall_mem_cons.mpr ⟨ok_iload_n hx hb dk_52_13 rfl,
    List.forall_mem_cons.mpr ⟨ok_iload_n hx hb dk_52_14 rfl,
    List.forall_mem_cons.mpr ⟨ok_isub hx hb dk_52_15,
    List.forall_mem_cons.mpr ⟨ok_goto hx hb dk_52_16 (by decide),
    List.forall_mem_cons.mpr ⟨ok_iload_n hx hb dk_52_19 rfl,
    List.forall_mem_cons.mpr ⟨ok_iload_n hx hb dk_52_20 rfl,
    List.forall_mem_cons.mpr ⟨ok_isub hx hb dk_52_21,
    List.forall_mem_cons.mpr ⟨ok_istore hx hb dk_52_22 (by decide),
    List.forall_mem_cons.mpr ⟨ok_aload_n hx hb dk_52_24 rfl,
    List.forall_mem_cons.mpr ⟨ok_getr hx hb hts hown hin_3 rfl (by decide) tw_540 dk_52_25,
    List.forall_mem_cons.mpr ⟨ok_iload hx hb dk_52_28,
    List.forall_mem_cons.mpr ⟨ok_iald hx hb dk_52_30,
    List.forall_mem_cons.mpr ⟨ok_if_ge hx hb dk_52_31 (by decide),
    List.forall_mem_cons.mpr ⟨ok_iload hx hb dk_52_34,
    List.forall_mem_cons.mpr ⟨ok_iload_n hx hb dk_52_36 rfl,
    List.forall_mem_cons.mpr ⟨ok_icmp_le hx hb dk_52_37 (by decide),
    List.forall_mem_cons.mpr ⟨ok_iconst hx hb dk_52_40 rfl,
    List.forall_mem_cons.mpr ⟨ok_zret hx hb hb1 hb2 hr hlocks dk_52_41,
    List.forall_mem_cons.mpr ⟨ok_iconst hx hb dk_52_42 rfl,
    List.forall_mem_cons.mpr ⟨ok_istore hx hb dk_52_43 (by decide),
    List.forall_mem_cons.mpr ⟨ok_iconst hx hb dk_52_45 rfl,
    List.forall_mem_cons.mpr ⟨ok_istore hx hb dk_52_46 (by decide),
    List.forall_mem_cons.mpr ⟨ok_iload hx hb dk_52_48,
    List.forall_mem_cons.mpr ⟨ok_iload_n hx hb dk_52_50 rfl,
    List.forall_mem_cons.mpr ⟨ok_icmp_ge hx hb dk_52_51 (by decide),
    List.forall_mem_cons.mpr ⟨ok_aload_n hx hb dk_52_54 rfl,
    List.forall_mem_cons.mpr ⟨ok_getr hx hb hts hown hin_3 rfl (by decide) tw_549 dk_52_55,
    List.forall_mem_cons.mpr ⟨ok_aload_n hx hb dk_52_58 rfl,
    List.forall_mem_cons.mpr ⟨ok_getr hx hb hts hown hin_3 rfl (by decide) tw_550 dk_52_59,
    List.forall_mem_cons.mpr ⟨ok_iload hx hb dk_52_62,
    List.forall_mem_cons.mpr ⟨ok_iald hx hb dk_52_64,
    List.forall_mem_cons.mpr ⟨ok_iald hx hb dk_52_65,
    List.forall_mem_cons.mpr ⟨ok_istore hx hb dk_52_66 (by decide),
    List.forall_mem_cons.mpr ⟨ok_aload_n hx hb dk_52_68 rfl,
    List.forall_mem_cons.mpr ⟨ok_getr hx hb hts hown hin_3 rfl (by decide) tw_552 dk_52_69,
    List.forall_mem_cons.mpr ⟨ok_iload hx hb dk_52_72,
    List.forall_mem_cons.mpr ⟨ok_iald hx hb dk_52_74,
    List.forall_mem_cons.mpr ⟨ok_aload_n hx hb dk_52_75 rfl,
    List.forall_mem_cons.mpr ⟨ok_getr hx hb hts hown hin_3 rfl (by decide) tw_541 dk_52_76,
    List.forall_mem_cons.mpr ⟨ok_bipush hx hb dk_52_79 (by decide),
    List.forall_mem_cons.mpr ⟨ok_aload_n hx hb dk_52_81 rfl,
    List.forall_mem_cons.mpr ⟨ok_getr hx hb hts hown hin_3 rfl (by decide) tw_535 dk_52_82,
    List.forall_mem_cons.mpr ⟨ok_iload hx hb dk_52_85,
    List.forall_mem_cons.mpr ⟨ok_iald hx hb dk_52_87,
    List.forall_mem_cons.mpr ⟨ok_imul hx hb dk_52_88,
    List.forall_mem_cons.mpr ⟨ok_aload_n hx hb dk_52_89 rfl,
    List.forall_mem_cons.mpr ⟨ok_getr hx hb hts hown hin_3 rfl (by decide) tw_535 dk_52_90,
    List.forall_mem_cons.mpr ⟨ok_iload hx hb dk_52_93,
    List.forall_mem_cons.mpr ⟨ok_iald hx hb dk_52_95,
    List.forall_mem_cons.mpr ⟨ok_iadd hx hb dk_52_96,
    List.forall_mem_cons.mpr ⟨ok_iald hx hb dk_52_97,
    List.forall_mem_cons.mpr ⟨ok_iadd hx hb dk_52_98,
    List.forall_mem_cons.mpr ⟨ok_istore hx hb dk_52_99 (by decide),
    List.forall_mem_cons.mpr ⟨ok_iload hx hb dk_52_101,
    List.forall_mem_cons.mpr ⟨ok_iload hx hb dk_52_103,
    List.forall_mem_cons.mpr ⟨ok_icmp_le hx hb dk_52_105 (by decide),
    List.forall_mem_cons.mpr ⟨ok_iload hx hb dk_52_108,
    List.forall_mem_cons.mpr ⟨ok_goto hx hb dk_52_110 (by decide),
    List.forall_mem_cons.mpr ⟨ok_iload hx hb dk_52_113,
    List.forall_mem_cons.mpr ⟨ok_istore hx hb dk_52_115 (by decide),
    List.forall_mem_cons.mpr ⟨ok_iinc hx hb dk_52_117 rfl (by decide),
    List.forall_mem_cons.mpr ⟨ok_goto hx hb dk_52_120 (by decide),
    List.forall_mem_cons.mpr ⟨ok_aload_n hx hb dk_52_123 rfl,
    List.forall_mem_cons.mpr ⟨ok_iload hx hb dk_52_124,
    List.forall_mem_cons.mpr ⟨ok_iload hx hb dk_52_126,
    List.forall_mem_cons.mpr ⟨ok_cV hx hb hml hown hts hb1 hb2 hA hroot hAs rfl rfl rfl (hcal_50 hall) tw_683 tw_685 ts_26 tw_686 tw_5 nm_50 rfl rfl (by show d + 8 + 1 ≤ d + 1 + 8; omega) (by show 8 + (4 + 11) + (200 + 60 * d) ≤ 200 + 60 * (d + 1); omega) dk_52_128,
    List.forall_mem_cons.mpr ⟨ok_istore hx hb dk_52_131 (by decide),
    List.forall_mem_cons.mpr ⟨ok_iload hx hb dk_52_133,
    List.forall_mem_cons.mpr ⟨ok_if_ge hx hb dk_52_135 (by decide),
    List.forall_mem_cons.mpr ⟨ok_iconst hx hb dk_52_138 rfl,
    List.forall_mem_cons.mpr ⟨ok_zret hx hb hb1 hb2 hr hlocks dk_52_139,
    List.forall_mem_cons.mpr ⟨ok_aload_n hx hb dk_52_140 rfl,
    List.forall_mem_cons.mpr ⟨ok_getr hx hb hts hown hin_3 rfl (by decide) tw_552 dk_52_141,
    List.forall_mem_cons.mpr ⟨ok_iload_n hx hb dk_52_144 rfl,
    List.forall_mem_cons.mpr ⟨ok_iload hx hb dk_52_145,
    List.forall_mem_cons.mpr ⟨ok_iast hx hb dk_52_147,
    List.forall_mem_cons.mpr ⟨ok_aload_n hx hb dk_52_148 rfl,
    List.forall_mem_cons.mpr ⟨ok_getr hx hb hts hown hin_3 rfl (by decide) tw_553 dk_52_149,
    List.forall_mem_cons.mpr ⟨ok_iload_n hx hb dk_52_152 rfl,
    List.forall_mem_cons.mpr ⟨ok_iconst hx hb dk_52_153 rfl,
    List.forall_mem_cons.mpr ⟨ok_iadd hx hb dk_52_154,
    List.forall_mem_cons.mpr ⟨ok_aload_n hx hb dk_52_155 rfl,
    List.forall_mem_cons.mpr ⟨ok_getr hx hb hts hown hin_3 rfl (by decide) tw_553 dk_52_156,
    List.forall_mem_cons.mpr ⟨ok_iload_n hx hb dk_52_159 rfl,
    List.forall_mem_cons.mpr ⟨ok_iald hx hb dk_52_160,
    List.forall_mem_cons.mpr ⟨ok_aload_n hx hb dk_52_161 rfl,
    List.forall_mem_cons.mpr ⟨ok_iload hx hb dk_52_162,
    List.forall_mem_cons.mpr ⟨ok_iload hx hb dk_52_164,
    List.forall_mem_cons.mpr ⟨ok_cV hx hb hml hown hts hb1 hb2 hA hroot hAs rfl rfl rfl (hcal_51 hall) tw_691 tw_693 ts_28 tw_694 tw_5 nm_51 rfl rfl (by show d + 8 + 1 ≤ d + 1 + 8; omega) (by show 8 + (3 + 11) + (200 + 60 * d) ≤ 200 + 60 * (d + 1); omega) dk_52_166,
    List.forall_mem_cons.mpr ⟨ok_iadd hx hb dk_52_169,
    List.forall_mem_cons.mpr ⟨ok_iast hx hb dk_52_170,
    List.forall_mem_cons.mpr ⟨ok_iconst hx hb dk_52_171 rfl,
    List.forall_mem_cons.mpr ⟨ok_zret hx hb hb1 hb2 hr hlocks dk_52_172,
    fun _ h => absurd h List.not_mem_nil⟩⟩⟩⟩⟩⟩⟩⟩⟩⟩⟩⟩⟩⟩⟩⟩⟩⟩⟩⟩⟩⟩⟩⟩⟩⟩⟩⟩⟩⟩⟩⟩⟩⟩⟩⟩⟩⟩⟩⟩⟩⟩⟩⟩⟩⟩⟩⟩⟩⟩⟩⟩⟩⟩⟩⟩⟩⟩⟩⟩⟩⟩⟩⟩⟩⟩⟩⟩⟩⟩⟩⟩⟩⟩⟩⟩⟩⟩⟩⟩⟩⟩⟩⟩⟩⟩⟩⟩⟩⟩⟩⟩⟩⟩⟩⟩⟩⟩⟩⟩⟩
theorem dk_53_0 : decode prog_5_method_23_code 0 = .ok (.iconst (0), 1) := by decide +kernel
theorem dk_53_1 : decode prog_5_method_23_code 1 = .ok (.istore_n 1, 1) := by decide +kernel
theorem dk_53_2 : decode prog_5_method_23_code 2 = .ok (.iload_n 1, 1) := by decide +kernel
theorem dk_53_3 : decode prog_5_method_23_code 3 = .ok (.bipush (7), 2) := by decide +kernel
theorem dk_53_5 : decode prog_5_method_23_code 5 = .ok (.if_icmp .ge (16), 3) := by decide +kernel
theorem dk_53_8 : decode prog_5_method_23_code 8 = .ok (.aload_n 0, 1) := by decide +kernel
theorem dk_53_9 : decode prog_5_method_23_code 9 = .ok (.getfield 66, 3) := by decide +kernel
theorem dk_53_12 : decode prog_5_method_23_code 12 = .ok (.iload_n 1, 1) := by decide +kernel
theorem dk_53_13 : decode prog_5_method_23_code 13 = .ok (.iconst (-1), 1) := by decide +kernel
theorem dk_53_14 : decode prog_5_method_23_code 14 = .ok (.iastore, 1) := by decide +kernel
theorem dk_53_15 : decode prog_5_method_23_code 15 = .ok (.iinc 1 (1), 3) := by decide +kernel
theorem dk_53_18 : decode prog_5_method_23_code 18 = .ok (.goto (-16), 3) := by decide +kernel
theorem dk_53_21 : decode prog_5_method_23_code 21 = .ok (.iconst (0), 1) := by decide +kernel
theorem dk_53_22 : decode prog_5_method_23_code 22 = .ok (.istore_n 1, 1) := by decide +kernel
theorem dk_53_23 : decode prog_5_method_23_code 23 = .ok (.iload_n 1, 1) := by decide +kernel
theorem dk_53_24 : decode prog_5_method_23_code 24 = .ok (.aload_n 0, 1) := by decide +kernel
theorem dk_53_25 : decode prog_5_method_23_code 25 = .ok (.getfield 93, 3) := by decide +kernel
theorem dk_53_28 : decode prog_5_method_23_code 28 = .ok (.if_icmp .ge (31), 3) := by decide +kernel
theorem dk_53_31 : decode prog_5_method_23_code 31 = .ok (.aload_n 0, 1) := by decide +kernel
theorem dk_53_32 : decode prog_5_method_23_code 32 = .ok (.getfield 66, 3) := by decide +kernel
theorem dk_53_35 : decode prog_5_method_23_code 35 = .ok (.aload_n 0, 1) := by decide +kernel
theorem dk_53_36 : decode prog_5_method_23_code 36 = .ok (.getfield 51, 3) := by decide +kernel
theorem dk_53_39 : decode prog_5_method_23_code 39 = .ok (.aload_n 0, 1) := by decide +kernel
theorem dk_53_40 : decode prog_5_method_23_code 40 = .ok (.getfield 54, 3) := by decide +kernel
theorem dk_53_43 : decode prog_5_method_23_code 43 = .ok (.iload_n 1, 1) := by decide +kernel
theorem dk_53_44 : decode prog_5_method_23_code 44 = .ok (.iaload, 1) := by decide +kernel
theorem dk_53_45 : decode prog_5_method_23_code 45 = .ok (.iaload, 1) := by decide +kernel
theorem dk_53_46 : decode prog_5_method_23_code 46 = .ok (.aload_n 0, 1) := by decide +kernel
theorem dk_53_47 : decode prog_5_method_23_code 47 = .ok (.getfield 60, 3) := by decide +kernel
theorem dk_53_50 : decode prog_5_method_23_code 50 = .ok (.iload_n 1, 1) := by decide +kernel
theorem dk_53_51 : decode prog_5_method_23_code 51 = .ok (.iaload, 1) := by decide +kernel
theorem dk_53_52 : decode prog_5_method_23_code 52 = .ok (.iastore, 1) := by decide +kernel
theorem dk_53_53 : decode prog_5_method_23_code 53 = .ok (.iinc 1 (1), 3) := by decide +kernel
theorem dk_53_56 : decode prog_5_method_23_code 56 = .ok (.goto (-33), 3) := by decide +kernel
theorem dk_53_59 : decode prog_5_method_23_code 59 = .ok (.return_, 1) := by decide +kernel
set_option maxRecDepth 100000 in
set_option maxHeartbeats 4000000 in
theorem cc_53 {l : Launch} {s0 : State} (hst : l.stackTraces = false) (h0 : am_W0 s0) {d : Nat} (hall : ∀ mi ∈ am_idx, am_CC l s0 d mi) : am_CC l s0 (d + 1) 53 :=
  am_method (y := y_53) (cc := prog_5_method_23_code) (maxL := 2) (ret := none) (rm := am_rm (d + 1) 0 0) (ops := op_53) (C := am_T am_tabs am_ar d) (ar := 1) h0 (by decide) (by decide) fun p e s m args below meth c D A bS ad0 Q hct htab => by
    obtain ⟨hx, hb, hml, hown, hts, hb1, hb2, hA, hroot, hAs, -, -, hlocks, hr, hnm⟩ := hct
    exact List.forall_mem_cons.mpr ⟨ok_iconst hx hb dk_53_0 rfl,
    List.forall_mem_cons.mpr ⟨ok_istore_n hx hb dk_53_1 rfl (by decide),
    List.forall_mem_cons.mpr ⟨ok_iload_n hx hb dk_53_2 rfl,
    List.forall_mem_cons.mpr ⟨ok_bipush hx hb dk_53_3 (by decide),
    List.forall_mem_cons.mpr ⟨ok_icmp_ge hx hb dk_53_5 (by decide),
    List.forall_mem_cons.mpr ⟨ok_aload_n hx hb dk_53_8 rfl,
    List.forall_mem_cons.mpr ⟨ok_getr hx hb hts hown hin_3 rfl (by decide) tw_554 dk_53_9,
    List.forall_mem_cons.mpr ⟨ok_iload_n hx hb dk_53_12 rfl,
    List.forall_mem_cons.mpr ⟨ok_iconst hx hb dk_53_13 rfl,
    List.forall_mem_cons.mpr ⟨ok_iast hx hb dk_53_14,
    List.forall_mem_cons.mpr ⟨ok_iinc hx hb dk_53_15 rfl (by decide),
    List.forall_mem_cons.mpr ⟨ok_goto hx hb dk_53_18 (by decide),
    List.forall_mem_cons.mpr ⟨ok_iconst hx hb dk_53_21 rfl,
    List.forall_mem_cons.mpr ⟨ok_istore_n hx hb dk_53_22 rfl (by decide),
    List.forall_mem_cons.mpr ⟨ok_iload_n hx hb dk_53_23 rfl,
    List.forall_mem_cons.mpr ⟨ok_aload_n hx hb dk_53_24 rfl,
    List.forall_mem_cons.mpr ⟨ok_geti hx hb hts hown hin_3 rfl (by decide) tw_548 dk_53_25,
    List.forall_mem_cons.mpr ⟨ok_icmp_ge hx hb dk_53_28 (by decide),
    List.forall_mem_cons.mpr ⟨ok_aload_n hx hb dk_53_31 rfl,
    List.forall_mem_cons.mpr ⟨ok_getr hx hb hts hown hin_3 rfl (by decide) tw_554 dk_53_32,
    List.forall_mem_cons.mpr ⟨ok_aload_n hx hb dk_53_35 rfl,
    List.forall_mem_cons.mpr ⟨ok_getr hx hb hts hown hin_3 rfl (by decide) tw_549 dk_53_36,
    List.forall_mem_cons.mpr ⟨ok_aload_n hx hb dk_53_39 rfl,
    List.forall_mem_cons.mpr ⟨ok_getr hx hb hts hown hin_3 rfl (by decide) tw_550 dk_53_40,
    List.forall_mem_cons.mpr ⟨ok_iload_n hx hb dk_53_43 rfl,
    List.forall_mem_cons.mpr ⟨ok_iald hx hb dk_53_44,
    List.forall_mem_cons.mpr ⟨ok_iald hx hb dk_53_45,
    List.forall_mem_cons.mpr ⟨ok_aload_n hx hb dk_53_46 rfl,
    List.forall_mem_cons.mpr ⟨ok_getr hx hb hts hown hin_3 rfl (by decide) tw_552 dk_53_47,
    List.forall_mem_cons.mpr ⟨ok_iload_n hx hb dk_53_50 rfl,
    List.forall_mem_cons.mpr ⟨ok_iald hx hb dk_53_51,
    List.forall_mem_cons.mpr ⟨ok_iast hx hb dk_53_52,
    List.forall_mem_cons.mpr ⟨ok_iinc hx hb dk_53_53 rfl (by decide),
    List.forall_mem_cons.mpr ⟨ok_goto hx hb dk_53_56 (by decide),
    List.forall_mem_cons.mpr ⟨ok_vret hx hb hb1 hb2 hr hlocks dk_53_59,
    fun _ h => absurd h List.not_mem_nil⟩⟩⟩⟩⟩⟩⟩⟩⟩⟩⟩⟩⟩⟩⟩⟩⟩⟩⟩⟩⟩⟩⟩⟩⟩⟩⟩⟩⟩⟩⟩⟩⟩⟩⟩
theorem dk_54_0 : decode prog_5_method_24_code 0 = .ok (.aload_n 0, 1) := by decide +kernel
theorem dk_54_1 : decode prog_5_method_24_code 1 = .ok (.invokevirtual 110, 3) := by decide +kernel
theorem dk_54_4 : decode prog_5_method_24_code 4 = .ok (.iconst (0), 1) := by decide +kernel
theorem dk_54_5 : decode prog_5_method_24_code 5 = .ok (.istore_n 1, 1) := by decide +kernel
theorem dk_54_6 : decode prog_5_method_24_code 6 = .ok (.iload_n 1, 1) := by decide +kernel
theorem dk_54_7 : decode prog_5_method_24_code 7 = .ok (.bipush (7), 2) := by decide +kernel
theorem dk_54_9 : decode prog_5_method_24_code 9 = .ok (.if_icmp .ge (16), 3) := by decide +kernel
theorem dk_54_12 : decode prog_5_method_24_code 12 = .ok (.aload_n 0, 1) := by decide +kernel
theorem dk_54_13 : decode prog_5_method_24_code 13 = .ok (.getfield 57, 3) := by decide +kernel
theorem dk_54_16 : decode prog_5_method_24_code 16 = .ok (.iload_n 1, 1) := by decide +kernel
theorem dk_54_17 : decode prog_5_method_24_code 17 = .ok (.iconst (0), 1) := by decide +kernel
theorem dk_54_18 : decode prog_5_method_24_code 18 = .ok (.bastore, 1) := by decide +kernel
theorem dk_54_19 : decode prog_5_method_24_code 19 = .ok (.iinc 1 (1), 3) := by decide +kernel
theorem dk_54_22 : decode prog_5_method_24_code 22 = .ok (.goto (-16), 3) := by decide +kernel
theorem dk_54_25 : decode prog_5_method_24_code 25 = .ok (.aload_n 0, 1) := by decide +kernel
theorem dk_54_26 : decode prog_5_method_24_code 26 = .ok (.getfield 63, 3) := by decide +kernel
theorem dk_54_29 : decode prog_5_method_24_code 29 = .ok (.iconst (0), 1) := by decide +kernel
theorem dk_54_30 : decode prog_5_method_24_code 30 = .ok (.iconst (0), 1) := by decide +kernel
theorem dk_54_31 : decode prog_5_method_24_code 31 = .ok (.iastore, 1) := by decide +kernel
theorem dk_54_32 : decode prog_5_method_24_code 32 = .ok (.iconst (-1), 1) := by decide +kernel
theorem dk_54_33 : decode prog_5_method_24_code 33 = .ok (.istore_n 1, 1) := by decide +kernel
theorem dk_54_34 : decode prog_5_method_24_code 34 = .ok (.iconst (0), 1) := by decide +kernel
theorem dk_54_35 : decode prog_5_method_24_code 35 = .ok (.istore_n 2, 1) := by decide +kernel
theorem dk_54_36 : decode prog_5_method_24_code 36 = .ok (.aload_n 0, 1) := by decide +kernel
theorem dk_54_37 : decode prog_5_method_24_code 37 = .ok (.getfield 54, 3) := by decide +kernel
theorem dk_54_40 : decode prog_5_method_24_code 40 = .ok (.iconst (0), 1) := by decide +kernel
theorem dk_54_41 : decode prog_5_method_24_code 41 = .ok (.iconst (-1), 1) := by decide +kernel
theorem dk_54_42 : decode prog_5_method_24_code 42 = .ok (.iastore, 1) := by decide +kernel
theorem dk_54_43 : decode prog_5_method_24_code 43 = .ok (.iload_n 2, 1) := by decide +kernel
theorem dk_54_44 : decode prog_5_method_24_code 44 = .ok (.ifCond .lt (154), 3) := by decide +kernel
theorem dk_54_47 : decode prog_5_method_24_code 47 = .ok (.iload_n 2, 1) := by decide +kernel
theorem dk_54_48 : decode prog_5_method_24_code 48 = .ok (.aload_n 0, 1) := by decide +kernel
theorem dk_54_49 : decode prog_5_method_24_code 49 = .ok (.getfield 93, 3) := by decide +kernel
theorem dk_54_52 : decode prog_5_method_24_code 52 = .ok (.if_icmp .ne (20), 3) := by decide +kernel
theorem dk_54_55 : decode prog_5_method_24_code 55 = .ok (.aload_n 0, 1) := by decide +kernel
theorem dk_54_56 : decode prog_5_method_24_code 56 = .ok (.getfield 63, 3) := by decide +kernel
theorem dk_54_59 : decode prog_5_method_24_code 59 = .ok (.iload_n 2, 1) := by decide +kernel
theorem dk_54_60 : decode prog_5_method_24_code 60 = .ok (.iaload, 1) := by decide +kernel
theorem dk_54_61 : decode prog_5_method_24_code 61 = .ok (.istore_n 1, 1) := by decide +kernel
theorem dk_54_62 : decode prog_5_method_24_code 62 = .ok (.aload_n 0, 1) := by decide +kernel
theorem dk_54_63 : decode prog_5_method_24_code 63 = .ok (.invokevirtual 113, 3) := by decide +kernel
theorem dk_54_66 : decode prog_5_method_24_code 66 = .ok (.iinc 2 (-1), 3) := by decide +kernel
theorem dk_54_69 : decode prog_5_method_24_code 69 = .ok (.goto (-26), 3) := by decide +kernel
theorem dk_54_72 : decode prog_5_method_24_code 72 = .ok (.aload_n 0, 1) := by decide +kernel
theorem dk_54_73 : decode prog_5_method_24_code 73 = .ok (.getfield 54, 3) := by decide +kernel
theorem dk_54_76 : decode prog_5_method_24_code 76 = .ok (.iload_n 2, 1) := by decide +kernel
theorem dk_54_77 : decode prog_5_method_24_code 77 = .ok (.iaload, 1) := by decide +kernel
theorem dk_54_78 : decode prog_5_method_24_code 78 = .ok (.istore_n 3, 1) := by decide +kernel
theorem dk_54_79 : decode prog_5_method_24_code 79 = .ok (.iload_n 3, 1) := by decide +kernel
theorem dk_54_80 : decode prog_5_method_24_code 80 = .ok (.ifCond .lt (10), 3) := by decide +kernel
theorem dk_54_83 : decode prog_5_method_24_code 83 = .ok (.aload_n 0, 1) := by decide +kernel
theorem dk_54_84 : decode prog_5_method_24_code 84 = .ok (.getfield 57, 3) := by decide +kernel
theorem dk_54_87 : decode prog_5_method_24_code 87 = .ok (.iload_n 3, 1) := by decide +kernel
theorem dk_54_88 : decode prog_5_method_24_code 88 = .ok (.iconst (0), 1) := by decide +kernel
theorem dk_54_89 : decode prog_5_method_24_code 89 = .ok (.bastore, 1) := by decide +kernel
theorem dk_54_90 : decode prog_5_method_24_code 90 = .ok (.iinc 3 (1), 3) := by decide +kernel
theorem dk_54_93 : decode prog_5_method_24_code 93 = .ok (.iload_n 3, 1) := by decide +kernel
theorem dk_54_94 : decode prog_5_method_24_code 94 = .ok (.aload_n 0, 1) := by decide +kernel
theorem dk_54_95 : decode prog_5_method_24_code 95 = .ok (.getfield 93, 3) := by decide +kernel
theorem dk_54_98 : decode prog_5_method_24_code 98 = .ok (.if_icmp .ge (47), 3) := by decide +kernel
theorem dk_54_101 : decode prog_5_method_24_code 101 = .ok (.aload_n 0, 1) := by decide +kernel
theorem dk_54_102 : decode prog_5_method_24_code 102 = .ok (.getfield 57, 3) := by decide +kernel
theorem dk_54_105 : decode prog_5_method_24_code 105 = .ok (.iload_n 3, 1) := by decide +kernel
theorem dk_54_106 : decode prog_5_method_24_code 106 = .ok (.baload, 1) := by decide +kernel
theorem dk_54_107 : decode prog_5_method_24_code 107 = .ok (.ifCond .ne (32), 3) := by decide +kernel
theorem dk_54_110 : decode prog_5_method_24_code 110 = .ok (.aload_n 0, 1) := by decide +kernel
theorem dk_54_111 : decode prog_5_method_24_code 111 = .ok (.iload_n 2, 1) := by decide +kernel
theorem dk_54_112 : decode prog_5_method_24_code 112 = .ok (.iload_n 3, 1) := by decide +kernel
theorem dk_54_113 : decode prog_5_method_24_code 113 = .ok (.aload_n 0, 1) := by decide +kernel
theorem dk_54_114 : decode prog_5_method_24_code 114 = .ok (.getfield 41, 3) := by decide +kernel
theorem dk_54_117 : decode prog_5_method_24_code 117 = .ok (.invokevirtual 116, 3) := by decide +kernel
theorem dk_54_120 : decode prog_5_method_24_code 120 = .ok (.ifCond .eq (19), 3) := by decide +kernel
theorem dk_54_123 : decode prog_5_method_24_code 123 = .ok (.iload_n 1, 1) := by decide +kernel
theorem dk_54_124 : decode prog_5_method_24_code 124 = .ok (.ifCond .lt (21), 3) := by decide +kernel
theorem dk_54_127 : decode prog_5_method_24_code 127 = .ok (.aload_n 0, 1) := by decide +kernel
theorem dk_54_128 : decode prog_5_method_24_code 128 = .ok (.getfield 63, 3) := by decide +kernel
theorem dk_54_131 : decode prog_5_method_24_code 131 = .ok (.iload_n 2, 1) := by decide +kernel
theorem dk_54_132 : decode prog_5_method_24_code 132 = .ok (.iconst (1), 1) := by decide +kernel
theorem dk_54_133 : decode prog_5_method_24_code 133 = .ok (.iadd, 1) := by decide +kernel
theorem dk_54_134 : decode prog_5_method_24_code 134 = .ok (.iaload, 1) := by decide +kernel
theorem dk_54_135 : decode prog_5_method_24_code 135 = .ok (.iload_n 1, 1) := by decide +kernel
theorem dk_54_136 : decode prog_5_method_24_code 136 = .ok (.if_icmp .lt (9), 3) := by decide +kernel
theorem dk_54_139 : decode prog_5_method_24_code 139 = .ok (.iinc 3 (1), 3) := by decide +kernel
theorem dk_54_142 : decode prog_5_method_24_code 142 = .ok (.goto (-49), 3) := by decide +kernel
theorem dk_54_145 : decode prog_5_method_24_code 145 = .ok (.aload_n 0, 1) := by decide +kernel
theorem dk_54_146 : decode prog_5_method_24_code 146 = .ok (.getfield 54, 3) := by decide +kernel
theorem dk_54_149 : decode prog_5_method_24_code 149 = .ok (.iload_n 2, 1) := by decide +kernel
theorem dk_54_150 : decode prog_5_method_24_code 150 = .ok (.iload_n 3, 1) := by decide +kernel
theorem dk_54_151 : decode prog_5_method_24_code 151 = .ok (.aload_n 0, 1) := by decide +kernel
theorem dk_54_152 : decode prog_5_method_24_code 152 = .ok (.getfield 93, 3) := by decide +kernel
theorem dk_54_155 : decode prog_5_method_24_code 155 = .ok (.if_icmp .ge (7), 3) := by decide +kernel
theorem dk_54_158 : decode prog_5_method_24_code 158 = .ok (.iload_n 3, 1) := by decide +kernel
theorem dk_54_159 : decode prog_5_method_24_code 159 = .ok (.goto (4), 3) := by decide +kernel
theorem dk_54_162 : decode prog_5_method_24_code 162 = .ok (.iconst (-1), 1) := by decide +kernel
theorem dk_54_163 : decode prog_5_method_24_code 163 = .ok (.iastore, 1) := by decide +kernel
theorem dk_54_164 : decode prog_5_method_24_code 164 = .ok (.iload_n 3, 1) := by decide +kernel
theorem dk_54_165 : decode prog_5_method_24_code 165 = .ok (.aload_n 0, 1) := by decide +kernel
theorem dk_54_166 : decode prog_5_method_24_code 166 = .ok (.getfield 93, 3) := by decide +kernel
theorem dk_54_169 : decode prog_5_method_24_code 169 = .ok (.if_icmp .ge (23), 3) := by decide +kernel
theorem dk_54_172 : decode prog_5_method_24_code 172 = .ok (.aload_n 0, 1) := by decide +kernel
theorem dk_54_173 : decode prog_5_method_24_code 173 = .ok (.getfield 57, 3) := by decide +kernel
theorem dk_54_176 : decode prog_5_method_24_code 176 = .ok (.iload_n 3, 1) := by decide +kernel
theorem dk_54_177 : decode prog_5_method_24_code 177 = .ok (.iconst (1), 1) := by decide +kernel
theorem dk_54_178 : decode prog_5_method_24_code 178 = .ok (.bastore, 1) := by decide +kernel
theorem dk_54_179 : decode prog_5_method_24_code 179 = .ok (.iinc 2 (1), 3) := by decide +kernel
theorem dk_54_182 : decode prog_5_method_24_code 182 = .ok (.aload_n 0, 1) := by decide +kernel
theorem dk_54_183 : decode prog_5_method_24_code 183 = .ok (.getfield 54, 3) := by decide +kernel
theorem dk_54_186 : decode prog_5_method_24_code 186 = .ok (.iload_n 2, 1) := by decide +kernel
theorem dk_54_187 : decode prog_5_method_24_code 187 = .ok (.iconst (-1), 1) := by decide +kernel
theorem dk_54_188 : decode prog_5_method_24_code 188 = .ok (.iastore, 1) := by decide +kernel
theorem dk_54_189 : decode prog_5_method_24_code 189 = .ok (.goto (6), 3) := by decide +kernel
theorem dk_54_192 : decode prog_5_method_24_code 192 = .ok (.iinc 2 (-1), 3) := by decide +kernel
theorem dk_54_195 : decode prog_5_method_24_code 195 = .ok (.goto (-152), 3) := by decide +kernel
theorem dk_54_198 : decode prog_5_method_24_code 198 = .ok (.iload_n 1, 1) := by decide +kernel
theorem dk_54_199 : decode prog_5_method_24_code 199 = .ok (.ireturn, 1) := by decide +kernel
set_option maxRecDepth 100000 in
set_option maxHeartbeats 4000000 in
theorem cc_54 {l : Launch} {s0 : State} (hst : l.stackTraces = false) (h0 : am_W0 s0) {d : Nat} (hall : ∀ mi ∈ am_idx, am_CC l s0 d mi) : am_CC l s0 (d + 1) 54 :=
  am_method (y := y_54) (cc := prog_5_method_24_code) (maxL := 4) (ret := (some .int)) (rm := am_rm (d + 1) 0 0) (ops := op_54) (C := am_T am_tabs am_ar d) (ar := 1) h0 (by decide) (by decide) fun p e s m args below meth c D A bS ad0 Q hct htab => by
    obtain ⟨hx, hb, hml, hown, hts, hb1, hb2, hA, hroot, hAs, -, -, hlocks, hr, hnm⟩ := hct
    exact List.forall_mem_cons.mpr ⟨ok_aload_n hx hb dk_54_0 rfl,
    List.forall_mem_cons.mpr ⟨ok_cV hx hb hml hown hts hb1 hb2 hA hroot hAs rfl rfl rfl (hcal_48 hall) tw_667 tw_669 ts_22 tw_670 tw_5 nm_48 rfl rfl (by show d + 8 + 1 ≤ d + 1 + 8; omega) (by show 8 + (2 + 11) + (200 + 60 * d) ≤ 200 + 60 * (d + 1); omega) dk_54_1,
    List.forall_mem_cons.mpr ⟨ok_iconst hx hb dk_54_4 rfl,
    List.forall_mem_cons.mpr ⟨ok_istore_n hx hb dk_54_5 rfl (by decide),
    List.forall_mem_cons.mpr ⟨ok_iload_n hx hb dk_54_6 rfl,
    List.forall_mem_cons.mpr ⟨ok_bipush hx hb dk_54_7 (by decide),
    List.forall_mem_cons.mpr ⟨ok_icmp_ge hx hb dk_54_9 (by decide),
    List.forall_mem_cons.mpr ⟨ok_aload_n hx hb dk_54_12 rfl,
    List.forall_mem_cons.mpr ⟨ok_getr hx hb hts hown hin_3 rfl (by decide) tw_551 dk_54_13,
    List.forall_mem_cons.mpr ⟨ok_iload_n hx hb dk_54_16 rfl,
    List.forall_mem_cons.mpr ⟨ok_iconst hx hb dk_54_17 rfl,
    List.forall_mem_cons.mpr ⟨ok_zast hx hb dk_54_18,
    List.forall_mem_cons.mpr ⟨ok_iinc hx hb dk_54_19 rfl (by decide),
    List.forall_mem_cons.mpr ⟨ok_goto hx hb dk_54_22 (by decide),
    List.forall_mem_cons.mpr ⟨ok_aload_n hx hb dk_54_25 rfl,
    List.forall_mem_cons.mpr ⟨ok_getr hx hb hts hown hin_3 rfl (by decide) tw_553 dk_54_26,
    List.forall_mem_cons.mpr ⟨ok_iconst hx hb dk_54_29 rfl,
    List.forall_mem_cons.mpr ⟨ok_iconst hx hb dk_54_30 rfl,
    List.forall_mem_cons.mpr ⟨ok_iast hx hb dk_54_31,
    List.forall_mem_cons.mpr ⟨ok_iconst hx hb dk_54_32 rfl,
    List.forall_mem_cons.mpr ⟨ok_istore_n hx hb dk_54_33 rfl (by decide),
    List.forall_mem_cons.mpr ⟨ok_iconst hx hb dk_54_34 rfl,
    List.forall_mem_cons.mpr ⟨ok_istore_n hx hb dk_54_35 rfl (by decide),
    List.forall_mem_cons.mpr ⟨ok_aload_n hx hb dk_54_36 rfl,
    List.forall_mem_cons.mpr ⟨ok_getr hx hb hts hown hin_3 rfl (by decide) tw_550 dk_54_37,
    List.forall_mem_cons.mpr ⟨ok_iconst hx hb dk_54_40 rfl,
    List.forall_mem_cons.mpr ⟨ok_iconst hx hb dk_54_41 rfl,
    List.forall_mem_cons.mpr ⟨ok_iast hx hb dk_54_42,
    List.forall_mem_cons.mpr ⟨ok_iload_n hx hb dk_54_43 rfl,
    List.forall_mem_cons.mpr ⟨ok_if_lt hx hb dk_54_44 (by decide),
    List.forall_mem_cons.mpr ⟨ok_iload_n hx hb dk_54_47 rfl,
    List.forall_mem_cons.mpr ⟨ok_aload_n hx hb dk_54_48 rfl,
    List.forall_mem_cons.mpr ⟨ok_geti hx hb hts hown hin_3 rfl (by decide) tw_548 dk_54_49,
    List.forall_mem_cons.mpr ⟨ok_icmp_ne hx hb dk_54_52 (by decide),
    List.forall_mem_cons.mpr ⟨ok_aload_n hx hb dk_54_55 rfl,
    List.forall_mem_cons.mpr ⟨ok_getr hx hb hts hown hin_3 rfl (by decide) tw_553 dk_54_56,
    List.forall_mem_cons.mpr ⟨ok_iload_n hx hb dk_54_59 rfl,
    List.forall_mem_cons.mpr ⟨ok_iald hx hb dk_54_60,
    List.forall_mem_cons.mpr ⟨ok_istore_n hx hb dk_54_61 rfl (by decide),
    List.forall_mem_cons.mpr ⟨ok_aload_n hx hb dk_54_62 rfl,
    List.forall_mem_cons.mpr ⟨ok_cV hx hb hml hown hts hb1 hb2 hA hroot hAs rfl rfl rfl (hcal_53 hall) tw_675 tw_677 ts_24 tw_678 tw_5 nm_53 rfl rfl (by show d + 8 + 1 ≤ d + 1 + 8; omega) (by show 8 + (2 + 11) + (200 + 60 * d) ≤ 200 + 60 * (d + 1); omega) dk_54_63,
    List.forall_mem_cons.mpr ⟨ok_iinc hx hb dk_54_66 rfl (by decide),
    List.forall_mem_cons.mpr ⟨ok_goto hx hb dk_54_69 (by decide),
    List.forall_mem_cons.mpr ⟨ok_aload_n hx hb dk_54_72 rfl,
    List.forall_mem_cons.mpr ⟨ok_getr hx hb hts hown hin_3 rfl (by decide) tw_550 dk_54_73,
    List.forall_mem_cons.mpr ⟨ok_iload_n hx hb dk_54_76 rfl,
    List.forall_mem_cons.mpr ⟨ok_iald hx hb dk_54_77,
    List.forall_mem_cons.mpr ⟨ok_istore_n hx hb dk_54_78 rfl (by decide),
    List.forall_mem_cons.mpr ⟨ok_iload_n hx hb dk_54_79 rfl,
    List.forall_mem_cons.mpr ⟨ok_if_lt hx hb dk_54_80 (by decide),
    List.forall_mem_cons.mpr ⟨ok_aload_n hx hb dk_54_83 rfl,
    List.forall_mem_cons.mpr ⟨ok_getr hx hb hts hown hin_3 rfl (by decide) tw_551 dk_54_84,
    List.forall_mem_cons.mpr ⟨ok_iload_n hx hb dk_54_87 rfl,
    List.forall_mem_cons.mpr ⟨ok_iconst hx hb dk_54_88 rfl,
    List.forall_mem_cons.mpr ⟨ok_zast hx hb dk_54_89,
    List.forall_mem_cons.mpr ⟨ok_iinc hx hb dk_54_90 rfl (by decide),
    List.forall_mem_cons.mpr ⟨ok_iload_n hx hb dk_54_93 rfl,
    List.forall_mem_cons.mpr ⟨ok_aload_n hx hb dk_54_94 rfl,
    List.forall_mem_cons.mpr ⟨ok_geti hx hb hts hown hin_3 rfl (by decide) tw_548 dk_54_95,
    List.forall_mem_cons.mpr ⟨ok_icmp_ge hx hb dk_54_98 (by decide),
    List.forall_mem_cons.mpr ⟨ok_aload_n hx hb dk_54_101 rfl,
    List.forall_mem_cons.mpr ⟨ok_getr hx hb hts hown hin_3 rfl (by decide) tw_551 dk_54_102,
    List.forall_mem_cons.mpr ⟨ok_iload_n hx hb dk_54_105 rfl,
    List.forall_mem_cons.mpr ⟨ok_zald hx hb dk_54_106,
    List.forall_mem_cons.mpr ⟨ok_if_ne hx hb dk_54_107 (by decide),
    List.forall_mem_cons.mpr ⟨ok_aload_n hx hb dk_54_110 rfl,
    List.forall_mem_cons.mpr ⟨ok_iload_n hx hb dk_54_111 rfl,
    List.forall_mem_cons.mpr ⟨ok_iload_n hx hb dk_54_112 rfl,
    List.forall_mem_cons.mpr ⟨ok_aload_n hx hb dk_54_113 rfl,
    List.forall_mem_cons.mpr ⟨ok_geti hx hb hts hown hin_3 rfl (by decide) tw_545 dk_54_114,
    List.forall_mem_cons.mpr ⟨ok_cV hx hb hml hown hts hb1 hb2 hA hroot hAs rfl rfl rfl (hcal_52 hall) tw_679 tw_681 ts_25 tw_682 tw_5 nm_52 rfl rfl (by show d + 8 + 1 ≤ d + 1 + 8; omega) (by show 8 + (10 + 11) + (200 + 60 * d) ≤ 200 + 60 * (d + 1); omega) dk_54_117,
    List.forall_mem_cons.mpr ⟨ok_if_eq hx hb dk_54_120 (by decide),
    List.forall_mem_cons.mpr ⟨ok_iload_n hx hb dk_54_123 rfl,
    List.forall_mem_cons.mpr ⟨ok_if_lt hx hb dk_54_124 (by decide),
    List.forall_mem_cons.mpr ⟨ok_aload_n hx hb dk_54_127 rfl,
    List.forall_mem_cons.mpr ⟨ok_getr hx hb hts hown hin_3 rfl (by decide) tw_553 dk_54_128,
    List.forall_mem_cons.mpr ⟨ok_iload_n hx hb dk_54_131 rfl,
    List.forall_mem_cons.mpr ⟨ok_iconst hx hb dk_54_132 rfl,
    List.forall_mem_cons.mpr ⟨ok_iadd hx hb dk_54_133,
    List.forall_mem_cons.mpr ⟨ok_iald hx hb dk_54_134,
    List.forall_mem_cons.mpr ⟨ok_iload_n hx hb dk_54_135 rfl,
    List.forall_mem_cons.mpr ⟨ok_icmp_lt hx hb dk_54_136 (by decide),
    List.forall_mem_cons.mpr ⟨ok_iinc hx hb dk_54_139 rfl (by decide),
    List.forall_mem_cons.mpr ⟨ok_goto hx hb dk_54_142 (by decide),
    List.forall_mem_cons.mpr ⟨ok_aload_n hx hb dk_54_145 rfl,
    List.forall_mem_cons.mpr ⟨ok_getr hx hb hts hown hin_3 rfl (by decide) tw_550 dk_54_146,
    List.forall_mem_cons.mpr ⟨ok_iload_n hx hb dk_54_149 rfl,
    List.forall_mem_cons.mpr ⟨ok_iload_n hx hb dk_54_150 rfl,
    List.forall_mem_cons.mpr ⟨ok_aload_n hx hb dk_54_151 rfl,
    List.forall_mem_cons.mpr ⟨ok_geti hx hb hts hown hin_3 rfl (by decide) tw_548 dk_54_152,
    List.forall_mem_cons.mpr ⟨ok_icmp_ge hx hb dk_54_155 (by decide),
    List.forall_mem_cons.mpr ⟨ok_iload_n hx hb dk_54_158 rfl,
    List.forall_mem_cons.mpr ⟨ok_goto hx hb dk_54_159 (by decide),
    List.forall_mem_cons.mpr ⟨ok_iconst hx hb dk_54_162 rfl,
    List.forall_mem_cons.mpr ⟨ok_iast hx hb dk_54_163,
    List.forall_mem_cons.mpr ⟨ok_iload_n hx hb dk_54_164 rfl,
    List.forall_mem_cons.mpr ⟨ok_aload_n hx hb dk_54_165 rfl,
    List.forall_mem_cons.mpr ⟨ok_geti hx hb hts hown hin_3 rfl (by decide) tw_548 dk_54_166,
    List.forall_mem_cons.mpr ⟨ok_icmp_ge hx hb dk_54_169 (by decide),
    List.forall_mem_cons.mpr ⟨ok_aload_n hx hb dk_54_172 rfl,
    List.forall_mem_cons.mpr ⟨ok_getr hx hb hts hown hin_3 rfl (by decide) tw_551 dk_54_173,
    List.forall_mem_cons.mpr ⟨ok_iload_n hx hb dk_54_176 rfl,
    List.forall_mem_cons.mpr ⟨ok_iconst hx hb dk_54_177 rfl,
    List.forall_mem_cons.mpr ⟨ok_zast hx hb dk_54_178,
    List.forall_mem_cons.mpr ⟨ok_iinc hx hb dk_54_179 rfl (by decide),
    List.forall_mem_cons.mpr ⟨ok_aload_n hx hb dk_54_182 rfl,
    List.forall_mem_cons.mpr ⟨ok_getr hx hb hts hown hin_3 rfl (by decide) tw_550 dk_54_183,
    List.forall_mem_cons.mpr ⟨ok_iload_n hx hb dk_54_186 rfl,
    List.forall_mem_cons.mpr ⟨ok_iconst hx hb dk_54_187 rfl,
    List.forall_mem_cons.mpr ⟨ok_iast hx hb dk_54_188,
    List.forall_mem_cons.mpr ⟨ok_goto hx hb dk_54_189 (by decide),
    List.forall_mem_cons.mpr ⟨ok_iinc hx hb dk_54_192 rfl (by decide),
    List.forall_mem_cons.mpr ⟨ok_goto hx hb dk_54_195 (by decide),
    List.forall_mem_cons.mpr ⟨ok_iload_n hx hb dk_54_198 rfl,
    List.forall_mem_cons.mpr ⟨ok_iret hx hb hb1 hb2 hr hlocks dk_54_199,
    fun _ h => absurd h List.not_mem_nil⟩⟩⟩⟩⟩⟩⟩⟩⟩⟩⟩⟩⟩⟩⟩⟩⟩⟩⟩⟩⟩⟩⟩⟩⟩⟩⟩⟩⟩⟩⟩⟩⟩⟩⟩⟩⟩⟩⟩⟩⟩⟩⟩⟩⟩⟩⟩⟩⟩⟩⟩⟩⟩⟩⟩⟩⟩⟩⟩⟩⟩⟩⟩⟩⟩⟩⟩⟩⟩⟩⟩⟩⟩⟩⟩⟩⟩⟩⟩⟩⟩⟩⟩⟩⟩⟩⟩⟩⟩⟩⟩⟩⟩⟩⟩⟩⟩⟩⟩⟩⟩⟩⟩⟩⟩⟩⟩⟩⟩⟩⟩⟩⟩⟩⟩
theorem dk_55_0 : decode prog_5_method_25_code 0 = .ok (.aload_n 0, 1) := by decide +kernel
theorem dk_55_1 : decode prog_5_method_25_code 1 = .ok (.iconst (0), 1) := by decide +kernel
theorem dk_55_2 : decode prog_5_method_25_code 2 = .ok (.putfield 69, 3) := by decide +kernel
theorem dk_55_5 : decode prog_5_method_25_code 5 = .ok (.aload_n 0, 1) := by decide +kernel
theorem dk_55_6 : decode prog_5_method_25_code 6 = .ok (.invokevirtual 120, 3) := by decide +kernel
theorem dk_55_9 : decode prog_5_method_25_code 9 = .ok (.istore_n 1, 1) := by decide +kernel
theorem dk_55_10 : decode prog_5_method_25_code 10 = .ok (.iconst (0), 1) := by decide +kernel
theorem dk_55_11 : decode prog_5_method_25_code 11 = .ok (.istore_n 2, 1) := by decide +kernel
theorem dk_55_12 : decode prog_5_method_25_code 12 = .ok (.iload_n 2, 1) := by decide +kernel
theorem dk_55_13 : decode prog_5_method_25_code 13 = .ok (.bipush (7), 2) := by decide +kernel
theorem dk_55_15 : decode prog_5_method_25_code 15 = .ok (.if_icmp .ge (25), 3) := by decide +kernel
theorem dk_55_18 : decode prog_5_method_25_code 18 = .ok (.iload_n 1, 1) := by decide +kernel
theorem dk_55_19 : decode prog_5_method_25_code 19 = .ok (.ifCond .lt (21), 3) := by decide +kernel
theorem dk_55_22 : decode prog_5_method_25_code 22 = .ok (.aload_n 0, 1) := by decide +kernel
theorem dk_55_23 : decode prog_5_method_25_code 23 = .ok (.getfield 45, 3) := by decide +kernel
theorem dk_55_26 : decode prog_5_method_25_code 26 = .ok (.iload_n 2, 1) := by decide +kernel
theorem dk_55_27 : decode prog_5_method_25_code 27 = .ok (.aload_n 0, 1) := by decide +kernel
theorem dk_55_28 : decode prog_5_method_25_code 28 = .ok (.getfield 66, 3) := by decide +kernel
theorem dk_55_31 : decode prog_5_method_25_code 31 = .ok (.iload_n 2, 1) := by decide +kernel
theorem dk_55_32 : decode prog_5_method_25_code 32 = .ok (.iaload, 1) := by decide +kernel
theorem dk_55_33 : decode prog_5_method_25_code 33 = .ok (.iastore, 1) := by decide +kernel
theorem dk_55_34 : decode prog_5_method_25_code 34 = .ok (.iinc 2 (1), 3) := by decide +kernel
theorem dk_55_37 : decode prog_5_method_25_code 37 = .ok (.goto (-25), 3) := by decide +kernel
theorem dk_55_40 : decode prog_5_method_25_code 40 = .ok (.iload_n 1, 1) := by decide +kernel
theorem dk_55_41 : decode prog_5_method_25_code 41 = .ok (.ireturn, 1) := by decide +kernel
set_option maxRecDepth 100000 in
set_option maxHeartbeats 4000000 in
theorem cc_55 {l : Launch} {s0 : State} (hst : l.stackTraces = false) (h0 : am_W0 s0) {d : Nat} (hall : ∀ mi ∈ am_idx, am_CC l s0 d mi) : am_CC l s0 (d + 1) 55 :=
  am_method (y := y_55) (cc := prog_5_method_25_code) (maxL := 3) (ret := (some .int)) (rm := am_rm (d + 1) 0 0) (ops := op_55) (C := am_T am_tabs am_ar d) (ar := 1) h0 (by decide) (by decide) fun p e s m args below meth c D A bS ad0 Q hct htab => by
    obtain ⟨hx, hb, hml, hown, hts, hb1, hb2, hA, hroot, hAs, -, -, hlocks, hr, hnm⟩ := hct
    exact List.forall_mem_cons.mpr ⟨ok_aload_n hx hb dk_55_0 rfl,
    List.forall_mem_cons.mpr ⟨ok_iconst hx hb dk_55_1 rfl,
    List.forall_mem_cons.mpr ⟨ok_puti hx hb hts hown hin_3 tyF_3 tyF_3_ok nmF_3 rfl (by decide) tw_533 rfl (by decide +kernel) dk_55_2,
    List.forall_mem_cons.mpr ⟨ok_aload_n hx hb dk_55_5 rfl,
    List.forall_mem_cons.mpr ⟨ok_cV hx hb hml hown hts hb1 hb2 hA hroot hAs rfl rfl rfl (hcal_54 hall) tw_663 tw_665 ts_21 tw_666 tw_5 nm_54 rfl rfl (by show d + 8 + 1 ≤ d + 1 + 8; omega) (by show 8 + (4 + 11) + (200 + 60 * d) ≤ 200 + 60 * (d + 1); omega) dk_55_6,
    List.forall_mem_cons.mpr ⟨ok_istore_n hx hb dk_55_9 rfl (by decide),
    List.forall_mem_cons.mpr ⟨ok_iconst hx hb dk_55_10 rfl,
    List.forall_mem_cons.mpr ⟨ok_istore_n hx hb dk_55_11 rfl (by decide),
    List.forall_mem_cons.mpr ⟨ok_iload_n hx hb dk_55_12 rfl,
    List.forall_mem_cons.mpr ⟨ok_bipush hx hb dk_55_13 (by decide),
    List.forall_mem_cons.mpr ⟨ok_icmp_ge hx hb dk_55_15 (by decide),
    List.forall_mem_cons.mpr ⟨ok_iload_n hx hb dk_55_18 rfl,
    List.forall_mem_cons.mpr ⟨ok_if_lt hx hb dk_55_19 (by decide),
    List.forall_mem_cons.mpr ⟨ok_aload_n hx hb dk_55_22 rfl,
    List.forall_mem_cons.mpr ⟨ok_getr hx hb hts hown hin_3 rfl (by decide) tw_546 dk_55_23,
    List.forall_mem_cons.mpr ⟨ok_iload_n hx hb dk_55_26 rfl,
    List.forall_mem_cons.mpr ⟨ok_aload_n hx hb dk_55_27 rfl,
    List.forall_mem_cons.mpr ⟨ok_getr hx hb hts hown hin_3 rfl (by decide) tw_554 dk_55_28,
    List.forall_mem_cons.mpr ⟨ok_iload_n hx hb dk_55_31 rfl,
    List.forall_mem_cons.mpr ⟨ok_iald hx hb dk_55_32,
    List.forall_mem_cons.mpr ⟨ok_iast hx hb dk_55_33,
    List.forall_mem_cons.mpr ⟨ok_iinc hx hb dk_55_34 rfl (by decide),
    List.forall_mem_cons.mpr ⟨ok_goto hx hb dk_55_37 (by decide),
    List.forall_mem_cons.mpr ⟨ok_iload_n hx hb dk_55_40 rfl,
    List.forall_mem_cons.mpr ⟨ok_iret hx hb hb1 hb2 hr hlocks dk_55_41,
    fun _ h => absurd h List.not_mem_nil⟩⟩⟩⟩⟩⟩⟩⟩⟩⟩⟩⟩⟩⟩⟩⟩⟩⟩⟩⟩⟩⟩⟩⟩⟩
theorem dk_56_0 : decode prog_5_method_26_code 0 = .ok (.aload_n 0, 1) := by decide +kernel
theorem dk_56_1 : decode prog_5_method_26_code 1 = .ok (.aload_n 0, 1) := by decide +kernel
theorem dk_56_2 : decode prog_5_method_26_code 2 = .ok (.iload_n 1, 1) := by decide +kernel
theorem dk_56_3 : decode prog_5_method_26_code 3 = .ok (.invokevirtual 76, 3) := by decide +kernel
theorem dk_56_6 : decode prog_5_method_26_code 6 = .ok (.ifCond .ne (7), 3) := by decide +kernel
theorem dk_56_9 : decode prog_5_method_26_code 9 = .ok (.iconst (1), 1) := by decide +kernel
theorem dk_56_10 : decode prog_5_method_26_code 10 = .ok (.goto (28), 3) := by decide +kernel
theorem dk_56_13 : decode prog_5_method_26_code 13 = .ok (.iload_n 2, 1) := by decide +kernel
theorem dk_56_14 : decode prog_5_method_26_code 14 = .ok (.aload_n 0, 1) := by decide +kernel
theorem dk_56_15 : decode prog_5_method_26_code 15 = .ok (.getfield 17, 3) := by decide +kernel
theorem dk_56_18 : decode prog_5_method_26_code 18 = .ok (.iload_n 1, 1) := by decide +kernel
theorem dk_56_19 : decode prog_5_method_26_code 19 = .ok (.iaload, 1) := by decide +kernel
theorem dk_56_20 : decode prog_5_method_26_code 20 = .ok (.if_icmp .lt (13), 3) := by decide +kernel
theorem dk_56_23 : decode prog_5_method_26_code 23 = .ok (.iload_n 2, 1) := by decide +kernel
theorem dk_56_24 : decode prog_5_method_26_code 24 = .ok (.aload_n 0, 1) := by decide +kernel
theorem dk_56_25 : decode prog_5_method_26_code 25 = .ok (.getfield 23, 3) := by decide +kernel
theorem dk_56_28 : decode prog_5_method_26_code 28 = .ok (.iload_n 1, 1) := by decide +kernel
theorem dk_56_29 : decode prog_5_method_26_code 29 = .ok (.iaload, 1) := by decide +kernel
theorem dk_56_30 : decode prog_5_method_26_code 30 = .ok (.if_icmp .le (7), 3) := by decide +kernel
theorem dk_56_33 : decode prog_5_method_26_code 33 = .ok (.iconst (2), 1) := by decide +kernel
theorem dk_56_34 : decode prog_5_method_26_code 34 = .ok (.goto (4), 3) := by decide +kernel
theorem dk_56_37 : decode prog_5_method_26_code 37 = .ok (.iconst (0), 1) := by decide +kernel
theorem dk_56_38 : decode prog_5_method_26_code 38 = .ok (.putfield 69, 3) := by decide +kernel
theorem dk_56_41 : decode prog_5_method_26_code 41 = .ok (.aload_n 0, 1) := by decide +kernel
theorem dk_56_42 : decode prog_5_method_26_code 42 = .ok (.getfield 69, 3) := by decide +kernel
theorem dk_56_45 : decode prog_5_method_26_code 45 = .ok (.ifCond .le (5), 3) := by decide +kernel
theorem dk_56_48 : decode prog_5_method_26_code 48 = .ok (.iconst (0), 1) := by decide +kernel
theorem dk_56_49 : decode prog_5_method_26_code 49 = .ok (.ireturn, 1) := by decide +kernel
theorem dk_56_50 : decode prog_5_method_26_code 50 = .ok (.aload_n 0, 1) := by decide +kernel
theorem dk_56_51 : decode prog_5_method_26_code 51 = .ok (.getfield 20, 3) := by decide +kernel
theorem dk_56_54 : decode prog_5_method_26_code 54 = .ok (.iload_n 1, 1) := by decide +kernel
theorem dk_56_55 : decode prog_5_method_26_code 55 = .ok (.iaload, 1) := by decide +kernel
theorem dk_56_56 : decode prog_5_method_26_code 56 = .ok (.istore_n 3, 1) := by decide +kernel
theorem dk_56_57 : decode prog_5_method_26_code 57 = .ok (.aload_n 0, 1) := by decide +kernel
theorem dk_56_58 : decode prog_5_method_26_code 58 = .ok (.getfield 20, 3) := by decide +kernel
theorem dk_56_61 : decode prog_5_method_26_code 61 = .ok (.iload_n 1, 1) := by decide +kernel
theorem dk_56_62 : decode prog_5_method_26_code 62 = .ok (.iload_n 2, 1) := by decide +kernel
theorem dk_56_63 : decode prog_5_method_26_code 63 = .ok (.iastore, 1) := by decide +kernel
theorem dk_56_64 : decode prog_5_method_26_code 64 = .ok (.aload_n 0, 1) := by decide +kernel
theorem dk_56_65 : decode prog_5_method_26_code 65 = .ok (.invokevirtual 120, 3) := by decide +kernel
theorem dk_56_68 : decode prog_5_method_26_code 68 = .ok (.istore 4, 2) := by decide +kernel
theorem dk_56_70 : decode prog_5_method_26_code 70 = .ok (.aload_n 0, 1) := by decide +kernel
theorem dk_56_71 : decode prog_5_method_26_code 71 = .ok (.getfield 20, 3) := by decide +kernel
theorem dk_56_74 : decode prog_5_method_26_code 74 = .ok (.iload_n 1, 1) := by decide +kernel
theorem dk_56_75 : decode prog_5_method_26_code 75 = .ok (.iload_n 3, 1) := by decide +kernel
theorem dk_56_76 : decode prog_5_method_26_code 76 = .ok (.iastore, 1) := by decide +kernel
theorem dk_56_77 : decode prog_5_method_26_code 77 = .ok (.iload 4, 2) := by decide +kernel
theorem dk_56_79 : decode prog_5_method_26_code 79 = .ok (.ireturn, 1) := by decide +kernel
set_option maxRecDepth 100000 in
set_option maxHeartbeats 4000000 in
theorem cc_56 {l : Launch} {s0 : State} (hst : l.stackTraces = false) (h0 : am_W0 s0) {d : Nat} (hall : ∀ mi ∈ am_idx, am_CC l s0 d mi) : am_CC l s0 (d + 1) 56 :=
  am_method (y := y_56) (cc := prog_5_method_26_code) (maxL := 5) (ret := (some .int)) (rm := am_rm (d + 1) 0 0) (ops := op_56) (C := am_T am_tabs am_ar d) (ar := 3) h0 (by decide) (by decide) fun p e s m args below meth c D A bS ad0 Q hct htab => by
    obtain ⟨hx, hb, hml, hown, hts, hb1, hb2, hA, hroot, hAs, -, -, hlocks, hr, hnm⟩ := hct
    exact List.forall_mem_cons.mpr ⟨ok_aload_n hx hb dk_56_0 rfl,
    List.forall_mem_cons.mpr ⟨ok_aload_n hx hb dk_56_1 rfl,
    List.forall_mem_cons.mpr ⟨ok_iload_n hx hb dk_56_2 rfl,
    List.forall_mem_cons.mpr ⟨ok_cV hx hb hml hown hts hb1 hb2 hA hroot hAs rfl rfl rfl (hcal_33 hall) tw_620 tw_622 ts_18 tw_623 tw_5 nm_33 rfl rfl (by show d + 8 + 1 ≤ d + 1 + 8; omega) (by show 8 + (2 + 11) + (200 + 60 * d) ≤ 200 + 60 * (d + 1); omega) dk_56_3,
    List.forall_mem_cons.mpr ⟨ok_if_ne hx hb dk_56_6 (by decide),
    List.forall_mem_cons.mpr ⟨ok_iconst hx hb dk_56_9 rfl,
    List.forall_mem_cons.mpr ⟨ok_goto hx hb dk_56_10 (by decide),
    List.forall_mem_cons.mpr ⟨ok_iload_n hx hb dk_56_13 rfl,
    List.forall_mem_cons.mpr ⟨ok_aload_n hx hb dk_56_14 rfl,
    List.forall_mem_cons.mpr ⟨ok_getr hx hb hts hown hin_3 rfl (by decide) tw_536 dk_56_15,
    List.forall_mem_cons.mpr ⟨ok_iload_n hx hb dk_56_18 rfl,
    List.forall_mem_cons.mpr ⟨ok_iald hx hb dk_56_19,
    List.forall_mem_cons.mpr ⟨ok_icmp_lt hx hb dk_56_20 (by decide),
    List.forall_mem_cons.mpr ⟨ok_iload_n hx hb dk_56_23 rfl,
    List.forall_mem_cons.mpr ⟨ok_aload_n hx hb dk_56_24 rfl,
    List.forall_mem_cons.mpr ⟨ok_getr hx hb hts hown hin_3 rfl (by decide) tw_538 dk_56_25,
    List.forall_mem_cons.mpr ⟨ok_iload_n hx hb dk_56_28 rfl,
    List.forall_mem_cons.mpr ⟨ok_iald hx hb dk_56_29,
    List.forall_mem_cons.mpr ⟨ok_icmp_le hx hb dk_56_30 (by decide),
    List.forall_mem_cons.mpr ⟨ok_iconst hx hb dk_56_33 rfl,
    List.forall_mem_cons.mpr ⟨ok_goto hx hb dk_56_34 (by decide),
    List.forall_mem_cons.mpr ⟨ok_iconst hx hb dk_56_37 rfl,
    List.forall_mem_cons.mpr ⟨ok_puti hx hb hts hown hin_3 tyF_3 tyF_3_ok nmF_3 rfl (by decide) tw_533 rfl (by decide +kernel) dk_56_38,
    List.forall_mem_cons.mpr ⟨ok_aload_n hx hb dk_56_41 rfl,
    List.forall_mem_cons.mpr ⟨ok_geti hx hb hts hown hin_3 rfl (by decide) tw_533 dk_56_42,
    List.forall_mem_cons.mpr ⟨ok_if_le hx hb dk_56_45 (by decide),
    List.forall_mem_cons.mpr ⟨ok_iconst hx hb dk_56_48 rfl,
    List.forall_mem_cons.mpr ⟨ok_iret hx hb hb1 hb2 hr hlocks dk_56_49,
    List.forall_mem_cons.mpr ⟨ok_aload_n hx hb dk_56_50 rfl,
    List.forall_mem_cons.mpr ⟨ok_getr hx hb hts hown hin_3 rfl (by decide) tw_537 dk_56_51,
    List.forall_mem_cons.mpr ⟨ok_iload_n hx hb dk_56_54 rfl,
    List.forall_mem_cons.mpr ⟨ok_iald hx hb dk_56_55,
    List.forall_mem_cons.mpr ⟨ok_istore_n hx hb dk_56_56 rfl (by decide),
    List.forall_mem_cons.mpr ⟨ok_aload_n hx hb dk_56_57 rfl,
    List.forall_mem_cons.mpr ⟨ok_getr hx hb hts hown hin_3 rfl (by decide) tw_537 dk_56_58,
    List.forall_mem_cons.mpr ⟨ok_iload_n hx hb dk_56_61 rfl,
    List.forall_mem_cons.mpr ⟨ok_iload_n hx hb dk_56_62 rfl,
    List.forall_mem_cons.mpr ⟨ok_iast hx hb dk_56_63,
    List.forall_mem_cons.mpr ⟨ok_aload_n hx hb dk_56_64 rfl,
    List.forall_mem_cons.mpr ⟨ok_cV hx hb hml hown hts hb1 hb2 hA hroot hAs rfl rfl rfl (hcal_54 hall) tw_663 tw_665 ts_21 tw_666 tw_5 nm_54 rfl rfl (by show d + 8 + 1 ≤ d + 1 + 8; omega) (by show 8 + (4 + 11) + (200 + 60 * d) ≤ 200 + 60 * (d + 1); omega) dk_56_65,
    List.forall_mem_cons.mpr ⟨ok_istore hx hb dk_56_68 (by decide),
    List.forall_mem_cons.mpr ⟨ok_aload_n hx hb dk_56_70 rfl,
    List.forall_mem_cons.mpr ⟨ok_getr hx hb hts hown hin_3 rfl (by decide) tw_537 dk_56_71,
    List.forall_mem_cons.mpr ⟨ok_iload_n hx hb dk_56_74 rfl,
    List.forall_mem_cons.mpr ⟨ok_iload_n hx hb dk_56_75 rfl,
    List.forall_mem_cons.mpr ⟨ok_iast hx hb dk_56_76,
    List.forall_mem_cons.mpr ⟨ok_iload hx hb dk_56_77,
    List.forall_mem_cons.mpr ⟨ok_iret hx hb hb1 hb2 hr hlocks dk_56_79,
    fun _ h => absurd h List.not_mem_nil⟩⟩⟩⟩⟩⟩⟩⟩⟩⟩⟩⟩⟩⟩⟩⟩⟩⟩⟩⟩⟩⟩⟩⟩⟩⟩⟩⟩⟩⟩⟩⟩⟩⟩⟩⟩⟩⟩⟩⟩⟩⟩⟩⟩⟩⟩⟩⟩
theorem dk_57_0 : decode prog_5_method_27_code 0 = .ok (.aload_n 0, 1) := by decide +kernel
theorem dk_57_1 : decode prog_5_method_27_code 1 = .ok (.iconst (0), 1) := by decide +kernel
theorem dk_57_2 : decode prog_5_method_27_code 2 = .ok (.putfield 69, 3) := by decide +kernel
theorem dk_57_5 : decode prog_5_method_27_code 5 = .ok (.aload_n 0, 1) := by decide +kernel
theorem dk_57_6 : decode prog_5_method_27_code 6 = .ok (.invokevirtual 110, 3) := by decide +kernel
theorem dk_57_9 : decode prog_5_method_27_code 9 = .ok (.aload_n 0, 1) := by decide +kernel
theorem dk_57_10 : decode prog_5_method_27_code 10 = .ok (.getfield 63, 3) := by decide +kernel
theorem dk_57_13 : decode prog_5_method_27_code 13 = .ok (.iconst (0), 1) := by decide +kernel
theorem dk_57_14 : decode prog_5_method_27_code 14 = .ok (.iconst (0), 1) := by decide +kernel
theorem dk_57_15 : decode prog_5_method_27_code 15 = .ok (.iastore, 1) := by decide +kernel
theorem dk_57_16 : decode prog_5_method_27_code 16 = .ok (.iconst (0), 1) := by decide +kernel
theorem dk_57_17 : decode prog_5_method_27_code 17 = .ok (.istore_n 1, 1) := by decide +kernel
theorem dk_57_18 : decode prog_5_method_27_code 18 = .ok (.iload_n 1, 1) := by decide +kernel
theorem dk_57_19 : decode prog_5_method_27_code 19 = .ok (.aload_n 0, 1) := by decide +kernel
theorem dk_57_20 : decode prog_5_method_27_code 20 = .ok (.getfield 93, 3) := by decide +kernel
theorem dk_57_23 : decode prog_5_method_27_code 23 = .ok (.if_icmp .ge (29), 3) := by decide +kernel
theorem dk_57_26 : decode prog_5_method_27_code 26 = .ok (.aload_n 0, 1) := by decide +kernel
theorem dk_57_27 : decode prog_5_method_27_code 27 = .ok (.getfield 54, 3) := by decide +kernel
theorem dk_57_30 : decode prog_5_method_27_code 30 = .ok (.iload_n 1, 1) := by decide +kernel
theorem dk_57_31 : decode prog_5_method_27_code 31 = .ok (.iload_n 1, 1) := by decide +kernel
theorem dk_57_32 : decode prog_5_method_27_code 32 = .ok (.iastore, 1) := by decide +kernel
theorem dk_57_33 : decode prog_5_method_27_code 33 = .ok (.aload_n 0, 1) := by decide +kernel
theorem dk_57_34 : decode prog_5_method_27_code 34 = .ok (.iload_n 1, 1) := by decide +kernel
theorem dk_57_35 : decode prog_5_method_27_code 35 = .ok (.iload_n 1, 1) := by decide +kernel
theorem dk_57_36 : decode prog_5_method_27_code 36 = .ok (.bipush (6), 2) := by decide +kernel
theorem dk_57_38 : decode prog_5_method_27_code 38 = .ok (.invokevirtual 116, 3) := by decide +kernel
theorem dk_57_41 : decode prog_5_method_27_code 41 = .ok (.ifCond .ne (5), 3) := by decide +kernel
theorem dk_57_44 : decode prog_5_method_27_code 44 = .ok (.iconst (-1), 1) := by decide +kernel
theorem dk_57_45 : decode prog_5_method_27_code 45 = .ok (.ireturn, 1) := by decide +kernel
theorem dk_57_46 : decode prog_5_method_27_code 46 = .ok (.iinc 1 (1), 3) := by decide +kernel
theorem dk_57_49 : decode prog_5_method_27_code 49 = .ok (.goto (-31), 3) := by decide +kernel
theorem dk_57_52 : decode prog_5_method_27_code 52 = .ok (.aload_n 0, 1) := by decide +kernel
theorem dk_57_53 : decode prog_5_method_27_code 53 = .ok (.getfield 63, 3) := by decide +kernel
theorem dk_57_56 : decode prog_5_method_27_code 56 = .ok (.aload_n 0, 1) := by decide +kernel
theorem dk_57_57 : decode prog_5_method_27_code 57 = .ok (.getfield 93, 3) := by decide +kernel
theorem dk_57_60 : decode prog_5_method_27_code 60 = .ok (.iaload, 1) := by decide +kernel
theorem dk_57_61 : decode prog_5_method_27_code 61 = .ok (.ireturn, 1) := by decide +kernel
set_option maxRecDepth 100000 in
set_option maxHeartbeats 4000000 in
theorem cc_57 {l : Launch} {s0 : State} (hst : l.stackTraces = false) (h0 : am_W0 s0) {d : Nat} (hall : ∀ mi ∈ am_idx, am_CC l s0 d mi) : am_CC l s0 (d + 1) 57 :=
  am_method (y := y_57) (cc := prog_5_method_27_code) (maxL := 2) (ret := (some .int)) (rm := am_rm (d + 1) 0 0) (ops := op_57) (C := am_T am_tabs am_ar d) (ar := 1) h0 (by decide) (by decide) fun p e s m args below meth c D A bS ad0 Q hct htab => by
    obtain ⟨hx, hb, hml, hown, hts, hb1, hb2, hA, hroot, hAs, -, -, hlocks, hr, hnm⟩ := hct
    exact List.forall_mem_cons.mpr ⟨ok_aload_n hx hb dk_57_0 rfl,
    List.forall_mem_cons.mpr ⟨ok_iconst hx hb dk_57_1 rfl,
    List.forall_mem_cons.mpr ⟨ok_puti hx hb hts hown hin_3 tyF_3 tyF_3_ok nmF_3 rfl (by decide) tw_533 rfl (by decide +kernel) dk_57_2,
    List.forall_mem_cons.mpr ⟨ok_aload_n hx hb dk_57_5 rfl,
    List.forall_mem_cons.mpr ⟨ok_cV hx hb hml hown hts hb1 hb2 hA hroot hAs rfl rfl rfl (hcal_48 hall) tw_667 tw_669 ts_22 tw_670 tw_5 nm_48 rfl rfl (by show d + 8 + 1 ≤ d + 1 + 8; omega) (by show 8 + (2 + 11) + (200 + 60 * d) ≤ 200 + 60 * (d + 1); omega) dk_57_6,
    List.forall_mem_cons.mpr ⟨ok_aload_n hx hb dk_57_9 rfl,
    List.forall_mem_cons.mpr ⟨ok_getr hx hb hts hown hin_3 rfl (by decide) tw_553 dk_57_10,
    List.forall_mem_cons.mpr ⟨ok_iconst hx hb dk_57_13 rfl,
    List.forall_mem_cons.mpr ⟨ok_iconst hx hb dk_57_14 rfl,
    List.forall_mem_cons.mpr ⟨ok_iast hx hb dk_57_15,
    List.forall_mem_cons.mpr ⟨ok_iconst hx hb dk_57_16 rfl,
    List.forall_mem_cons.mpr ⟨ok_istore_n hx hb dk_57_17 rfl (by decide),
    List.forall_mem_cons.mpr ⟨ok_iload_n hx hb dk_57_18 rfl,
    List.forall_mem_cons.mpr ⟨ok_aload_n hx hb dk_57_19 rfl,
    List.forall_mem_cons.mpr ⟨ok_geti hx hb hts hown hin_3 rfl (by decide) tw_548 dk_57_20,
    List.forall_mem_cons.mpr ⟨ok_icmp_ge hx hb dk_57_23 (by decide),
    List.forall_mem_cons.mpr ⟨ok_aload_n hx hb dk_57_26 rfl,
    List.forall_mem_cons.mpr ⟨ok_getr hx hb hts hown hin_3 rfl (by decide) tw_550 dk_57_27,
    List.forall_mem_cons.mpr ⟨ok_iload_n hx hb dk_57_30 rfl,
    List.forall_mem_cons.mpr ⟨ok_iload_n hx hb dk_57_31 rfl,
    List.forall_mem_cons.mpr ⟨ok_iast hx hb dk_57_32,
    List.forall_mem_cons.mpr ⟨ok_aload_n hx hb dk_57_33 rfl,
    List.forall_mem_cons.mpr ⟨ok_iload_n hx hb dk_57_34 rfl,
    List.forall_mem_cons.mpr ⟨ok_iload_n hx hb dk_57_35 rfl,
    List.forall_mem_cons.mpr ⟨ok_bipush hx hb dk_57_36 (by decide),
    List.forall_mem_cons.mpr ⟨ok_cV hx hb hml hown hts hb1 hb2 hA hroot hAs rfl rfl rfl (hcal_52 hall) tw_679 tw_681 ts_25 tw_682 tw_5 nm_52 rfl rfl (by show d + 8 + 1 ≤ d + 1 + 8; omega) (by show 8 + (10 + 11) + (200 + 60 * d) ≤ 200 + 60 * (d + 1); omega) dk_57_38,
    List.forall_mem_cons.mpr ⟨ok_if_ne hx hb dk_57_41 (by decide),
    List.forall_mem_cons.mpr ⟨ok_iconst hx hb dk_57_44 rfl,
    List.forall_mem_cons.mpr ⟨ok_iret hx hb hb1 hb2 hr hlocks dk_57_45,
    List.forall_mem_cons.mpr ⟨ok_iinc hx hb dk_57_46 rfl (by decide),
    List.forall_mem_cons.mpr ⟨ok_goto hx hb dk_57_49 (by decide),
    List.forall_mem_cons.mpr ⟨ok_aload_n hx hb dk_57_52 rfl,
    List.forall_mem_cons.mpr ⟨ok_getr hx hb hts hown hin_3 rfl (by decide) tw_553 dk_57_53,
    List.forall_mem_cons.mpr ⟨ok_aload_n hx hb dk_57_56 rfl,
    List.forall_mem_cons.mpr ⟨ok_geti hx hb hts hown hin_3 rfl (by decide) tw_548 dk_57_57,
    List.forall_mem_cons.mpr ⟨ok_iald hx hb dk_57_60,
    List.forall_mem_cons.mpr ⟨ok_iret hx hb hb1 hb2 hr hlocks dk_57_61,
    fun _ h => absurd h List.not_mem_nil⟩⟩⟩⟩⟩⟩⟩⟩⟩⟩⟩⟩⟩⟩⟩⟩⟩⟩⟩⟩⟩⟩⟩⟩⟩⟩⟩⟩⟩⟩⟩⟩⟩⟩⟩⟩⟩
theorem dk_58_0 : decode prog_5_method_28_code 0 = .ok (.aload_n 0, 1) := by decide +kernel
theorem dk_58_1 : decode prog_5_method_28_code 1 = .ok (.iconst (0), 1) := by decide +kernel
theorem dk_58_2 : decode prog_5_method_28_code 2 = .ok (.putfield 69, 3) := by decide +kernel
theorem dk_58_5 : decode prog_5_method_28_code 5 = .ok (.iconst (0), 1) := by decide +kernel
theorem dk_58_6 : decode prog_5_method_28_code 6 = .ok (.istore_n 1, 1) := by decide +kernel
theorem dk_58_7 : decode prog_5_method_28_code 7 = .ok (.iconst (0), 1) := by decide +kernel
theorem dk_58_8 : decode prog_5_method_28_code 8 = .ok (.istore_n 2, 1) := by decide +kernel
theorem dk_58_9 : decode prog_5_method_28_code 9 = .ok (.iload_n 2, 1) := by decide +kernel
theorem dk_58_10 : decode prog_5_method_28_code 10 = .ok (.bipush (7), 2) := by decide +kernel
theorem dk_58_12 : decode prog_5_method_28_code 12 = .ok (.if_icmp .ge (57), 3) := by decide +kernel
theorem dk_58_15 : decode prog_5_method_28_code 15 = .ok (.aload_n 0, 1) := by decide +kernel
theorem dk_58_16 : decode prog_5_method_28_code 16 = .ok (.getfield 7, 3) := by decide +kernel
theorem dk_58_19 : decode prog_5_method_28_code 19 = .ok (.iload_n 2, 1) := by decide +kernel
theorem dk_58_20 : decode prog_5_method_28_code 20 = .ok (.baload, 1) := by decide +kernel
theorem dk_58_21 : decode prog_5_method_28_code 21 = .ok (.ifCond .eq (12), 3) := by decide +kernel
theorem dk_58_24 : decode prog_5_method_28_code 24 = .ok (.aload_n 0, 1) := by decide +kernel
theorem dk_58_25 : decode prog_5_method_28_code 25 = .ok (.iload_n 2, 1) := by decide +kernel
theorem dk_58_26 : decode prog_5_method_28_code 26 = .ok (.iconst (0), 1) := by decide +kernel
theorem dk_58_27 : decode prog_5_method_28_code 27 = .ok (.invokevirtual 103, 3) := by decide +kernel
theorem dk_58_30 : decode prog_5_method_28_code 30 = .ok (.goto (4), 3) := by decide +kernel
theorem dk_58_33 : decode prog_5_method_28_code 33 = .ok (.iconst (0), 1) := by decide +kernel
theorem dk_58_34 : decode prog_5_method_28_code 34 = .ok (.istore_n 3, 1) := by decide +kernel
theorem dk_58_35 : decode prog_5_method_28_code 35 = .ok (.iload_n 3, 1) := by decide +kernel
theorem dk_58_36 : decode prog_5_method_28_code 36 = .ok (.ifCond .ge (5), 3) := by decide +kernel
theorem dk_58_39 : decode prog_5_method_28_code 39 = .ok (.iconst (-1), 1) := by decide +kernel
theorem dk_58_40 : decode prog_5_method_28_code 40 = .ok (.ireturn, 1) := by decide +kernel
theorem dk_58_41 : decode prog_5_method_28_code 41 = .ok (.aload_n 0, 1) := by decide +kernel
theorem dk_58_42 : decode prog_5_method_28_code 42 = .ok (.getfield 7, 3) := by decide +kernel
theorem dk_58_45 : decode prog_5_method_28_code 45 = .ok (.iload_n 2, 1) := by decide +kernel
theorem dk_58_46 : decode prog_5_method_28_code 46 = .ok (.baload, 1) := by decide +kernel
theorem dk_58_47 : decode prog_5_method_28_code 47 = .ok (.ifCond .eq (14), 3) := by decide +kernel
theorem dk_58_50 : decode prog_5_method_28_code 50 = .ok (.iload_n 1, 1) := by decide +kernel
theorem dk_58_51 : decode prog_5_method_28_code 51 = .ok (.aload_n 0, 1) := by decide +kernel
theorem dk_58_52 : decode prog_5_method_28_code 52 = .ok (.iload_n 2, 1) := by decide +kernel
theorem dk_58_53 : decode prog_5_method_28_code 53 = .ok (.iload_n 3, 1) := by decide +kernel
theorem dk_58_54 : decode prog_5_method_28_code 54 = .ok (.invokevirtual 107, 3) := by decide +kernel
theorem dk_58_57 : decode prog_5_method_28_code 57 = .ok (.iadd, 1) := by decide +kernel
theorem dk_58_58 : decode prog_5_method_28_code 58 = .ok (.goto (4), 3) := by decide +kernel
theorem dk_58_61 : decode prog_5_method_28_code 61 = .ok (.iload_n 1, 1) := by decide +kernel
theorem dk_58_62 : decode prog_5_method_28_code 62 = .ok (.istore_n 1, 1) := by decide +kernel
theorem dk_58_63 : decode prog_5_method_28_code 63 = .ok (.iinc 2 (1), 3) := by decide +kernel
theorem dk_58_66 : decode prog_5_method_28_code 66 = .ok (.goto (-57), 3) := by decide +kernel
theorem dk_58_69 : decode prog_5_method_28_code 69 = .ok (.iload_n 1, 1) := by decide +kernel
theorem dk_58_70 : decode prog_5_method_28_code 70 = .ok (.ireturn, 1) := by decide +kernel
set_option maxRecDepth 100000 in
set_option maxHeartbeats 4000000 in
theorem cc_58 {l : Launch} {s0 : State} (hst : l.stackTraces = false) (h0 : am_W0 s0) {d : Nat} (hall : ∀ mi ∈ am_idx, am_CC l s0 d mi) : am_CC l s0 (d + 1) 58 :=
  am_method (y := y_58) (cc := prog_5_method_28_code) (maxL := 4) (ret := (some .int)) (rm := am_rm (d + 1) 0 0) (ops := op_58) (C := am_T am_tabs am_ar d) (ar := 1) h0 (by decide) (by decide) fun p e s m args below meth c D A bS ad0 Q hct htab => by
    obtain ⟨hx, hb, hml, hown, hts, hb1, hb2, hA, hroot, hAs, -, -, hlocks, hr, hnm⟩ := hct
    exact List.forall_mem_cons.mpr ⟨ok_aload_n hx hb dk_58_0 rfl,
    List.forall_mem_cons.mpr ⟨ok_iconst hx hb dk_58_1 rfl,
    List.forall_mem_cons.mpr ⟨ok_puti hx hb hts hown hin_3 tyF_3 tyF_3_ok nmF_3 rfl (by decide) tw_533 rfl (by decide +kernel) dk_58_2,
    List.forall_mem_cons.mpr ⟨ok_iconst hx hb dk_58_5 rfl,
    List.forall_mem_cons.mpr ⟨ok_istore_n hx hb dk_58_6 rfl (by decide),
    List.forall_mem_cons.mpr ⟨ok_iconst hx hb dk_58_7 rfl,
    List.forall_mem_cons.mpr ⟨ok_istore_n hx hb dk_58_8 rfl (by decide),
    List.forall_mem_cons.mpr ⟨ok_iload_n hx hb dk_58_9 rfl,
    List.forall_mem_cons.mpr ⟨ok_bipush hx hb dk_58_10 (by decide),
    List.forall_mem_cons.mpr ⟨ok_icmp_ge hx hb dk_58_12 (by decide),
    List.forall_mem_cons.mpr ⟨ok_aload_n hx hb dk_58_15 rfl,
    List.forall_mem_cons.mpr ⟨ok_getr hx hb hts hown hin_3 rfl (by decide) tw_534 dk_58_16,
    List.forall_mem_cons.mpr ⟨ok_iload_n hx hb dk_58_19 rfl,
    List.forall_mem_cons.mpr ⟨ok_zald hx hb dk_58_20,
    List.forall_mem_cons.mpr ⟨ok_if_eq hx hb dk_58_21 (by decide),
    List.forall_mem_cons.mpr ⟨ok_aload_n hx hb dk_58_24 rfl,
    List.forall_mem_cons.mpr ⟨ok_iload_n hx hb dk_58_25 rfl,
    List.forall_mem_cons.mpr ⟨ok_iconst hx hb dk_58_26 rfl,
    List.forall_mem_cons.mpr ⟨ok_cV hx hb hml hown hts hb1 hb2 hA hroot hAs rfl rfl rfl (hcal_50 hall) tw_683 tw_685 ts_26 tw_686 tw_5 nm_50 rfl rfl (by show d + 8 + 1 ≤ d + 1 + 8; omega) (by show 8 + (4 + 11) + (200 + 60 * d) ≤ 200 + 60 * (d + 1); omega) dk_58_27,
    List.forall_mem_cons.mpr ⟨ok_goto hx hb dk_58_30 (by decide),
    List.forall_mem_cons.mpr ⟨ok_iconst hx hb dk_58_33 rfl,
    List.forall_mem_cons.mpr ⟨ok_istore_n hx hb dk_58_34 rfl (by decide),
    List.forall_mem_cons.mpr ⟨ok_iload_n hx hb dk_58_35 rfl,
    List.forall_mem_cons.mpr ⟨ok_if_ge hx hb dk_58_36 (by decide),
    List.forall_mem_cons.mpr ⟨ok_iconst hx hb dk_58_39 rfl,
    List.forall_mem_cons.mpr ⟨ok_iret hx hb hb1 hb2 hr hlocks dk_58_40,
    List.forall_mem_cons.mpr ⟨ok_aload_n hx hb dk_58_41 rfl,
    List.forall_mem_cons.mpr ⟨ok_getr hx hb hts hown hin_3 rfl (by decide) tw_534 dk_58_42,
    List.forall_mem_cons.mpr ⟨ok_iload_n hx hb dk_58_45 rfl,
    List.forall_mem_cons.mpr ⟨ok_zald hx hb dk_58_46,
    List.forall_mem_cons.mpr ⟨ok_if_eq hx hb dk_58_47 (by decide),
    List.forall_mem_cons.mpr ⟨ok_iload_n hx hb dk_58_50 rfl,
    List.forall_mem_cons.mpr ⟨ok_aload_n hx hb dk_58_51 rfl,
    List.forall_mem_cons.mpr ⟨ok_iload_n hx hb dk_58_52 rfl,
    List.forall_mem_cons.mpr ⟨ok_iload_n hx hb dk_58_53 rfl,
    List.forall_mem_cons.mpr ⟨ok_cV hx hb hml hown hts hb1 hb2 hA hroot hAs rfl rfl rfl (hcal_51 hall) tw_691 tw_693 ts_28 tw_694 tw_5 nm_51 rfl rfl (by show d + 8 + 1 ≤ d + 1 + 8; omega) (by show 8 + (3 + 11) + (200 + 60 * d) ≤ 200 + 60 * (d + 1); omega) dk_58_54,
    List.forall_mem_cons.mpr ⟨ok_iadd hx hb dk_58_57,
    List.forall_mem_cons.mpr ⟨ok_goto hx hb dk_58_58 (by decide),
    List.forall_mem_cons.mpr ⟨ok_iload_n hx hb dk_58_61 rfl,
    List.forall_mem_cons.mpr ⟨ok_istore_n hx hb dk_58_62 rfl (by decide),
    List.forall_mem_cons.mpr ⟨ok_iinc hx hb dk_58_63 rfl (by decide),
    List.forall_mem_cons.mpr ⟨ok_goto hx hb dk_58_66 (by decide),
    List.forall_mem_cons.mpr ⟨ok_iload_n hx hb dk_58_69 rfl,
    List.forall_mem_cons.mpr ⟨ok_iret hx hb hb1 hb2 hr hlocks dk_58_70,
    fun _ h => absurd h List.not_mem_nil⟩⟩⟩⟩⟩⟩⟩⟩⟩⟩⟩⟩⟩⟩⟩⟩⟩⟩⟩⟩⟩⟩⟩⟩⟩⟩⟩⟩⟩⟩⟩⟩⟩⟩⟩⟩⟩⟩⟩⟩⟩⟩⟩⟩
theorem dk_59_0 : decode prog_5_method_29_code 0 = .ok (.aload_n 0, 1) := by decide +kernel
theorem dk_59_1 : decode prog_5_method_29_code 1 = .ok (.aload_n 0, 1) := by decide +kernel
theorem dk_59_2 : decode prog_5_method_29_code 2 = .ok (.iload_n 1, 1) := by decide +kernel
theorem dk_59_3 : decode prog_5_method_29_code 3 = .ok (.invokevirtual 76, 3) := by decide +kernel
theorem dk_59_6 : decode prog_5_method_29_code 6 = .ok (.ifCond .ne (7), 3) := by decide +kernel
theorem dk_59_9 : decode prog_5_method_29_code 9 = .ok (.iconst (1), 1) := by decide +kernel
theorem dk_59_10 : decode prog_5_method_29_code 10 = .ok (.goto (17), 3) := by decide +kernel
theorem dk_59_13 : decode prog_5_method_29_code 13 = .ok (.aload_n 0, 1) := by decide +kernel
theorem dk_59_14 : decode prog_5_method_29_code 14 = .ok (.getfield 45, 3) := by decide +kernel
theorem dk_59_17 : decode prog_5_method_29_code 17 = .ok (.iload_n 1, 1) := by decide +kernel
theorem dk_59_18 : decode prog_5_method_29_code 18 = .ok (.iaload, 1) := by decide +kernel
theorem dk_59_19 : decode prog_5_method_29_code 19 = .ok (.ifCond .ge (7), 3) := by decide +kernel
theorem dk_59_22 : decode prog_5_method_29_code 22 = .ok (.iconst (2), 1) := by decide +kernel
theorem dk_59_23 : decode prog_5_method_29_code 23 = .ok (.goto (4), 3) := by decide +kernel
theorem dk_59_26 : decode prog_5_method_29_code 26 = .ok (.iconst (0), 1) := by decide +kernel
theorem dk_59_27 : decode prog_5_method_29_code 27 = .ok (.putfield 69, 3) := by decide +kernel
theorem dk_59_30 : decode prog_5_method_29_code 30 = .ok (.aload_n 0, 1) := by decide +kernel
theorem dk_59_31 : decode prog_5_method_29_code 31 = .ok (.getfield 69, 3) := by decide +kernel
theorem dk_59_34 : decode prog_5_method_29_code 34 = .ok (.ifCond .le (7), 3) := by decide +kernel
theorem dk_59_37 : decode prog_5_method_29_code 37 = .ok (.iconst (0), 1) := by decide +kernel
theorem dk_59_38 : decode prog_5_method_29_code 38 = .ok (.goto (9), 3) := by decide +kernel
theorem dk_59_41 : decode prog_5_method_29_code 41 = .ok (.aload_n 0, 1) := by decide +kernel
theorem dk_59_42 : decode prog_5_method_29_code 42 = .ok (.getfield 45, 3) := by decide +kernel
theorem dk_59_45 : decode prog_5_method_29_code 45 = .ok (.iload_n 1, 1) := by decide +kernel
theorem dk_59_46 : decode prog_5_method_29_code 46 = .ok (.iaload, 1) := by decide +kernel
theorem dk_59_47 : decode prog_5_method_29_code 47 = .ok (.ireturn, 1) := by decide +kernel
set_option maxRecDepth 100000 in
set_option maxHeartbeats 4000000 in
theorem cc_59 {l : Launch} {s0 : State} (hst : l.stackTraces = false) (h0 : am_W0 s0) {d : Nat} (hall : ∀ mi ∈ am_idx, am_CC l s0 d mi) : am_CC l s0 (d + 1) 59 :=
  am_method (y := y_59) (cc := prog_5_method_29_code) (maxL := 2) (ret := (some .int)) (rm := am_rm (d + 1) 0 0) (ops := op_59) (C := am_T am_tabs am_ar d) (ar := 2) h0 (by decide) (by decide) fun p e s m args below meth c D A bS ad0 Q hct htab => by
    obtain ⟨hx, hb, hml, hown, hts, hb1, hb2, hA, hroot, hAs, -, -, hlocks, hr, hnm⟩ := hct
    exact List.forall_mem_cons.mpr ⟨ok_aload_n hx hb dk_59_0 rfl,
    List.forall_mem_cons.mpr ⟨ok_aload_n hx hb dk_59_1 rfl,
    List.forall_mem_cons.mpr ⟨ok_iload_n hx hb dk_59_2 rfl,
    List.forall_mem_cons.mpr ⟨ok_cV hx hb hml hown hts hb1 hb2 hA hroot hAs rfl rfl rfl (hcal_33 hall) tw_620 tw_622 ts_18 tw_623 tw_5 nm_33 rfl rfl (by show d + 8 + 1 ≤ d + 1 + 8; omega) (by show 8 + (2 + 11) + (200 + 60 * d) ≤ 200 + 60 * (d + 1); omega) dk_59_3,
    List.forall_mem_cons.mpr ⟨ok_if_ne hx hb dk_59_6 (by decide),
    List.forall_mem_cons.mpr ⟨ok_iconst hx hb dk_59_9 rfl,
    List.forall_mem_cons.mpr ⟨ok_goto hx hb dk_59_10 (by decide),
    List.forall_mem_cons.mpr ⟨ok_aload_n hx hb dk_59_13 rfl,
    List.forall_mem_cons.mpr ⟨ok_getr hx hb hts hown hin_3 rfl (by decide) tw_546 dk_59_14,
    List.forall_mem_cons.mpr ⟨ok_iload_n hx hb dk_59_17 rfl,
    List.forall_mem_cons.mpr ⟨ok_iald hx hb dk_59_18,
    List.forall_mem_cons.mpr ⟨ok_if_ge hx hb dk_59_19 (by decide),
    List.forall_mem_cons.mpr ⟨ok_iconst hx hb dk_59_22 rfl,
    List.forall_mem_cons.mpr ⟨ok_goto hx hb dk_59_23 (by decide),
    List.forall_mem_cons.mpr ⟨ok_iconst hx hb dk_59_26 rfl,
    List.forall_mem_cons.mpr ⟨ok_puti hx hb hts hown hin_3 tyF_3 tyF_3_ok nmF_3 rfl (by decide) tw_533 rfl (by decide +kernel) dk_59_27,
    List.forall_mem_cons.mpr ⟨ok_aload_n hx hb dk_59_30 rfl,
    List.forall_mem_cons.mpr ⟨ok_geti hx hb hts hown hin_3 rfl (by decide) tw_533 dk_59_31,
    List.forall_mem_cons.mpr ⟨ok_if_le hx hb dk_59_34 (by decide),
    List.forall_mem_cons.mpr ⟨ok_iconst hx hb dk_59_37 rfl,
    List.forall_mem_cons.mpr ⟨ok_goto hx hb dk_59_38 (by decide),
    List.forall_mem_cons.mpr ⟨ok_aload_n hx hb dk_59_41 rfl,
    List.forall_mem_cons.mpr ⟨ok_getr hx hb hts hown hin_3 rfl (by decide) tw_546 dk_59_42,
    List.forall_mem_cons.mpr ⟨ok_iload_n hx hb dk_59_45 rfl,
    List.forall_mem_cons.mpr ⟨ok_iald hx hb dk_59_46,
    List.forall_mem_cons.mpr ⟨ok_iret hx hb hb1 hb2 hr hlocks dk_59_47,
    fun _ h => absurd h List.not_mem_nil⟩⟩⟩⟩⟩⟩⟩⟩⟩⟩⟩⟩⟩⟩⟩⟩⟩⟩⟩⟩⟩⟩⟩⟩⟩⟩
theorem dk_60_0 : decode prog_5_method_30_code 0 = .ok (.iconst (0), 1) := by decide +kernel
theorem dk_60_1 : decode prog_5_method_30_code 1 = .ok (.istore_n 2, 1) := by decide +kernel
theorem dk_60_2 : decode prog_5_method_30_code 2 = .ok (.iconst (0), 1) := by decide +kernel
theorem dk_60_3 : decode prog_5_method_30_code 3 = .ok (.istore_n 3, 1) := by decide +kernel
theorem dk_60_4 : decode prog_5_method_30_code 4 = .ok (.iload_n 3, 1) := by decide +kernel
theorem dk_60_5 : decode prog_5_method_30_code 5 = .ok (.bipush (7), 2) := by decide +kernel
theorem dk_60_7 : decode prog_5_method_30_code 7 = .ok (.if_icmp .ge (61), 3) := by decide +kernel
theorem dk_60_10 : decode prog_5_method_30_code 10 = .ok (.aload_n 0, 1) := by decide +kernel
theorem dk_60_11 : decode prog_5_method_30_code 11 = .ok (.getfield 45, 3) := by decide +kernel
theorem dk_60_14 : decode prog_5_method_30_code 14 = .ok (.iload_n 3, 1) := by decide +kernel
theorem dk_60_15 : decode prog_5_method_30_code 15 = .ok (.iaload, 1) := by decide +kernel
theorem dk_60_16 : decode prog_5_method_30_code 16 = .ok (.ifCond .lt (44), 3) := by decide +kernel
theorem dk_60_19 : decode prog_5_method_30_code 19 = .ok (.aload_n 0, 1) := by decide +kernel
theorem dk_60_20 : decode prog_5_method_30_code 20 = .ok (.getfield 45, 3) := by decide +kernel
theorem dk_60_23 : decode prog_5_method_30_code 23 = .ok (.iload_n 3, 1) := by decide +kernel
theorem dk_60_24 : decode prog_5_method_30_code 24 = .ok (.iaload, 1) := by decide +kernel
theorem dk_60_25 : decode prog_5_method_30_code 25 = .ok (.aload_n 0, 1) := by decide +kernel
theorem dk_60_26 : decode prog_5_method_30_code 26 = .ok (.getfield 45, 3) := by decide +kernel
theorem dk_60_29 : decode prog_5_method_30_code 29 = .ok (.iload_n 1, 1) := by decide +kernel
theorem dk_60_30 : decode prog_5_method_30_code 30 = .ok (.iaload, 1) := by decide +kernel
theorem dk_60_31 : decode prog_5_method_30_code 31 = .ok (.if_icmp .lt (23), 3) := by decide +kernel
theorem dk_60_34 : decode prog_5_method_30_code 34 = .ok (.aload_n 0, 1) := by decide +kernel
theorem dk_60_35 : decode prog_5_method_30_code 35 = .ok (.getfield 45, 3) := by decide +kernel
theorem dk_60_38 : decode prog_5_method_30_code 38 = .ok (.iload_n 3, 1) := by decide +kernel
theorem dk_60_39 : decode prog_5_method_30_code 39 = .ok (.iaload, 1) := by decide +kernel
theorem dk_60_40 : decode prog_5_method_30_code 40 = .ok (.aload_n 0, 1) := by decide +kernel
theorem dk_60_41 : decode prog_5_method_30_code 41 = .ok (.getfield 45, 3) := by decide +kernel
theorem dk_60_44 : decode prog_5_method_30_code 44 = .ok (.iload_n 1, 1) := by decide +kernel
theorem dk_60_45 : decode prog_5_method_30_code 45 = .ok (.iaload, 1) := by decide +kernel
theorem dk_60_46 : decode prog_5_method_30_code 46 = .ok (.if_icmp .ne (14), 3) := by decide +kernel
theorem dk_60_49 : decode prog_5_method_30_code 49 = .ok (.iload_n 3, 1) := by decide +kernel
theorem dk_60_50 : decode prog_5_method_30_code 50 = .ok (.iload_n 1, 1) := by decide +kernel
theorem dk_60_51 : decode prog_5_method_30_code 51 = .ok (.if_icmp .ge (9), 3) := by decide +kernel
theorem dk_60_54 : decode prog_5_method_30_code 54 = .ok (.iload_n 2, 1) := by decide +kernel
theorem dk_60_55 : decode prog_5_method_30_code 55 = .ok (.iconst (1), 1) := by decide +kernel
theorem dk_60_56 : decode prog_5_method_30_code 56 = .ok (.iadd, 1) := by decide +kernel
theorem dk_60_57 : decode prog_5_method_30_code 57 = .ok (.goto (4), 3) := by decide +kernel
theorem dk_60_60 : decode prog_5_method_30_code 60 = .ok (.iload_n 2, 1) := by decide +kernel
theorem dk_60_61 : decode prog_5_method_30_code 61 = .ok (.istore_n 2, 1) := by decide +kernel
theorem dk_60_62 : decode prog_5_method_30_code 62 = .ok (.iinc 3 (1), 3) := by decide +kernel
theorem dk_60_65 : decode prog_5_method_30_code 65 = .ok (.goto (-61), 3) := by decide +kernel
theorem dk_60_68 : decode prog_5_method_30_code 68 = .ok (.iload_n 2, 1) := by decide +kernel
theorem dk_60_69 : decode prog_5_method_30_code 69 = .ok (.ireturn, 1) := by decide +kernel
set_option maxRecDepth 100000 in
set_option maxHeartbeats 4000000 in
theorem cc_60 {l : Launch} {s0 : State} (hst : l.stackTraces = false) (h0 : am_W0 s0) {d : Nat} (hall : ∀ mi ∈ am_idx, am_CC l s0 d mi) : am_CC l s0 (d + 1) 60 :=
  am_method (y := y_60) (cc := prog_5_method_30_code) (maxL := 4) (ret := (some .int)) (rm := am_rm (d + 1) 0 0) (ops := op_60) (C := am_T am_tabs am_ar d) (ar := 2) h0 (by decide) (by decide) fun p e s m args below meth c D A bS ad0 Q hct htab => by
    obtain ⟨hx, hb, hml, hown, hts, hb1, hb2, hA, hroot, hAs, -, -, hlocks, hr, hnm⟩ := hct
    exact List.forall_mem_cons.mpr ⟨ok_iconst hx hb dk_60_0 rfl,
    List.forall_mem_cons.mpr ⟨ok_istore_n hx hb dk_60_1 rfl (by decide),
    List.forall_mem_cons.mpr ⟨ok_iconst hx hb dk_60_2 rfl,
    List.forall_mem_cons.mpr ⟨ok_istore_n hx hb dk_60_3 rfl (by decide),
    List.forall_mem_cons.mpr ⟨ok_iload_n hx hb dk_60_4 rfl,
    List.forall_mem_cons.mpr ⟨ok_bipush hx hb dk_60_5 (by decide),
    List.forall_mem_cons.mpr ⟨ok_icmp_ge hx hb dk_60_7 (by decide),
    List.forall_mem_cons.mpr ⟨ok_aload_n hx hb dk_60_10 rfl,
    List.forall_mem_cons.mpr ⟨ok_getr hx hb hts hown hin_3 rfl (by decide) tw_546 dk_60_11,
    List.forall_mem_cons.mpr ⟨ok_iload_n hx hb dk_60_14 rfl,
    List.forall_mem_cons.mpr ⟨ok_iald hx hb dk_60_15,
    List.forall_mem_cons.mpr ⟨ok_if_lt hx hb dk_60_16 (by decide),
    List.forall_mem_cons.mpr ⟨ok_aload_n hx hb dk_60_19 rfl,
    List.forall_mem_cons.mpr ⟨ok_getr hx hb hts hown hin_3 rfl (by decide) tw_546 dk_60_20,
    List.forall_mem_cons.mpr ⟨ok_iload_n hx hb dk_60_23 rfl,
    List.forall_mem_cons.mpr ⟨ok_iald hx hb dk_60_24,
    List.forall_mem_cons.mpr ⟨ok_aload_n hx hb dk_60_25 rfl,
    List.forall_mem_cons.mpr ⟨ok_getr hx hb hts hown hin_3 rfl (by decide) tw_546 dk_60_26,
    List.forall_mem_cons.mpr ⟨ok_iload_n hx hb dk_60_29 rfl,
    List.forall_mem_cons.mpr ⟨ok_iald hx hb dk_60_30,
    List.forall_mem_cons.mpr ⟨ok_icmp_lt hx hb dk_60_31 (by decide),
    List.forall_mem_cons.mpr ⟨ok_aload_n hx hb dk_60_34 rfl,
    List.forall_mem_cons.mpr ⟨ok_getr hx hb hts hown hin_3 rfl (by decide) tw_546 dk_60_35,
    List.forall_mem_cons.mpr ⟨ok_iload_n hx hb dk_60_38 rfl,
    List.forall_mem_cons.mpr ⟨ok_iald hx hb dk_60_39,
    List.forall_mem_cons.mpr ⟨ok_aload_n hx hb dk_60_40 rfl,
    List.forall_mem_cons.mpr ⟨ok_getr hx hb hts hown hin_3 rfl (by decide) tw_546 dk_60_41,
    List.forall_mem_cons.mpr ⟨ok_iload_n hx hb dk_60_44 rfl,
    List.forall_mem_cons.mpr ⟨ok_iald hx hb dk_60_45,
    List.forall_mem_cons.mpr ⟨ok_icmp_ne hx hb dk_60_46 (by decide),
    List.forall_mem_cons.mpr ⟨ok_iload_n hx hb dk_60_49 rfl,
    List.forall_mem_cons.mpr ⟨ok_iload_n hx hb dk_60_50 rfl,
    List.forall_mem_cons.mpr ⟨ok_icmp_ge hx hb dk_60_51 (by decide),
    List.forall_mem_cons.mpr ⟨ok_iload_n hx hb dk_60_54 rfl,
    List.forall_mem_cons.mpr ⟨ok_iconst hx hb dk_60_55 rfl,
    List.forall_mem_cons.mpr ⟨ok_iadd hx hb dk_60_56,
    List.forall_mem_cons.mpr ⟨ok_goto hx hb dk_60_57 (by decide),
    List.forall_mem_cons.mpr ⟨ok_iload_n hx hb dk_60_60 rfl,
    List.forall_mem_cons.mpr ⟨ok_istore_n hx hb dk_60_61 rfl (by decide),
    List.forall_mem_cons.mpr ⟨ok_iinc hx hb dk_60_62 rfl (by decide),
    List.forall_mem_cons.mpr ⟨ok_goto hx hb dk_60_65 (by decide),
    List.forall_mem_cons.mpr ⟨ok_iload_n hx hb dk_60_68 rfl,
    List.forall_mem_cons.mpr ⟨ok_iret hx hb hb1 hb2 hr hlocks dk_60_69,
    fun _ h => absurd h List.not_mem_nil⟩⟩⟩⟩⟩⟩⟩⟩⟩⟩⟩⟩⟩⟩⟩⟩⟩⟩⟩⟩⟩⟩⟩⟩⟩⟩⟩⟩⟩⟩⟩⟩⟩⟩⟩⟩⟩⟩⟩⟩⟩⟩⟩
theorem dk_61_0 : decode prog_5_method_31_code 0 = .ok (.iconst (-1), 1) := by decide +kernel
theorem dk_61_1 : decode prog_5_method_31_code 1 = .ok (.istore_n 2, 1) := by decide +kernel
theorem dk_61_2 : decode prog_5_method_31_code 2 = .ok (.iconst (0), 1) := by decide +kernel
theorem dk_61_3 : decode prog_5_method_31_code 3 = .ok (.istore_n 3, 1) := by decide +kernel
theorem dk_61_4 : decode prog_5_method_31_code 4 = .ok (.iload_n 3, 1) := by decide +kernel
theorem dk_61_5 : decode prog_5_method_31_code 5 = .ok (.bipush (7), 2) := by decide +kernel
theorem dk_61_7 : decode prog_5_method_31_code 7 = .ok (.if_icmp .ge (33), 3) := by decide +kernel
theorem dk_61_10 : decode prog_5_method_31_code 10 = .ok (.aload_n 0, 1) := by decide +kernel
theorem dk_61_11 : decode prog_5_method_31_code 11 = .ok (.getfield 45, 3) := by decide +kernel
theorem dk_61_14 : decode prog_5_method_31_code 14 = .ok (.iload_n 3, 1) := by decide +kernel
theorem dk_61_15 : decode prog_5_method_31_code 15 = .ok (.iaload, 1) := by decide +kernel
theorem dk_61_16 : decode prog_5_method_31_code 16 = .ok (.ifCond .lt (16), 3) := by decide +kernel
theorem dk_61_19 : decode prog_5_method_31_code 19 = .ok (.aload_n 0, 1) := by decide +kernel
theorem dk_61_20 : decode prog_5_method_31_code 20 = .ok (.iload_n 3, 1) := by decide +kernel
theorem dk_61_21 : decode prog_5_method_31_code 21 = .ok (.invokevirtual 123, 3) := by decide +kernel
theorem dk_61_24 : decode prog_5_method_31_code 24 = .ok (.iload_n 1, 1) := by decide +kernel
theorem dk_61_25 : decode prog_5_method_31_code 25 = .ok (.if_icmp .ne (7), 3) := by decide +kernel
theorem dk_61_28 : decode prog_5_method_31_code 28 = .ok (.iload_n 3, 1) := by decide +kernel
theorem dk_61_29 : decode prog_5_method_31_code 29 = .ok (.goto (4), 3) := by decide +kernel
theorem dk_61_32 : decode prog_5_method_31_code 32 = .ok (.iload_n 2, 1) := by decide +kernel
theorem dk_61_33 : decode prog_5_method_31_code 33 = .ok (.istore_n 2, 1) := by decide +kernel
theorem dk_61_34 : decode prog_5_method_31_code 34 = .ok (.iinc 3 (1), 3) := by decide +kernel
theorem dk_61_37 : decode prog_5_method_31_code 37 = .ok (.goto (-33), 3) := by decide +kernel
theorem dk_61_40 : decode prog_5_method_31_code 40 = .ok (.aload_n 0, 1) := by decide +kernel
theorem dk_61_41 : decode prog_5_method_31_code 41 = .ok (.iload_n 2, 1) := by decide +kernel
theorem dk_61_42 : decode prog_5_method_31_code 42 = .ok (.ifCond .ge (7), 3) := by decide +kernel
theorem dk_61_45 : decode prog_5_method_31_code 45 = .ok (.iconst (1), 1) := by decide +kernel
theorem dk_61_46 : decode prog_5_method_31_code 46 = .ok (.goto (4), 3) := by decide +kernel
theorem dk_61_49 : decode prog_5_method_31_code 49 = .ok (.iconst (0), 1) := by decide +kernel
theorem dk_61_50 : decode prog_5_method_31_code 50 = .ok (.putfield 69, 3) := by decide +kernel
theorem dk_61_53 : decode prog_5_method_31_code 53 = .ok (.iload_n 2, 1) := by decide +kernel
theorem dk_61_54 : decode prog_5_method_31_code 54 = .ok (.ifCond .ge (7), 3) := by decide +kernel
theorem dk_61_57 : decode prog_5_method_31_code 57 = .ok (.iconst (0), 1) := by decide +kernel
theorem dk_61_58 : decode prog_5_method_31_code 58 = .ok (.goto (4), 3) := by decide +kernel
theorem dk_61_61 : decode prog_5_method_31_code 61 = .ok (.iload_n 2, 1) := by decide +kernel
theorem dk_61_62 : decode prog_5_method_31_code 62 = .ok (.ireturn, 1) := by decide +kernel
set_option maxRecDepth 100000 in
set_option maxHeartbeats 4000000 in
theorem cc_61 {l : Launch} {s0 : State} (hst : l.stackTraces = false) (h0 : am_W0 s0) {d : Nat} (hall : ∀ mi ∈ am_idx, am_CC l s0 d mi) : am_CC l s0 (d + 1) 61 :=
  am_method (y := y_61) (cc := prog_5_method_31_code) (maxL := 4) (ret := (some .int)) (rm := am_rm (d + 1) 0 0) (ops := op_61) (C := am_T am_tabs am_ar d) (ar := 2) h0 (by decide) (by decide) fun p e s m args below meth c D A bS ad0 Q hct htab => by
    obtain ⟨hx, hb, hml, hown, hts, hb1, hb2, hA, hroot, hAs, -, -, hlocks, hr, hnm⟩ := hct
    exact List.forall_mem_cons.mpr ⟨ok_iconst hx hb dk_61_0 rfl,
    List.forall_mem_cons.mpr ⟨ok_istore_n hx hb dk_61_1 rfl (by decide),
    List.forall_mem_cons.mpr ⟨ok_iconst hx hb dk_61_2 rfl,
    List.forall_mem_cons.mpr ⟨ok_istore_n hx hb dk_61_3 rfl (by decide),
    List.forall_mem_cons.mpr ⟨ok_iload_n hx hb dk_61_4 rfl,
    List.forall_mem_cons.mpr ⟨ok_bipush hx hb dk_61_5 (by decide),
    List.forall_mem_cons.mpr ⟨ok_icmp_ge hx hb dk_61_7 (by decide),
    List.forall_mem_cons.mpr ⟨ok_aload_n hx hb dk_61_10 rfl,
    List.forall_mem_cons.mpr ⟨ok_getr hx hb hts hown hin_3 rfl (by decide) tw_546 dk_61_11,
    List.forall_mem_cons.mpr ⟨ok_iload_n hx hb dk_61_14 rfl,
    List.forall_mem_cons.mpr ⟨ok_iald hx hb dk_61_15,
    List.forall_mem_cons.mpr ⟨ok_if_lt hx hb dk_61_16 (by decide),
    List.forall_mem_cons.mpr ⟨ok_aload_n hx hb dk_61_19 rfl,
    List.forall_mem_cons.mpr ⟨ok_iload_n hx hb dk_61_20 rfl,
    List.forall_mem_cons.mpr ⟨ok_cV hx hb hml hown hts hb1 hb2 hA hroot hAs rfl rfl rfl (hcal_60 hall) tw_715 tw_717 ts_29 tw_718 tw_5 nm_60 rfl rfl (by show d + 8 + 1 ≤ d + 1 + 8; omega) (by show 8 + (4 + 11) + (200 + 60 * d) ≤ 200 + 60 * (d + 1); omega) dk_61_21,
    List.forall_mem_cons.mpr ⟨ok_iload_n hx hb dk_61_24 rfl,
    List.forall_mem_cons.mpr ⟨ok_icmp_ne hx hb dk_61_25 (by decide),
    List.forall_mem_cons.mpr ⟨ok_iload_n hx hb dk_61_28 rfl,
    List.forall_mem_cons.mpr ⟨ok_goto hx hb dk_61_29 (by decide),
    List.forall_mem_cons.mpr ⟨ok_iload_n hx hb dk_61_32 rfl,
    List.forall_mem_cons.mpr ⟨ok_istore_n hx hb dk_61_33 rfl (by decide),
    List.forall_mem_cons.mpr ⟨ok_iinc hx hb dk_61_34 rfl (by decide),
    List.forall_mem_cons.mpr ⟨ok_goto hx hb dk_61_37 (by decide),
    List.forall_mem_cons.mpr ⟨ok_aload_n hx hb dk_61_40 rfl,
    List.forall_mem_cons.mpr ⟨ok_iload_n hx hb dk_61_41 rfl,
    List.forall_mem_cons.mpr ⟨ok_if_ge hx hb dk_61_42 (by decide),
    List.forall_mem_cons.mpr ⟨ok_iconst hx hb dk_61_45 rfl,
    List.forall_mem_cons.mpr ⟨ok_goto hx hb dk_61_46 (by decide),
    List.forall_mem_cons.mpr ⟨ok_iconst hx hb dk_61_49 rfl,
    List.forall_mem_cons.mpr ⟨ok_puti hx hb hts hown hin_3 tyF_3 tyF_3_ok nmF_3 rfl (by decide) tw_533 rfl (by decide +kernel) dk_61_50,
    List.forall_mem_cons.mpr ⟨ok_iload_n hx hb dk_61_53 rfl,
    List.forall_mem_cons.mpr ⟨ok_if_ge hx hb dk_61_54 (by decide),
    List.forall_mem_cons.mpr ⟨ok_iconst hx hb dk_61_57 rfl,
    List.forall_mem_cons.mpr ⟨ok_goto hx hb dk_61_58 (by decide),
    List.forall_mem_cons.mpr ⟨ok_iload_n hx hb dk_61_61 rfl,
    List.forall_mem_cons.mpr ⟨ok_iret hx hb hb1 hb2 hr hlocks dk_61_62,
    fun _ h => absurd h List.not_mem_nil⟩⟩⟩⟩⟩⟩⟩⟩⟩⟩⟩⟩⟩⟩⟩⟩⟩⟩⟩⟩⟩⟩⟩⟩⟩⟩⟩⟩⟩⟩⟩⟩⟩⟩⟩⟩
theorem dk_62_0 : decode prog_5_method_32_code 0 = .ok (.aload_n 0, 1) := by decide +kernel
theorem dk_62_1 : decode prog_5_method_32_code 1 = .ok (.aload_n 0, 1) := by decide +kernel
theorem dk_62_2 : decode prog_5_method_32_code 2 = .ok (.iload_n 1, 1) := by decide +kernel
theorem dk_62_3 : decode prog_5_method_32_code 3 = .ok (.invokevirtual 76, 3) := by decide +kernel
theorem dk_62_6 : decode prog_5_method_32_code 6 = .ok (.ifCond .eq (7), 3) := by decide +kernel
theorem dk_62_9 : decode prog_5_method_32_code 9 = .ok (.iconst (0), 1) := by decide +kernel
theorem dk_62_10 : decode prog_5_method_32_code 10 = .ok (.goto (4), 3) := by decide +kernel
theorem dk_62_13 : decode prog_5_method_32_code 13 = .ok (.iconst (1), 1) := by decide +kernel
theorem dk_62_14 : decode prog_5_method_32_code 14 = .ok (.putfield 69, 3) := by decide +kernel
theorem dk_62_17 : decode prog_5_method_32_code 17 = .ok (.aload_n 0, 1) := by decide +kernel
theorem dk_62_18 : decode prog_5_method_32_code 18 = .ok (.getfield 69, 3) := by decide +kernel
theorem dk_62_21 : decode prog_5_method_32_code 21 = .ok (.ifCond .le (7), 3) := by decide +kernel
theorem dk_62_24 : decode prog_5_method_32_code 24 = .ok (.iconst (0), 1) := by decide +kernel
theorem dk_62_25 : decode prog_5_method_32_code 25 = .ok (.goto (8), 3) := by decide +kernel
theorem dk_62_28 : decode prog_5_method_32_code 28 = .ok (.aload_n 0, 1) := by decide +kernel
theorem dk_62_29 : decode prog_5_method_32_code 29 = .ok (.iload_n 1, 1) := by decide +kernel
theorem dk_62_30 : decode prog_5_method_32_code 30 = .ok (.invokevirtual 96, 3) := by decide +kernel
theorem dk_62_33 : decode prog_5_method_32_code 33 = .ok (.ireturn, 1) := by decide +kernel
set_option maxRecDepth 100000 in
set_option maxHeartbeats 4000000 in
theorem cc_62 {l : Launch} {s0 : State} (hst : l.stackTraces = false) (h0 : am_W0 s0) {d : Nat} (hall : ∀ mi ∈ am_idx, am_CC l s0 d mi) : am_CC l s0 (d + 1) 62 :=
  am_method (y := y_62) (cc := prog_5_method_32_code) (maxL := 2) (ret := (some .int)) (rm := am_rm (d + 1) 0 0) (ops := op_62) (C := am_T am_tabs am_ar d) (ar := 2) h0 (by decide) (by decide) fun p e s m args below meth c D A bS ad0 Q hct htab => by
    obtain ⟨hx, hb, hml, hown, hts, hb1, hb2, hA, hroot, hAs, -, -, hlocks, hr, hnm⟩ := hct
    exact List.forall_mem_cons.mpr ⟨ok_aload_n hx hb dk_62_0 rfl,
    List.forall_mem_cons.mpr ⟨ok_aload_n hx hb dk_62_1 rfl,
    List.forall_mem_cons.mpr ⟨ok_iload_n hx hb dk_62_2 rfl,
    List.forall_mem_cons.mpr ⟨ok_cV hx hb hml hown hts hb1 hb2 hA hroot hAs rfl rfl rfl (hcal_33 hall) tw_620 tw_622 ts_18 tw_623 tw_5 nm_33 rfl rfl (by show d + 8 + 1 ≤ d + 1 + 8; omega) (by show 8 + (2 + 11) + (200 + 60 * d) ≤ 200 + 60 * (d + 1); omega) dk_62_3,
    List.forall_mem_cons.mpr ⟨ok_if_eq hx hb dk_62_6 (by decide),
    List.forall_mem_cons.mpr ⟨ok_iconst hx hb dk_62_9 rfl,
    List.forall_mem_cons.mpr ⟨ok_goto hx hb dk_62_10 (by decide),
    List.forall_mem_cons.mpr ⟨ok_iconst hx hb dk_62_13 rfl,
    List.forall_mem_cons.mpr ⟨ok_puti hx hb hts hown hin_3 tyF_3 tyF_3_ok nmF_3 rfl (by decide) tw_533 rfl (by decide +kernel) dk_62_14,
    List.forall_mem_cons.mpr ⟨ok_aload_n hx hb dk_62_17 rfl,
    List.forall_mem_cons.mpr ⟨ok_geti hx hb hts hown hin_3 rfl (by decide) tw_533 dk_62_18,
    List.forall_mem_cons.mpr ⟨ok_if_le hx hb dk_62_21 (by decide),
    List.forall_mem_cons.mpr ⟨ok_iconst hx hb dk_62_24 rfl,
    List.forall_mem_cons.mpr ⟨ok_goto hx hb dk_62_25 (by decide),
    List.forall_mem_cons.mpr ⟨ok_aload_n hx hb dk_62_28 rfl,
    List.forall_mem_cons.mpr ⟨ok_iload_n hx hb dk_62_29 rfl,
    List.forall_mem_cons.mpr ⟨ok_cV hx hb hml hown hts hb1 hb2 hA hroot hAs rfl rfl rfl (hcal_47 hall) tw_671 tw_673 ts_23 tw_674 tw_5 nm_47 rfl rfl (by show d + 8 + 1 ≤ d + 1 + 8; omega) (by show 8 + (4 + 11) + (200 + 60 * d) ≤ 200 + 60 * (d + 1); omega) dk_62_30,
    List.forall_mem_cons.mpr ⟨ok_iret hx hb hb1 hb2 hr hlocks dk_62_33,
    fun _ h => absurd h List.not_mem_nil⟩⟩⟩⟩⟩⟩⟩⟩⟩⟩⟩⟩⟩⟩⟩⟩⟩⟩
theorem dk_63_0 : decode prog_5_method_33_code 0 = .ok (.aload_n 0, 1) := by decide +kernel
theorem dk_63_1 : decode prog_5_method_33_code 1 = .ok (.getfield 45, 3) := by decide +kernel
theorem dk_63_4 : decode prog_5_method_33_code 4 = .ok (.iload_n 1, 1) := by decide +kernel
theorem dk_63_5 : decode prog_5_method_33_code 5 = .ok (.iaload, 1) := by decide +kernel
theorem dk_63_6 : decode prog_5_method_33_code 6 = .ok (.istore_n 2, 1) := by decide +kernel
theorem dk_63_7 : decode prog_5_method_33_code 7 = .ok (.iload_n 2, 1) := by decide +kernel
theorem dk_63_8 : decode prog_5_method_33_code 8 = .ok (.aload_n 0, 1) := by decide +kernel
theorem dk_63_9 : decode prog_5_method_33_code 9 = .ok (.getfield 17, 3) := by decide +kernel
theorem dk_63_12 : decode prog_5_method_33_code 12 = .ok (.iload_n 1, 1) := by decide +kernel
theorem dk_63_13 : decode prog_5_method_33_code 13 = .ok (.iaload, 1) := by decide +kernel
theorem dk_63_14 : decode prog_5_method_33_code 14 = .ok (.if_icmp .lt (40), 3) := by decide +kernel
theorem dk_63_17 : decode prog_5_method_33_code 17 = .ok (.iload_n 2, 1) := by decide +kernel
theorem dk_63_18 : decode prog_5_method_33_code 18 = .ok (.aload_n 0, 1) := by decide +kernel
theorem dk_63_19 : decode prog_5_method_33_code 19 = .ok (.getfield 23, 3) := by decide +kernel
theorem dk_63_22 : decode prog_5_method_33_code 22 = .ok (.iload_n 1, 1) := by decide +kernel
theorem dk_63_23 : decode prog_5_method_33_code 23 = .ok (.iaload, 1) := by decide +kernel
theorem dk_63_24 : decode prog_5_method_33_code 24 = .ok (.if_icmp .gt (30), 3) := by decide +kernel
theorem dk_63_27 : decode prog_5_method_33_code 27 = .ok (.aload_n 0, 1) := by decide +kernel
theorem dk_63_28 : decode prog_5_method_33_code 28 = .ok (.iload_n 2, 1) := by decide +kernel
theorem dk_63_29 : decode prog_5_method_33_code 29 = .ok (.invokevirtual 86, 3) := by decide +kernel
theorem dk_63_32 : decode prog_5_method_33_code 32 = .ok (.ifCond .ne (22), 3) := by decide +kernel
theorem dk_63_35 : decode prog_5_method_33_code 35 = .ok (.aload_n 0, 1) := by decide +kernel
theorem dk_63_36 : decode prog_5_method_33_code 36 = .ok (.getfield 29, 3) := by decide +kernel
theorem dk_63_39 : decode prog_5_method_33_code 39 = .ok (.iload_n 1, 1) := by decide +kernel
theorem dk_63_40 : decode prog_5_method_33_code 40 = .ok (.iaload, 1) := by decide +kernel
theorem dk_63_41 : decode prog_5_method_33_code 41 = .ok (.ifCond .lt (15), 3) := by decide +kernel
theorem dk_63_44 : decode prog_5_method_33_code 44 = .ok (.aload_n 0, 1) := by decide +kernel
theorem dk_63_45 : decode prog_5_method_33_code 45 = .ok (.getfield 29, 3) := by decide +kernel
theorem dk_63_48 : decode prog_5_method_33_code 48 = .ok (.iload_n 1, 1) := by decide +kernel
theorem dk_63_49 : decode prog_5_method_33_code 49 = .ok (.iaload, 1) := by decide +kernel
theorem dk_63_50 : decode prog_5_method_33_code 50 = .ok (.iload_n 2, 1) := by decide +kernel
theorem dk_63_51 : decode prog_5_method_33_code 51 = .ok (.if_icmp .eq (5), 3) := by decide +kernel
theorem dk_63_54 : decode prog_5_method_33_code 54 = .ok (.iconst (0), 1) := by decide +kernel
theorem dk_63_55 : decode prog_5_method_33_code 55 = .ok (.ireturn, 1) := by decide +kernel
theorem dk_63_56 : decode prog_5_method_33_code 56 = .ok (.aload_n 0, 1) := by decide +kernel
theorem dk_63_57 : decode prog_5_method_33_code 57 = .ok (.iload_n 1, 1) := by decide +kernel
theorem dk_63_58 : decode prog_5_method_33_code 58 = .ok (.invokevirtual 123, 3) := by decide +kernel
theorem dk_63_61 : decode prog_5_method_33_code 61 = .ok (.aload_n 0, 1) := by decide +kernel
theorem dk_63_62 : decode prog_5_method_33_code 62 = .ok (.iload_n 1, 1) := by decide +kernel
theorem dk_63_63 : decode prog_5_method_33_code 63 = .ok (.invokevirtual 96, 3) := by decide +kernel
theorem dk_63_66 : decode prog_5_method_33_code 66 = .ok (.isub, 1) := by decide +kernel
theorem dk_63_67 : decode prog_5_method_33_code 67 = .ok (.istore_n 3, 1) := by decide +kernel
theorem dk_63_68 : decode prog_5_method_33_code 68 = .ok (.aload_n 0, 1) := by decide +kernel
theorem dk_63_69 : decode prog_5_method_33_code 69 = .ok (.getfield 29, 3) := by decide +kernel
theorem dk_63_72 : decode prog_5_method_33_code 72 = .ok (.iload_n 1, 1) := by decide +kernel
theorem dk_63_73 : decode prog_5_method_33_code 73 = .ok (.iaload, 1) := by decide +kernel
theorem dk_63_74 : decode prog_5_method_33_code 74 = .ok (.ifCond .ge (22), 3) := by decide +kernel
theorem dk_63_77 : decode prog_5_method_33_code 77 = .ok (.iload_n 3, 1) := by decide +kernel
theorem dk_63_78 : decode prog_5_method_33_code 78 = .ok (.aload_n 0, 1) := by decide +kernel
theorem dk_63_79 : decode prog_5_method_33_code 79 = .ok (.getfield 41, 3) := by decide +kernel
theorem dk_63_82 : decode prog_5_method_33_code 82 = .ok (.if_icmp .gt (12), 3) := by decide +kernel
theorem dk_63_85 : decode prog_5_method_33_code 85 = .ok (.iload_n 3, 1) := by decide +kernel
theorem dk_63_86 : decode prog_5_method_33_code 86 = .ok (.ineg, 1) := by decide +kernel
theorem dk_63_87 : decode prog_5_method_33_code 87 = .ok (.aload_n 0, 1) := by decide +kernel
theorem dk_63_88 : decode prog_5_method_33_code 88 = .ok (.getfield 41, 3) := by decide +kernel
theorem dk_63_91 : decode prog_5_method_33_code 91 = .ok (.if_icmp .le (5), 3) := by decide +kernel
theorem dk_63_94 : decode prog_5_method_33_code 94 = .ok (.iconst (0), 1) := by decide +kernel
theorem dk_63_95 : decode prog_5_method_33_code 95 = .ok (.ireturn, 1) := by decide +kernel
theorem dk_63_96 : decode prog_5_method_33_code 96 = .ok (.iconst (1), 1) := by decide +kernel
theorem dk_63_97 : decode prog_5_method_33_code 97 = .ok (.istore 4, 2) := by decide +kernel
theorem dk_63_99 : decode prog_5_method_33_code 99 = .ok (.iconst (0), 1) := by decide +kernel
theorem dk_63_100 : decode prog_5_method_33_code 100 = .ok (.istore 5, 2) := by decide +kernel
theorem dk_63_102 : decode prog_5_method_33_code 102 = .ok (.iload 5, 2) := by decide +kernel
theorem dk_63_104 : decode prog_5_method_33_code 104 = .ok (.bipush (7), 2) := by decide +kernel
theorem dk_63_106 : decode prog_5_method_33_code 106 = .ok (.if_icmp .ge (105), 3) := by decide +kernel
theorem dk_63_109 : decode prog_5_method_33_code 109 = .ok (.aload_n 0, 1) := by decide +kernel
theorem dk_63_110 : decode prog_5_method_33_code 110 = .ok (.getfield 45, 3) := by decide +kernel
theorem dk_63_113 : decode prog_5_method_33_code 113 = .ok (.iload 5, 2) := by decide +kernel
theorem dk_63_115 : decode prog_5_method_33_code 115 = .ok (.iaload, 1) := by decide +kernel
theorem dk_63_116 : decode prog_5_method_33_code 116 = .ok (.ifCond .lt (35), 3) := by decide +kernel
theorem dk_63_119 : decode prog_5_method_33_code 119 = .ok (.aload_n 0, 1) := by decide +kernel
theorem dk_63_120 : decode prog_5_method_33_code 120 = .ok (.getfield 45, 3) := by decide +kernel
theorem dk_63_123 : decode prog_5_method_33_code 123 = .ok (.iload 5, 2) := by decide +kernel
theorem dk_63_125 : decode prog_5_method_33_code 125 = .ok (.iaload, 1) := by decide +kernel
theorem dk_63_126 : decode prog_5_method_33_code 126 = .ok (.iload_n 2, 1) := by decide +kernel
theorem dk_63_127 : decode prog_5_method_33_code 127 = .ok (.if_icmp .lt (20), 3) := by decide +kernel
theorem dk_63_130 : decode prog_5_method_33_code 130 = .ok (.aload_n 0, 1) := by decide +kernel
theorem dk_63_131 : decode prog_5_method_33_code 131 = .ok (.getfield 45, 3) := by decide +kernel
theorem dk_63_134 : decode prog_5_method_33_code 134 = .ok (.iload 5, 2) := by decide +kernel
theorem dk_63_136 : decode prog_5_method_33_code 136 = .ok (.iaload, 1) := by decide +kernel
theorem dk_63_137 : decode prog_5_method_33_code 137 = .ok (.iload_n 2, 1) := by decide +kernel
theorem dk_63_138 : decode prog_5_method_33_code 138 = .ok (.if_icmp .ne (13), 3) := by decide +kernel
theorem dk_63_141 : decode prog_5_method_33_code 141 = .ok (.iload 5, 2) := by decide +kernel
theorem dk_63_143 : decode prog_5_method_33_code 143 = .ok (.iload_n 1, 1) := by decide +kernel
theorem dk_63_144 : decode prog_5_method_33_code 144 = .ok (.if_icmp .ge (7), 3) := by decide +kernel
theorem dk_63_147 : decode prog_5_method_33_code 147 = .ok (.iconst (1), 1) := by decide +kernel
theorem dk_63_148 : decode prog_5_method_33_code 148 = .ok (.goto (4), 3) := by decide +kernel
theorem dk_63_151 : decode prog_5_method_33_code 151 = .ok (.iconst (0), 1) := by decide +kernel
theorem dk_63_152 : decode prog_5_method_33_code 152 = .ok (.istore 6, 2) := by decide +kernel
theorem dk_63_154 : decode prog_5_method_33_code 154 = .ok (.iload 4, 2) := by decide +kernel
theorem dk_63_156 : decode prog_5_method_33_code 156 = .ok (.ifCond .eq (46), 3) := by decide +kernel
theorem dk_63_159 : decode prog_5_method_33_code 159 = .ok (.iload 6, 2) := by decide +kernel
theorem dk_63_161 : decode prog_5_method_33_code 161 = .ok (.ifCond .eq (37), 3) := by decide +kernel
theorem dk_63_164 : decode prog_5_method_33_code 164 = .ok (.iload_n 2, 1) := by decide +kernel
theorem dk_63_165 : decode prog_5_method_33_code 165 = .ok (.aload_n 0, 1) := by decide +kernel
theorem dk_63_166 : decode prog_5_method_33_code 166 = .ok (.getfield 45, 3) := by decide +kernel
theorem dk_63_169 : decode prog_5_method_33_code 169 = .ok (.iload 5, 2) := by decide +kernel
theorem dk_63_171 : decode prog_5_method_33_code 171 = .ok (.iaload, 1) := by decide +kernel
theorem dk_63_172 : decode prog_5_method_33_code 172 = .ok (.isub, 1) := by decide +kernel
theorem dk_63_173 : decode prog_5_method_33_code 173 = .ok (.aload_n 0, 1) := by decide +kernel
theorem dk_63_174 : decode prog_5_method_33_code 174 = .ok (.getfield 32, 3) := by decide +kernel
theorem dk_63_177 : decode prog_5_method_33_code 177 = .ok (.bipush (6), 2) := by decide +kernel
theorem dk_63_179 : decode prog_5_method_33_code 179 = .ok (.aload_n 0, 1) := by decide +kernel
theorem dk_63_180 : decode prog_5_method_33_code 180 = .ok (.getfield 13, 3) := by decide +kernel
theorem dk_63_183 : decode prog_5_method_33_code 183 = .ok (.iload 5, 2) := by decide +kernel
theorem dk_63_185 : decode prog_5_method_33_code 185 = .ok (.iaload, 1) := by decide +kernel
theorem dk_63_186 : decode prog_5_method_33_code 186 = .ok (.imul, 1) := by decide +kernel
theorem dk_63_187 : decode prog_5_method_33_code 187 = .ok (.aload_n 0, 1) := by decide +kernel
theorem dk_63_188 : decode prog_5_method_33_code 188 = .ok (.getfield 13, 3) := by decide +kernel
theorem dk_63_191 : decode prog_5_method_33_code 191 = .ok (.iload_n 1, 1) := by decide +kernel
theorem dk_63_192 : decode prog_5_method_33_code 192 = .ok (.iaload, 1) := by decide +kernel
theorem dk_63_193 : decode prog_5_method_33_code 193 = .ok (.iadd, 1) := by decide +kernel
theorem dk_63_194 : decode prog_5_method_33_code 194 = .ok (.iaload, 1) := by decide +kernel
theorem dk_63_195 : decode prog_5_method_33_code 195 = .ok (.if_icmp .lt (7), 3) := by decide +kernel
theorem dk_63_198 : decode prog_5_method_33_code 198 = .ok (.iconst (1), 1) := by decide +kernel
theorem dk_63_199 : decode prog_5_method_33_code 199 = .ok (.goto (4), 3) := by decide +kernel
theorem dk_63_202 : decode prog_5_method_33_code 202 = .ok (.iconst (0), 1) := by decide +kernel
theorem dk_63_203 : decode prog_5_method_33_code 203 = .ok (.istore 4, 2) := by decide +kernel
theorem dk_63_205 : decode prog_5_method_33_code 205 = .ok (.iinc 5 (1), 3) := by decide +kernel
theorem dk_63_208 : decode prog_5_method_33_code 208 = .ok (.goto (-106), 3) := by decide +kernel
theorem dk_63_211 : decode prog_5_method_33_code 211 = .ok (.iload 4, 2) := by decide +kernel
theorem dk_63_213 : decode prog_5_method_33_code 213 = .ok (.ireturn, 1) := by decide +kernel
set_option maxRecDepth 100000 in
set_option maxHeartbeats 4000000 in
theorem cc_63 {l : Launch} {s0 : State} (hst : l.stackTraces = false) (h0 : am_W0 s0) {d : Nat} (hall : ∀ mi ∈ am_idx, am_CC l s0 d mi) : am_CC l s0 (d + 1) 63 :=
  am_method (y := y_63) (cc := prog_5_method_33_code) (maxL := 7) (ret := (some .boolean)) (rm := am_rm (d + 1) 0 0) (ops := op_63) (C := am_T am_tabs am_ar d) (ar := 2) h0 (by decide) (by decide) fun p e s m args below meth c D A bS ad0 Q hct htab => by
    obtain ⟨hx, hb, hml, hown, hts, hb1, hb2, hA, hroot, hAs, -, -, hlocks, hr, hnm⟩ := hct
    exact List.forall_mem_cons.mpr ⟨ok_aload_n hx hb dk_63_0 rfl,
    List.forall_mem_cons.mpr ⟨ok_getr hx hb hts hown hin_3 rfl (by decide) tw_546 dk_63_1,
    List.forall_mem_cons.mpr ⟨ok_iload_n hx hb dk_63_4 rfl,
    List.forall_mem_cons.mpr ⟨ok_iald hx hb dk_63_5,
    List.forall_mem_cons.mpr ⟨ok_istore_n hx hb dk_63_6 rfl (by decide),
    List.forall_mem_cons.mpr ⟨ok_iload_n hx hb dk_63_7 rfl,
    List.forall_mem_cons.mpr ⟨ok_aload_n hx hb dk_63_8 rfl,
    List.forall_mem_cons.mpr ⟨ok_getr hx hb hts hown hin_3 rfl (by decide) tw_536 dk_63_9,
    List.forall_mem_cons.mpr ⟨ok_iload_n hx hb dk_63_12 rfl,
    List.forall_mem_cons.mpr ⟨ok_iald hx hb dk_63_13,
    List.forall_mem_cons.mpr ⟨ok_icmp_lt hx hb dk_63_14 (by decide),
    List.forall_mem_cons.mpr ⟨ok_iload_n hx hb dk_63_17 rfl,
    List.forall_mem_cons.mpr ⟨ok_aload_n hx hb dk_63_18 rfl,
    List.forall_mem_cons.mpr ⟨ok_getr hx hb hts hown hin_3 rfl (by decide) tw_538 dk_63_19,
    List.forall_mem_cons.mpr ⟨ok_iload_n hx hb dk_63_22 rfl,
    List.forall_mem_cons.mpr ⟨ok_iald hx hb dk_63_23,
    List.forall_mem_cons.mpr ⟨ok_icmp_gt hx hb dk_63_24 (by decide),
    List.forall_mem_cons.mpr ⟨ok_aload_n hx hb dk_63_27 rfl,
    List.forall_mem_cons.mpr ⟨ok_iload_n hx hb dk_63_28 rfl,
    List.forall_mem_cons.mpr ⟨ok_cV hx hb hml hown hts hb1 hb2 hA hroot hAs rfl rfl rfl (hcal_43 hall) tw_647 tw_649 ts_19 tw_650 tw_5 nm_43 rfl rfl (by show d + 8 + 1 ≤ d + 1 + 8; omega) (by show 8 + (4 + 11) + (200 + 60 * d) ≤ 200 + 60 * (d + 1); omega) dk_63_29,
    List.forall_mem_cons.mpr ⟨ok_if_ne hx hb dk_63_32 (by decide),
    List.forall_mem_cons.mpr ⟨ok_aload_n hx hb dk_63_35 rfl,
    List.forall_mem_cons.mpr ⟨ok_getr hx hb hts hown hin_3 rfl (by decide) tw_540 dk_63_36,
    List.forall_mem_cons.mpr ⟨ok_iload_n hx hb dk_63_39 rfl,
    List.forall_mem_cons.mpr ⟨ok_iald hx hb dk_63_40,
    List.forall_mem_cons.mpr ⟨ok_if_lt hx hb dk_63_41 (by decide),
    List.forall_mem_cons.mpr ⟨ok_aload_n hx hb dk_63_44 rfl,
    List.forall_mem_cons.mpr ⟨ok_getr hx hb hts hown hin_3 rfl (by decide) tw_540 dk_63_45,
    List.forall_mem_cons.mpr ⟨ok_iload_n hx hb dk_63_48 rfl,
    List.forall_mem_cons.mpr ⟨ok_iald hx hb dk_63_49,
    List.forall_mem_cons.mpr ⟨ok_iload_n hx hb dk_63_50 rfl,
    List.forall_mem_cons.mpr ⟨ok_icmp_eq hx hb dk_63_51 (by decide),
    List.forall_mem_cons.mpr ⟨ok_iconst hx hb dk_63_54 rfl,
    List.forall_mem_cons.mpr ⟨ok_zret hx hb hb1 hb2 hr hlocks dk_63_55,
    List.forall_mem_cons.mpr ⟨ok_aload_n hx hb dk_63_56 rfl,
    List.forall_mem_cons.mpr ⟨ok_iload_n hx hb dk_63_57 rfl,
    List.forall_mem_cons.mpr ⟨ok_cV hx hb hml hown hts hb1 hb2 hA hroot hAs rfl rfl rfl (hcal_60 hall) tw_715 tw_717 ts_29 tw_718 tw_5 nm_60 rfl rfl (by show d + 8 + 1 ≤ d + 1 + 8; omega) (by show 8 + (4 + 11) + (200 + 60 * d) ≤ 200 + 60 * (d + 1); omega) dk_63_58,
    List.forall_mem_cons.mpr ⟨ok_aload_n hx hb dk_63_61 rfl,
    List.forall_mem_cons.mpr ⟨ok_iload_n hx hb dk_63_62 rfl,
    List.forall_mem_cons.mpr ⟨ok_cV hx hb hml hown hts hb1 hb2 hA hroot hAs rfl rfl rfl (hcal_47 hall) tw_671 tw_673 ts_23 tw_674 tw_5 nm_47 rfl rfl (by show d + 8 + 1 ≤ d + 1 + 8; omega) (by show 8 + (4 + 11) + (200 + 60 * d) ≤ 200 + 60 * (d + 1); omega) dk_63_63,
    List.forall_mem_cons.mpr ⟨ok_isub hx hb dk_63_66,
    List.forall_mem_cons.mpr ⟨ok_istore_n hx hb dk_63_67 rfl (by decide),
    List.forall_mem_cons.mpr ⟨ok_aload_n hx hb dk_63_68 rfl,
    List.forall_mem_cons.mpr ⟨ok_getr hx hb hts hown hin_3 rfl (by decide) tw_540 dk_63_69,
    List.forall_mem_cons.mpr ⟨ok_iload_n hx hb dk_63_72 rfl,
    List.forall_mem_cons.mpr ⟨ok_iald hx hb dk_63_73,
    List.forall_mem_cons.mpr ⟨ok_if_ge hx hb dk_63_74 (by decide),
    List.forall_mem_cons.mpr ⟨ok_iload_n hx hb dk_63_77 rfl,
    List.forall_mem_cons.mpr ⟨ok_aload_n hx hb dk_63_78 rfl,
    List.forall_mem_cons.mpr ⟨ok_geti hx hb hts hown hin_3 rfl (by decide) tw_545 dk_63_79,
    List.forall_mem_cons.mpr ⟨ok_icmp_gt hx hb dk_63_82 (by decide),
    List.forall_mem_cons.mpr ⟨ok_iload_n hx hb dk_63_85 rfl,
    List.forall_mem_cons.mpr ⟨ok_ineg hx hb dk_63_86,
    List.forall_mem_cons.mpr ⟨ok_aload_n hx hb dk_63_87 rfl,
    List.forall_mem_cons.mpr ⟨ok_geti hx hb hts hown hin_3 rfl (by decide) tw_545 dk_63_88,
    List.forall_mem_cons.mpr ⟨ok_icmp_le hx hb dk_63_91 (by decide),
    List.forall_mem_cons.mpr ⟨ok_iconst hx hb dk_63_94 rfl,
    List.forall_mem_cons.mpr ⟨ok_zret hx hb hb1 hb2 hr hlocks dk_63_95,
    List.forall_mem_cons.mpr ⟨ok_iconst hx hb dk_63_96 rfl,
    List.forall_mem_cons.mpr ⟨ok_istore hx hb dk_63_97 (by decide),
    List.forall_mem_cons.mpr ⟨ok_iconst hx hb dk_63_99 rfl,
    List.forall_mem_cons.mpr ⟨ok_istore hx hb dk_63_100 (by decide),
    List.forall_mem_cons.mpr ⟨ok_iload hx hb dk_63_102,
    List.forall_mem_cons.mpr ⟨ok_bipush hx hb dk_63_104 (by decide),
    List.forall_mem_cons.mpr ⟨ok_icmp_ge hx hb dk_63_106 (by decide),
    List.forall_mem_cons.mpr ⟨ok_aload_n hx hb dk_63_109 rfl,
    List.forall_mem_cons.mpr ⟨ok_getr hx hb hts hown hin_3 rfl (by decide) tw_546 dk_63_110,
    List.forall_mem_cons.mpr ⟨ok_iload hx hb dk_63_113,
    List.forall_mem_cons.mpr ⟨ok_iald hx hb dk_63_115,
    List.forall_mem_cons.mpr ⟨ok_if_lt hx hb dk_63_116 (by decide),
    List.forall_mem_cons.mpr ⟨ok_aload_n hx hb dk_63_119 rfl,
    List.forall_mem_cons.mpr ⟨ok_getr hx hb hts hown hin_3 rfl (by decide) tw_546 dk_63_120,
    List.forall_mem_cons.mpr ⟨ok_iload hx hb dk_63_123,
    List.forall_mem_cons.mpr ⟨ok_iald hx hb dk_63_125,
    List.forall_mem_cons.mpr ⟨ok_iload_n hx hb dk_63_126 rfl,
    List.forall_mem_cons.mpr ⟨ok_icmp_lt hx hb dk_63_127 (by decide),
    List.forall_mem_cons.mpr ⟨ok_aload_n hx hb dk_63_130 rfl,
    List.forall_mem_cons.mpr ⟨ok_getr hx hb hts hown hin_3 rfl (by decide) tw_546 dk_63_131,
    List.forall_mem_cons.mpr ⟨ok_iload hx hb dk_63_134,
    List.forall_mem_cons.mpr ⟨ok_iald hx hb dk_63_136,
    List.forall_mem_cons.mpr ⟨ok_iload_n hx hb dk_63_137 rfl,
    List.forall_mem_cons.mpr ⟨ok_icmp_ne hx hb dk_63_138 (by decide),
    List.forall_mem_cons.mpr ⟨ok_iload hx hb dk_63_141,
    List.forall_mem_cons.mpr ⟨ok_iload_n hx hb dk_63_143 rfl,
    List.forall_mem_cons.mpr ⟨ok_icmp_ge hx hb dk_63_144 (by decide),
    List.forall_mem_cons.mpr ⟨ok_iconst hx hb dk_63_147 rfl,
    List.forall_mem_cons.mpr ⟨ok_goto hx hb dk_63_148 (by decide),
    List.forall_mem_cons.mpr ⟨ok_iconst hx hb dk_63_151 rfl,
    List.forall_mem_cons.mpr ⟨ok_istore hx hb dk_63_152 (by decide),
    List.forall_mem_cons.mpr ⟨ok_iload hx hb dk_63_154,
    List.forall_mem_cons.mpr ⟨ok_if_eq hx hb dk_63_156 (by decide),
    List.forall_mem_cons.mpr ⟨ok_iload hx hb dk_63_159,
    List.forall_mem_cons.mpr ⟨ok_if_eq hx hb dk_63_161 (by decide),
    List.forall_mem_cons.mpr ⟨ok_iload_n hx hb dk_63_164 rfl,
    List.forall_mem_cons.mpr ⟨ok_aload_n hx hb dk_63_165 rfl,
    List.forall_mem_cons.mpr ⟨ok_getr hx hb hts hown hin_3 rfl (by decide) tw_546 dk_63_166,
    List.forall_mem_cons.mpr ⟨ok_iload hx hb dk_63_169,
    List.forall_mem_cons.mpr ⟨ok_iald hx hb dk_63_171,
    List.forall_mem_cons.mpr ⟨ok_isub hx hb dk_63_172,
    List.forall_mem_cons.mpr ⟨ok_aload_n hx hb dk_63_173 rfl,
    List.forall_mem_cons.mpr ⟨ok_getr hx hb hts hown hin_3 rfl (by decide) tw_541 dk_63_174,
    List.forall_mem_cons.mpr ⟨ok_bipush hx hb dk_63_177 (by decide),
    List.forall_mem_cons.mpr ⟨ok_aload_n hx hb dk_63_179 rfl,
    List.forall_mem_cons.mpr ⟨ok_getr hx hb hts hown hin_3 rfl (by decide) tw_535 dk_63_180,
    List.forall_mem_cons.mpr ⟨ok_iload hx hb dk_63_183,
    List.forall_mem_cons.mpr ⟨ok_iald hx hb dk_63_185,
    List.forall_mem_cons.mpr ⟨ok_imul hx hb dk_63_186,
    List.forall_mem_cons.mpr ⟨ok_aload_n hx hb dk_63_187 rfl,
    List.forall_mem_cons.mpr ⟨ok_getr hx hb hts hown hin_3 rfl (by decide) tw_535 dk_63_188,
    List.forall_mem_cons.mpr ⟨ok_iload_n hx hb dk_63_191 rfl,
    List.forall_mem_cons.mpr ⟨ok_iald hx hb dk_63_192,
    List.forall_mem_cons.mpr ⟨ok_iadd hx hb dk_63_193,
    List.forall_mem_cons.mpr ⟨ok_iald hx hb dk_63_194,
    List.forall_mem_cons.mpr ⟨ok_icmp_lt hx hb dk_63_195 (by decide),
    List.forall_mem_cons.mpr ⟨ok_iconst hx hb dk_63_198 rfl,
    List.forall_mem_cons.mpr ⟨ok_goto hx hb dk_63_199 (by decide),
    List.forall_mem_cons.mpr ⟨ok_iconst hx hb dk_63_202 rfl,
    List.forall_mem_cons.mpr ⟨ok_istore hx hb dk_63_203 (by decide),
    List.forall_mem_cons.mpr ⟨ok_iinc hx hb dk_63_205 rfl (by decide),
    List.forall_mem_cons.mpr ⟨ok_goto hx hb dk_63_208 (by decide),
    List.forall_mem_cons.mpr ⟨ok_iload hx hb dk_63_211,
    List.forall_mem_cons.mpr ⟨ok_zret hx hb hb1 hb2 hr hlocks dk_63_213,
    fun _ h => absurd h List.not_mem_nil⟩⟩⟩⟩⟩⟩⟩⟩⟩⟩⟩⟩⟩⟩⟩⟩⟩⟩⟩⟩⟩⟩⟩⟩⟩⟩⟩⟩⟩⟩⟩⟩⟩⟩⟩⟩⟩⟩⟩⟩⟩⟩⟩⟩⟩⟩⟩⟩⟩⟩⟩⟩⟩⟩⟩⟩⟩⟩⟩⟩⟩⟩⟩⟩⟩⟩⟩⟩⟩⟩⟩⟩⟩⟩⟩⟩⟩⟩⟩⟩⟩⟩⟩⟩⟩⟩⟩⟩⟩⟩⟩⟩⟩⟩⟩⟩⟩⟩⟩⟩⟩⟩⟩⟩⟩⟩⟩⟩⟩⟩⟩⟩⟩⟩⟩⟩⟩⟩⟩⟩⟩⟩
theorem dk_64_0 : decode prog_5_method_34_code 0 = .ok (.iconst (0), 1) := by decide +kernel
theorem dk_64_1 : decode prog_5_method_34_code 1 = .ok (.istore_n 1, 1) := by decide +kernel
theorem dk_64_2 : decode prog_5_method_34_code 2 = .ok (.iload_n 1, 1) := by decide +kernel
theorem dk_64_3 : decode prog_5_method_34_code 3 = .ok (.bipush (7), 2) := by decide +kernel
theorem dk_64_5 : decode prog_5_method_34_code 5 = .ok (.if_icmp .ge (37), 3) := by decide +kernel
theorem dk_64_8 : decode prog_5_method_34_code 8 = .ok (.aload_n 0, 1) := by decide +kernel
theorem dk_64_9 : decode prog_5_method_34_code 9 = .ok (.getfield 7, 3) := by decide +kernel
theorem dk_64_12 : decode prog_5_method_34_code 12 = .ok (.iload_n 1, 1) := by decide +kernel
theorem dk_64_13 : decode prog_5_method_34_code 13 = .ok (.baload, 1) := by decide +kernel
theorem dk_64_14 : decode prog_5_method_34_code 14 = .ok (.ifCond .eq (22), 3) := by decide +kernel
theorem dk_64_17 : decode prog_5_method_34_code 17 = .ok (.aload_n 0, 1) := by decide +kernel
theorem dk_64_18 : decode prog_5_method_34_code 18 = .ok (.getfield 45, 3) := by decide +kernel
theorem dk_64_21 : decode prog_5_method_34_code 21 = .ok (.iload_n 1, 1) := by decide +kernel
theorem dk_64_22 : decode prog_5_method_34_code 22 = .ok (.iaload, 1) := by decide +kernel
theorem dk_64_23 : decode prog_5_method_34_code 23 = .ok (.ifCond .lt (11), 3) := by decide +kernel
theorem dk_64_26 : decode prog_5_method_34_code 26 = .ok (.aload_n 0, 1) := by decide +kernel
theorem dk_64_27 : decode prog_5_method_34_code 27 = .ok (.iload_n 1, 1) := by decide +kernel
theorem dk_64_28 : decode prog_5_method_34_code 28 = .ok (.invokevirtual 126, 3) := by decide +kernel
theorem dk_64_31 : decode prog_5_method_34_code 31 = .ok (.ifCond .ne (5), 3) := by decide +kernel
theorem dk_64_34 : decode prog_5_method_34_code 34 = .ok (.iload_n 1, 1) := by decide +kernel
theorem dk_64_35 : decode prog_5_method_34_code 35 = .ok (.ireturn, 1) := by decide +kernel
theorem dk_64_36 : decode prog_5_method_34_code 36 = .ok (.iinc 1 (1), 3) := by decide +kernel
theorem dk_64_39 : decode prog_5_method_34_code 39 = .ok (.goto (-37), 3) := by decide +kernel
theorem dk_64_42 : decode prog_5_method_34_code 42 = .ok (.iconst (-1), 1) := by decide +kernel
theorem dk_64_43 : decode prog_5_method_34_code 43 = .ok (.ireturn, 1) := by decide +kernel
set_option maxRecDepth 100000 in
set_option maxHeartbeats 4000000 in
theorem cc_64 {l : Launch} {s0 : State} (hst : l.stackTraces = false) (h0 : am_W0 s0) {d : Nat} (hall : ∀ mi ∈ am_idx, am_CC l s0 d mi) : am_CC l s0 (d + 1) 64 :=
  am_method (y := y_64) (cc := prog_5_method_34_code) (maxL := 2) (ret := (some .int)) (rm := am_rm (d + 1) 0 0) (ops := op_64) (C := am_T am_tabs am_ar d) (ar := 1) h0 (by decide) (by decide) fun p e s m args below meth c D A bS ad0 Q hct htab => by
    obtain ⟨hx, hb, hml, hown, hts, hb1, hb2, hA, hroot, hAs, -, -, hlocks, hr, hnm⟩ := hct
    exact List.forall_mem_cons.mpr ⟨ok_iconst hx hb dk_64_0 rfl,
    List.forall_mem_cons.mpr ⟨ok_istore_n hx hb dk_64_1 rfl (by decide),
    List.forall_mem_cons.mpr ⟨ok_iload_n hx hb dk_64_2 rfl,
    List.forall_mem_cons.mpr ⟨ok_bipush hx hb dk_64_3 (by decide),
    List.forall_mem_cons.mpr ⟨ok_icmp_ge hx hb dk_64_5 (by decide),
    List.forall_mem_cons.mpr ⟨ok_aload_n hx hb dk_64_8 rfl,
    List.forall_mem_cons.mpr ⟨ok_getr hx hb hts hown hin_3 rfl (by decide) tw_534 dk_64_9,
    List.forall_mem_cons.mpr ⟨ok_iload_n hx hb dk_64_12 rfl,
    List.forall_mem_cons.mpr ⟨ok_zald hx hb dk_64_13,
    List.forall_mem_cons.mpr ⟨ok_if_eq hx hb dk_64_14 (by decide),
    List.forall_mem_cons.mpr ⟨ok_aload_n hx hb dk_64_17 rfl,
    List.forall_mem_cons.mpr ⟨ok_getr hx hb hts hown hin_3 rfl (by decide) tw_546 dk_64_18,
    List.forall_mem_cons.mpr ⟨ok_iload_n hx hb dk_64_21 rfl,
    List.forall_mem_cons.mpr ⟨ok_iald hx hb dk_64_22,
    List.forall_mem_cons.mpr ⟨ok_if_lt hx hb dk_64_23 (by decide),
    List.forall_mem_cons.mpr ⟨ok_aload_n hx hb dk_64_26 rfl,
    List.forall_mem_cons.mpr ⟨ok_iload_n hx hb dk_64_27 rfl,
    List.forall_mem_cons.mpr ⟨ok_cV hx hb hml hown hts hb1 hb2 hA hroot hAs rfl rfl rfl (hcal_63 hall) tw_731 tw_733 ts_31 tw_734 tw_5 nm_63 rfl rfl (by show d + 8 + 1 ≤ d + 1 + 8; omega) (by show 8 + (7 + 11) + (200 + 60 * d) ≤ 200 + 60 * (d + 1); omega) dk_64_28,
    List.forall_mem_cons.mpr ⟨ok_if_ne hx hb dk_64_31 (by decide),
    List.forall_mem_cons.mpr ⟨ok_iload_n hx hb dk_64_34 rfl,
    List.forall_mem_cons.mpr ⟨ok_iret hx hb hb1 hb2 hr hlocks dk_64_35,
    List.forall_mem_cons.mpr ⟨ok_iinc hx hb dk_64_36 rfl (by decide),
    List.forall_mem_cons.mpr ⟨ok_goto hx hb dk_64_39 (by decide),
    List.forall_mem_cons.mpr ⟨ok_iconst hx hb dk_64_42 rfl,
    List.forall_mem_cons.mpr ⟨ok_iret hx hb hb1 hb2 hr hlocks dk_64_43,
    fun _ h => absurd h List.not_mem_nil⟩⟩⟩⟩⟩⟩⟩⟩⟩⟩⟩⟩⟩⟩⟩⟩⟩⟩⟩⟩⟩⟩⟩⟩⟩
theorem dk_65_0 : decode prog_5_method_35_code 0 = .ok (.aload_n 0, 1) := by decide +kernel
theorem dk_65_1 : decode prog_5_method_35_code 1 = .ok (.iconst (0), 1) := by decide +kernel
theorem dk_65_2 : decode prog_5_method_35_code 2 = .ok (.putfield 69, 3) := by decide +kernel
theorem dk_65_5 : decode prog_5_method_35_code 5 = .ok (.aload_n 0, 1) := by decide +kernel
theorem dk_65_6 : decode prog_5_method_35_code 6 = .ok (.invokevirtual 129, 3) := by decide +kernel
theorem dk_65_9 : decode prog_5_method_35_code 9 = .ok (.ireturn, 1) := by decide +kernel
set_option maxRecDepth 100000 in
set_option maxHeartbeats 4000000 in
theorem cc_65 {l : Launch} {s0 : State} (hst : l.stackTraces = false) (h0 : am_W0 s0) {d : Nat} (hall : ∀ mi ∈ am_idx, am_CC l s0 d mi) : am_CC l s0 (d + 1) 65 :=
  am_method (y := y_65) (cc := prog_5_method_35_code) (maxL := 1) (ret := (some .int)) (rm := am_rm (d + 1) 0 0) (ops := op_65) (C := am_T am_tabs am_ar d) (ar := 1) h0 (by decide) (by decide) fun p e s m args below meth c D A bS ad0 Q hct htab => by
    obtain ⟨hx, hb, hml, hown, hts, hb1, hb2, hA, hroot, hAs, -, -, hlocks, hr, hnm⟩ := hct
    exact List.forall_mem_cons.mpr ⟨ok_aload_n hx hb dk_65_0 rfl,
    List.forall_mem_cons.mpr ⟨ok_iconst hx hb dk_65_1 rfl,
    List.forall_mem_cons.mpr ⟨ok_puti hx hb hts hown hin_3 tyF_3 tyF_3_ok nmF_3 rfl (by decide) tw_533 rfl (by decide +kernel) dk_65_2,
    List.forall_mem_cons.mpr ⟨ok_aload_n hx hb dk_65_5 rfl,
    List.forall_mem_cons.mpr ⟨ok_cV hx hb hml hown hts hb1 hb2 hA hroot hAs rfl rfl rfl (hcal_64 hall) tw_727 tw_729 ts_30 tw_730 tw_5 nm_64 rfl rfl (by show d + 8 + 1 ≤ d + 1 + 8; omega) (by show 8 + (2 + 11) + (200 + 60 * d) ≤ 200 + 60 * (d + 1); omega) dk_65_6,
    List.forall_mem_cons.mpr ⟨ok_iret hx hb hb1 hb2 hr hlocks dk_65_9,
    fun _ h => absurd h List.not_mem_nil⟩⟩⟩⟩⟩⟩
theorem dk_66_0 : decode prog_5_method_36_code 0 = .ok (.aload_n 0, 1) := by decide +kernel
theorem dk_66_1 : decode prog_5_method_36_code 1 = .ok (.aload_n 0, 1) := by decide +kernel
theorem dk_66_2 : decode prog_5_method_36_code 2 = .ok (.iload_n 1, 1) := by decide +kernel
theorem dk_66_3 : decode prog_5_method_36_code 3 = .ok (.invokevirtual 76, 3) := by decide +kernel
theorem dk_66_6 : decode prog_5_method_36_code 6 = .ok (.ifCond .ne (7), 3) := by decide +kernel
theorem dk_66_9 : decode prog_5_method_36_code 9 = .ok (.iconst (1), 1) := by decide +kernel
theorem dk_66_10 : decode prog_5_method_36_code 10 = .ok (.goto (15), 3) := by decide +kernel
theorem dk_66_13 : decode prog_5_method_36_code 13 = .ok (.aload_n 0, 1) := by decide +kernel
theorem dk_66_14 : decode prog_5_method_36_code 14 = .ok (.invokevirtual 129, 3) := by decide +kernel
theorem dk_66_17 : decode prog_5_method_36_code 17 = .ok (.ifCond .lt (7), 3) := by decide +kernel
theorem dk_66_20 : decode prog_5_method_36_code 20 = .ok (.iconst (2), 1) := by decide +kernel
theorem dk_66_21 : decode prog_5_method_36_code 21 = .ok (.goto (4), 3) := by decide +kernel
theorem dk_66_24 : decode prog_5_method_36_code 24 = .ok (.iconst (0), 1) := by decide +kernel
theorem dk_66_25 : decode prog_5_method_36_code 25 = .ok (.putfield 69, 3) := by decide +kernel
theorem dk_66_28 : decode prog_5_method_36_code 28 = .ok (.aload_n 0, 1) := by decide +kernel
theorem dk_66_29 : decode prog_5_method_36_code 29 = .ok (.getfield 69, 3) := by decide +kernel
theorem dk_66_32 : decode prog_5_method_36_code 32 = .ok (.ifCond .le (5), 3) := by decide +kernel
theorem dk_66_35 : decode prog_5_method_36_code 35 = .ok (.iconst (0), 1) := by decide +kernel
theorem dk_66_36 : decode prog_5_method_36_code 36 = .ok (.ireturn, 1) := by decide +kernel
theorem dk_66_37 : decode prog_5_method_36_code 37 = .ok (.aload_n 0, 1) := by decide +kernel
theorem dk_66_38 : decode prog_5_method_36_code 38 = .ok (.getfield 45, 3) := by decide +kernel
theorem dk_66_41 : decode prog_5_method_36_code 41 = .ok (.iload_n 1, 1) := by decide +kernel
theorem dk_66_42 : decode prog_5_method_36_code 42 = .ok (.iaload, 1) := by decide +kernel
theorem dk_66_43 : decode prog_5_method_36_code 43 = .ok (.istore_n 2, 1) := by decide +kernel
theorem dk_66_44 : decode prog_5_method_36_code 44 = .ok (.iconst (0), 1) := by decide +kernel
theorem dk_66_45 : decode prog_5_method_36_code 45 = .ok (.istore_n 3, 1) := by decide +kernel
theorem dk_66_46 : decode prog_5_method_36_code 46 = .ok (.iload_n 2, 1) := by decide +kernel
theorem dk_66_47 : decode prog_5_method_36_code 47 = .ok (.iconst (1), 1) := by decide +kernel
theorem dk_66_48 : decode prog_5_method_36_code 48 = .ok (.iadd, 1) := by decide +kernel
theorem dk_66_49 : decode prog_5_method_36_code 49 = .ok (.istore 4, 2) := by decide +kernel
theorem dk_66_51 : decode prog_5_method_36_code 51 = .ok (.iload 4, 2) := by decide +kernel
theorem dk_66_53 : decode prog_5_method_36_code 53 = .ok (.aload_n 0, 1) := by decide +kernel
theorem dk_66_54 : decode prog_5_method_36_code 54 = .ok (.getfield 23, 3) := by decide +kernel
theorem dk_66_57 : decode prog_5_method_36_code 57 = .ok (.iload_n 1, 1) := by decide +kernel
theorem dk_66_58 : decode prog_5_method_36_code 58 = .ok (.iaload, 1) := by decide +kernel
theorem dk_66_59 : decode prog_5_method_36_code 59 = .ok (.if_icmp .gt (33), 3) := by decide +kernel
theorem dk_66_62 : decode prog_5_method_36_code 62 = .ok (.aload_n 0, 1) := by decide +kernel
theorem dk_66_63 : decode prog_5_method_36_code 63 = .ok (.getfield 45, 3) := by decide +kernel
theorem dk_66_66 : decode prog_5_method_36_code 66 = .ok (.iload_n 1, 1) := by decide +kernel
theorem dk_66_67 : decode prog_5_method_36_code 67 = .ok (.iload 4, 2) := by decide +kernel
theorem dk_66_69 : decode prog_5_method_36_code 69 = .ok (.iastore, 1) := by decide +kernel
theorem dk_66_70 : decode prog_5_method_36_code 70 = .ok (.aload_n 0, 1) := by decide +kernel
theorem dk_66_71 : decode prog_5_method_36_code 71 = .ok (.invokevirtual 129, 3) := by decide +kernel
theorem dk_66_74 : decode prog_5_method_36_code 74 = .ok (.ifCond .ge (10), 3) := by decide +kernel
theorem dk_66_77 : decode prog_5_method_36_code 77 = .ok (.iload 4, 2) := by decide +kernel
theorem dk_66_79 : decode prog_5_method_36_code 79 = .ok (.iload_n 2, 1) := by decide +kernel
theorem dk_66_80 : decode prog_5_method_36_code 80 = .ok (.isub, 1) := by decide +kernel
theorem dk_66_81 : decode prog_5_method_36_code 81 = .ok (.goto (4), 3) := by decide +kernel
theorem dk_66_84 : decode prog_5_method_36_code 84 = .ok (.iload_n 3, 1) := by decide +kernel
theorem dk_66_85 : decode prog_5_method_36_code 85 = .ok (.istore_n 3, 1) := by decide +kernel
theorem dk_66_86 : decode prog_5_method_36_code 86 = .ok (.iinc 4 (1), 3) := by decide +kernel
theorem dk_66_89 : decode prog_5_method_36_code 89 = .ok (.goto (-38), 3) := by decide +kernel
theorem dk_66_92 : decode prog_5_method_36_code 92 = .ok (.aload_n 0, 1) := by decide +kernel
theorem dk_66_93 : decode prog_5_method_36_code 93 = .ok (.getfield 45, 3) := by decide +kernel
theorem dk_66_96 : decode prog_5_method_36_code 96 = .ok (.iload_n 1, 1) := by decide +kernel
theorem dk_66_97 : decode prog_5_method_36_code 97 = .ok (.iload_n 2, 1) := by decide +kernel
theorem dk_66_98 : decode prog_5_method_36_code 98 = .ok (.iastore, 1) := by decide +kernel
theorem dk_66_99 : decode prog_5_method_36_code 99 = .ok (.iload_n 3, 1) := by decide +kernel
theorem dk_66_100 : decode prog_5_method_36_code 100 = .ok (.ireturn, 1) := by decide +kernel
set_option maxRecDepth 100000 in
set_option maxHeartbeats 4000000 in
theorem cc_66 {l : Launch} {s0 : State} (hst : l.stackTraces = false) (h0 : am_W0 s0) {d : Nat} (hall : ∀ mi ∈ am_idx, am_CC l s0 d mi) : am_CC l s0 (d + 1) 66 :=
  am_method (y := y_66) (cc := prog_5_method_36_code) (maxL := 5) (ret := (some .int)) (rm := am_rm (d + 1) 0 0) (ops := op_66) (C := am_T am_tabs am_ar d) (ar := 2) h0 (by decide) (by decide) fun p e s m args below meth c D A bS ad0 Q hct htab => by
    obtain ⟨hx, hb, hml, hown, hts, hb1, hb2, hA, hroot, hAs, -, -, hlocks, hr, hnm⟩ := hct
    exact List.forall_mem_cons.mpr ⟨ok_aload_n hx hb dk_66_0 rfl,
    List.forall_mem_cons.mpr ⟨ok_aload_n hx hb dk_66_1 rfl,
    List.forall_mem_cons.mpr ⟨ok_iload_n hx hb dk_66_2 rfl,
    List.forall_mem_cons.mpr ⟨ok_cV hx hb hml hown hts hb1 hb2 hA hroot hAs rfl rfl rfl (hcal_33 hall) tw_620 tw_622 ts_18 tw_623 tw_5 nm_33 rfl rfl (by show d + 8 + 1 ≤ d + 1 + 8; omega) (by show 8 + (2 + 11) + (200 + 60 * d) ≤ 200 + 60 * (d + 1); omega) dk_66_3,
    List.forall_mem_cons.mpr ⟨ok_if_ne hx hb dk_66_6 (by decide),
    List.forall_mem_cons.mpr ⟨ok_iconst hx hb dk_66_9 rfl,
    List.forall_mem_cons.mpr ⟨ok_goto hx hb dk_66_10 (by decide),
    List.forall_mem_cons.mpr ⟨ok_aload_n hx hb dk_66_13 rfl,
    List.forall_mem_cons.mpr ⟨ok_cV hx hb hml hown hts hb1 hb2 hA hroot hAs rfl rfl rfl (hcal_64 hall) tw_727 tw_729 ts_30 tw_730 tw_5 nm_64 rfl rfl (by show d + 8 + 1 ≤ d + 1 + 8; omega) (by show 8 + (2 + 11) + (200 + 60 * d) ≤ 200 + 60 * (d + 1); omega) dk_66_14,
    List.forall_mem_cons.mpr ⟨ok_if_lt hx hb dk_66_17 (by decide),
    List.forall_mem_cons.mpr ⟨ok_iconst hx hb dk_66_20 rfl,
    List.forall_mem_cons.mpr ⟨ok_goto hx hb dk_66_21 (by decide),
    List.forall_mem_cons.mpr ⟨ok_iconst hx hb dk_66_24 rfl,
    List.forall_mem_cons.mpr ⟨ok_puti hx hb hts hown hin_3 tyF_3 tyF_3_ok nmF_3 rfl (by decide) tw_533 rfl (by decide +kernel) dk_66_25,
    List.forall_mem_cons.mpr ⟨ok_aload_n hx hb dk_66_28 rfl,
    List.forall_mem_cons.mpr ⟨ok_geti hx hb hts hown hin_3 rfl (by decide) tw_533 dk_66_29,
    List.forall_mem_cons.mpr ⟨ok_if_le hx hb dk_66_32 (by decide),
    List.forall_mem_cons.mpr ⟨ok_iconst hx hb dk_66_35 rfl,
    List.forall_mem_cons.mpr ⟨ok_iret hx hb hb1 hb2 hr hlocks dk_66_36,
    List.forall_mem_cons.mpr ⟨ok_aload_n hx hb dk_66_37 rfl,
    List.forall_mem_cons.mpr ⟨ok_getr hx hb hts hown hin_3 rfl (by decide) tw_546 dk_66_38,
    List.forall_mem_cons.mpr ⟨ok_iload_n hx hb dk_66_41 rfl,
    List.forall_mem_cons.mpr ⟨ok_iald hx hb dk_66_42,
    List.forall_mem_cons.mpr ⟨ok_istore_n hx hb dk_66_43 rfl (by decide),
    List.forall_mem_cons.mpr ⟨ok_iconst hx hb dk_66_44 rfl,
    List.forall_mem_cons.mpr ⟨ok_istore_n hx hb dk_66_45 rfl (by decide),
    List.forall_mem_cons.mpr ⟨ok_iload_n hx hb dk_66_46 rfl,
    List.forall_mem_cons.mpr ⟨ok_iconst hx hb dk_66_47 rfl,
    List.forall_mem_cons.mpr ⟨ok_iadd hx hb dk_66_48,
    List.forall_mem_cons.mpr ⟨ok_istore hx hb dk_66_49 (by decide),
    List.forall_mem_cons.mpr ⟨ok_iload hx hb dk_66_51,
    List.forall_mem_cons.mpr ⟨ok_aload_n hx hb dk_66_53 rfl,
    List.forall_mem_cons.mpr ⟨ok_getr hx hb hts hown hin_3 rfl (by decide) tw_538 dk_66_54,
    List.forall_mem_cons.mpr ⟨ok_iload_n hx hb dk_66_57 rfl,
    List.forall_mem_cons.mpr ⟨ok_iald hx hb dk_66_58,
    List.forall_mem_cons.mpr ⟨ok_icmp_gt hx hb dk_66_59 (by decide),
    List.forall_mem_cons.mpr ⟨ok_aload_n hx hb dk_66_62 rfl,
    List.forall_mem_cons.mpr ⟨ok_getr hx hb hts hown hin_3 rfl (by decide) tw_546 dk_66_63,
    List.forall_mem_cons.mpr ⟨ok_iload_n hx hb dk_66_66 rfl,
    List.forall_mem_cons.mpr ⟨ok_iload hx hb dk_66_67,
    List.forall_mem_cons.mpr ⟨ok_iast hx hb dk_66_69,
    List.forall_mem_cons.mpr ⟨ok_aload_n hx hb dk_66_70 rfl,
    List.forall_mem_cons.mpr ⟨ok_cV hx hb hml hown hts hb1 hb2 hA hroot hAs rfl rfl rfl (hcal_64 hall) tw_727 tw_729 ts_30 tw_730 tw_5 nm_64 rfl rfl (by show d + 8 + 1 ≤ d + 1 + 8; omega) (by show 8 + (2 + 11) + (200 + 60 * d) ≤ 200 + 60 * (d + 1); omega) dk_66_71,
    List.forall_mem_cons.mpr ⟨ok_if_ge hx hb dk_66_74 (by decide),
    List.forall_mem_cons.mpr ⟨ok_iload hx hb dk_66_77,
    List.forall_mem_cons.mpr ⟨ok_iload_n hx hb dk_66_79 rfl,
    List.forall_mem_cons.mpr ⟨ok_isub hx hb dk_66_80,
    List.forall_mem_cons.mpr ⟨ok_goto hx hb dk_66_81 (by decide),
    List.forall_mem_cons.mpr ⟨ok_iload_n hx hb dk_66_84 rfl,
    List.forall_mem_cons.mpr ⟨ok_istore_n hx hb dk_66_85 rfl (by decide),
    List.forall_mem_cons.mpr ⟨ok_iinc hx hb dk_66_86 rfl (by decide),
    List.forall_mem_cons.mpr ⟨ok_goto hx hb dk_66_89 (by decide),
    List.forall_mem_cons.mpr ⟨ok_aload_n hx hb dk_66_92 rfl,
    List.forall_mem_cons.mpr ⟨ok_getr hx hb hts hown hin_3 rfl (by decide) tw_546 dk_66_93,
    List.forall_mem_cons.mpr ⟨ok_iload_n hx hb dk_66_96 rfl,
    List.forall_mem_cons.mpr ⟨ok_iload_n hx hb dk_66_97 rfl,
    List.forall_mem_cons.mpr ⟨ok_iast hx hb dk_66_98,
    List.forall_mem_cons.mpr ⟨ok_iload_n hx hb dk_66_99 rfl,
    List.forall_mem_cons.mpr ⟨ok_iret hx hb hb1 hb2 hr hlocks dk_66_100,
    fun _ h => absurd h List.not_mem_nil⟩⟩⟩⟩⟩⟩⟩⟩⟩⟩⟩⟩⟩⟩⟩⟩⟩⟩⟩⟩⟩⟩⟩⟩⟩⟩⟩⟩⟩⟩⟩⟩⟩⟩⟩⟩⟩⟩⟩⟩⟩⟩⟩⟩⟩⟩⟩⟩⟩⟩⟩⟩⟩⟩⟩⟩⟩⟩⟩
theorem dk_67_0 : decode prog_5_method_37_code 0 = .ok (.aload_n 0, 1) := by decide +kernel
theorem dk_67_1 : decode prog_5_method_37_code 1 = .ok (.iconst (0), 1) := by decide +kernel
theorem dk_67_2 : decode prog_5_method_37_code 2 = .ok (.putfield 69, 3) := by decide +kernel
theorem dk_67_5 : decode prog_5_method_37_code 5 = .ok (.iconst (0), 1) := by decide +kernel
theorem dk_67_6 : decode prog_5_method_37_code 6 = .ok (.istore_n 1, 1) := by decide +kernel
theorem dk_67_7 : decode prog_5_method_37_code 7 = .ok (.iconst (0), 1) := by decide +kernel
theorem dk_67_8 : decode prog_5_method_37_code 8 = .ok (.istore_n 2, 1) := by decide +kernel
theorem dk_67_9 : decode prog_5_method_37_code 9 = .ok (.iload_n 2, 1) := by decide +kernel
theorem dk_67_10 : decode prog_5_method_37_code 10 = .ok (.bipush (7), 2) := by decide +kernel
theorem dk_67_12 : decode prog_5_method_37_code 12 = .ok (.if_icmp .ge (44), 3) := by decide +kernel
theorem dk_67_15 : decode prog_5_method_37_code 15 = .ok (.aload_n 0, 1) := by decide +kernel
theorem dk_67_16 : decode prog_5_method_37_code 16 = .ok (.getfield 45, 3) := by decide +kernel
theorem dk_67_19 : decode prog_5_method_37_code 19 = .ok (.iload_n 2, 1) := by decide +kernel
theorem dk_67_20 : decode prog_5_method_37_code 20 = .ok (.iaload, 1) := by decide +kernel
theorem dk_67_21 : decode prog_5_method_37_code 21 = .ok (.aload_n 0, 1) := by decide +kernel
theorem dk_67_22 : decode prog_5_method_37_code 22 = .ok (.getfield 48, 3) := by decide +kernel
theorem dk_67_25 : decode prog_5_method_37_code 25 = .ok (.iload_n 2, 1) := by decide +kernel
theorem dk_67_26 : decode prog_5_method_37_code 26 = .ok (.iaload, 1) := by decide +kernel
theorem dk_67_27 : decode prog_5_method_37_code 27 = .ok (.if_icmp .eq (9), 3) := by decide +kernel
theorem dk_67_30 : decode prog_5_method_37_code 30 = .ok (.iload_n 1, 1) := by decide +kernel
theorem dk_67_31 : decode prog_5_method_37_code 31 = .ok (.iconst (1), 1) := by decide +kernel
theorem dk_67_32 : decode prog_5_method_37_code 32 = .ok (.iadd, 1) := by decide +kernel
theorem dk_67_33 : decode prog_5_method_37_code 33 = .ok (.goto (4), 3) := by decide +kernel
theorem dk_67_36 : decode prog_5_method_37_code 36 = .ok (.iload_n 1, 1) := by decide +kernel
theorem dk_67_37 : decode prog_5_method_37_code 37 = .ok (.istore_n 1, 1) := by decide +kernel
theorem dk_67_38 : decode prog_5_method_37_code 38 = .ok (.aload_n 0, 1) := by decide +kernel
theorem dk_67_39 : decode prog_5_method_37_code 39 = .ok (.getfield 48, 3) := by decide +kernel
theorem dk_67_42 : decode prog_5_method_37_code 42 = .ok (.iload_n 2, 1) := by decide +kernel
theorem dk_67_43 : decode prog_5_method_37_code 43 = .ok (.aload_n 0, 1) := by decide +kernel
theorem dk_67_44 : decode prog_5_method_37_code 44 = .ok (.getfield 45, 3) := by decide +kernel
theorem dk_67_47 : decode prog_5_method_37_code 47 = .ok (.iload_n 2, 1) := by decide +kernel
theorem dk_67_48 : decode prog_5_method_37_code 48 = .ok (.iaload, 1) := by decide +kernel
theorem dk_67_49 : decode prog_5_method_37_code 49 = .ok (.iastore, 1) := by decide +kernel
theorem dk_67_50 : decode prog_5_method_37_code 50 = .ok (.iinc 2 (1), 3) := by decide +kernel
theorem dk_67_53 : decode prog_5_method_37_code 53 = .ok (.goto (-44), 3) := by decide +kernel
theorem dk_67_56 : decode prog_5_method_37_code 56 = .ok (.iload_n 1, 1) := by decide +kernel
theorem dk_67_57 : decode prog_5_method_37_code 57 = .ok (.ireturn, 1) := by decide +kernel
set_option maxRecDepth 100000 in
set_option maxHeartbeats 4000000 in
theorem cc_67 {l : Launch} {s0 : State} (hst : l.stackTraces = false) (h0 : am_W0 s0) {d : Nat} (hall : ∀ mi ∈ am_idx, am_CC l s0 d mi) : am_CC l s0 (d + 1) 67 :=
  am_method (y := y_67) (cc := prog_5_method_37_code) (maxL := 3) (ret := (some .int)) (rm := am_rm (d + 1) 0 0) (ops := op_67) (C := am_T am_tabs am_ar d) (ar := 1) h0 (by decide) (by decide) fun p e s m args below meth c D A bS ad0 Q hct htab => by
    obtain ⟨hx, hb, hml, hown, hts, hb1, hb2, hA, hroot, hAs, -, -, hlocks, hr, hnm⟩ := hct
    exact List.forall_mem_cons.mpr ⟨ok_aload_n hx hb dk_67_0 rfl,
    List.forall_mem_cons.mpr ⟨ok_iconst hx hb dk_67_1 rfl,
    List.forall_mem_cons.mpr ⟨ok_puti hx hb hts hown hin_3 tyF_3 tyF_3_ok nmF_3 rfl (by decide) tw_533 rfl (by decide +kernel) dk_67_2,
    List.forall_mem_cons.mpr ⟨ok_iconst hx hb dk_67_5 rfl,
    List.forall_mem_cons.mpr ⟨ok_istore_n hx hb dk_67_6 rfl (by decide),
    List.forall_mem_cons.mpr ⟨ok_iconst hx hb dk_67_7 rfl,
    List.forall_mem_cons.mpr ⟨ok_istore_n hx hb dk_67_8 rfl (by decide),
    List.forall_mem_cons.mpr ⟨ok_iload_n hx hb dk_67_9 rfl,
    List.forall_mem_cons.mpr ⟨ok_bipush hx hb dk_67_10 (by decide),
    List.forall_mem_cons.mpr ⟨ok_icmp_ge hx hb dk_67_12 (by decide),
    List.forall_mem_cons.mpr ⟨ok_aload_n hx hb dk_67_15 rfl,
    List.forall_mem_cons.mpr ⟨ok_getr hx hb hts hown hin_3 rfl (by decide) tw_546 dk_67_16,
    List.forall_mem_cons.mpr ⟨ok_iload_n hx hb dk_67_19 rfl,
    List.forall_mem_cons.mpr ⟨ok_iald hx hb dk_67_20,
    List.forall_mem_cons.mpr ⟨ok_aload_n hx hb dk_67_21 rfl,
    List.forall_mem_cons.mpr ⟨ok_getr hx hb hts hown hin_3 rfl (by decide) tw_547 dk_67_22,
    List.forall_mem_cons.mpr ⟨ok_iload_n hx hb dk_67_25 rfl,
    List.forall_mem_cons.mpr ⟨ok_iald hx hb dk_67_26,
    List.forall_mem_cons.mpr ⟨ok_icmp_eq hx hb dk_67_27 (by decide),
    List.forall_mem_cons.mpr ⟨ok_iload_n hx hb dk_67_30 rfl,
    List.forall_mem_cons.mpr ⟨ok_iconst hx hb dk_67_31 rfl,
    List.forall_mem_cons.mpr ⟨ok_iadd hx hb dk_67_32,
    List.forall_mem_cons.mpr ⟨ok_goto hx hb dk_67_33 (by decide),
    List.forall_mem_cons.mpr ⟨ok_iload_n hx hb dk_67_36 rfl,
    List.forall_mem_cons.mpr ⟨ok_istore_n hx hb dk_67_37 rfl (by decide),
    List.forall_mem_cons.mpr ⟨ok_aload_n hx hb dk_67_38 rfl,
    List.forall_mem_cons.mpr ⟨ok_getr hx hb hts hown hin_3 rfl (by decide) tw_547 dk_67_39,
    List.forall_mem_cons.mpr ⟨ok_iload_n hx hb dk_67_42 rfl,
    List.forall_mem_cons.mpr ⟨ok_aload_n hx hb dk_67_43 rfl,
    List.forall_mem_cons.mpr ⟨ok_getr hx hb hts hown hin_3 rfl (by decide) tw_546 dk_67_44,
    List.forall_mem_cons.mpr ⟨ok_iload_n hx hb dk_67_47 rfl,
    List.forall_mem_cons.mpr ⟨ok_iald hx hb dk_67_48,
    List.forall_mem_cons.mpr ⟨ok_iast hx hb dk_67_49,
    List.forall_mem_cons.mpr ⟨ok_iinc hx hb dk_67_50 rfl (by decide),
    List.forall_mem_cons.mpr ⟨ok_goto hx hb dk_67_53 (by decide),
    List.forall_mem_cons.mpr ⟨ok_iload_n hx hb dk_67_56 rfl,
    List.forall_mem_cons.mpr ⟨ok_iret hx hb hb1 hb2 hr hlocks dk_67_57,
    fun _ h => absurd h List.not_mem_nil⟩⟩⟩⟩⟩⟩⟩⟩⟩⟩⟩⟩⟩⟩⟩⟩⟩⟩⟩⟩⟩⟩⟩⟩⟩⟩⟩⟩⟩⟩⟩⟩⟩⟩⟩⟩⟩
theorem dk_68_0 : decode prog_5_method_38_code 0 = .ok (.iconst (-1), 1) := by decide +kernel
theorem dk_68_1 : decode prog_5_method_38_code 1 = .ok (.istore_n 3, 1) := by decide +kernel
theorem dk_68_2 : decode prog_5_method_38_code 2 = .ok (.iconst (0), 1) := by decide +kernel
theorem dk_68_3 : decode prog_5_method_38_code 3 = .ok (.istore 4, 2) := by decide +kernel
theorem dk_68_5 : decode prog_5_method_38_code 5 = .ok (.iconst (0), 1) := by decide +kernel
theorem dk_68_6 : decode prog_5_method_38_code 6 = .ok (.istore 5, 2) := by decide +kernel
theorem dk_68_8 : decode prog_5_method_38_code 8 = .ok (.iload 5, 2) := by decide +kernel
theorem dk_68_10 : decode prog_5_method_38_code 10 = .ok (.bipush (7), 2) := by decide +kernel
theorem dk_68_12 : decode prog_5_method_38_code 12 = .ok (.if_icmp .ge (67), 3) := by decide +kernel
theorem dk_68_15 : decode prog_5_method_38_code 15 = .ok (.aload_n 0, 1) := by decide +kernel
theorem dk_68_16 : decode prog_5_method_38_code 16 = .ok (.getfield 45, 3) := by decide +kernel
theorem dk_68_19 : decode prog_5_method_38_code 19 = .ok (.iload 5, 2) := by decide +kernel
theorem dk_68_21 : decode prog_5_method_38_code 21 = .ok (.iaload, 1) := by decide +kernel
theorem dk_68_22 : decode prog_5_method_38_code 22 = .ok (.aload_n 0, 1) := by decide +kernel
theorem dk_68_23 : decode prog_5_method_38_code 23 = .ok (.getfield 48, 3) := by decide +kernel
theorem dk_68_26 : decode prog_5_method_38_code 26 = .ok (.iload 5, 2) := by decide +kernel
theorem dk_68_28 : decode prog_5_method_38_code 28 = .ok (.iaload, 1) := by decide +kernel
theorem dk_68_29 : decode prog_5_method_38_code 29 = .ok (.if_icmp .eq (14), 3) := by decide +kernel
theorem dk_68_32 : decode prog_5_method_38_code 32 = .ok (.iload 4, 2) := by decide +kernel
theorem dk_68_34 : decode prog_5_method_38_code 34 = .ok (.iload_n 1, 1) := by decide +kernel
theorem dk_68_35 : decode prog_5_method_38_code 35 = .ok (.if_icmp .ne (8), 3) := by decide +kernel
theorem dk_68_38 : decode prog_5_method_38_code 38 = .ok (.iload 5, 2) := by decide +kernel
theorem dk_68_40 : decode prog_5_method_38_code 40 = .ok (.goto (4), 3) := by decide +kernel
theorem dk_68_43 : decode prog_5_method_38_code 43 = .ok (.iload_n 3, 1) := by decide +kernel
theorem dk_68_44 : decode prog_5_method_38_code 44 = .ok (.istore_n 3, 1) := by decide +kernel
theorem dk_68_45 : decode prog_5_method_38_code 45 = .ok (.aload_n 0, 1) := by decide +kernel
theorem dk_68_46 : decode prog_5_method_38_code 46 = .ok (.getfield 45, 3) := by decide +kernel
theorem dk_68_49 : decode prog_5_method_38_code 49 = .ok (.iload 5, 2) := by decide +kernel
theorem dk_68_51 : decode prog_5_method_38_code 51 = .ok (.iaload, 1) := by decide +kernel
theorem dk_68_52 : decode prog_5_method_38_code 52 = .ok (.aload_n 0, 1) := by decide +kernel
theorem dk_68_53 : decode prog_5_method_38_code 53 = .ok (.getfield 48, 3) := by decide +kernel
theorem dk_68_56 : decode prog_5_method_38_code 56 = .ok (.iload 5, 2) := by decide +kernel
theorem dk_68_58 : decode prog_5_method_38_code 58 = .ok (.iaload, 1) := by decide +kernel
theorem dk_68_59 : decode prog_5_method_38_code 59 = .ok (.if_icmp .eq (10), 3) := by decide +kernel
theorem dk_68_62 : decode prog_5_method_38_code 62 = .ok (.iload 4, 2) := by decide +kernel
theorem dk_68_64 : decode prog_5_method_38_code 64 = .ok (.iconst (1), 1) := by decide +kernel
theorem dk_68_65 : decode prog_5_method_38_code 65 = .ok (.iadd, 1) := by decide +kernel
theorem dk_68_66 : decode prog_5_method_38_code 66 = .ok (.goto (5), 3) := by decide +kernel
theorem dk_68_69 : decode prog_5_method_38_code 69 = .ok (.iload 4, 2) := by decide +kernel
theorem dk_68_71 : decode prog_5_method_38_code 71 = .ok (.istore 4, 2) := by decide +kernel
theorem dk_68_73 : decode prog_5_method_38_code 73 = .ok (.iinc 5 (1), 3) := by decide +kernel
theorem dk_68_76 : decode prog_5_method_38_code 76 = .ok (.goto (-68), 3) := by decide +kernel
theorem dk_68_79 : decode prog_5_method_38_code 79 = .ok (.aload_n 0, 1) := by decide +kernel
theorem dk_68_80 : decode prog_5_method_38_code 80 = .ok (.iload_n 3, 1) := by decide +kernel
theorem dk_68_81 : decode prog_5_method_38_code 81 = .ok (.ifCond .ge (7), 3) := by decide +kernel
theorem dk_68_84 : decode prog_5_method_38_code 84 = .ok (.iconst (1), 1) := by decide +kernel
theorem dk_68_85 : decode prog_5_method_38_code 85 = .ok (.goto (17), 3) := by decide +kernel
theorem dk_68_88 : decode prog_5_method_38_code 88 = .ok (.iload_n 2, 1) := by decide +kernel
theorem dk_68_89 : decode prog_5_method_38_code 89 = .ok (.ifCond .lt (8), 3) := by decide +kernel
theorem dk_68_92 : decode prog_5_method_38_code 92 = .ok (.iload_n 2, 1) := by decide +kernel
theorem dk_68_93 : decode prog_5_method_38_code 93 = .ok (.iconst (2), 1) := by decide +kernel
theorem dk_68_94 : decode prog_5_method_38_code 94 = .ok (.if_icmp .le (7), 3) := by decide +kernel
theorem dk_68_97 : decode prog_5_method_38_code 97 = .ok (.iconst (2), 1) := by decide +kernel
theorem dk_68_98 : decode prog_5_method_38_code 98 = .ok (.goto (4), 3) := by decide +kernel
theorem dk_68_101 : decode prog_5_method_38_code 101 = .ok (.iconst (0), 1) := by decide +kernel
theorem dk_68_102 : decode prog_5_method_38_code 102 = .ok (.putfield 69, 3) := by decide +kernel
theorem dk_68_105 : decode prog_5_method_38_code 105 = .ok (.aload_n 0, 1) := by decide +kernel
theorem dk_68_106 : decode prog_5_method_38_code 106 = .ok (.getfield 69, 3) := by decide +kernel
theorem dk_68_109 : decode prog_5_method_38_code 109 = .ok (.ifCond .le (5), 3) := by decide +kernel
theorem dk_68_112 : decode prog_5_method_38_code 112 = .ok (.iconst (0), 1) := by decide +kernel
theorem dk_68_113 : decode prog_5_method_38_code 113 = .ok (.ireturn, 1) := by decide +kernel
theorem dk_68_114 : decode prog_5_method_38_code 114 = .ok (.iload_n 2, 1) := by decide +kernel
theorem dk_68_115 : decode prog_5_method_38_code 115 = .ok (.ifCond .ne (7), 3) := by decide +kernel
theorem dk_68_118 : decode prog_5_method_38_code 118 = .ok (.iload_n 3, 1) := by decide +kernel
theorem dk_68_119 : decode prog_5_method_38_code 119 = .ok (.goto (23), 3) := by decide +kernel
theorem dk_68_122 : decode prog_5_method_38_code 122 = .ok (.iload_n 2, 1) := by decide +kernel
theorem dk_68_123 : decode prog_5_method_38_code 123 = .ok (.iconst (1), 1) := by decide +kernel
theorem dk_68_124 : decode prog_5_method_38_code 124 = .ok (.if_icmp .ne (12), 3) := by decide +kernel
theorem dk_68_127 : decode prog_5_method_38_code 127 = .ok (.aload_n 0, 1) := by decide +kernel
theorem dk_68_128 : decode prog_5_method_38_code 128 = .ok (.getfield 48, 3) := by decide +kernel
theorem dk_68_131 : decode prog_5_method_38_code 131 = .ok (.iload_n 3, 1) := by decide +kernel
theorem dk_68_132 : decode prog_5_method_38_code 132 = .ok (.iaload, 1) := by decide +kernel
theorem dk_68_133 : decode prog_5_method_38_code 133 = .ok (.goto (9), 3) := by decide +kernel
theorem dk_68_136 : decode prog_5_method_38_code 136 = .ok (.aload_n 0, 1) := by decide +kernel
theorem dk_68_137 : decode prog_5_method_38_code 137 = .ok (.getfield 45, 3) := by decide +kernel
theorem dk_68_140 : decode prog_5_method_38_code 140 = .ok (.iload_n 3, 1) := by decide +kernel
theorem dk_68_141 : decode prog_5_method_38_code 141 = .ok (.iaload, 1) := by decide +kernel
theorem dk_68_142 : decode prog_5_method_38_code 142 = .ok (.ireturn, 1) := by decide +kernel
set_option maxRecDepth 100000 in
set_option maxHeartbeats 4000000 in
theorem cc_68 {l : Launch} {s0 : State} (hst : l.stackTraces = false) (h0 : am_W0 s0) {d : Nat} (hall : ∀ mi ∈ am_idx, am_CC l s0 d mi) : am_CC l s0 (d + 1) 68 :=
  am_method (y := y_68) (cc := prog_5_method_38_code) (maxL := 6) (ret := (some .int)) (rm := am_rm (d + 1) 0 0) (ops := op_68) (C := am_T am_tabs am_ar d) (ar := 3) h0 (by decide) (by decide) fun p e s m args below meth c D A bS ad0 Q hct htab => by
    obtain ⟨hx, hb, hml, hown, hts, hb1, hb2, hA, hroot, hAs, -, -, hlocks, hr, hnm⟩ := hct
    exact List.forall_mem_cons.mpr ⟨ok_iconst hx hb dk_68_0 rfl,
    List.forall_mem_cons.mpr ⟨ok_istore_n hx hb dk_68_1 rfl (by decide),
    List.forall_mem_cons.mpr ⟨ok_iconst hx hb dk_68_2 rfl,
    List.forall_mem_cons.mpr ⟨ok_istore hx hb dk_68_3 (by decide),
    List.forall_mem_cons.mpr ⟨ok_iconst hx hb dk_68_5 rfl,
    List.forall_mem_cons.mpr ⟨ok_istore hx hb dk_68_6 (by decide),
    List.forall_mem_cons.mpr ⟨ok_iload hx hb dk_68_8,
    List.forall_mem_cons.mpr ⟨ok_bipush hx hb dk_68_10 (by decide),
    List.forall_mem_cons.mpr ⟨ok_icmp_ge hx hb dk_68_12 (by decide),
    List.forall_mem_cons.mpr ⟨ok_aload_n hx hb dk_68_15 rfl,
    List.forall_mem_cons.mpr ⟨ok_getr hx hb hts hown hin_3 rfl (by decide) tw_546 dk_68_16,
    List.forall_mem_cons.mpr ⟨ok_iload hx hb dk_68_19,
    List.forall_mem_cons.mpr ⟨ok_iald hx hb dk_68_21,
    List.forall_mem_cons.mpr ⟨ok_aload_n hx hb dk_68_22 rfl,
    List.forall_mem_cons.mpr ⟨ok_getr hx hb hts hown hin_3 rfl (by decide) tw_547 dk_68_23,
    List.forall_mem_cons.mpr ⟨ok_iload hx hb dk_68_26,
    List.forall_mem_cons.mpr ⟨ok_iald hx hb dk_68_28,
    List.forall_mem_cons.mpr ⟨ok_icmp_eq hx hb dk_68_29 (by decide),
    List.forall_mem_cons.mpr ⟨ok_iload hx hb dk_68_32,
    List.forall_mem_cons.mpr ⟨ok_iload_n hx hb dk_68_34 rfl,
    List.forall_mem_cons.mpr ⟨ok_icmp_ne hx hb dk_68_35 (by decide),
    List.forall_mem_cons.mpr ⟨ok_iload hx hb dk_68_38,
    List.forall_mem_cons.mpr ⟨ok_goto hx hb dk_68_40 (by decide),
    List.forall_mem_cons.mpr ⟨ok_iload_n hx hb dk_68_43 rfl,
    List.forall_mem_cons.mpr ⟨ok_istore_n hx hb dk_68_44 rfl (by decide),
    List.forall_mem_cons.mpr ⟨ok_aload_n hx hb dk_68_45 rfl,
    List.forall_mem_cons.mpr ⟨ok_getr hx hb hts hown hin_3 rfl (by decide) tw_546 dk_68_46,
    List.forall_mem_cons.mpr ⟨ok_iload hx hb dk_68_49,
    List.forall_mem_cons.mpr ⟨ok_iald hx hb dk_68_51,
    List.forall_mem_cons.mpr ⟨ok_aload_n hx hb dk_68_52 rfl,
    List.forall_mem_cons.mpr ⟨ok_getr hx hb hts hown hin_3 rfl (by decide) tw_547 dk_68_53,
    List.forall_mem_cons.mpr ⟨ok_iload hx hb dk_68_56,
    List.forall_mem_cons.mpr ⟨ok_iald hx hb dk_68_58,
    List.forall_mem_cons.mpr ⟨ok_icmp_eq hx hb dk_68_59 (by decide),
    List.forall_mem_cons.mpr ⟨ok_iload hx hb dk_68_62,
    List.forall_mem_cons.mpr ⟨ok_iconst hx hb dk_68_64 rfl,
    List.forall_mem_cons.mpr ⟨ok_iadd hx hb dk_68_65,
    List.forall_mem_cons.mpr ⟨ok_goto hx hb dk_68_66 (by decide),
    List.forall_mem_cons.mpr ⟨ok_iload hx hb dk_68_69,
    List.forall_mem_cons.mpr ⟨ok_istore hx hb dk_68_71 (by decide),
    List.forall_mem_cons.mpr ⟨ok_iinc hx hb dk_68_73 rfl (by decide),
    List.forall_mem_cons.mpr ⟨ok_goto hx hb dk_68_76 (by decide),
    List.forall_mem_cons.mpr ⟨ok_aload_n hx hb dk_68_79 rfl,
    List.forall_mem_cons.mpr ⟨ok_iload_n hx hb dk_68_80 rfl,
    List.forall_mem_cons.mpr ⟨ok_if_ge hx hb dk_68_81 (by decide),
    List.forall_mem_cons.mpr ⟨ok_iconst hx hb dk_68_84 rfl,
    List.forall_mem_cons.mpr ⟨ok_goto hx hb dk_68_85 (by decide),
    List.forall_mem_cons.mpr ⟨ok_iload_n hx hb dk_68_88 rfl,
    List.forall_mem_cons.mpr ⟨ok_if_lt hx hb dk_68_89 (by decide),
    List.forall_mem_cons.mpr ⟨ok_iload_n hx hb dk_68_92 rfl,
    List.forall_mem_cons.mpr ⟨ok_iconst hx hb dk_68_93 rfl,
    List.forall_mem_cons.mpr ⟨ok_icmp_le hx hb dk_68_94 (by decide),
    List.forall_mem_cons.mpr ⟨ok_iconst hx hb dk_68_97 rfl,
    List.forall_mem_cons.mpr ⟨ok_goto hx hb dk_68_98 (by decide),
    List.forall_mem_cons.mpr ⟨ok_iconst hx hb dk_68_101 rfl,
    List.forall_mem_cons.mpr ⟨ok_puti hx hb hts hown hin_3 tyF_3 tyF_3_ok nmF_3 rfl (by decide) tw_533 rfl (by decide +kernel) dk_68_102,
    List.forall_mem_cons.mpr ⟨ok_aload_n hx hb dk_68_105 rfl,
    List.forall_mem_cons.mpr ⟨ok_geti hx hb hts hown hin_3 rfl (by decide) tw_533 dk_68_106,
    List.forall_mem_cons.mpr ⟨ok_if_le hx hb dk_68_109 (by decide),
    List.forall_mem_cons.mpr ⟨ok_iconst hx hb dk_68_112 rfl,
    List.forall_mem_cons.mpr ⟨ok_iret hx hb hb1 hb2 hr hlocks dk_68_113,
    List.forall_mem_cons.mpr ⟨ok_iload_n hx hb dk_68_114 rfl,
    List.forall_mem_cons.mpr ⟨ok_if_ne hx hb dk_68_115 (by decide),
    List.forall_mem_cons.mpr ⟨ok_iload_n hx hb dk_68_118 rfl,
    List.forall_mem_cons.mpr ⟨ok_goto hx hb dk_68_119 (by decide),
    List.forall_mem_cons.mpr ⟨ok_iload_n hx hb dk_68_122 rfl,
    List.forall_mem_cons.mpr ⟨ok_iconst hx hb dk_68_123 rfl,
    List.forall_mem_cons.mpr ⟨ok_icmp_ne hx hb dk_68_124 (by decide),
    List.forall_mem_cons.mpr ⟨ok_aload_n hx hb dk_68_127 rfl,
    List.forall_mem_cons.mpr ⟨ok_getr hx hb hts hown hin_3 rfl (by decide) tw_547 dk_68_128,
    List.forall_mem_cons.mpr ⟨ok_iload_n hx hb dk_68_131 rfl,
    List.forall_mem_cons.mpr ⟨ok_iald hx hb dk_68_132,
    List.forall_mem_cons.mpr ⟨ok_goto hx hb dk_68_133 (by decide),
    List.forall_mem_cons.mpr ⟨ok_aload_n hx hb dk_68_136 rfl,
    List.forall_mem_cons.mpr ⟨ok_getr hx hb hts hown hin_3 rfl (by decide) tw_546 dk_68_137,
    List.forall_mem_cons.mpr ⟨ok_iload_n hx hb dk_68_140 rfl,
    List.forall_mem_cons.mpr ⟨ok_iald hx hb dk_68_141,
    List.forall_mem_cons.mpr ⟨ok_iret hx hb hb1 hb2 hr hlocks dk_68_142,
    fun _ h => absurd h List.not_mem_nil⟩⟩⟩⟩⟩⟩⟩⟩⟩⟩⟩⟩⟩⟩⟩⟩⟩⟩⟩⟩⟩⟩⟩⟩⟩⟩⟩⟩⟩⟩⟩⟩⟩⟩⟩⟩⟩⟩⟩⟩⟩⟩⟩⟩⟩⟩⟩⟩⟩⟩⟩⟩⟩⟩⟩⟩⟩⟩⟩⟩⟩⟩⟩⟩⟩⟩⟩⟩⟩⟩⟩⟩⟩⟩⟩⟩⟩⟩
