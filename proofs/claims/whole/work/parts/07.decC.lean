theorem d_MO_init_0 : decode m_MO_init.2.1 0 = .ok (.aload_n 0, 1) := by decide +kernel
theorem d_MO_init_1 : decode m_MO_init.2.1 1 = .ok (.invokespecial 1, 3) := by decide +kernel
theorem d_MO_init_4 : decode m_MO_init.2.1 4 = .ok (.aload_n 0, 1) := by decide +kernel
theorem d_MO_init_5 : decode m_MO_init.2.1 5 = .ok (.bipush 28, 2) := by decide +kernel
theorem d_MO_init_7 : decode m_MO_init.2.1 7 = .ok (.newarray .int, 2) := by decide +kernel
theorem d_MO_init_9 : decode m_MO_init.2.1 9 = .ok (.putfield 7, 3) := by decide +kernel
theorem d_MO_init_12 : decode m_MO_init.2.1 12 = .ok (.aload_n 0, 1) := by decide +kernel
theorem d_MO_init_13 : decode m_MO_init.2.1 13 = .ok (.bipush 30, 2) := by decide +kernel
theorem d_MO_init_15 : decode m_MO_init.2.1 15 = .ok (.newarray .int, 2) := by decide +kernel
theorem d_MO_init_17 : decode m_MO_init.2.1 17 = .ok (.putfield 13, 3) := by decide +kernel
theorem d_MO_init_20 : decode m_MO_init.2.1 20 = .ok (.aload_n 0, 1) := by decide +kernel
theorem d_MO_init_21 : decode m_MO_init.2.1 21 = .ok (.bipush 30, 2) := by decide +kernel
theorem d_MO_init_23 : decode m_MO_init.2.1 23 = .ok (.newarray .int, 2) := by decide +kernel
theorem d_MO_init_25 : decode m_MO_init.2.1 25 = .ok (.putfield 16, 3) := by decide +kernel
theorem d_MO_init_28 : decode m_MO_init.2.1 28 = .ok (.aload_n 0, 1) := by decide +kernel
theorem d_MO_init_29 : decode m_MO_init.2.1 29 = .ok (.bipush 14, 2) := by decide +kernel
theorem d_MO_init_31 : decode m_MO_init.2.1 31 = .ok (.newarray .int, 2) := by decide +kernel
theorem d_MO_init_33 : decode m_MO_init.2.1 33 = .ok (.putfield 19, 3) := by decide +kernel
theorem d_MO_init_36 : decode m_MO_init.2.1 36 = .ok (.aload_n 0, 1) := by decide +kernel
theorem d_MO_init_37 : decode m_MO_init.2.1 37 = .ok (.bipush 8, 2) := by decide +kernel
theorem d_MO_init_39 : decode m_MO_init.2.1 39 = .ok (.newarray .int, 2) := by decide +kernel
theorem d_MO_init_41 : decode m_MO_init.2.1 41 = .ok (.putfield 22, 3) := by decide +kernel
theorem d_MO_init_44 : decode m_MO_init.2.1 44 = .ok (.aload_n 0, 1) := by decide +kernel
theorem d_MO_init_45 : decode m_MO_init.2.1 45 = .ok (.bipush 8, 2) := by decide +kernel
theorem d_MO_init_47 : decode m_MO_init.2.1 47 = .ok (.newarray .int, 2) := by decide +kernel
theorem d_MO_init_49 : decode m_MO_init.2.1 49 = .ok (.putfield 25, 3) := by decide +kernel
theorem d_MO_init_52 : decode m_MO_init.2.1 52 = .ok (.aload_n 0, 1) := by decide +kernel
theorem d_MO_init_53 : decode m_MO_init.2.1 53 = .ok (.bipush 8, 2) := by decide +kernel
theorem d_MO_init_55 : decode m_MO_init.2.1 55 = .ok (.newarray .boolean, 2) := by decide +kernel
theorem d_MO_init_57 : decode m_MO_init.2.1 57 = .ok (.putfield 28, 3) := by decide +kernel
theorem d_MO_init_60 : decode m_MO_init.2.1 60 = .ok (.aload_n 0, 1) := by decide +kernel
theorem d_MO_init_61 : decode m_MO_init.2.1 61 = .ok (.bipush 8, 2) := by decide +kernel
theorem d_MO_init_63 : decode m_MO_init.2.1 63 = .ok (.newarray .boolean, 2) := by decide +kernel
theorem d_MO_init_65 : decode m_MO_init.2.1 65 = .ok (.putfield 32, 3) := by decide +kernel
theorem d_MO_init_68 : decode m_MO_init.2.1 68 = .ok (.aload_n 0, 1) := by decide +kernel
theorem d_MO_init_69 : decode m_MO_init.2.1 69 = .ok (.sipush 130, 3) := by decide +kernel
theorem d_MO_init_72 : decode m_MO_init.2.1 72 = .ok (.newarray .int, 2) := by decide +kernel
theorem d_MO_init_74 : decode m_MO_init.2.1 74 = .ok (.putfield 35, 3) := by decide +kernel
theorem d_MO_init_77 : decode m_MO_init.2.1 77 = .ok (.aload_n 0, 1) := by decide +kernel
theorem d_MO_init_78 : decode m_MO_init.2.1 78 = .ok (.sipush 130, 3) := by decide +kernel
theorem d_MO_init_81 : decode m_MO_init.2.1 81 = .ok (.newarray .int, 2) := by decide +kernel
theorem d_MO_init_83 : decode m_MO_init.2.1 83 = .ok (.putfield 38, 3) := by decide +kernel
theorem d_MO_init_86 : decode m_MO_init.2.1 86 = .ok (.aload_n 0, 1) := by decide +kernel
theorem d_MO_init_87 : decode m_MO_init.2.1 87 = .ok (.sipush 130, 3) := by decide +kernel
theorem d_MO_init_90 : decode m_MO_init.2.1 90 = .ok (.newarray .int, 2) := by decide +kernel
theorem d_MO_init_92 : decode m_MO_init.2.1 92 = .ok (.putfield 41, 3) := by decide +kernel
theorem d_MO_init_95 : decode m_MO_init.2.1 95 = .ok (.aload_n 0, 1) := by decide +kernel
theorem d_MO_init_96 : decode m_MO_init.2.1 96 = .ok (.bipush 8, 2) := by decide +kernel
theorem d_MO_init_98 : decode m_MO_init.2.1 98 = .ok (.newarray .int, 2) := by decide +kernel
theorem d_MO_init_100 : decode m_MO_init.2.1 100 = .ok (.putfield 44, 3) := by decide +kernel
theorem d_MO_init_103 : decode m_MO_init.2.1 103 = .ok (.aload_n 0, 1) := by decide +kernel
theorem d_MO_init_104 : decode m_MO_init.2.1 104 = .ok (.bipush 8, 2) := by decide +kernel
theorem d_MO_init_106 : decode m_MO_init.2.1 106 = .ok (.newarray .int, 2) := by decide +kernel
theorem d_MO_init_108 : decode m_MO_init.2.1 108 = .ok (.putfield 47, 3) := by decide +kernel
theorem d_MO_init_111 : decode m_MO_init.2.1 111 = .ok (.aload_n 0, 1) := by decide +kernel
theorem d_MO_init_112 : decode m_MO_init.2.1 112 = .ok (.bipush 8, 2) := by decide +kernel
theorem d_MO_init_114 : decode m_MO_init.2.1 114 = .ok (.newarray .int, 2) := by decide +kernel
theorem d_MO_init_116 : decode m_MO_init.2.1 116 = .ok (.putfield 50, 3) := by decide +kernel
theorem d_MO_init_119 : decode m_MO_init.2.1 119 = .ok (.aload_n 0, 1) := by decide +kernel
theorem d_MO_init_120 : decode m_MO_init.2.1 120 = .ok (.bipush 8, 2) := by decide +kernel
theorem d_MO_init_122 : decode m_MO_init.2.1 122 = .ok (.newarray .int, 2) := by decide +kernel
theorem d_MO_init_124 : decode m_MO_init.2.1 124 = .ok (.putfield 53, 3) := by decide +kernel
theorem d_MO_init_127 : decode m_MO_init.2.1 127 = .ok (.aload_n 0, 1) := by decide +kernel
theorem d_MO_init_128 : decode m_MO_init.2.1 128 = .ok (.bipush 30, 2) := by decide +kernel
theorem d_MO_init_130 : decode m_MO_init.2.1 130 = .ok (.newarray .int, 2) := by decide +kernel
theorem d_MO_init_132 : decode m_MO_init.2.1 132 = .ok (.putfield 56, 3) := by decide +kernel
theorem d_MO_init_135 : decode m_MO_init.2.1 135 = .ok (.aload_n 0, 1) := by decide +kernel
theorem d_MO_init_136 : decode m_MO_init.2.1 136 = .ok (.sipush 4030, 3) := by decide +kernel
theorem d_MO_init_139 : decode m_MO_init.2.1 139 = .ok (.newarray .boolean, 2) := by decide +kernel
theorem d_MO_init_141 : decode m_MO_init.2.1 141 = .ok (.putfield 59, 3) := by decide +kernel
theorem d_MO_init_144 : decode m_MO_init.2.1 144 = .ok (.aload_n 0, 1) := by decide +kernel
theorem d_MO_init_145 : decode m_MO_init.2.1 145 = .ok (.sipush 4030, 3) := by decide +kernel
theorem d_MO_init_148 : decode m_MO_init.2.1 148 = .ok (.newarray .int, 2) := by decide +kernel
theorem d_MO_init_150 : decode m_MO_init.2.1 150 = .ok (.putfield 62, 3) := by decide +kernel
theorem d_MO_init_153 : decode m_MO_init.2.1 153 = .ok (.aload_n 0, 1) := by decide +kernel
theorem d_MO_init_154 : decode m_MO_init.2.1 154 = .ok (.bipush 14, 2) := by decide +kernel
theorem d_MO_init_156 : decode m_MO_init.2.1 156 = .ok (.newarray .int, 2) := by decide +kernel
theorem d_MO_init_158 : decode m_MO_init.2.1 158 = .ok (.putfield 65, 3) := by decide +kernel
theorem d_MO_init_161 : decode m_MO_init.2.1 161 = .ok (.return_, 1) := by decide +kernel
theorem d_MO_pattern_0 : decode m_MO_pattern.2.1 0 = .ok (.iload_n 1, 1) := by decide +kernel
theorem d_MO_pattern_1 : decode m_MO_pattern.2.1 1 = .ok (.bipush 32, 2) := by decide +kernel
theorem d_MO_pattern_3 : decode m_MO_pattern.2.1 3 = .ok (.if_icmp .lt 18, 3) := by decide +kernel
theorem d_MO_pattern_6 : decode m_MO_pattern.2.1 6 = .ok (.iload_n 1, 1) := by decide +kernel
theorem d_MO_pattern_7 : decode m_MO_pattern.2.1 7 = .ok (.bipush 126, 2) := by decide +kernel
theorem d_MO_pattern_9 : decode m_MO_pattern.2.1 9 = .ok (.if_icmp .gt 12, 3) := by decide +kernel
theorem d_MO_pattern_12 : decode m_MO_pattern.2.1 12 = .ok (.aload_n 0, 1) := by decide +kernel
theorem d_MO_pattern_13 : decode m_MO_pattern.2.1 13 = .ok (.getfield 72, 3) := by decide +kernel
theorem d_MO_pattern_16 : decode m_MO_pattern.2.1 16 = .ok (.bipush 28, 2) := by decide +kernel
theorem d_MO_pattern_18 : decode m_MO_pattern.2.1 18 = .ok (.if_icmp .ne 5, 3) := by decide +kernel
theorem d_MO_pattern_21 : decode m_MO_pattern.2.1 21 = .ok (.iconst (-1), 1) := by decide +kernel
theorem d_MO_pattern_22 : decode m_MO_pattern.2.1 22 = .ok (.ireturn, 1) := by decide +kernel
theorem d_MO_pattern_23 : decode m_MO_pattern.2.1 23 = .ok (.aload_n 0, 1) := by decide +kernel
theorem d_MO_pattern_24 : decode m_MO_pattern.2.1 24 = .ok (.getfield 7, 3) := by decide +kernel
theorem d_MO_pattern_27 : decode m_MO_pattern.2.1 27 = .ok (.aload_n 0, 1) := by decide +kernel
theorem d_MO_pattern_28 : decode m_MO_pattern.2.1 28 = .ok (.getfield 72, 3) := by decide +kernel
theorem d_MO_pattern_31 : decode m_MO_pattern.2.1 31 = .ok (.iload_n 1, 1) := by decide +kernel
theorem d_MO_pattern_32 : decode m_MO_pattern.2.1 32 = .ok (.iastore, 1) := by decide +kernel
theorem d_MO_pattern_33 : decode m_MO_pattern.2.1 33 = .ok (.aload_n 0, 1) := by decide +kernel
theorem d_MO_pattern_34 : decode m_MO_pattern.2.1 34 = .ok (.dup, 1) := by decide +kernel
theorem d_MO_pattern_35 : decode m_MO_pattern.2.1 35 = .ok (.getfield 72, 3) := by decide +kernel
theorem d_MO_pattern_38 : decode m_MO_pattern.2.1 38 = .ok (.iconst 1, 1) := by decide +kernel
theorem d_MO_pattern_39 : decode m_MO_pattern.2.1 39 = .ok (.iadd, 1) := by decide +kernel
theorem d_MO_pattern_40 : decode m_MO_pattern.2.1 40 = .ok (.putfield 72, 3) := by decide +kernel
theorem d_MO_pattern_43 : decode m_MO_pattern.2.1 43 = .ok (.aload_n 0, 1) := by decide +kernel
theorem d_MO_pattern_44 : decode m_MO_pattern.2.1 44 = .ok (.iconst 0, 1) := by decide +kernel
theorem d_MO_pattern_45 : decode m_MO_pattern.2.1 45 = .ok (.putfield 173, 3) := by decide +kernel
theorem d_MO_pattern_48 : decode m_MO_pattern.2.1 48 = .ok (.aload_n 0, 1) := by decide +kernel
theorem d_MO_pattern_49 : decode m_MO_pattern.2.1 49 = .ok (.getfield 72, 3) := by decide +kernel
theorem d_MO_pattern_52 : decode m_MO_pattern.2.1 52 = .ok (.ireturn, 1) := by decide +kernel
theorem d_MO_newPattern_0 : decode m_MO_newPattern.2.1 0 = .ok (.aload_n 0, 1) := by decide +kernel
theorem d_MO_newPattern_1 : decode m_MO_newPattern.2.1 1 = .ok (.iconst 0, 1) := by decide +kernel
theorem d_MO_newPattern_2 : decode m_MO_newPattern.2.1 2 = .ok (.putfield 72, 3) := by decide +kernel
theorem d_MO_newPattern_5 : decode m_MO_newPattern.2.1 5 = .ok (.aload_n 0, 1) := by decide +kernel
theorem d_MO_newPattern_6 : decode m_MO_newPattern.2.1 6 = .ok (.iconst 0, 1) := by decide +kernel
theorem d_MO_newPattern_7 : decode m_MO_newPattern.2.1 7 = .ok (.putfield 173, 3) := by decide +kernel
theorem d_MO_newPattern_10 : decode m_MO_newPattern.2.1 10 = .ok (.iconst 0, 1) := by decide +kernel
theorem d_MO_newPattern_11 : decode m_MO_newPattern.2.1 11 = .ok (.ireturn, 1) := by decide +kernel
theorem d_MO_compile_0 : decode m_MO_compile.2.1 0 = .ok (.aload_n 0, 1) := by decide +kernel
theorem d_MO_compile_1 : decode m_MO_compile.2.1 1 = .ok (.iconst 0, 1) := by decide +kernel
theorem d_MO_compile_2 : decode m_MO_compile.2.1 2 = .ok (.putfield 173, 3) := by decide +kernel
theorem d_MO_compile_5 : decode m_MO_compile.2.1 5 = .ok (.aload_n 0, 1) := by decide +kernel
theorem d_MO_compile_6 : decode m_MO_compile.2.1 6 = .ok (.invokevirtual 176, 3) := by decide +kernel
theorem d_MO_compile_9 : decode m_MO_compile.2.1 9 = .ok (.bipush (-2), 2) := by decide +kernel
theorem d_MO_compile_11 : decode m_MO_compile.2.1 11 = .ok (.if_icmp .eq 6, 3) := by decide +kernel
theorem d_MO_compile_14 : decode m_MO_compile.2.1 14 = .ok (.bipush (-3), 2) := by decide +kernel
theorem d_MO_compile_16 : decode m_MO_compile.2.1 16 = .ok (.ireturn, 1) := by decide +kernel
theorem d_MO_compile_17 : decode m_MO_compile.2.1 17 = .ok (.aload_n 0, 1) := by decide +kernel
theorem d_MO_compile_18 : decode m_MO_compile.2.1 18 = .ok (.getfield 87, 3) := by decide +kernel
theorem d_MO_compile_21 : decode m_MO_compile.2.1 21 = .ok (.ifCond .eq 6, 3) := by decide +kernel
theorem d_MO_compile_24 : decode m_MO_compile.2.1 24 = .ok (.bipush (-4), 2) := by decide +kernel
theorem d_MO_compile_26 : decode m_MO_compile.2.1 26 = .ok (.ireturn, 1) := by decide +kernel
theorem d_MO_compile_27 : decode m_MO_compile.2.1 27 = .ok (.aload_n 0, 1) := by decide +kernel
theorem d_MO_compile_28 : decode m_MO_compile.2.1 28 = .ok (.getfield 123, 3) := by decide +kernel
theorem d_MO_compile_31 : decode m_MO_compile.2.1 31 = .ok (.bipush 120, 2) := by decide +kernel
theorem d_MO_compile_33 : decode m_MO_compile.2.1 33 = .ok (.if_icmp .le 6, 3) := by decide +kernel
theorem d_MO_compile_36 : decode m_MO_compile.2.1 36 = .ok (.bipush (-5), 2) := by decide +kernel
theorem d_MO_compile_38 : decode m_MO_compile.2.1 38 = .ok (.ireturn, 1) := by decide +kernel
theorem d_MO_compile_39 : decode m_MO_compile.2.1 39 = .ok (.aload_n 0, 1) := by decide +kernel
theorem d_MO_compile_40 : decode m_MO_compile.2.1 40 = .ok (.invokevirtual 180, 3) := by decide +kernel
theorem d_MO_compile_43 : decode m_MO_compile.2.1 43 = .ok (.aload_n 0, 1) := by decide +kernel
theorem d_MO_compile_44 : decode m_MO_compile.2.1 44 = .ok (.iconst 1, 1) := by decide +kernel
theorem d_MO_compile_45 : decode m_MO_compile.2.1 45 = .ok (.putfield 173, 3) := by decide +kernel
theorem d_MO_compile_48 : decode m_MO_compile.2.1 48 = .ok (.aload_n 0, 1) := by decide +kernel
theorem d_MO_compile_49 : decode m_MO_compile.2.1 49 = .ok (.iconst 0, 1) := by decide +kernel
theorem d_MO_compile_50 : decode m_MO_compile.2.1 50 = .ok (.putfield 183, 3) := by decide +kernel
theorem d_MO_compile_53 : decode m_MO_compile.2.1 53 = .ok (.aload_n 0, 1) := by decide +kernel
theorem d_MO_compile_54 : decode m_MO_compile.2.1 54 = .ok (.getfield 104, 3) := by decide +kernel
theorem d_MO_compile_57 : decode m_MO_compile.2.1 57 = .ok (.ireturn, 1) := by decide +kernel
theorem d_MO_openRow_0 : decode m_MO_openRow.2.1 0 = .ok (.aload_n 0, 1) := by decide +kernel
theorem d_MO_openRow_1 : decode m_MO_openRow.2.1 1 = .ok (.getfield 25, 3) := by decide +kernel
theorem d_MO_openRow_4 : decode m_MO_openRow.2.1 4 = .ok (.iload_n 1, 1) := by decide +kernel
theorem d_MO_openRow_5 : decode m_MO_openRow.2.1 5 = .ok (.iconst 0, 1) := by decide +kernel
theorem d_MO_openRow_6 : decode m_MO_openRow.2.1 6 = .ok (.iastore, 1) := by decide +kernel
theorem d_MO_openRow_7 : decode m_MO_openRow.2.1 7 = .ok (.aload_n 0, 1) := by decide +kernel
theorem d_MO_openRow_8 : decode m_MO_openRow.2.1 8 = .ok (.getfield 28, 3) := by decide +kernel
theorem d_MO_openRow_11 : decode m_MO_openRow.2.1 11 = .ok (.iload_n 1, 1) := by decide +kernel
theorem d_MO_openRow_12 : decode m_MO_openRow.2.1 12 = .ok (.iconst 1, 1) := by decide +kernel
theorem d_MO_openRow_13 : decode m_MO_openRow.2.1 13 = .ok (.bastore, 1) := by decide +kernel
theorem d_MO_openRow_14 : decode m_MO_openRow.2.1 14 = .ok (.return_, 1) := by decide +kernel
theorem d_MO_at_0 : decode m_MO_at.2.1 0 = .ok (.iload_n 1, 1) := by decide +kernel
theorem d_MO_at_1 : decode m_MO_at.2.1 1 = .ok (.aload_n 0, 1) := by decide +kernel
theorem d_MO_at_2 : decode m_MO_at.2.1 2 = .ok (.getfield 72, 3) := by decide +kernel
theorem d_MO_at_5 : decode m_MO_at.2.1 5 = .ok (.if_icmp .ge 12, 3) := by decide +kernel
theorem d_MO_at_8 : decode m_MO_at.2.1 8 = .ok (.aload_n 0, 1) := by decide +kernel
theorem d_MO_at_9 : decode m_MO_at.2.1 9 = .ok (.getfield 7, 3) := by decide +kernel
theorem d_MO_at_12 : decode m_MO_at.2.1 12 = .ok (.iload_n 1, 1) := by decide +kernel
theorem d_MO_at_13 : decode m_MO_at.2.1 13 = .ok (.iaload, 1) := by decide +kernel
theorem d_MO_at_14 : decode m_MO_at.2.1 14 = .ok (.goto 4, 3) := by decide +kernel
theorem d_MO_at_17 : decode m_MO_at.2.1 17 = .ok (.iconst (-1), 1) := by decide +kernel
theorem d_MO_at_18 : decode m_MO_at.2.1 18 = .ok (.ireturn, 1) := by decide +kernel
theorem d_MO_is_0 : decode m_MO_is.2.1 0 = .ok (.iload_n 0, 1) := by decide +kernel
theorem d_MO_is_1 : decode m_MO_is.2.1 1 = .ok (.iload_n 1, 1) := by decide +kernel
theorem d_MO_is_2 : decode m_MO_is.2.1 2 = .ok (.if_icmp .eq 19, 3) := by decide +kernel
theorem d_MO_is_5 : decode m_MO_is.2.1 5 = .ok (.iload_n 0, 1) := by decide +kernel
theorem d_MO_is_6 : decode m_MO_is.2.1 6 = .ok (.iload_n 2, 1) := by decide +kernel
theorem d_MO_is_7 : decode m_MO_is.2.1 7 = .ok (.if_icmp .eq 14, 3) := by decide +kernel
theorem d_MO_is_10 : decode m_MO_is.2.1 10 = .ok (.iload_n 0, 1) := by decide +kernel
theorem d_MO_is_11 : decode m_MO_is.2.1 11 = .ok (.iload_n 3, 1) := by decide +kernel
theorem d_MO_is_12 : decode m_MO_is.2.1 12 = .ok (.if_icmp .eq 9, 3) := by decide +kernel
theorem d_MO_is_15 : decode m_MO_is.2.1 15 = .ok (.iload_n 0, 1) := by decide +kernel
theorem d_MO_is_16 : decode m_MO_is.2.1 16 = .ok (.iload 4, 2) := by decide +kernel
theorem d_MO_is_18 : decode m_MO_is.2.1 18 = .ok (.if_icmp .ne 7, 3) := by decide +kernel
theorem d_MO_is_21 : decode m_MO_is.2.1 21 = .ok (.iconst 1, 1) := by decide +kernel
theorem d_MO_is_22 : decode m_MO_is.2.1 22 = .ok (.goto 4, 3) := by decide +kernel
theorem d_MO_is_25 : decode m_MO_is.2.1 25 = .ok (.iconst 0, 1) := by decide +kernel
theorem d_MO_is_26 : decode m_MO_is.2.1 26 = .ok (.ireturn, 1) := by decide +kernel
theorem d_MO_passRepetition_0 : decode m_MO_passRepetition.2.1 0 = .ok (.aload_n 0, 1) := by decide +kernel
theorem d_MO_passRepetition_1 : decode m_MO_passRepetition.2.1 1 = .ok (.iload_n 1, 1) := by decide +kernel
theorem d_MO_passRepetition_2 : decode m_MO_passRepetition.2.1 2 = .ok (.invokevirtual 90, 3) := by decide +kernel
theorem d_MO_passRepetition_5 : decode m_MO_passRepetition.2.1 5 = .ok (.istore_n 2, 1) := by decide +kernel
theorem d_MO_passRepetition_6 : decode m_MO_passRepetition.2.1 6 = .ok (.iload_n 1, 1) := by decide +kernel
theorem d_MO_passRepetition_7 : decode m_MO_passRepetition.2.1 7 = .ok (.iconst 1, 1) := by decide +kernel
theorem d_MO_passRepetition_8 : decode m_MO_passRepetition.2.1 8 = .ok (.iadd, 1) := by decide +kernel
theorem d_MO_passRepetition_9 : decode m_MO_passRepetition.2.1 9 = .ok (.istore_n 3, 1) := by decide +kernel
theorem d_MO_passRepetition_10 : decode m_MO_passRepetition.2.1 10 = .ok (.iload_n 2, 1) := by decide +kernel
theorem d_MO_passRepetition_11 : decode m_MO_passRepetition.2.1 11 = .ok (.bipush 123, 2) := by decide +kernel
theorem d_MO_passRepetition_13 : decode m_MO_passRepetition.2.1 13 = .ok (.if_icmp .ne 12, 3) := by decide +kernel
theorem d_MO_passRepetition_16 : decode m_MO_passRepetition.2.1 16 = .ok (.aload_n 0, 1) := by decide +kernel
theorem d_MO_passRepetition_17 : decode m_MO_passRepetition.2.1 17 = .ok (.iload_n 1, 1) := by decide +kernel
theorem d_MO_passRepetition_18 : decode m_MO_passRepetition.2.1 18 = .ok (.invokevirtual 101, 3) := by decide +kernel
theorem d_MO_passRepetition_21 : decode m_MO_passRepetition.2.1 21 = .ok (.istore_n 3, 1) := by decide +kernel
theorem d_MO_passRepetition_22 : decode m_MO_passRepetition.2.1 22 = .ok (.goto 31, 3) := by decide +kernel
theorem d_MO_passRepetition_25 : decode m_MO_passRepetition.2.1 25 = .ok (.aload_n 0, 1) := by decide +kernel
theorem d_MO_passRepetition_26 : decode m_MO_passRepetition.2.1 26 = .ok (.iconst 1, 1) := by decide +kernel
theorem d_MO_passRepetition_27 : decode m_MO_passRepetition.2.1 27 = .ok (.iconst 2, 1) := by decide +kernel
theorem d_MO_passRepetition_28 : decode m_MO_passRepetition.2.1 28 = .ok (.iload_n 2, 1) := by decide +kernel
theorem d_MO_passRepetition_29 : decode m_MO_passRepetition.2.1 29 = .ok (.bipush 43, 2) := by decide +kernel
theorem d_MO_passRepetition_31 : decode m_MO_passRepetition.2.1 31 = .ok (.if_icmp .eq 7, 3) := by decide +kernel
theorem d_MO_passRepetition_34 : decode m_MO_passRepetition.2.1 34 = .ok (.iconst 1, 1) := by decide +kernel
theorem d_MO_passRepetition_35 : decode m_MO_passRepetition.2.1 35 = .ok (.goto 4, 3) := by decide +kernel
theorem d_MO_passRepetition_38 : decode m_MO_passRepetition.2.1 38 = .ok (.iconst 0, 1) := by decide +kernel
theorem d_MO_passRepetition_39 : decode m_MO_passRepetition.2.1 39 = .ok (.iload_n 2, 1) := by decide +kernel
theorem d_MO_passRepetition_40 : decode m_MO_passRepetition.2.1 40 = .ok (.bipush 63, 2) := by decide +kernel
theorem d_MO_passRepetition_42 : decode m_MO_passRepetition.2.1 42 = .ok (.if_icmp .eq 7, 3) := by decide +kernel
theorem d_MO_passRepetition_45 : decode m_MO_passRepetition.2.1 45 = .ok (.iconst 1, 1) := by decide +kernel
theorem d_MO_passRepetition_46 : decode m_MO_passRepetition.2.1 46 = .ok (.goto 4, 3) := by decide +kernel
theorem d_MO_passRepetition_49 : decode m_MO_passRepetition.2.1 49 = .ok (.iconst 0, 1) := by decide +kernel
theorem d_MO_passRepetition_50 : decode m_MO_passRepetition.2.1 50 = .ok (.invokevirtual 97, 3) := by decide +kernel
theorem d_MO_passRepetition_53 : decode m_MO_passRepetition.2.1 53 = .ok (.iload_n 3, 1) := by decide +kernel
theorem d_MO_passRepetition_54 : decode m_MO_passRepetition.2.1 54 = .ok (.ifCond .lt 19, 3) := by decide +kernel
theorem d_MO_passRepetition_57 : decode m_MO_passRepetition.2.1 57 = .ok (.aload_n 0, 1) := by decide +kernel
theorem d_MO_passRepetition_58 : decode m_MO_passRepetition.2.1 58 = .ok (.iload_n 3, 1) := by decide +kernel
theorem d_MO_passRepetition_59 : decode m_MO_passRepetition.2.1 59 = .ok (.invokevirtual 90, 3) := by decide +kernel
theorem d_MO_passRepetition_62 : decode m_MO_passRepetition.2.1 62 = .ok (.bipush 63, 2) := by decide +kernel
theorem d_MO_passRepetition_64 : decode m_MO_passRepetition.2.1 64 = .ok (.if_icmp .ne 9, 3) := by decide +kernel
theorem d_MO_passRepetition_67 : decode m_MO_passRepetition.2.1 67 = .ok (.iload_n 3, 1) := by decide +kernel
theorem d_MO_passRepetition_68 : decode m_MO_passRepetition.2.1 68 = .ok (.iconst 1, 1) := by decide +kernel
theorem d_MO_passRepetition_69 : decode m_MO_passRepetition.2.1 69 = .ok (.iadd, 1) := by decide +kernel
theorem d_MO_passRepetition_70 : decode m_MO_passRepetition.2.1 70 = .ok (.goto 4, 3) := by decide +kernel
theorem d_MO_passRepetition_73 : decode m_MO_passRepetition.2.1 73 = .ok (.iload_n 3, 1) := by decide +kernel
theorem d_MO_passRepetition_74 : decode m_MO_passRepetition.2.1 74 = .ok (.ireturn, 1) := by decide +kernel
theorem d_MO_passBraces_0 : decode m_MO_passBraces.2.1 0 = .ok (.iload_n 1, 1) := by decide +kernel
theorem d_MO_passBraces_1 : decode m_MO_passBraces.2.1 1 = .ok (.iconst 1, 1) := by decide +kernel
theorem d_MO_passBraces_2 : decode m_MO_passBraces.2.1 2 = .ok (.iadd, 1) := by decide +kernel
theorem d_MO_passBraces_3 : decode m_MO_passBraces.2.1 3 = .ok (.istore_n 2, 1) := by decide +kernel
theorem d_MO_passBraces_4 : decode m_MO_passBraces.2.1 4 = .ok (.iload_n 2, 1) := by decide +kernel
theorem d_MO_passBraces_5 : decode m_MO_passBraces.2.1 5 = .ok (.aload_n 0, 1) := by decide +kernel
theorem d_MO_passBraces_6 : decode m_MO_passBraces.2.1 6 = .ok (.getfield 72, 3) := by decide +kernel
theorem d_MO_passBraces_9 : decode m_MO_passBraces.2.1 9 = .ok (.if_icmp .ge 23, 3) := by decide +kernel
theorem d_MO_passBraces_12 : decode m_MO_passBraces.2.1 12 = .ok (.aload_n 0, 1) := by decide +kernel
theorem d_MO_passBraces_13 : decode m_MO_passBraces.2.1 13 = .ok (.iload_n 2, 1) := by decide +kernel
theorem d_MO_passBraces_14 : decode m_MO_passBraces.2.1 14 = .ok (.invokevirtual 90, 3) := by decide +kernel
theorem d_MO_passBraces_17 : decode m_MO_passBraces.2.1 17 = .ok (.bipush 48, 2) := by decide +kernel
theorem d_MO_passBraces_19 : decode m_MO_passBraces.2.1 19 = .ok (.if_icmp .lt 13, 3) := by decide +kernel
theorem d_MO_passBraces_22 : decode m_MO_passBraces.2.1 22 = .ok (.aload_n 0, 1) := by decide +kernel
theorem d_MO_passBraces_23 : decode m_MO_passBraces.2.1 23 = .ok (.iload_n 2, 1) := by decide +kernel
theorem d_MO_passBraces_24 : decode m_MO_passBraces.2.1 24 = .ok (.invokevirtual 90, 3) := by decide +kernel
theorem d_MO_passBraces_27 : decode m_MO_passBraces.2.1 27 = .ok (.bipush 54, 2) := by decide +kernel
theorem d_MO_passBraces_29 : decode m_MO_passBraces.2.1 29 = .ok (.if_icmp .le 7, 3) := by decide +kernel
theorem d_MO_passBraces_32 : decode m_MO_passBraces.2.1 32 = .ok (.iconst (-1), 1) := by decide +kernel
theorem d_MO_passBraces_33 : decode m_MO_passBraces.2.1 33 = .ok (.iload_n 2, 1) := by decide +kernel
theorem d_MO_passBraces_34 : decode m_MO_passBraces.2.1 34 = .ok (.isub, 1) := by decide +kernel
theorem d_MO_passBraces_35 : decode m_MO_passBraces.2.1 35 = .ok (.ireturn, 1) := by decide +kernel
theorem d_MO_passBraces_36 : decode m_MO_passBraces.2.1 36 = .ok (.aload_n 0, 1) := by decide +kernel
theorem d_MO_passBraces_37 : decode m_MO_passBraces.2.1 37 = .ok (.iload_n 2, 1) := by decide +kernel
theorem d_MO_passBraces_38 : decode m_MO_passBraces.2.1 38 = .ok (.invokevirtual 90, 3) := by decide +kernel
theorem d_MO_passBraces_41 : decode m_MO_passBraces.2.1 41 = .ok (.bipush 48, 2) := by decide +kernel
theorem d_MO_passBraces_43 : decode m_MO_passBraces.2.1 43 = .ok (.isub, 1) := by decide +kernel
theorem d_MO_passBraces_44 : decode m_MO_passBraces.2.1 44 = .ok (.istore_n 3, 1) := by decide +kernel
theorem d_MO_passBraces_45 : decode m_MO_passBraces.2.1 45 = .ok (.iinc 2 1, 3) := by decide +kernel
theorem d_MO_passBraces_48 : decode m_MO_passBraces.2.1 48 = .ok (.aload_n 0, 1) := by decide +kernel
theorem d_MO_passBraces_49 : decode m_MO_passBraces.2.1 49 = .ok (.iload_n 2, 1) := by decide +kernel
theorem d_MO_passBraces_50 : decode m_MO_passBraces.2.1 50 = .ok (.invokevirtual 90, 3) := by decide +kernel
theorem d_MO_passBraces_53 : decode m_MO_passBraces.2.1 53 = .ok (.bipush 125, 2) := by decide +kernel
theorem d_MO_passBraces_55 : decode m_MO_passBraces.2.1 55 = .ok (.if_icmp .ne 19, 3) := by decide +kernel
theorem d_MO_passBraces_58 : decode m_MO_passBraces.2.1 58 = .ok (.iload_n 3, 1) := by decide +kernel
theorem d_MO_passBraces_59 : decode m_MO_passBraces.2.1 59 = .ok (.ifCond .le 15, 3) := by decide +kernel
theorem d_MO_passBraces_62 : decode m_MO_passBraces.2.1 62 = .ok (.aload_n 0, 1) := by decide +kernel
theorem d_MO_passBraces_63 : decode m_MO_passBraces.2.1 63 = .ok (.iload_n 3, 1) := by decide +kernel
theorem d_MO_passBraces_64 : decode m_MO_passBraces.2.1 64 = .ok (.iconst 0, 1) := by decide +kernel
theorem d_MO_passBraces_65 : decode m_MO_passBraces.2.1 65 = .ok (.iconst 0, 1) := by decide +kernel
theorem d_MO_passBraces_66 : decode m_MO_passBraces.2.1 66 = .ok (.iconst 0, 1) := by decide +kernel
theorem d_MO_passBraces_67 : decode m_MO_passBraces.2.1 67 = .ok (.invokevirtual 97, 3) := by decide +kernel
theorem d_MO_passBraces_70 : decode m_MO_passBraces.2.1 70 = .ok (.iload_n 2, 1) := by decide +kernel
theorem d_MO_passBraces_71 : decode m_MO_passBraces.2.1 71 = .ok (.iconst 1, 1) := by decide +kernel
theorem d_MO_passBraces_72 : decode m_MO_passBraces.2.1 72 = .ok (.iadd, 1) := by decide +kernel
theorem d_MO_passBraces_73 : decode m_MO_passBraces.2.1 73 = .ok (.ireturn, 1) := by decide +kernel
theorem d_MO_passBraces_74 : decode m_MO_passBraces.2.1 74 = .ok (.aload_n 0, 1) := by decide +kernel
theorem d_MO_passBraces_75 : decode m_MO_passBraces.2.1 75 = .ok (.iload_n 2, 1) := by decide +kernel
theorem d_MO_passBraces_76 : decode m_MO_passBraces.2.1 76 = .ok (.invokevirtual 90, 3) := by decide +kernel
theorem d_MO_passBraces_79 : decode m_MO_passBraces.2.1 79 = .ok (.bipush 44, 2) := by decide +kernel
theorem d_MO_passBraces_81 : decode m_MO_passBraces.2.1 81 = .ok (.if_icmp .eq 7, 3) := by decide +kernel
theorem d_MO_passBraces_84 : decode m_MO_passBraces.2.1 84 = .ok (.iconst (-1), 1) := by decide +kernel
theorem d_MO_passBraces_85 : decode m_MO_passBraces.2.1 85 = .ok (.iload_n 2, 1) := by decide +kernel
theorem d_MO_passBraces_86 : decode m_MO_passBraces.2.1 86 = .ok (.isub, 1) := by decide +kernel
theorem d_MO_passBraces_87 : decode m_MO_passBraces.2.1 87 = .ok (.ireturn, 1) := by decide +kernel
theorem d_MO_passBraces_88 : decode m_MO_passBraces.2.1 88 = .ok (.iinc 2 1, 3) := by decide +kernel
theorem d_MO_passBraces_91 : decode m_MO_passBraces.2.1 91 = .ok (.aload_n 0, 1) := by decide +kernel
theorem d_MO_passBraces_92 : decode m_MO_passBraces.2.1 92 = .ok (.iload_n 2, 1) := by decide +kernel
theorem d_MO_passBraces_93 : decode m_MO_passBraces.2.1 93 = .ok (.invokevirtual 90, 3) := by decide +kernel
theorem d_MO_passBraces_96 : decode m_MO_passBraces.2.1 96 = .ok (.bipush 48, 2) := by decide +kernel
theorem d_MO_passBraces_98 : decode m_MO_passBraces.2.1 98 = .ok (.isub, 1) := by decide +kernel
theorem d_MO_passBraces_99 : decode m_MO_passBraces.2.1 99 = .ok (.istore 4, 2) := by decide +kernel
theorem d_MO_passBraces_101 : decode m_MO_passBraces.2.1 101 = .ok (.iload_n 2, 1) := by decide +kernel
theorem d_MO_passBraces_102 : decode m_MO_passBraces.2.1 102 = .ok (.aload_n 0, 1) := by decide +kernel
theorem d_MO_passBraces_103 : decode m_MO_passBraces.2.1 103 = .ok (.getfield 72, 3) := by decide +kernel
theorem d_MO_passBraces_106 : decode m_MO_passBraces.2.1 106 = .ok (.if_icmp .ge 22, 3) := by decide +kernel
theorem d_MO_passBraces_109 : decode m_MO_passBraces.2.1 109 = .ok (.iload 4, 2) := by decide +kernel
theorem d_MO_passBraces_111 : decode m_MO_passBraces.2.1 111 = .ok (.iconst 1, 1) := by decide +kernel
theorem d_MO_passBraces_112 : decode m_MO_passBraces.2.1 112 = .ok (.if_icmp .lt 16, 3) := by decide +kernel
theorem d_MO_passBraces_115 : decode m_MO_passBraces.2.1 115 = .ok (.iload 4, 2) := by decide +kernel
theorem d_MO_passBraces_117 : decode m_MO_passBraces.2.1 117 = .ok (.bipush 6, 2) := by decide +kernel
theorem d_MO_passBraces_119 : decode m_MO_passBraces.2.1 119 = .ok (.if_icmp .gt 9, 3) := by decide +kernel
theorem d_MO_passBraces_122 : decode m_MO_passBraces.2.1 122 = .ok (.iload 4, 2) := by decide +kernel
theorem d_MO_passBraces_124 : decode m_MO_passBraces.2.1 124 = .ok (.iload_n 3, 1) := by decide +kernel
theorem d_MO_passBraces_125 : decode m_MO_passBraces.2.1 125 = .ok (.if_icmp .ge 7, 3) := by decide +kernel
theorem d_MO_passBraces_128 : decode m_MO_passBraces.2.1 128 = .ok (.iconst (-1), 1) := by decide +kernel
theorem d_MO_passBraces_129 : decode m_MO_passBraces.2.1 129 = .ok (.iload_n 2, 1) := by decide +kernel
theorem d_MO_passBraces_130 : decode m_MO_passBraces.2.1 130 = .ok (.isub, 1) := by decide +kernel
theorem d_MO_passBraces_131 : decode m_MO_passBraces.2.1 131 = .ok (.ireturn, 1) := by decide +kernel
theorem d_MO_passBraces_132 : decode m_MO_passBraces.2.1 132 = .ok (.iinc 2 1, 3) := by decide +kernel
theorem d_MO_passBraces_135 : decode m_MO_passBraces.2.1 135 = .ok (.aload_n 0, 1) := by decide +kernel
theorem d_MO_passBraces_136 : decode m_MO_passBraces.2.1 136 = .ok (.iload_n 2, 1) := by decide +kernel
theorem d_MO_passBraces_137 : decode m_MO_passBraces.2.1 137 = .ok (.invokevirtual 90, 3) := by decide +kernel
theorem d_MO_passBraces_140 : decode m_MO_passBraces.2.1 140 = .ok (.bipush 125, 2) := by decide +kernel
theorem d_MO_passBraces_142 : decode m_MO_passBraces.2.1 142 = .ok (.if_icmp .eq 7, 3) := by decide +kernel
theorem d_MO_passBraces_145 : decode m_MO_passBraces.2.1 145 = .ok (.iconst (-1), 1) := by decide +kernel
theorem d_MO_passBraces_146 : decode m_MO_passBraces.2.1 146 = .ok (.iload_n 2, 1) := by decide +kernel
theorem d_MO_passBraces_147 : decode m_MO_passBraces.2.1 147 = .ok (.isub, 1) := by decide +kernel
theorem d_MO_passBraces_148 : decode m_MO_passBraces.2.1 148 = .ok (.ireturn, 1) := by decide +kernel
theorem d_MO_passBraces_149 : decode m_MO_passBraces.2.1 149 = .ok (.aload_n 0, 1) := by decide +kernel
theorem d_MO_passBraces_150 : decode m_MO_passBraces.2.1 150 = .ok (.iload 4, 2) := by decide +kernel
theorem d_MO_passBraces_152 : decode m_MO_passBraces.2.1 152 = .ok (.iconst 2, 1) := by decide +kernel
theorem d_MO_passBraces_153 : decode m_MO_passBraces.2.1 153 = .ok (.iload 4, 2) := by decide +kernel
theorem d_MO_passBraces_155 : decode m_MO_passBraces.2.1 155 = .ok (.iload_n 3, 1) := by decide +kernel
theorem d_MO_passBraces_156 : decode m_MO_passBraces.2.1 156 = .ok (.isub, 1) := by decide +kernel
theorem d_MO_passBraces_157 : decode m_MO_passBraces.2.1 157 = .ok (.imul, 1) := by decide +kernel
theorem d_MO_passBraces_158 : decode m_MO_passBraces.2.1 158 = .ok (.iload_n 3, 1) := by decide +kernel
theorem d_MO_passBraces_159 : decode m_MO_passBraces.2.1 159 = .ok (.ifCond .ne 7, 3) := by decide +kernel
theorem d_MO_passBraces_162 : decode m_MO_passBraces.2.1 162 = .ok (.iconst 1, 1) := by decide +kernel
theorem d_MO_passBraces_163 : decode m_MO_passBraces.2.1 163 = .ok (.goto 4, 3) := by decide +kernel
theorem d_MO_passBraces_166 : decode m_MO_passBraces.2.1 166 = .ok (.iconst 0, 1) := by decide +kernel
theorem d_MO_passBraces_167 : decode m_MO_passBraces.2.1 167 = .ok (.iconst 0, 1) := by decide +kernel
theorem d_MO_passBraces_168 : decode m_MO_passBraces.2.1 168 = .ok (.invokevirtual 97, 3) := by decide +kernel
theorem d_MO_passBraces_171 : decode m_MO_passBraces.2.1 171 = .ok (.iload_n 2, 1) := by decide +kernel
theorem d_MO_passBraces_172 : decode m_MO_passBraces.2.1 172 = .ok (.iconst 1, 1) := by decide +kernel
theorem d_MO_passBraces_173 : decode m_MO_passBraces.2.1 173 = .ok (.iadd, 1) := by decide +kernel
theorem d_MO_passBraces_174 : decode m_MO_passBraces.2.1 174 = .ok (.ireturn, 1) := by decide +kernel
theorem d_MO_repeat_0 : decode m_MO_repeat.2.1 0 = .ok (.iload 4, 2) := by decide +kernel
theorem d_MO_repeat_2 : decode m_MO_repeat.2.1 2 = .ok (.ifCond .eq 15, 3) := by decide +kernel
theorem d_MO_repeat_5 : decode m_MO_repeat.2.1 5 = .ok (.aload_n 0, 1) := by decide +kernel
theorem d_MO_repeat_6 : decode m_MO_repeat.2.1 6 = .ok (.getfield 83, 3) := by decide +kernel
theorem d_MO_repeat_9 : decode m_MO_repeat.2.1 9 = .ok (.ifCond .eq 8, 3) := by decide +kernel
theorem d_MO_repeat_12 : decode m_MO_repeat.2.1 12 = .ok (.aload_n 0, 1) := by decide +kernel
theorem d_MO_repeat_13 : decode m_MO_repeat.2.1 13 = .ok (.iconst 1, 1) := by decide +kernel
theorem d_MO_repeat_14 : decode m_MO_repeat.2.1 14 = .ok (.putfield 87, 3) := by decide +kernel
theorem d_MO_repeat_17 : decode m_MO_repeat.2.1 17 = .ok (.aload_n 0, 1) := by decide +kernel
theorem d_MO_repeat_18 : decode m_MO_repeat.2.1 18 = .ok (.aload_n 0, 1) := by decide +kernel
theorem d_MO_repeat_19 : decode m_MO_repeat.2.1 19 = .ok (.getfield 76, 3) := by decide +kernel
theorem d_MO_repeat_22 : decode m_MO_repeat.2.1 22 = .ok (.iload_n 1, 1) := by decide +kernel
theorem d_MO_repeat_23 : decode m_MO_repeat.2.1 23 = .ok (.imul, 1) := by decide +kernel
theorem d_MO_repeat_24 : decode m_MO_repeat.2.1 24 = .ok (.iload_n 2, 1) := by decide +kernel
theorem d_MO_repeat_25 : decode m_MO_repeat.2.1 25 = .ok (.iadd, 1) := by decide +kernel
theorem d_MO_repeat_26 : decode m_MO_repeat.2.1 26 = .ok (.invokestatic 79, 3) := by decide +kernel
theorem d_MO_repeat_29 : decode m_MO_repeat.2.1 29 = .ok (.putfield 76, 3) := by decide +kernel
theorem d_MO_repeat_32 : decode m_MO_repeat.2.1 32 = .ok (.aload_n 0, 1) := by decide +kernel
theorem d_MO_repeat_33 : decode m_MO_repeat.2.1 33 = .ok (.dup, 1) := by decide +kernel
theorem d_MO_repeat_34 : decode m_MO_repeat.2.1 34 = .ok (.getfield 83, 3) := by decide +kernel
theorem d_MO_repeat_37 : decode m_MO_repeat.2.1 37 = .ok (.iload_n 3, 1) := by decide +kernel
theorem d_MO_repeat_38 : decode m_MO_repeat.2.1 38 = .ok (.ior, 1) := by decide +kernel
theorem d_MO_repeat_39 : decode m_MO_repeat.2.1 39 = .ok (.putfield 83, 3) := by decide +kernel
theorem d_MO_repeat_42 : decode m_MO_repeat.2.1 42 = .ok (.return_, 1) := by decide +kernel
theorem d_MO_least_0 : decode m_MO_least.2.1 0 = .ok (.iload_n 0, 1) := by decide +kernel
theorem d_MO_least_1 : decode m_MO_least.2.1 1 = .ok (.sipush 1000, 3) := by decide +kernel
theorem d_MO_least_4 : decode m_MO_least.2.1 4 = .ok (.if_icmp .le 9, 3) := by decide +kernel
theorem d_MO_least_7 : decode m_MO_least.2.1 7 = .ok (.sipush 1000, 3) := by decide +kernel
theorem d_MO_least_10 : decode m_MO_least.2.1 10 = .ok (.goto 4, 3) := by decide +kernel
theorem d_MO_least_13 : decode m_MO_least.2.1 13 = .ok (.iload_n 0, 1) := by decide +kernel
theorem d_MO_least_14 : decode m_MO_least.2.1 14 = .ok (.ireturn, 1) := by decide +kernel
theorem d_MO_closePiece_0 : decode m_MO_closePiece.2.1 0 = .ok (.aload_n 0, 1) := by decide +kernel
theorem d_MO_closePiece_1 : decode m_MO_closePiece.2.1 1 = .ok (.getfield 25, 3) := by decide +kernel
theorem d_MO_closePiece_4 : decode m_MO_closePiece.2.1 4 = .ok (.iload_n 1, 1) := by decide +kernel
theorem d_MO_closePiece_5 : decode m_MO_closePiece.2.1 5 = .ok (.aload_n 0, 1) := by decide +kernel
theorem d_MO_closePiece_6 : decode m_MO_closePiece.2.1 6 = .ok (.getfield 25, 3) := by decide +kernel
theorem d_MO_closePiece_9 : decode m_MO_closePiece.2.1 9 = .ok (.iload_n 1, 1) := by decide +kernel
theorem d_MO_closePiece_10 : decode m_MO_closePiece.2.1 10 = .ok (.iaload, 1) := by decide +kernel
theorem d_MO_closePiece_11 : decode m_MO_closePiece.2.1 11 = .ok (.aload_n 0, 1) := by decide +kernel
theorem d_MO_closePiece_12 : decode m_MO_closePiece.2.1 12 = .ok (.getfield 76, 3) := by decide +kernel
theorem d_MO_closePiece_15 : decode m_MO_closePiece.2.1 15 = .ok (.iadd, 1) := by decide +kernel
theorem d_MO_closePiece_16 : decode m_MO_closePiece.2.1 16 = .ok (.invokestatic 79, 3) := by decide +kernel
theorem d_MO_closePiece_19 : decode m_MO_closePiece.2.1 19 = .ok (.iastore, 1) := by decide +kernel
theorem d_MO_closePiece_20 : decode m_MO_closePiece.2.1 20 = .ok (.aload_n 0, 1) := by decide +kernel
theorem d_MO_closePiece_21 : decode m_MO_closePiece.2.1 21 = .ok (.getfield 28, 3) := by decide +kernel
theorem d_MO_closePiece_24 : decode m_MO_closePiece.2.1 24 = .ok (.iload_n 1, 1) := by decide +kernel
theorem d_MO_closePiece_25 : decode m_MO_closePiece.2.1 25 = .ok (.dup2, 1) := by decide +kernel
theorem d_MO_closePiece_26 : decode m_MO_closePiece.2.1 26 = .ok (.baload, 1) := by decide +kernel
theorem d_MO_closePiece_27 : decode m_MO_closePiece.2.1 27 = .ok (.aload_n 0, 1) := by decide +kernel
theorem d_MO_closePiece_28 : decode m_MO_closePiece.2.1 28 = .ok (.getfield 83, 3) := by decide +kernel
theorem d_MO_closePiece_31 : decode m_MO_closePiece.2.1 31 = .ok (.iand, 1) := by decide +kernel
theorem d_MO_closePiece_32 : decode m_MO_closePiece.2.1 32 = .ok (.bastore, 1) := by decide +kernel
theorem d_MO_closePiece_33 : decode m_MO_closePiece.2.1 33 = .ok (.aload_n 0, 1) := by decide +kernel
theorem d_MO_closePiece_34 : decode m_MO_closePiece.2.1 34 = .ok (.iconst 0, 1) := by decide +kernel
theorem d_MO_closePiece_35 : decode m_MO_closePiece.2.1 35 = .ok (.putfield 76, 3) := by decide +kernel
theorem d_MO_closePiece_38 : decode m_MO_closePiece.2.1 38 = .ok (.aload_n 0, 1) := by decide +kernel
theorem d_MO_closePiece_39 : decode m_MO_closePiece.2.1 39 = .ok (.iconst 1, 1) := by decide +kernel
theorem d_MO_closePiece_40 : decode m_MO_closePiece.2.1 40 = .ok (.putfield 83, 3) := by decide +kernel
theorem d_MO_closePiece_43 : decode m_MO_closePiece.2.1 43 = .ok (.return_, 1) := by decide +kernel
theorem d_MO_plain_0 : decode m_MO_plain.2.1 0 = .ok (.iload_n 0, 1) := by decide +kernel
theorem d_MO_plain_1 : decode m_MO_plain.2.1 1 = .ok (.bipush 46, 2) := by decide +kernel
theorem d_MO_plain_3 : decode m_MO_plain.2.1 3 = .ok (.bipush 91, 2) := by decide +kernel
theorem d_MO_plain_5 : decode m_MO_plain.2.1 5 = .ok (.bipush 93, 2) := by decide +kernel
theorem d_MO_plain_7 : decode m_MO_plain.2.1 7 = .ok (.bipush 94, 2) := by decide +kernel
theorem d_MO_plain_9 : decode m_MO_plain.2.1 9 = .ok (.invokestatic 68, 3) := by decide +kernel
theorem d_MO_plain_12 : decode m_MO_plain.2.1 12 = .ok (.ifCond .ne 33, 3) := by decide +kernel
theorem d_MO_plain_15 : decode m_MO_plain.2.1 15 = .ok (.iload_n 0, 1) := by decide +kernel
theorem d_MO_plain_16 : decode m_MO_plain.2.1 16 = .ok (.bipush 36, 2) := by decide +kernel
theorem d_MO_plain_18 : decode m_MO_plain.2.1 18 = .ok (.bipush 124, 2) := by decide +kernel
theorem d_MO_plain_20 : decode m_MO_plain.2.1 20 = .ok (.bipush 40, 2) := by decide +kernel
theorem d_MO_plain_22 : decode m_MO_plain.2.1 22 = .ok (.bipush 41, 2) := by decide +kernel
theorem d_MO_plain_24 : decode m_MO_plain.2.1 24 = .ok (.invokestatic 68, 3) := by decide +kernel
theorem d_MO_plain_27 : decode m_MO_plain.2.1 27 = .ok (.ifCond .ne 18, 3) := by decide +kernel
theorem d_MO_plain_30 : decode m_MO_plain.2.1 30 = .ok (.iload_n 0, 1) := by decide +kernel
theorem d_MO_plain_31 : decode m_MO_plain.2.1 31 = .ok (.bipush 42, 2) := by decide +kernel
theorem d_MO_plain_33 : decode m_MO_plain.2.1 33 = .ok (.bipush 43, 2) := by decide +kernel
theorem d_MO_plain_35 : decode m_MO_plain.2.1 35 = .ok (.bipush 63, 2) := by decide +kernel
theorem d_MO_plain_37 : decode m_MO_plain.2.1 37 = .ok (.bipush 123, 2) := by decide +kernel
theorem d_MO_plain_39 : decode m_MO_plain.2.1 39 = .ok (.invokestatic 68, 3) := by decide +kernel
theorem d_MO_plain_42 : decode m_MO_plain.2.1 42 = .ok (.ifCond .eq 7, 3) := by decide +kernel
theorem d_MO_plain_45 : decode m_MO_plain.2.1 45 = .ok (.iconst 1, 1) := by decide +kernel
theorem d_MO_plain_46 : decode m_MO_plain.2.1 46 = .ok (.goto 4, 3) := by decide +kernel
theorem d_MO_plain_49 : decode m_MO_plain.2.1 49 = .ok (.iconst 0, 1) := by decide +kernel
theorem d_MO_plain_50 : decode m_MO_plain.2.1 50 = .ok (.istore_n 1, 1) := by decide +kernel
theorem d_MO_plain_51 : decode m_MO_plain.2.1 51 = .ok (.iload_n 1, 1) := by decide +kernel
theorem d_MO_plain_52 : decode m_MO_plain.2.1 52 = .ok (.ifCond .ne 13, 3) := by decide +kernel
theorem d_MO_plain_55 : decode m_MO_plain.2.1 55 = .ok (.iload_n 0, 1) := by decide +kernel
theorem d_MO_plain_56 : decode m_MO_plain.2.1 56 = .ok (.bipush 125, 2) := by decide +kernel
theorem d_MO_plain_58 : decode m_MO_plain.2.1 58 = .ok (.if_icmp .eq 7, 3) := by decide +kernel
theorem d_MO_plain_61 : decode m_MO_plain.2.1 61 = .ok (.iconst 1, 1) := by decide +kernel
theorem d_MO_plain_62 : decode m_MO_plain.2.1 62 = .ok (.goto 4, 3) := by decide +kernel
theorem d_MO_plain_65 : decode m_MO_plain.2.1 65 = .ok (.iconst 0, 1) := by decide +kernel
theorem d_MO_plain_66 : decode m_MO_plain.2.1 66 = .ok (.ireturn, 1) := by decide +kernel
theorem d_MO_passClass_0 : decode m_MO_passClass.2.1 0 = .ok (.iload_n 1, 1) := by decide +kernel
theorem d_MO_passClass_1 : decode m_MO_passClass.2.1 1 = .ok (.iconst 1, 1) := by decide +kernel
theorem d_MO_passClass_2 : decode m_MO_passClass.2.1 2 = .ok (.iadd, 1) := by decide +kernel
theorem d_MO_passClass_3 : decode m_MO_passClass.2.1 3 = .ok (.istore_n 2, 1) := by decide +kernel
theorem d_MO_passClass_4 : decode m_MO_passClass.2.1 4 = .ok (.aload_n 0, 1) := by decide +kernel
theorem d_MO_passClass_5 : decode m_MO_passClass.2.1 5 = .ok (.iload_n 2, 1) := by decide +kernel
theorem d_MO_passClass_6 : decode m_MO_passClass.2.1 6 = .ok (.invokevirtual 90, 3) := by decide +kernel
theorem d_MO_passClass_9 : decode m_MO_passClass.2.1 9 = .ok (.bipush 94, 2) := by decide +kernel
theorem d_MO_passClass_11 : decode m_MO_passClass.2.1 11 = .ok (.if_icmp .ne 6, 3) := by decide +kernel
theorem d_MO_passClass_14 : decode m_MO_passClass.2.1 14 = .ok (.iinc 2 1, 3) := by decide +kernel
theorem d_MO_passClass_17 : decode m_MO_passClass.2.1 17 = .ok (.iconst 0, 1) := by decide +kernel
theorem d_MO_passClass_18 : decode m_MO_passClass.2.1 18 = .ok (.istore_n 3, 1) := by decide +kernel
theorem d_MO_passClass_19 : decode m_MO_passClass.2.1 19 = .ok (.iload_n 2, 1) := by decide +kernel
theorem d_MO_passClass_20 : decode m_MO_passClass.2.1 20 = .ok (.aload_n 0, 1) := by decide +kernel
theorem d_MO_passClass_21 : decode m_MO_passClass.2.1 21 = .ok (.getfield 72, 3) := by decide +kernel
theorem d_MO_passClass_24 : decode m_MO_passClass.2.1 24 = .ok (.if_icmp .ge 103, 3) := by decide +kernel
theorem d_MO_passClass_27 : decode m_MO_passClass.2.1 27 = .ok (.aload_n 0, 1) := by decide +kernel
theorem d_MO_passClass_28 : decode m_MO_passClass.2.1 28 = .ok (.iload_n 2, 1) := by decide +kernel
theorem d_MO_passClass_29 : decode m_MO_passClass.2.1 29 = .ok (.invokevirtual 90, 3) := by decide +kernel
theorem d_MO_passClass_32 : decode m_MO_passClass.2.1 32 = .ok (.bipush 93, 2) := by decide +kernel
theorem d_MO_passClass_34 : decode m_MO_passClass.2.1 34 = .ok (.if_icmp .eq 93, 3) := by decide +kernel
theorem d_MO_passClass_37 : decode m_MO_passClass.2.1 37 = .ok (.aload_n 0, 1) := by decide +kernel
theorem d_MO_passClass_38 : decode m_MO_passClass.2.1 38 = .ok (.iload_n 2, 1) := by decide +kernel
theorem d_MO_passClass_39 : decode m_MO_passClass.2.1 39 = .ok (.invokevirtual 90, 3) := by decide +kernel
theorem d_MO_passClass_42 : decode m_MO_passClass.2.1 42 = .ok (.invokestatic 93, 3) := by decide +kernel
theorem d_MO_passClass_45 : decode m_MO_passClass.2.1 45 = .ok (.ifCond .ne 7, 3) := by decide +kernel
theorem d_MO_passClass_48 : decode m_MO_passClass.2.1 48 = .ok (.iconst (-1), 1) := by decide +kernel
theorem d_MO_passClass_49 : decode m_MO_passClass.2.1 49 = .ok (.iload_n 2, 1) := by decide +kernel
theorem d_MO_passClass_50 : decode m_MO_passClass.2.1 50 = .ok (.isub, 1) := by decide +kernel
theorem d_MO_passClass_51 : decode m_MO_passClass.2.1 51 = .ok (.ireturn, 1) := by decide +kernel
theorem d_MO_passClass_52 : decode m_MO_passClass.2.1 52 = .ok (.iinc 3 1, 3) := by decide +kernel
theorem d_MO_passClass_55 : decode m_MO_passClass.2.1 55 = .ok (.aload_n 0, 1) := by decide +kernel
theorem d_MO_passClass_56 : decode m_MO_passClass.2.1 56 = .ok (.iload_n 2, 1) := by decide +kernel
theorem d_MO_passClass_57 : decode m_MO_passClass.2.1 57 = .ok (.iconst 1, 1) := by decide +kernel
theorem d_MO_passClass_58 : decode m_MO_passClass.2.1 58 = .ok (.iadd, 1) := by decide +kernel
theorem d_MO_passClass_59 : decode m_MO_passClass.2.1 59 = .ok (.invokevirtual 90, 3) := by decide +kernel
theorem d_MO_passClass_62 : decode m_MO_passClass.2.1 62 = .ok (.bipush 45, 2) := by decide +kernel
theorem d_MO_passClass_64 : decode m_MO_passClass.2.1 64 = .ok (.if_icmp .ne 57, 3) := by decide +kernel
theorem d_MO_passClass_67 : decode m_MO_passClass.2.1 67 = .ok (.iload_n 2, 1) := by decide +kernel
theorem d_MO_passClass_68 : decode m_MO_passClass.2.1 68 = .ok (.iconst 2, 1) := by decide +kernel
theorem d_MO_passClass_69 : decode m_MO_passClass.2.1 69 = .ok (.iadd, 1) := by decide +kernel
theorem d_MO_passClass_70 : decode m_MO_passClass.2.1 70 = .ok (.aload_n 0, 1) := by decide +kernel
theorem d_MO_passClass_71 : decode m_MO_passClass.2.1 71 = .ok (.getfield 72, 3) := by decide +kernel
theorem d_MO_passClass_74 : decode m_MO_passClass.2.1 74 = .ok (.if_icmp .lt 10, 3) := by decide +kernel
theorem d_MO_passClass_77 : decode m_MO_passClass.2.1 77 = .ok (.iconst (-1), 1) := by decide +kernel
theorem d_MO_passClass_78 : decode m_MO_passClass.2.1 78 = .ok (.aload_n 0, 1) := by decide +kernel
theorem d_MO_passClass_79 : decode m_MO_passClass.2.1 79 = .ok (.getfield 72, 3) := by decide +kernel
theorem d_MO_passClass_82 : decode m_MO_passClass.2.1 82 = .ok (.isub, 1) := by decide +kernel
theorem d_MO_passClass_83 : decode m_MO_passClass.2.1 83 = .ok (.ireturn, 1) := by decide +kernel
theorem d_MO_passClass_84 : decode m_MO_passClass.2.1 84 = .ok (.aload_n 0, 1) := by decide +kernel
theorem d_MO_passClass_85 : decode m_MO_passClass.2.1 85 = .ok (.iload_n 2, 1) := by decide +kernel
theorem d_MO_passClass_86 : decode m_MO_passClass.2.1 86 = .ok (.iconst 2, 1) := by decide +kernel
theorem d_MO_passClass_87 : decode m_MO_passClass.2.1 87 = .ok (.iadd, 1) := by decide +kernel
theorem d_MO_passClass_88 : decode m_MO_passClass.2.1 88 = .ok (.invokevirtual 90, 3) := by decide +kernel
theorem d_MO_passClass_91 : decode m_MO_passClass.2.1 91 = .ok (.invokestatic 93, 3) := by decide +kernel
theorem d_MO_passClass_94 : decode m_MO_passClass.2.1 94 = .ok (.ifCond .eq 18, 3) := by decide +kernel
theorem d_MO_passClass_97 : decode m_MO_passClass.2.1 97 = .ok (.aload_n 0, 1) := by decide +kernel
theorem d_MO_passClass_98 : decode m_MO_passClass.2.1 98 = .ok (.iload_n 2, 1) := by decide +kernel
theorem d_MO_passClass_99 : decode m_MO_passClass.2.1 99 = .ok (.iconst 2, 1) := by decide +kernel
theorem d_MO_passClass_100 : decode m_MO_passClass.2.1 100 = .ok (.iadd, 1) := by decide +kernel
theorem d_MO_passClass_101 : decode m_MO_passClass.2.1 101 = .ok (.invokevirtual 90, 3) := by decide +kernel
theorem d_MO_passClass_104 : decode m_MO_passClass.2.1 104 = .ok (.aload_n 0, 1) := by decide +kernel
theorem d_MO_passClass_105 : decode m_MO_passClass.2.1 105 = .ok (.iload_n 2, 1) := by decide +kernel
theorem d_MO_passClass_106 : decode m_MO_passClass.2.1 106 = .ok (.invokevirtual 90, 3) := by decide +kernel
theorem d_MO_passClass_109 : decode m_MO_passClass.2.1 109 = .ok (.if_icmp .ge 9, 3) := by decide +kernel
theorem d_MO_passClass_112 : decode m_MO_passClass.2.1 112 = .ok (.iconst (-1), 1) := by decide +kernel
theorem d_MO_passClass_113 : decode m_MO_passClass.2.1 113 = .ok (.iload_n 2, 1) := by decide +kernel
theorem d_MO_passClass_114 : decode m_MO_passClass.2.1 114 = .ok (.iconst 2, 1) := by decide +kernel
theorem d_MO_passClass_115 : decode m_MO_passClass.2.1 115 = .ok (.iadd, 1) := by decide +kernel
theorem d_MO_passClass_116 : decode m_MO_passClass.2.1 116 = .ok (.isub, 1) := by decide +kernel
theorem d_MO_passClass_117 : decode m_MO_passClass.2.1 117 = .ok (.ireturn, 1) := by decide +kernel
theorem d_MO_passClass_118 : decode m_MO_passClass.2.1 118 = .ok (.iinc 2 2, 3) := by decide +kernel
theorem d_MO_passClass_121 : decode m_MO_passClass.2.1 121 = .ok (.iinc 2 1, 3) := by decide +kernel
theorem d_MO_passClass_124 : decode m_MO_passClass.2.1 124 = .ok (.goto (-105), 3) := by decide +kernel
theorem d_MO_passClass_127 : decode m_MO_passClass.2.1 127 = .ok (.iload_n 2, 1) := by decide +kernel
theorem d_MO_passClass_128 : decode m_MO_passClass.2.1 128 = .ok (.aload_n 0, 1) := by decide +kernel
theorem d_MO_passClass_129 : decode m_MO_passClass.2.1 129 = .ok (.getfield 72, 3) := by decide +kernel
theorem d_MO_passClass_132 : decode m_MO_passClass.2.1 132 = .ok (.if_icmp .lt 12, 3) := by decide +kernel
theorem d_MO_passClass_135 : decode m_MO_passClass.2.1 135 = .ok (.iconst (-1), 1) := by decide +kernel
theorem d_MO_passClass_136 : decode m_MO_passClass.2.1 136 = .ok (.aload_n 0, 1) := by decide +kernel
theorem d_MO_passClass_137 : decode m_MO_passClass.2.1 137 = .ok (.getfield 72, 3) := by decide +kernel
theorem d_MO_passClass_140 : decode m_MO_passClass.2.1 140 = .ok (.isub, 1) := by decide +kernel
theorem d_MO_passClass_141 : decode m_MO_passClass.2.1 141 = .ok (.goto 16, 3) := by decide +kernel
theorem d_MO_passClass_144 : decode m_MO_passClass.2.1 144 = .ok (.iload_n 3, 1) := by decide +kernel
theorem d_MO_passClass_145 : decode m_MO_passClass.2.1 145 = .ok (.ifCond .ne 9, 3) := by decide +kernel
theorem d_MO_passClass_148 : decode m_MO_passClass.2.1 148 = .ok (.iconst (-1), 1) := by decide +kernel
theorem d_MO_passClass_149 : decode m_MO_passClass.2.1 149 = .ok (.iload_n 2, 1) := by decide +kernel
theorem d_MO_passClass_150 : decode m_MO_passClass.2.1 150 = .ok (.isub, 1) := by decide +kernel
theorem d_MO_passClass_151 : decode m_MO_passClass.2.1 151 = .ok (.goto 6, 3) := by decide +kernel
theorem d_MO_passClass_154 : decode m_MO_passClass.2.1 154 = .ok (.iload_n 2, 1) := by decide +kernel
theorem d_MO_passClass_155 : decode m_MO_passClass.2.1 155 = .ok (.iconst 1, 1) := by decide +kernel
theorem d_MO_passClass_156 : decode m_MO_passClass.2.1 156 = .ok (.iadd, 1) := by decide +kernel
theorem d_MO_passClass_157 : decode m_MO_passClass.2.1 157 = .ok (.ireturn, 1) := by decide +kernel
theorem d_MO_inClass_0 : decode m_MO_inClass.2.1 0 = .ok (.iload_n 0, 1) := by decide +kernel
theorem d_MO_inClass_1 : decode m_MO_inClass.2.1 1 = .ok (.bipush 91, 2) := by decide +kernel
theorem d_MO_inClass_3 : decode m_MO_inClass.2.1 3 = .ok (.bipush 93, 2) := by decide +kernel
theorem d_MO_inClass_5 : decode m_MO_inClass.2.1 5 = .ok (.bipush 94, 2) := by decide +kernel
theorem d_MO_inClass_7 : decode m_MO_inClass.2.1 7 = .ok (.bipush 45, 2) := by decide +kernel
theorem d_MO_inClass_9 : decode m_MO_inClass.2.1 9 = .ok (.invokestatic 68, 3) := by decide +kernel
theorem d_MO_inClass_12 : decode m_MO_inClass.2.1 12 = .ok (.ifCond .ne 7, 3) := by decide +kernel
theorem d_MO_inClass_15 : decode m_MO_inClass.2.1 15 = .ok (.iconst 1, 1) := by decide +kernel
theorem d_MO_inClass_16 : decode m_MO_inClass.2.1 16 = .ok (.goto 4, 3) := by decide +kernel
theorem d_MO_inClass_19 : decode m_MO_inClass.2.1 19 = .ok (.iconst 0, 1) := by decide +kernel
theorem d_MO_inClass_20 : decode m_MO_inClass.2.1 20 = .ok (.ireturn, 1) := by decide +kernel
theorem d_MO_write_0 : decode m_MO_write.2.1 0 = .ok (.aload_n 0, 1) := by decide +kernel
theorem d_MO_write_1 : decode m_MO_write.2.1 1 = .ok (.iconst 0, 1) := by decide +kernel
theorem d_MO_write_2 : decode m_MO_write.2.1 2 = .ok (.putfield 126, 3) := by decide +kernel
theorem d_MO_write_5 : decode m_MO_write.2.1 5 = .ok (.aload_n 0, 1) := by decide +kernel
theorem d_MO_write_6 : decode m_MO_write.2.1 6 = .ok (.iconst 0, 1) := by decide +kernel
theorem d_MO_write_7 : decode m_MO_write.2.1 7 = .ok (.putfield 133, 3) := by decide +kernel
theorem d_MO_write_10 : decode m_MO_write.2.1 10 = .ok (.iconst 0, 1) := by decide +kernel
theorem d_MO_write_11 : decode m_MO_write.2.1 11 = .ok (.istore_n 1, 1) := by decide +kernel
theorem d_MO_write_12 : decode m_MO_write.2.1 12 = .ok (.iconst 0, 1) := by decide +kernel
theorem d_MO_write_13 : decode m_MO_write.2.1 13 = .ok (.istore_n 2, 1) := by decide +kernel
theorem d_MO_write_14 : decode m_MO_write.2.1 14 = .ok (.iconst 0, 1) := by decide +kernel
theorem d_MO_write_15 : decode m_MO_write.2.1 15 = .ok (.istore_n 3, 1) := by decide +kernel
theorem d_MO_write_16 : decode m_MO_write.2.1 16 = .ok (.aload_n 0, 1) := by decide +kernel
theorem d_MO_write_17 : decode m_MO_write.2.1 17 = .ok (.iconst 0, 1) := by decide +kernel
theorem d_MO_write_18 : decode m_MO_write.2.1 18 = .ok (.iconst 0, 1) := by decide +kernel
theorem d_MO_write_19 : decode m_MO_write.2.1 19 = .ok (.invokevirtual 147, 3) := by decide +kernel
theorem d_MO_write_22 : decode m_MO_write.2.1 22 = .ok (.iconst 0, 1) := by decide +kernel
theorem d_MO_write_23 : decode m_MO_write.2.1 23 = .ok (.istore 4, 2) := by decide +kernel
theorem d_MO_write_25 : decode m_MO_write.2.1 25 = .ok (.iload 4, 2) := by decide +kernel
theorem d_MO_write_27 : decode m_MO_write.2.1 27 = .ok (.aload_n 0, 1) := by decide +kernel
theorem d_MO_write_28 : decode m_MO_write.2.1 28 = .ok (.getfield 72, 3) := by decide +kernel
theorem d_MO_write_31 : decode m_MO_write.2.1 31 = .ok (.if_icmp .ge 200, 3) := by decide +kernel
theorem d_MO_write_34 : decode m_MO_write.2.1 34 = .ok (.aload_n 0, 1) := by decide +kernel
theorem d_MO_write_35 : decode m_MO_write.2.1 35 = .ok (.iload 4, 2) := by decide +kernel
theorem d_MO_write_37 : decode m_MO_write.2.1 37 = .ok (.invokevirtual 90, 3) := by decide +kernel
theorem d_MO_write_40 : decode m_MO_write.2.1 40 = .ok (.istore 5, 2) := by decide +kernel
theorem d_MO_write_42 : decode m_MO_write.2.1 42 = .ok (.iload 5, 2) := by decide +kernel
theorem d_MO_write_44 : decode m_MO_write.2.1 44 = .ok (.bipush 42, 2) := by decide +kernel
theorem d_MO_write_46 : decode m_MO_write.2.1 46 = .ok (.bipush 43, 2) := by decide +kernel
theorem d_MO_write_48 : decode m_MO_write.2.1 48 = .ok (.bipush 63, 2) := by decide +kernel
theorem d_MO_write_50 : decode m_MO_write.2.1 50 = .ok (.bipush 123, 2) := by decide +kernel
theorem d_MO_write_52 : decode m_MO_write.2.1 52 = .ok (.invokestatic 68, 3) := by decide +kernel
theorem d_MO_write_55 : decode m_MO_write.2.1 55 = .ok (.ifCond .eq 15, 3) := by decide +kernel
theorem d_MO_write_58 : decode m_MO_write.2.1 58 = .ok (.aload_n 0, 1) := by decide +kernel
theorem d_MO_write_59 : decode m_MO_write.2.1 59 = .ok (.iload 4, 2) := by decide +kernel
theorem d_MO_write_61 : decode m_MO_write.2.1 61 = .ok (.iload_n 3, 1) := by decide +kernel
theorem d_MO_write_62 : decode m_MO_write.2.1 62 = .ok (.invokevirtual 150, 3) := by decide +kernel
theorem d_MO_write_65 : decode m_MO_write.2.1 65 = .ok (.istore 4, 2) := by decide +kernel
theorem d_MO_write_67 : decode m_MO_write.2.1 67 = .ok (.goto 161, 3) := by decide +kernel
theorem d_MO_write_70 : decode m_MO_write.2.1 70 = .ok (.iload 5, 2) := by decide +kernel
theorem d_MO_write_72 : decode m_MO_write.2.1 72 = .ok (.bipush 124, 2) := by decide +kernel
theorem d_MO_write_74 : decode m_MO_write.2.1 74 = .ok (.if_icmp .ne 11, 3) := by decide +kernel
theorem d_MO_write_77 : decode m_MO_write.2.1 77 = .ok (.aload_n 0, 1) := by decide +kernel
theorem d_MO_write_78 : decode m_MO_write.2.1 78 = .ok (.iload_n 1, 1) := by decide +kernel
theorem d_MO_write_79 : decode m_MO_write.2.1 79 = .ok (.invokevirtual 154, 3) := by decide +kernel
theorem d_MO_write_82 : decode m_MO_write.2.1 82 = .ok (.goto 143, 3) := by decide +kernel
theorem d_MO_write_85 : decode m_MO_write.2.1 85 = .ok (.iload 5, 2) := by decide +kernel
theorem d_MO_write_87 : decode m_MO_write.2.1 87 = .ok (.bipush 40, 2) := by decide +kernel
theorem d_MO_write_89 : decode m_MO_write.2.1 89 = .ok (.if_icmp .ne 18, 3) := by decide +kernel
theorem d_MO_write_92 : decode m_MO_write.2.1 92 = .ok (.iinc 1 1, 3) := by decide +kernel
theorem d_MO_write_95 : decode m_MO_write.2.1 95 = .ok (.iinc 2 1, 3) := by decide +kernel
theorem d_MO_write_98 : decode m_MO_write.2.1 98 = .ok (.aload_n 0, 1) := by decide +kernel
theorem d_MO_write_99 : decode m_MO_write.2.1 99 = .ok (.iload_n 1, 1) := by decide +kernel
theorem d_MO_write_100 : decode m_MO_write.2.1 100 = .ok (.iload_n 2, 1) := by decide +kernel
theorem d_MO_write_101 : decode m_MO_write.2.1 101 = .ok (.invokevirtual 147, 3) := by decide +kernel
theorem d_MO_write_104 : decode m_MO_write.2.1 104 = .ok (.goto 121, 3) := by decide +kernel
theorem d_MO_write_107 : decode m_MO_write.2.1 107 = .ok (.iload 5, 2) := by decide +kernel
theorem d_MO_write_109 : decode m_MO_write.2.1 109 = .ok (.bipush 41, 2) := by decide +kernel
theorem d_MO_write_111 : decode m_MO_write.2.1 111 = .ok (.if_icmp .ne 21, 3) := by decide +kernel
theorem d_MO_write_114 : decode m_MO_write.2.1 114 = .ok (.aload_n 0, 1) := by decide +kernel
theorem d_MO_write_115 : decode m_MO_write.2.1 115 = .ok (.iload_n 1, 1) := by decide +kernel
theorem d_MO_write_116 : decode m_MO_write.2.1 116 = .ok (.invokevirtual 157, 3) := by decide +kernel
theorem d_MO_write_119 : decode m_MO_write.2.1 119 = .ok (.aload_n 0, 1) := by decide +kernel
theorem d_MO_write_120 : decode m_MO_write.2.1 120 = .ok (.getfield 44, 3) := by decide +kernel
theorem d_MO_write_123 : decode m_MO_write.2.1 123 = .ok (.iload_n 1, 1) := by decide +kernel
theorem d_MO_write_124 : decode m_MO_write.2.1 124 = .ok (.iaload, 1) := by decide +kernel
theorem d_MO_write_125 : decode m_MO_write.2.1 125 = .ok (.istore_n 3, 1) := by decide +kernel
theorem d_MO_write_126 : decode m_MO_write.2.1 126 = .ok (.iinc 1 (-1), 3) := by decide +kernel
theorem d_MO_write_129 : decode m_MO_write.2.1 129 = .ok (.goto 96, 3) := by decide +kernel
theorem d_MO_write_132 : decode m_MO_write.2.1 132 = .ok (.aload_n 0, 1) := by decide +kernel
theorem d_MO_write_133 : decode m_MO_write.2.1 133 = .ok (.getfield 126, 3) := by decide +kernel
theorem d_MO_write_136 : decode m_MO_write.2.1 136 = .ok (.istore_n 3, 1) := by decide +kernel
theorem d_MO_write_137 : decode m_MO_write.2.1 137 = .ok (.aload_n 0, 1) := by decide +kernel
theorem d_MO_write_138 : decode m_MO_write.2.1 138 = .ok (.iload 5, 2) := by decide +kernel
theorem d_MO_write_140 : decode m_MO_write.2.1 140 = .ok (.bipush 46, 2) := by decide +kernel
theorem d_MO_write_142 : decode m_MO_write.2.1 142 = .ok (.if_icmp .ne 7, 3) := by decide +kernel
theorem d_MO_write_145 : decode m_MO_write.2.1 145 = .ok (.iconst 1, 1) := by decide +kernel
theorem d_MO_write_146 : decode m_MO_write.2.1 146 = .ok (.goto 37, 3) := by decide +kernel
theorem d_MO_write_149 : decode m_MO_write.2.1 149 = .ok (.iload 5, 2) := by decide +kernel
theorem d_MO_write_151 : decode m_MO_write.2.1 151 = .ok (.bipush 91, 2) := by decide +kernel
theorem d_MO_write_153 : decode m_MO_write.2.1 153 = .ok (.if_icmp .ne 7, 3) := by decide +kernel
theorem d_MO_write_156 : decode m_MO_write.2.1 156 = .ok (.iconst 2, 1) := by decide +kernel
theorem d_MO_write_157 : decode m_MO_write.2.1 157 = .ok (.goto 26, 3) := by decide +kernel
theorem d_MO_write_160 : decode m_MO_write.2.1 160 = .ok (.iload 5, 2) := by decide +kernel
theorem d_MO_write_162 : decode m_MO_write.2.1 162 = .ok (.bipush 94, 2) := by decide +kernel
theorem d_MO_write_164 : decode m_MO_write.2.1 164 = .ok (.if_icmp .ne 7, 3) := by decide +kernel
theorem d_MO_write_167 : decode m_MO_write.2.1 167 = .ok (.iconst 3, 1) := by decide +kernel
theorem d_MO_write_168 : decode m_MO_write.2.1 168 = .ok (.goto 15, 3) := by decide +kernel
theorem d_MO_write_171 : decode m_MO_write.2.1 171 = .ok (.iload 5, 2) := by decide +kernel
theorem d_MO_write_173 : decode m_MO_write.2.1 173 = .ok (.bipush 36, 2) := by decide +kernel
theorem d_MO_write_175 : decode m_MO_write.2.1 175 = .ok (.if_icmp .ne 7, 3) := by decide +kernel
theorem d_MO_write_178 : decode m_MO_write.2.1 178 = .ok (.iconst 4, 1) := by decide +kernel
theorem d_MO_write_179 : decode m_MO_write.2.1 179 = .ok (.goto 4, 3) := by decide +kernel
theorem d_MO_write_182 : decode m_MO_write.2.1 182 = .ok (.iconst 0, 1) := by decide +kernel
theorem d_MO_write_183 : decode m_MO_write.2.1 183 = .ok (.iload 5, 2) := by decide +kernel
theorem d_MO_write_185 : decode m_MO_write.2.1 185 = .ok (.bipush 91, 2) := by decide +kernel
theorem d_MO_write_187 : decode m_MO_write.2.1 187 = .ok (.if_icmp .ne 8, 3) := by decide +kernel
theorem d_MO_write_190 : decode m_MO_write.2.1 190 = .ok (.iload 4, 2) := by decide +kernel
theorem d_MO_write_192 : decode m_MO_write.2.1 192 = .ok (.goto 5, 3) := by decide +kernel
theorem d_MO_write_195 : decode m_MO_write.2.1 195 = .ok (.iload 5, 2) := by decide +kernel
theorem d_MO_write_197 : decode m_MO_write.2.1 197 = .ok (.iconst 0, 1) := by decide +kernel
theorem d_MO_write_198 : decode m_MO_write.2.1 198 = .ok (.invokevirtual 129, 3) := by decide +kernel
theorem d_MO_write_201 : decode m_MO_write.2.1 201 = .ok (.iload 5, 2) := by decide +kernel
theorem d_MO_write_203 : decode m_MO_write.2.1 203 = .ok (.bipush 91, 2) := by decide +kernel
theorem d_MO_write_205 : decode m_MO_write.2.1 205 = .ok (.if_icmp .ne 20, 3) := by decide +kernel
theorem d_MO_write_208 : decode m_MO_write.2.1 208 = .ok (.aload_n 0, 1) := by decide +kernel
theorem d_MO_write_209 : decode m_MO_write.2.1 209 = .ok (.iload 4, 2) := by decide +kernel
theorem d_MO_write_211 : decode m_MO_write.2.1 211 = .ok (.invokevirtual 90, 3) := by decide +kernel
theorem d_MO_write_214 : decode m_MO_write.2.1 214 = .ok (.bipush 93, 2) := by decide +kernel
theorem d_MO_write_216 : decode m_MO_write.2.1 216 = .ok (.if_icmp .eq 9, 3) := by decide +kernel
theorem d_MO_write_219 : decode m_MO_write.2.1 219 = .ok (.iinc 4 1, 3) := by decide +kernel
theorem d_MO_write_222 : decode m_MO_write.2.1 222 = .ok (.goto (-14), 3) := by decide +kernel
theorem d_MO_write_225 : decode m_MO_write.2.1 225 = .ok (.iinc 4 1, 3) := by decide +kernel
theorem d_MO_write_228 : decode m_MO_write.2.1 228 = .ok (.goto (-203), 3) := by decide +kernel
theorem d_MO_write_231 : decode m_MO_write.2.1 231 = .ok (.aload_n 0, 1) := by decide +kernel
theorem d_MO_write_232 : decode m_MO_write.2.1 232 = .ok (.iconst 0, 1) := by decide +kernel
theorem d_MO_write_233 : decode m_MO_write.2.1 233 = .ok (.invokevirtual 157, 3) := by decide +kernel
theorem d_MO_write_236 : decode m_MO_write.2.1 236 = .ok (.aload_n 0, 1) := by decide +kernel
theorem d_MO_write_237 : decode m_MO_write.2.1 237 = .ok (.bipush 8, 2) := by decide +kernel
theorem d_MO_write_239 : decode m_MO_write.2.1 239 = .ok (.iconst 0, 1) := by decide +kernel
theorem d_MO_write_240 : decode m_MO_write.2.1 240 = .ok (.iconst 0, 1) := by decide +kernel
theorem d_MO_write_241 : decode m_MO_write.2.1 241 = .ok (.invokevirtual 129, 3) := by decide +kernel
theorem d_MO_write_244 : decode m_MO_write.2.1 244 = .ok (.return_, 1) := by decide +kernel
theorem d_MO_open_0 : decode m_MO_open.2.1 0 = .ok (.aload_n 0, 1) := by decide +kernel
theorem d_MO_open_1 : decode m_MO_open.2.1 1 = .ok (.getfield 50, 3) := by decide +kernel
theorem d_MO_open_4 : decode m_MO_open.2.1 4 = .ok (.iload_n 1, 1) := by decide +kernel
theorem d_MO_open_5 : decode m_MO_open.2.1 5 = .ok (.iload_n 2, 1) := by decide +kernel
theorem d_MO_open_6 : decode m_MO_open.2.1 6 = .ok (.iastore, 1) := by decide +kernel
theorem d_MO_open_7 : decode m_MO_open.2.1 7 = .ok (.aload_n 0, 1) := by decide +kernel
theorem d_MO_open_8 : decode m_MO_open.2.1 8 = .ok (.getfield 44, 3) := by decide +kernel
theorem d_MO_open_11 : decode m_MO_open.2.1 11 = .ok (.iload_n 1, 1) := by decide +kernel
theorem d_MO_open_12 : decode m_MO_open.2.1 12 = .ok (.aload_n 0, 1) := by decide +kernel
theorem d_MO_open_13 : decode m_MO_open.2.1 13 = .ok (.getfield 126, 3) := by decide +kernel
theorem d_MO_open_16 : decode m_MO_open.2.1 16 = .ok (.iastore, 1) := by decide +kernel
theorem d_MO_open_17 : decode m_MO_open.2.1 17 = .ok (.iload_n 2, 1) := by decide +kernel
theorem d_MO_open_18 : decode m_MO_open.2.1 18 = .ok (.ifCond .le 12, 3) := by decide +kernel
theorem d_MO_open_21 : decode m_MO_open.2.1 21 = .ok (.aload_n 0, 1) := by decide +kernel
theorem d_MO_open_22 : decode m_MO_open.2.1 22 = .ok (.iconst 5, 1) := by decide +kernel
theorem d_MO_open_23 : decode m_MO_open.2.1 23 = .ok (.iconst 2, 1) := by decide +kernel
theorem d_MO_open_24 : decode m_MO_open.2.1 24 = .ok (.iload_n 2, 1) := by decide +kernel
theorem d_MO_open_25 : decode m_MO_open.2.1 25 = .ok (.imul, 1) := by decide +kernel
theorem d_MO_open_26 : decode m_MO_open.2.1 26 = .ok (.iconst 0, 1) := by decide +kernel
theorem d_MO_open_27 : decode m_MO_open.2.1 27 = .ok (.invokevirtual 129, 3) := by decide +kernel
theorem d_MO_open_30 : decode m_MO_open.2.1 30 = .ok (.aload_n 0, 1) := by decide +kernel
theorem d_MO_open_31 : decode m_MO_open.2.1 31 = .ok (.getfield 47, 3) := by decide +kernel
theorem d_MO_open_34 : decode m_MO_open.2.1 34 = .ok (.iload_n 1, 1) := by decide +kernel
theorem d_MO_open_35 : decode m_MO_open.2.1 35 = .ok (.aload_n 0, 1) := by decide +kernel
theorem d_MO_open_36 : decode m_MO_open.2.1 36 = .ok (.getfield 126, 3) := by decide +kernel
theorem d_MO_open_39 : decode m_MO_open.2.1 39 = .ok (.iastore, 1) := by decide +kernel
theorem d_MO_open_40 : decode m_MO_open.2.1 40 = .ok (.aload_n 0, 1) := by decide +kernel
theorem d_MO_open_41 : decode m_MO_open.2.1 41 = .ok (.getfield 53, 3) := by decide +kernel
theorem d_MO_open_44 : decode m_MO_open.2.1 44 = .ok (.iload_n 1, 1) := by decide +kernel
theorem d_MO_open_45 : decode m_MO_open.2.1 45 = .ok (.aload_n 0, 1) := by decide +kernel
theorem d_MO_open_46 : decode m_MO_open.2.1 46 = .ok (.getfield 133, 3) := by decide +kernel
theorem d_MO_open_49 : decode m_MO_open.2.1 49 = .ok (.iastore, 1) := by decide +kernel
theorem d_MO_open_50 : decode m_MO_open.2.1 50 = .ok (.return_, 1) := by decide +kernel
theorem d_MO_add_0 : decode m_MO_add.2.1 0 = .ok (.aload_n 0, 1) := by decide +kernel
theorem d_MO_add_1 : decode m_MO_add.2.1 1 = .ok (.getfield 35, 3) := by decide +kernel
theorem d_MO_add_4 : decode m_MO_add.2.1 4 = .ok (.aload_n 0, 1) := by decide +kernel
theorem d_MO_add_5 : decode m_MO_add.2.1 5 = .ok (.getfield 126, 3) := by decide +kernel
theorem d_MO_add_8 : decode m_MO_add.2.1 8 = .ok (.iload_n 1, 1) := by decide +kernel
theorem d_MO_add_9 : decode m_MO_add.2.1 9 = .ok (.iastore, 1) := by decide +kernel
theorem d_MO_add_10 : decode m_MO_add.2.1 10 = .ok (.aload_n 0, 1) := by decide +kernel
theorem d_MO_add_11 : decode m_MO_add.2.1 11 = .ok (.getfield 38, 3) := by decide +kernel
theorem d_MO_add_14 : decode m_MO_add.2.1 14 = .ok (.aload_n 0, 1) := by decide +kernel
theorem d_MO_add_15 : decode m_MO_add.2.1 15 = .ok (.getfield 126, 3) := by decide +kernel
theorem d_MO_add_18 : decode m_MO_add.2.1 18 = .ok (.iload_n 2, 1) := by decide +kernel
theorem d_MO_add_19 : decode m_MO_add.2.1 19 = .ok (.iastore, 1) := by decide +kernel
theorem d_MO_add_20 : decode m_MO_add.2.1 20 = .ok (.aload_n 0, 1) := by decide +kernel
theorem d_MO_add_21 : decode m_MO_add.2.1 21 = .ok (.getfield 41, 3) := by decide +kernel
theorem d_MO_add_24 : decode m_MO_add.2.1 24 = .ok (.aload_n 0, 1) := by decide +kernel
theorem d_MO_add_25 : decode m_MO_add.2.1 25 = .ok (.getfield 126, 3) := by decide +kernel
theorem d_MO_add_28 : decode m_MO_add.2.1 28 = .ok (.iload_n 3, 1) := by decide +kernel
theorem d_MO_add_29 : decode m_MO_add.2.1 29 = .ok (.iastore, 1) := by decide +kernel
theorem d_MO_add_30 : decode m_MO_add.2.1 30 = .ok (.aload_n 0, 1) := by decide +kernel
theorem d_MO_add_31 : decode m_MO_add.2.1 31 = .ok (.dup, 1) := by decide +kernel
theorem d_MO_add_32 : decode m_MO_add.2.1 32 = .ok (.getfield 126, 3) := by decide +kernel
theorem d_MO_add_35 : decode m_MO_add.2.1 35 = .ok (.iconst 1, 1) := by decide +kernel
theorem d_MO_add_36 : decode m_MO_add.2.1 36 = .ok (.iadd, 1) := by decide +kernel
theorem d_MO_add_37 : decode m_MO_add.2.1 37 = .ok (.putfield 126, 3) := by decide +kernel
theorem d_MO_add_40 : decode m_MO_add.2.1 40 = .ok (.return_, 1) := by decide +kernel
theorem d_MO_writeRepetition_0 : decode m_MO_writeRepetition.2.1 0 = .ok (.aload_n 0, 1) := by decide +kernel
theorem d_MO_writeRepetition_1 : decode m_MO_writeRepetition.2.1 1 = .ok (.iload_n 1, 1) := by decide +kernel
theorem d_MO_writeRepetition_2 : decode m_MO_writeRepetition.2.1 2 = .ok (.invokevirtual 90, 3) := by decide +kernel
theorem d_MO_writeRepetition_5 : decode m_MO_writeRepetition.2.1 5 = .ok (.istore_n 3, 1) := by decide +kernel
theorem d_MO_writeRepetition_6 : decode m_MO_writeRepetition.2.1 6 = .ok (.iload_n 1, 1) := by decide +kernel
theorem d_MO_writeRepetition_7 : decode m_MO_writeRepetition.2.1 7 = .ok (.iconst 1, 1) := by decide +kernel
theorem d_MO_writeRepetition_8 : decode m_MO_writeRepetition.2.1 8 = .ok (.iadd, 1) := by decide +kernel
theorem d_MO_writeRepetition_9 : decode m_MO_writeRepetition.2.1 9 = .ok (.istore 4, 2) := by decide +kernel
theorem d_MO_writeRepetition_11 : decode m_MO_writeRepetition.2.1 11 = .ok (.iload_n 3, 1) := by decide +kernel
theorem d_MO_writeRepetition_12 : decode m_MO_writeRepetition.2.1 12 = .ok (.bipush 123, 2) := by decide +kernel
theorem d_MO_writeRepetition_14 : decode m_MO_writeRepetition.2.1 14 = .ok (.if_icmp .ne 22, 3) := by decide +kernel
theorem d_MO_writeRepetition_17 : decode m_MO_writeRepetition.2.1 17 = .ok (.aload_n 0, 1) := by decide +kernel
theorem d_MO_writeRepetition_18 : decode m_MO_writeRepetition.2.1 18 = .ok (.iload 4, 2) := by decide +kernel
theorem d_MO_writeRepetition_20 : decode m_MO_writeRepetition.2.1 20 = .ok (.iconst 1, 1) := by decide +kernel
theorem d_MO_writeRepetition_21 : decode m_MO_writeRepetition.2.1 21 = .ok (.isub, 1) := by decide +kernel
theorem d_MO_writeRepetition_22 : decode m_MO_writeRepetition.2.1 22 = .ok (.invokevirtual 90, 3) := by decide +kernel
theorem d_MO_writeRepetition_25 : decode m_MO_writeRepetition.2.1 25 = .ok (.bipush 125, 2) := by decide +kernel
theorem d_MO_writeRepetition_27 : decode m_MO_writeRepetition.2.1 27 = .ok (.if_icmp .eq 9, 3) := by decide +kernel
theorem d_MO_writeRepetition_30 : decode m_MO_writeRepetition.2.1 30 = .ok (.iinc 4 1, 3) := by decide +kernel
theorem d_MO_writeRepetition_33 : decode m_MO_writeRepetition.2.1 33 = .ok (.goto (-16), 3) := by decide +kernel
theorem d_MO_writeRepetition_36 : decode m_MO_writeRepetition.2.1 36 = .ok (.aload_n 0, 1) := by decide +kernel
theorem d_MO_writeRepetition_37 : decode m_MO_writeRepetition.2.1 37 = .ok (.iload 4, 2) := by decide +kernel
theorem d_MO_writeRepetition_39 : decode m_MO_writeRepetition.2.1 39 = .ok (.invokevirtual 90, 3) := by decide +kernel
theorem d_MO_writeRepetition_42 : decode m_MO_writeRepetition.2.1 42 = .ok (.bipush 63, 2) := by decide +kernel
theorem d_MO_writeRepetition_44 : decode m_MO_writeRepetition.2.1 44 = .ok (.if_icmp .ne 7, 3) := by decide +kernel
theorem d_MO_writeRepetition_47 : decode m_MO_writeRepetition.2.1 47 = .ok (.iconst 1, 1) := by decide +kernel
theorem d_MO_writeRepetition_48 : decode m_MO_writeRepetition.2.1 48 = .ok (.goto 4, 3) := by decide +kernel
theorem d_MO_writeRepetition_51 : decode m_MO_writeRepetition.2.1 51 = .ok (.iconst 0, 1) := by decide +kernel
theorem d_MO_writeRepetition_52 : decode m_MO_writeRepetition.2.1 52 = .ok (.istore 5, 2) := by decide +kernel
theorem d_MO_writeRepetition_54 : decode m_MO_writeRepetition.2.1 54 = .ok (.aload_n 0, 1) := by decide +kernel
theorem d_MO_writeRepetition_55 : decode m_MO_writeRepetition.2.1 55 = .ok (.getfield 126, 3) := by decide +kernel
theorem d_MO_writeRepetition_58 : decode m_MO_writeRepetition.2.1 58 = .ok (.iload_n 2, 1) := by decide +kernel
theorem d_MO_writeRepetition_59 : decode m_MO_writeRepetition.2.1 59 = .ok (.isub, 1) := by decide +kernel
theorem d_MO_writeRepetition_60 : decode m_MO_writeRepetition.2.1 60 = .ok (.istore 6, 2) := by decide +kernel
theorem d_MO_writeRepetition_62 : decode m_MO_writeRepetition.2.1 62 = .ok (.iload_n 3, 1) := by decide +kernel
theorem d_MO_writeRepetition_63 : decode m_MO_writeRepetition.2.1 63 = .ok (.bipush 63, 2) := by decide +kernel
theorem d_MO_writeRepetition_65 : decode m_MO_writeRepetition.2.1 65 = .ok (.if_icmp .ne 34, 3) := by decide +kernel
theorem d_MO_writeRepetition_68 : decode m_MO_writeRepetition.2.1 68 = .ok (.aload_n 0, 1) := by decide +kernel
theorem d_MO_writeRepetition_69 : decode m_MO_writeRepetition.2.1 69 = .ok (.iload_n 2, 1) := by decide +kernel
theorem d_MO_writeRepetition_70 : decode m_MO_writeRepetition.2.1 70 = .ok (.iload 5, 2) := by decide +kernel
theorem d_MO_writeRepetition_72 : decode m_MO_writeRepetition.2.1 72 = .ok (.ifCond .eq 10, 3) := by decide +kernel
theorem d_MO_writeRepetition_75 : decode m_MO_writeRepetition.2.1 75 = .ok (.iload 6, 2) := by decide +kernel
theorem d_MO_writeRepetition_77 : decode m_MO_writeRepetition.2.1 77 = .ok (.iconst 1, 1) := by decide +kernel
theorem d_MO_writeRepetition_78 : decode m_MO_writeRepetition.2.1 78 = .ok (.iadd, 1) := by decide +kernel
theorem d_MO_writeRepetition_79 : decode m_MO_writeRepetition.2.1 79 = .ok (.goto 4, 3) := by decide +kernel
theorem d_MO_writeRepetition_82 : decode m_MO_writeRepetition.2.1 82 = .ok (.iconst 1, 1) := by decide +kernel
theorem d_MO_writeRepetition_83 : decode m_MO_writeRepetition.2.1 83 = .ok (.iload 5, 2) := by decide +kernel
theorem d_MO_writeRepetition_85 : decode m_MO_writeRepetition.2.1 85 = .ok (.ifCond .eq 7, 3) := by decide +kernel
theorem d_MO_writeRepetition_88 : decode m_MO_writeRepetition.2.1 88 = .ok (.iconst 1, 1) := by decide +kernel
theorem d_MO_writeRepetition_89 : decode m_MO_writeRepetition.2.1 89 = .ok (.goto 7, 3) := by decide +kernel
theorem d_MO_writeRepetition_92 : decode m_MO_writeRepetition.2.1 92 = .ok (.iload 6, 2) := by decide +kernel
theorem d_MO_writeRepetition_94 : decode m_MO_writeRepetition.2.1 94 = .ok (.iconst 1, 1) := by decide +kernel
theorem d_MO_writeRepetition_95 : decode m_MO_writeRepetition.2.1 95 = .ok (.iadd, 1) := by decide +kernel
theorem d_MO_writeRepetition_96 : decode m_MO_writeRepetition.2.1 96 = .ok (.invokevirtual 136, 3) := by decide +kernel
theorem d_MO_writeRepetition_99 : decode m_MO_writeRepetition.2.1 99 = .ok (.iload_n 3, 1) := by decide +kernel
theorem d_MO_writeRepetition_100 : decode m_MO_writeRepetition.2.1 100 = .ok (.bipush 42, 2) := by decide +kernel
theorem d_MO_writeRepetition_102 : decode m_MO_writeRepetition.2.1 102 = .ok (.if_icmp .ne 46, 3) := by decide +kernel
theorem d_MO_writeRepetition_105 : decode m_MO_writeRepetition.2.1 105 = .ok (.aload_n 0, 1) := by decide +kernel
theorem d_MO_writeRepetition_106 : decode m_MO_writeRepetition.2.1 106 = .ok (.iload_n 2, 1) := by decide +kernel
theorem d_MO_writeRepetition_107 : decode m_MO_writeRepetition.2.1 107 = .ok (.iload 5, 2) := by decide +kernel
theorem d_MO_writeRepetition_109 : decode m_MO_writeRepetition.2.1 109 = .ok (.ifCond .eq 10, 3) := by decide +kernel
theorem d_MO_writeRepetition_112 : decode m_MO_writeRepetition.2.1 112 = .ok (.iload 6, 2) := by decide +kernel
theorem d_MO_writeRepetition_114 : decode m_MO_writeRepetition.2.1 114 = .ok (.iconst 2, 1) := by decide +kernel
theorem d_MO_writeRepetition_115 : decode m_MO_writeRepetition.2.1 115 = .ok (.iadd, 1) := by decide +kernel
theorem d_MO_writeRepetition_116 : decode m_MO_writeRepetition.2.1 116 = .ok (.goto 4, 3) := by decide +kernel
theorem d_MO_writeRepetition_119 : decode m_MO_writeRepetition.2.1 119 = .ok (.iconst 1, 1) := by decide +kernel
theorem d_MO_writeRepetition_120 : decode m_MO_writeRepetition.2.1 120 = .ok (.iload 5, 2) := by decide +kernel
theorem d_MO_writeRepetition_122 : decode m_MO_writeRepetition.2.1 122 = .ok (.ifCond .eq 7, 3) := by decide +kernel
theorem d_MO_writeRepetition_125 : decode m_MO_writeRepetition.2.1 125 = .ok (.iconst 1, 1) := by decide +kernel
theorem d_MO_writeRepetition_126 : decode m_MO_writeRepetition.2.1 126 = .ok (.goto 7, 3) := by decide +kernel
theorem d_MO_writeRepetition_129 : decode m_MO_writeRepetition.2.1 129 = .ok (.iload 6, 2) := by decide +kernel
theorem d_MO_writeRepetition_131 : decode m_MO_writeRepetition.2.1 131 = .ok (.iconst 2, 1) := by decide +kernel
theorem d_MO_writeRepetition_132 : decode m_MO_writeRepetition.2.1 132 = .ok (.iadd, 1) := by decide +kernel
theorem d_MO_writeRepetition_133 : decode m_MO_writeRepetition.2.1 133 = .ok (.invokevirtual 136, 3) := by decide +kernel
theorem d_MO_writeRepetition_136 : decode m_MO_writeRepetition.2.1 136 = .ok (.aload_n 0, 1) := by decide +kernel
theorem d_MO_writeRepetition_137 : decode m_MO_writeRepetition.2.1 137 = .ok (.bipush 7, 2) := by decide +kernel
theorem d_MO_writeRepetition_139 : decode m_MO_writeRepetition.2.1 139 = .ok (.iload 6, 2) := by decide +kernel
theorem d_MO_writeRepetition_141 : decode m_MO_writeRepetition.2.1 141 = .ok (.ineg, 1) := by decide +kernel
theorem d_MO_writeRepetition_142 : decode m_MO_writeRepetition.2.1 142 = .ok (.iconst 1, 1) := by decide +kernel
theorem d_MO_writeRepetition_143 : decode m_MO_writeRepetition.2.1 143 = .ok (.isub, 1) := by decide +kernel
theorem d_MO_writeRepetition_144 : decode m_MO_writeRepetition.2.1 144 = .ok (.iconst 0, 1) := by decide +kernel
theorem d_MO_writeRepetition_145 : decode m_MO_writeRepetition.2.1 145 = .ok (.invokevirtual 129, 3) := by decide +kernel
theorem d_MO_writeRepetition_148 : decode m_MO_writeRepetition.2.1 148 = .ok (.iload_n 3, 1) := by decide +kernel
theorem d_MO_writeRepetition_149 : decode m_MO_writeRepetition.2.1 149 = .ok (.bipush 43, 2) := by decide +kernel
theorem d_MO_writeRepetition_151 : decode m_MO_writeRepetition.2.1 151 = .ok (.if_icmp .ne 33, 3) := by decide +kernel
theorem d_MO_writeRepetition_154 : decode m_MO_writeRepetition.2.1 154 = .ok (.aload_n 0, 1) := by decide +kernel
theorem d_MO_writeRepetition_155 : decode m_MO_writeRepetition.2.1 155 = .ok (.bipush 6, 2) := by decide +kernel
theorem d_MO_writeRepetition_157 : decode m_MO_writeRepetition.2.1 157 = .ok (.iload 5, 2) := by decide +kernel
theorem d_MO_writeRepetition_159 : decode m_MO_writeRepetition.2.1 159 = .ok (.ifCond .eq 7, 3) := by decide +kernel
theorem d_MO_writeRepetition_162 : decode m_MO_writeRepetition.2.1 162 = .ok (.iconst 1, 1) := by decide +kernel
theorem d_MO_writeRepetition_163 : decode m_MO_writeRepetition.2.1 163 = .ok (.goto 6, 3) := by decide +kernel
theorem d_MO_writeRepetition_166 : decode m_MO_writeRepetition.2.1 166 = .ok (.iload 6, 2) := by decide +kernel
theorem d_MO_writeRepetition_168 : decode m_MO_writeRepetition.2.1 168 = .ok (.ineg, 1) := by decide +kernel
theorem d_MO_writeRepetition_169 : decode m_MO_writeRepetition.2.1 169 = .ok (.iload 5, 2) := by decide +kernel
theorem d_MO_writeRepetition_171 : decode m_MO_writeRepetition.2.1 171 = .ok (.ifCond .eq 9, 3) := by decide +kernel
theorem d_MO_writeRepetition_174 : decode m_MO_writeRepetition.2.1 174 = .ok (.iload 6, 2) := by decide +kernel
theorem d_MO_writeRepetition_176 : decode m_MO_writeRepetition.2.1 176 = .ok (.ineg, 1) := by decide +kernel
theorem d_MO_writeRepetition_177 : decode m_MO_writeRepetition.2.1 177 = .ok (.goto 4, 3) := by decide +kernel
theorem d_MO_writeRepetition_180 : decode m_MO_writeRepetition.2.1 180 = .ok (.iconst 1, 1) := by decide +kernel
theorem d_MO_writeRepetition_181 : decode m_MO_writeRepetition.2.1 181 = .ok (.invokevirtual 129, 3) := by decide +kernel
theorem d_MO_writeRepetition_184 : decode m_MO_writeRepetition.2.1 184 = .ok (.iload_n 3, 1) := by decide +kernel
theorem d_MO_writeRepetition_185 : decode m_MO_writeRepetition.2.1 185 = .ok (.bipush 123, 2) := by decide +kernel
theorem d_MO_writeRepetition_187 : decode m_MO_writeRepetition.2.1 187 = .ok (.if_icmp .ne 31, 3) := by decide +kernel
theorem d_MO_writeRepetition_190 : decode m_MO_writeRepetition.2.1 190 = .ok (.aload_n 0, 1) := by decide +kernel
theorem d_MO_writeRepetition_191 : decode m_MO_writeRepetition.2.1 191 = .ok (.iload_n 2, 1) := by decide +kernel
theorem d_MO_writeRepetition_192 : decode m_MO_writeRepetition.2.1 192 = .ok (.aload_n 0, 1) := by decide +kernel
theorem d_MO_writeRepetition_193 : decode m_MO_writeRepetition.2.1 193 = .ok (.iload_n 1, 1) := by decide +kernel
theorem d_MO_writeRepetition_194 : decode m_MO_writeRepetition.2.1 194 = .ok (.iconst 1, 1) := by decide +kernel
theorem d_MO_writeRepetition_195 : decode m_MO_writeRepetition.2.1 195 = .ok (.iadd, 1) := by decide +kernel
theorem d_MO_writeRepetition_196 : decode m_MO_writeRepetition.2.1 196 = .ok (.invokevirtual 90, 3) := by decide +kernel
theorem d_MO_writeRepetition_199 : decode m_MO_writeRepetition.2.1 199 = .ok (.bipush 48, 2) := by decide +kernel
theorem d_MO_writeRepetition_201 : decode m_MO_writeRepetition.2.1 201 = .ok (.isub, 1) := by decide +kernel
theorem d_MO_writeRepetition_202 : decode m_MO_writeRepetition.2.1 202 = .ok (.aload_n 0, 1) := by decide +kernel
theorem d_MO_writeRepetition_203 : decode m_MO_writeRepetition.2.1 203 = .ok (.iload 4, 2) := by decide +kernel
theorem d_MO_writeRepetition_205 : decode m_MO_writeRepetition.2.1 205 = .ok (.iconst 2, 1) := by decide +kernel
theorem d_MO_writeRepetition_206 : decode m_MO_writeRepetition.2.1 206 = .ok (.isub, 1) := by decide +kernel
theorem d_MO_writeRepetition_207 : decode m_MO_writeRepetition.2.1 207 = .ok (.invokevirtual 90, 3) := by decide +kernel
theorem d_MO_writeRepetition_210 : decode m_MO_writeRepetition.2.1 210 = .ok (.bipush 48, 2) := by decide +kernel
theorem d_MO_writeRepetition_212 : decode m_MO_writeRepetition.2.1 212 = .ok (.isub, 1) := by decide +kernel
theorem d_MO_writeRepetition_213 : decode m_MO_writeRepetition.2.1 213 = .ok (.iload 5, 2) := by decide +kernel
theorem d_MO_writeRepetition_215 : decode m_MO_writeRepetition.2.1 215 = .ok (.invokevirtual 143, 3) := by decide +kernel
theorem d_MO_writeRepetition_218 : decode m_MO_writeRepetition.2.1 218 = .ok (.iload 5, 2) := by decide +kernel
theorem d_MO_writeRepetition_220 : decode m_MO_writeRepetition.2.1 220 = .ok (.ifCond .eq 10, 3) := by decide +kernel
theorem d_MO_writeRepetition_223 : decode m_MO_writeRepetition.2.1 223 = .ok (.iload 4, 2) := by decide +kernel
theorem d_MO_writeRepetition_225 : decode m_MO_writeRepetition.2.1 225 = .ok (.iconst 1, 1) := by decide +kernel
theorem d_MO_writeRepetition_226 : decode m_MO_writeRepetition.2.1 226 = .ok (.iadd, 1) := by decide +kernel
theorem d_MO_writeRepetition_227 : decode m_MO_writeRepetition.2.1 227 = .ok (.goto 5, 3) := by decide +kernel
theorem d_MO_writeRepetition_230 : decode m_MO_writeRepetition.2.1 230 = .ok (.iload 4, 2) := by decide +kernel
theorem d_MO_writeRepetition_232 : decode m_MO_writeRepetition.2.1 232 = .ok (.ireturn, 1) := by decide +kernel
theorem d_MO_insert_0 : decode m_MO_insert.2.1 0 = .ok (.aload_n 0, 1) := by decide +kernel
theorem d_MO_insert_1 : decode m_MO_insert.2.1 1 = .ok (.getfield 126, 3) := by decide +kernel
theorem d_MO_insert_4 : decode m_MO_insert.2.1 4 = .ok (.istore 4, 2) := by decide +kernel
theorem d_MO_insert_6 : decode m_MO_insert.2.1 6 = .ok (.iload 4, 2) := by decide +kernel
theorem d_MO_insert_8 : decode m_MO_insert.2.1 8 = .ok (.iload_n 1, 1) := by decide +kernel
theorem d_MO_insert_9 : decode m_MO_insert.2.1 9 = .ok (.if_icmp .le 57, 3) := by decide +kernel
theorem d_MO_insert_12 : decode m_MO_insert.2.1 12 = .ok (.aload_n 0, 1) := by decide +kernel
theorem d_MO_insert_13 : decode m_MO_insert.2.1 13 = .ok (.getfield 35, 3) := by decide +kernel
theorem d_MO_insert_16 : decode m_MO_insert.2.1 16 = .ok (.iload 4, 2) := by decide +kernel
theorem d_MO_insert_18 : decode m_MO_insert.2.1 18 = .ok (.aload_n 0, 1) := by decide +kernel
theorem d_MO_insert_19 : decode m_MO_insert.2.1 19 = .ok (.getfield 35, 3) := by decide +kernel
theorem d_MO_insert_22 : decode m_MO_insert.2.1 22 = .ok (.iload 4, 2) := by decide +kernel
theorem d_MO_insert_24 : decode m_MO_insert.2.1 24 = .ok (.iconst 1, 1) := by decide +kernel
theorem d_MO_insert_25 : decode m_MO_insert.2.1 25 = .ok (.isub, 1) := by decide +kernel
theorem d_MO_insert_26 : decode m_MO_insert.2.1 26 = .ok (.iaload, 1) := by decide +kernel
theorem d_MO_insert_27 : decode m_MO_insert.2.1 27 = .ok (.iastore, 1) := by decide +kernel
theorem d_MO_insert_28 : decode m_MO_insert.2.1 28 = .ok (.aload_n 0, 1) := by decide +kernel
theorem d_MO_insert_29 : decode m_MO_insert.2.1 29 = .ok (.getfield 38, 3) := by decide +kernel
theorem d_MO_insert_32 : decode m_MO_insert.2.1 32 = .ok (.iload 4, 2) := by decide +kernel
theorem d_MO_insert_34 : decode m_MO_insert.2.1 34 = .ok (.aload_n 0, 1) := by decide +kernel
theorem d_MO_insert_35 : decode m_MO_insert.2.1 35 = .ok (.getfield 38, 3) := by decide +kernel
theorem d_MO_insert_38 : decode m_MO_insert.2.1 38 = .ok (.iload 4, 2) := by decide +kernel
theorem d_MO_insert_40 : decode m_MO_insert.2.1 40 = .ok (.iconst 1, 1) := by decide +kernel
theorem d_MO_insert_41 : decode m_MO_insert.2.1 41 = .ok (.isub, 1) := by decide +kernel
theorem d_MO_insert_42 : decode m_MO_insert.2.1 42 = .ok (.iaload, 1) := by decide +kernel
theorem d_MO_insert_43 : decode m_MO_insert.2.1 43 = .ok (.iastore, 1) := by decide +kernel
theorem d_MO_insert_44 : decode m_MO_insert.2.1 44 = .ok (.aload_n 0, 1) := by decide +kernel
theorem d_MO_insert_45 : decode m_MO_insert.2.1 45 = .ok (.getfield 41, 3) := by decide +kernel
theorem d_MO_insert_48 : decode m_MO_insert.2.1 48 = .ok (.iload 4, 2) := by decide +kernel
theorem d_MO_insert_50 : decode m_MO_insert.2.1 50 = .ok (.aload_n 0, 1) := by decide +kernel
theorem d_MO_insert_51 : decode m_MO_insert.2.1 51 = .ok (.getfield 41, 3) := by decide +kernel
theorem d_MO_insert_54 : decode m_MO_insert.2.1 54 = .ok (.iload 4, 2) := by decide +kernel
theorem d_MO_insert_56 : decode m_MO_insert.2.1 56 = .ok (.iconst 1, 1) := by decide +kernel
theorem d_MO_insert_57 : decode m_MO_insert.2.1 57 = .ok (.isub, 1) := by decide +kernel
theorem d_MO_insert_58 : decode m_MO_insert.2.1 58 = .ok (.iaload, 1) := by decide +kernel
theorem d_MO_insert_59 : decode m_MO_insert.2.1 59 = .ok (.iastore, 1) := by decide +kernel
theorem d_MO_insert_60 : decode m_MO_insert.2.1 60 = .ok (.iinc 4 (-1), 3) := by decide +kernel
theorem d_MO_insert_63 : decode m_MO_insert.2.1 63 = .ok (.goto (-57), 3) := by decide +kernel
theorem d_MO_insert_66 : decode m_MO_insert.2.1 66 = .ok (.aload_n 0, 1) := by decide +kernel
theorem d_MO_insert_67 : decode m_MO_insert.2.1 67 = .ok (.dup, 1) := by decide +kernel
theorem d_MO_insert_68 : decode m_MO_insert.2.1 68 = .ok (.getfield 126, 3) := by decide +kernel
theorem d_MO_insert_71 : decode m_MO_insert.2.1 71 = .ok (.iconst 1, 1) := by decide +kernel
theorem d_MO_insert_72 : decode m_MO_insert.2.1 72 = .ok (.iadd, 1) := by decide +kernel
theorem d_MO_insert_73 : decode m_MO_insert.2.1 73 = .ok (.putfield 126, 3) := by decide +kernel
theorem d_MO_insert_76 : decode m_MO_insert.2.1 76 = .ok (.aload_n 0, 1) := by decide +kernel
theorem d_MO_insert_77 : decode m_MO_insert.2.1 77 = .ok (.getfield 35, 3) := by decide +kernel
theorem d_MO_insert_80 : decode m_MO_insert.2.1 80 = .ok (.iload_n 1, 1) := by decide +kernel
theorem d_MO_insert_81 : decode m_MO_insert.2.1 81 = .ok (.bipush 6, 2) := by decide +kernel
theorem d_MO_insert_83 : decode m_MO_insert.2.1 83 = .ok (.iastore, 1) := by decide +kernel
theorem d_MO_insert_84 : decode m_MO_insert.2.1 84 = .ok (.aload_n 0, 1) := by decide +kernel
theorem d_MO_insert_85 : decode m_MO_insert.2.1 85 = .ok (.getfield 38, 3) := by decide +kernel
theorem d_MO_insert_88 : decode m_MO_insert.2.1 88 = .ok (.iload_n 1, 1) := by decide +kernel
theorem d_MO_insert_89 : decode m_MO_insert.2.1 89 = .ok (.iload_n 2, 1) := by decide +kernel
theorem d_MO_insert_90 : decode m_MO_insert.2.1 90 = .ok (.iastore, 1) := by decide +kernel
theorem d_MO_insert_91 : decode m_MO_insert.2.1 91 = .ok (.aload_n 0, 1) := by decide +kernel
theorem d_MO_insert_92 : decode m_MO_insert.2.1 92 = .ok (.getfield 41, 3) := by decide +kernel
theorem d_MO_insert_95 : decode m_MO_insert.2.1 95 = .ok (.iload_n 1, 1) := by decide +kernel
theorem d_MO_insert_96 : decode m_MO_insert.2.1 96 = .ok (.iload_n 3, 1) := by decide +kernel
theorem d_MO_insert_97 : decode m_MO_insert.2.1 97 = .ok (.iastore, 1) := by decide +kernel
theorem d_MO_insert_98 : decode m_MO_insert.2.1 98 = .ok (.return_, 1) := by decide +kernel
theorem d_MO_times_0 : decode m_MO_times.2.1 0 = .ok (.aload_n 0, 1) := by decide +kernel
theorem d_MO_times_1 : decode m_MO_times.2.1 1 = .ok (.getfield 126, 3) := by decide +kernel
theorem d_MO_times_4 : decode m_MO_times.2.1 4 = .ok (.iload_n 1, 1) := by decide +kernel
theorem d_MO_times_5 : decode m_MO_times.2.1 5 = .ok (.isub, 1) := by decide +kernel
theorem d_MO_times_6 : decode m_MO_times.2.1 6 = .ok (.istore 5, 2) := by decide +kernel
theorem d_MO_times_8 : decode m_MO_times.2.1 8 = .ok (.iload_n 1, 1) := by decide +kernel
theorem d_MO_times_9 : decode m_MO_times.2.1 9 = .ok (.istore 6, 2) := by decide +kernel
theorem d_MO_times_11 : decode m_MO_times.2.1 11 = .ok (.iload_n 3, 1) := by decide +kernel
theorem d_MO_times_12 : decode m_MO_times.2.1 12 = .ok (.iload_n 2, 1) := by decide +kernel
theorem d_MO_times_13 : decode m_MO_times.2.1 13 = .ok (.isub, 1) := by decide +kernel
theorem d_MO_times_14 : decode m_MO_times.2.1 14 = .ok (.istore 7, 2) := by decide +kernel
theorem d_MO_times_16 : decode m_MO_times.2.1 16 = .ok (.iconst 1, 1) := by decide +kernel
theorem d_MO_times_17 : decode m_MO_times.2.1 17 = .ok (.istore 8, 2) := by decide +kernel
theorem d_MO_times_19 : decode m_MO_times.2.1 19 = .ok (.iload 8, 2) := by decide +kernel
theorem d_MO_times_21 : decode m_MO_times.2.1 21 = .ok (.iload_n 2, 1) := by decide +kernel
theorem d_MO_times_22 : decode m_MO_times.2.1 22 = .ok (.if_icmp .ge 16, 3) := by decide +kernel
theorem d_MO_times_25 : decode m_MO_times.2.1 25 = .ok (.aload_n 0, 1) := by decide +kernel
theorem d_MO_times_26 : decode m_MO_times.2.1 26 = .ok (.iload_n 1, 1) := by decide +kernel
theorem d_MO_times_27 : decode m_MO_times.2.1 27 = .ok (.iload 5, 2) := by decide +kernel
theorem d_MO_times_29 : decode m_MO_times.2.1 29 = .ok (.invokevirtual 139, 3) := by decide +kernel
theorem d_MO_times_32 : decode m_MO_times.2.1 32 = .ok (.iinc 8 1, 3) := by decide +kernel
theorem d_MO_times_35 : decode m_MO_times.2.1 35 = .ok (.goto (-16), 3) := by decide +kernel
theorem d_MO_times_38 : decode m_MO_times.2.1 38 = .ok (.iconst 0, 1) := by decide +kernel
theorem d_MO_times_39 : decode m_MO_times.2.1 39 = .ok (.istore 8, 2) := by decide +kernel
theorem d_MO_times_41 : decode m_MO_times.2.1 41 = .ok (.iload 8, 2) := by decide +kernel
theorem d_MO_times_43 : decode m_MO_times.2.1 43 = .ok (.iload 7, 2) := by decide +kernel
theorem d_MO_times_45 : decode m_MO_times.2.1 45 = .ok (.if_icmp .ge 91, 3) := by decide +kernel
theorem d_MO_times_48 : decode m_MO_times.2.1 48 = .ok (.iload 7, 2) := by decide +kernel
theorem d_MO_times_50 : decode m_MO_times.2.1 50 = .ok (.iload 8, 2) := by decide +kernel
theorem d_MO_times_52 : decode m_MO_times.2.1 52 = .ok (.isub, 1) := by decide +kernel
theorem d_MO_times_53 : decode m_MO_times.2.1 53 = .ok (.iload 5, 2) := by decide +kernel
theorem d_MO_times_55 : decode m_MO_times.2.1 55 = .ok (.iconst 1, 1) := by decide +kernel
theorem d_MO_times_56 : decode m_MO_times.2.1 56 = .ok (.iadd, 1) := by decide +kernel
theorem d_MO_times_57 : decode m_MO_times.2.1 57 = .ok (.imul, 1) := by decide +kernel
theorem d_MO_times_58 : decode m_MO_times.2.1 58 = .ok (.istore 9, 2) := by decide +kernel
theorem d_MO_times_60 : decode m_MO_times.2.1 60 = .ok (.iload 4, 2) := by decide +kernel
theorem d_MO_times_62 : decode m_MO_times.2.1 62 = .ok (.ifCond .eq 8, 3) := by decide +kernel
theorem d_MO_times_65 : decode m_MO_times.2.1 65 = .ok (.iload 9, 2) := by decide +kernel
theorem d_MO_times_67 : decode m_MO_times.2.1 67 = .ok (.goto 4, 3) := by decide +kernel
theorem d_MO_times_70 : decode m_MO_times.2.1 70 = .ok (.iconst 1, 1) := by decide +kernel
theorem d_MO_times_71 : decode m_MO_times.2.1 71 = .ok (.istore 10, 2) := by decide +kernel
theorem d_MO_times_73 : decode m_MO_times.2.1 73 = .ok (.iload 4, 2) := by decide +kernel
theorem d_MO_times_75 : decode m_MO_times.2.1 75 = .ok (.ifCond .eq 7, 3) := by decide +kernel
theorem d_MO_times_78 : decode m_MO_times.2.1 78 = .ok (.iconst 1, 1) := by decide +kernel
theorem d_MO_times_79 : decode m_MO_times.2.1 79 = .ok (.goto 5, 3) := by decide +kernel
theorem d_MO_times_82 : decode m_MO_times.2.1 82 = .ok (.iload 9, 2) := by decide +kernel
theorem d_MO_times_84 : decode m_MO_times.2.1 84 = .ok (.istore 11, 2) := by decide +kernel
theorem d_MO_times_86 : decode m_MO_times.2.1 86 = .ok (.iload_n 2, 1) := by decide +kernel
theorem d_MO_times_87 : decode m_MO_times.2.1 87 = .ok (.ifCond .ne 25, 3) := by decide +kernel
theorem d_MO_times_90 : decode m_MO_times.2.1 90 = .ok (.iload 8, 2) := by decide +kernel
theorem d_MO_times_92 : decode m_MO_times.2.1 92 = .ok (.ifCond .ne 20, 3) := by decide +kernel
theorem d_MO_times_95 : decode m_MO_times.2.1 95 = .ok (.aload_n 0, 1) := by decide +kernel
theorem d_MO_times_96 : decode m_MO_times.2.1 96 = .ok (.iload_n 1, 1) := by decide +kernel
theorem d_MO_times_97 : decode m_MO_times.2.1 97 = .ok (.iload 10, 2) := by decide +kernel
theorem d_MO_times_99 : decode m_MO_times.2.1 99 = .ok (.iload 11, 2) := by decide +kernel
theorem d_MO_times_101 : decode m_MO_times.2.1 101 = .ok (.invokevirtual 136, 3) := by decide +kernel
theorem d_MO_times_104 : decode m_MO_times.2.1 104 = .ok (.iload_n 1, 1) := by decide +kernel
theorem d_MO_times_105 : decode m_MO_times.2.1 105 = .ok (.iconst 1, 1) := by decide +kernel
theorem d_MO_times_106 : decode m_MO_times.2.1 106 = .ok (.iadd, 1) := by decide +kernel
theorem d_MO_times_107 : decode m_MO_times.2.1 107 = .ok (.istore 6, 2) := by decide +kernel
theorem d_MO_times_109 : decode m_MO_times.2.1 109 = .ok (.goto 21, 3) := by decide +kernel
theorem d_MO_times_112 : decode m_MO_times.2.1 112 = .ok (.aload_n 0, 1) := by decide +kernel
theorem d_MO_times_113 : decode m_MO_times.2.1 113 = .ok (.bipush 6, 2) := by decide +kernel
theorem d_MO_times_115 : decode m_MO_times.2.1 115 = .ok (.iload 10, 2) := by decide +kernel
theorem d_MO_times_117 : decode m_MO_times.2.1 117 = .ok (.iload 11, 2) := by decide +kernel
theorem d_MO_times_119 : decode m_MO_times.2.1 119 = .ok (.invokevirtual 129, 3) := by decide +kernel
theorem d_MO_times_122 : decode m_MO_times.2.1 122 = .ok (.aload_n 0, 1) := by decide +kernel
theorem d_MO_times_123 : decode m_MO_times.2.1 123 = .ok (.iload 6, 2) := by decide +kernel
theorem d_MO_times_125 : decode m_MO_times.2.1 125 = .ok (.iload 5, 2) := by decide +kernel
theorem d_MO_times_127 : decode m_MO_times.2.1 127 = .ok (.invokevirtual 139, 3) := by decide +kernel
theorem d_MO_times_130 : decode m_MO_times.2.1 130 = .ok (.iinc 8 1, 3) := by decide +kernel
theorem d_MO_times_133 : decode m_MO_times.2.1 133 = .ok (.goto (-92), 3) := by decide +kernel
theorem d_MO_times_136 : decode m_MO_times.2.1 136 = .ok (.return_, 1) := by decide +kernel
theorem d_MO_copy_0 : decode m_MO_copy.2.1 0 = .ok (.iload_n 1, 1) := by decide +kernel
theorem d_MO_copy_1 : decode m_MO_copy.2.1 1 = .ok (.istore_n 3, 1) := by decide +kernel
theorem d_MO_copy_2 : decode m_MO_copy.2.1 2 = .ok (.iload_n 3, 1) := by decide +kernel
theorem d_MO_copy_3 : decode m_MO_copy.2.1 3 = .ok (.iload_n 1, 1) := by decide +kernel
theorem d_MO_copy_4 : decode m_MO_copy.2.1 4 = .ok (.iload_n 2, 1) := by decide +kernel
theorem d_MO_copy_5 : decode m_MO_copy.2.1 5 = .ok (.iadd, 1) := by decide +kernel
theorem d_MO_copy_6 : decode m_MO_copy.2.1 6 = .ok (.if_icmp .ge 31, 3) := by decide +kernel
theorem d_MO_copy_9 : decode m_MO_copy.2.1 9 = .ok (.aload_n 0, 1) := by decide +kernel
theorem d_MO_copy_10 : decode m_MO_copy.2.1 10 = .ok (.aload_n 0, 1) := by decide +kernel
theorem d_MO_copy_11 : decode m_MO_copy.2.1 11 = .ok (.getfield 35, 3) := by decide +kernel
theorem d_MO_copy_14 : decode m_MO_copy.2.1 14 = .ok (.iload_n 3, 1) := by decide +kernel
theorem d_MO_copy_15 : decode m_MO_copy.2.1 15 = .ok (.iaload, 1) := by decide +kernel
theorem d_MO_copy_16 : decode m_MO_copy.2.1 16 = .ok (.aload_n 0, 1) := by decide +kernel
theorem d_MO_copy_17 : decode m_MO_copy.2.1 17 = .ok (.getfield 38, 3) := by decide +kernel
theorem d_MO_copy_20 : decode m_MO_copy.2.1 20 = .ok (.iload_n 3, 1) := by decide +kernel
theorem d_MO_copy_21 : decode m_MO_copy.2.1 21 = .ok (.iaload, 1) := by decide +kernel
theorem d_MO_copy_22 : decode m_MO_copy.2.1 22 = .ok (.aload_n 0, 1) := by decide +kernel
theorem d_MO_copy_23 : decode m_MO_copy.2.1 23 = .ok (.getfield 41, 3) := by decide +kernel
theorem d_MO_copy_26 : decode m_MO_copy.2.1 26 = .ok (.iload_n 3, 1) := by decide +kernel
theorem d_MO_copy_27 : decode m_MO_copy.2.1 27 = .ok (.iaload, 1) := by decide +kernel
theorem d_MO_copy_28 : decode m_MO_copy.2.1 28 = .ok (.invokevirtual 129, 3) := by decide +kernel
theorem d_MO_copy_31 : decode m_MO_copy.2.1 31 = .ok (.iinc 3 1, 3) := by decide +kernel
theorem d_MO_copy_34 : decode m_MO_copy.2.1 34 = .ok (.goto (-32), 3) := by decide +kernel
theorem d_MO_copy_37 : decode m_MO_copy.2.1 37 = .ok (.return_, 1) := by decide +kernel
theorem d_MO_nextRow_0 : decode m_MO_nextRow.2.1 0 = .ok (.aload_n 0, 1) := by decide +kernel
theorem d_MO_nextRow_1 : decode m_MO_nextRow.2.1 1 = .ok (.getfield 126, 3) := by decide +kernel
theorem d_MO_nextRow_4 : decode m_MO_nextRow.2.1 4 = .ok (.aload_n 0, 1) := by decide +kernel
theorem d_MO_nextRow_5 : decode m_MO_nextRow.2.1 5 = .ok (.getfield 47, 3) := by decide +kernel
theorem d_MO_nextRow_8 : decode m_MO_nextRow.2.1 8 = .ok (.iload_n 1, 1) := by decide +kernel
theorem d_MO_nextRow_9 : decode m_MO_nextRow.2.1 9 = .ok (.iaload, 1) := by decide +kernel
theorem d_MO_nextRow_10 : decode m_MO_nextRow.2.1 10 = .ok (.isub, 1) := by decide +kernel
theorem d_MO_nextRow_11 : decode m_MO_nextRow.2.1 11 = .ok (.istore_n 2, 1) := by decide +kernel
theorem d_MO_nextRow_12 : decode m_MO_nextRow.2.1 12 = .ok (.aload_n 0, 1) := by decide +kernel
theorem d_MO_nextRow_13 : decode m_MO_nextRow.2.1 13 = .ok (.aload_n 0, 1) := by decide +kernel
theorem d_MO_nextRow_14 : decode m_MO_nextRow.2.1 14 = .ok (.getfield 47, 3) := by decide +kernel
theorem d_MO_nextRow_17 : decode m_MO_nextRow.2.1 17 = .ok (.iload_n 1, 1) := by decide +kernel
theorem d_MO_nextRow_18 : decode m_MO_nextRow.2.1 18 = .ok (.iaload, 1) := by decide +kernel
theorem d_MO_nextRow_19 : decode m_MO_nextRow.2.1 19 = .ok (.iconst 1, 1) := by decide +kernel
theorem d_MO_nextRow_20 : decode m_MO_nextRow.2.1 20 = .ok (.iload_n 2, 1) := by decide +kernel
theorem d_MO_nextRow_21 : decode m_MO_nextRow.2.1 21 = .ok (.iconst 2, 1) := by decide +kernel
theorem d_MO_nextRow_22 : decode m_MO_nextRow.2.1 22 = .ok (.iadd, 1) := by decide +kernel
theorem d_MO_nextRow_23 : decode m_MO_nextRow.2.1 23 = .ok (.invokevirtual 136, 3) := by decide +kernel
theorem d_MO_nextRow_26 : decode m_MO_nextRow.2.1 26 = .ok (.aload_n 0, 1) := by decide +kernel
theorem d_MO_nextRow_27 : decode m_MO_nextRow.2.1 27 = .ok (.getfield 56, 3) := by decide +kernel
theorem d_MO_nextRow_30 : decode m_MO_nextRow.2.1 30 = .ok (.aload_n 0, 1) := by decide +kernel
theorem d_MO_nextRow_31 : decode m_MO_nextRow.2.1 31 = .ok (.getfield 133, 3) := by decide +kernel
theorem d_MO_nextRow_34 : decode m_MO_nextRow.2.1 34 = .ok (.aload_n 0, 1) := by decide +kernel
theorem d_MO_nextRow_35 : decode m_MO_nextRow.2.1 35 = .ok (.getfield 126, 3) := by decide +kernel
theorem d_MO_nextRow_38 : decode m_MO_nextRow.2.1 38 = .ok (.iastore, 1) := by decide +kernel
theorem d_MO_nextRow_39 : decode m_MO_nextRow.2.1 39 = .ok (.aload_n 0, 1) := by decide +kernel
theorem d_MO_nextRow_40 : decode m_MO_nextRow.2.1 40 = .ok (.dup, 1) := by decide +kernel
theorem d_MO_nextRow_41 : decode m_MO_nextRow.2.1 41 = .ok (.getfield 133, 3) := by decide +kernel
theorem d_MO_nextRow_44 : decode m_MO_nextRow.2.1 44 = .ok (.iconst 1, 1) := by decide +kernel
theorem d_MO_nextRow_45 : decode m_MO_nextRow.2.1 45 = .ok (.iadd, 1) := by decide +kernel
theorem d_MO_nextRow_46 : decode m_MO_nextRow.2.1 46 = .ok (.putfield 133, 3) := by decide +kernel
theorem d_MO_nextRow_49 : decode m_MO_nextRow.2.1 49 = .ok (.aload_n 0, 1) := by decide +kernel
theorem d_MO_nextRow_50 : decode m_MO_nextRow.2.1 50 = .ok (.bipush 7, 2) := by decide +kernel
theorem d_MO_nextRow_52 : decode m_MO_nextRow.2.1 52 = .ok (.iconst 0, 1) := by decide +kernel
theorem d_MO_nextRow_53 : decode m_MO_nextRow.2.1 53 = .ok (.iconst 0, 1) := by decide +kernel
theorem d_MO_nextRow_54 : decode m_MO_nextRow.2.1 54 = .ok (.invokevirtual 129, 3) := by decide +kernel
theorem d_MO_nextRow_57 : decode m_MO_nextRow.2.1 57 = .ok (.aload_n 0, 1) := by decide +kernel
theorem d_MO_nextRow_58 : decode m_MO_nextRow.2.1 58 = .ok (.getfield 47, 3) := by decide +kernel
theorem d_MO_nextRow_61 : decode m_MO_nextRow.2.1 61 = .ok (.iload_n 1, 1) := by decide +kernel
theorem d_MO_nextRow_62 : decode m_MO_nextRow.2.1 62 = .ok (.aload_n 0, 1) := by decide +kernel
theorem d_MO_nextRow_63 : decode m_MO_nextRow.2.1 63 = .ok (.getfield 126, 3) := by decide +kernel
theorem d_MO_nextRow_66 : decode m_MO_nextRow.2.1 66 = .ok (.iastore, 1) := by decide +kernel
theorem d_MO_nextRow_67 : decode m_MO_nextRow.2.1 67 = .ok (.return_, 1) := by decide +kernel
theorem d_MO_close_0 : decode m_MO_close.2.1 0 = .ok (.aload_n 0, 1) := by decide +kernel
theorem d_MO_close_1 : decode m_MO_close.2.1 1 = .ok (.getfield 53, 3) := by decide +kernel
theorem d_MO_close_4 : decode m_MO_close.2.1 4 = .ok (.iload_n 1, 1) := by decide +kernel
theorem d_MO_close_5 : decode m_MO_close.2.1 5 = .ok (.iaload, 1) := by decide +kernel
theorem d_MO_close_6 : decode m_MO_close.2.1 6 = .ok (.istore_n 2, 1) := by decide +kernel
theorem d_MO_close_7 : decode m_MO_close.2.1 7 = .ok (.iload_n 2, 1) := by decide +kernel
theorem d_MO_close_8 : decode m_MO_close.2.1 8 = .ok (.aload_n 0, 1) := by decide +kernel
theorem d_MO_close_9 : decode m_MO_close.2.1 9 = .ok (.getfield 133, 3) := by decide +kernel
theorem d_MO_close_12 : decode m_MO_close.2.1 12 = .ok (.if_icmp .ge 31, 3) := by decide +kernel
theorem d_MO_close_15 : decode m_MO_close.2.1 15 = .ok (.aload_n 0, 1) := by decide +kernel
theorem d_MO_close_16 : decode m_MO_close.2.1 16 = .ok (.getfield 38, 3) := by decide +kernel
theorem d_MO_close_19 : decode m_MO_close.2.1 19 = .ok (.aload_n 0, 1) := by decide +kernel
theorem d_MO_close_20 : decode m_MO_close.2.1 20 = .ok (.getfield 56, 3) := by decide +kernel
theorem d_MO_close_23 : decode m_MO_close.2.1 23 = .ok (.iload_n 2, 1) := by decide +kernel
theorem d_MO_close_24 : decode m_MO_close.2.1 24 = .ok (.iaload, 1) := by decide +kernel
theorem d_MO_close_25 : decode m_MO_close.2.1 25 = .ok (.aload_n 0, 1) := by decide +kernel
theorem d_MO_close_26 : decode m_MO_close.2.1 26 = .ok (.getfield 126, 3) := by decide +kernel
theorem d_MO_close_29 : decode m_MO_close.2.1 29 = .ok (.aload_n 0, 1) := by decide +kernel
theorem d_MO_close_30 : decode m_MO_close.2.1 30 = .ok (.getfield 56, 3) := by decide +kernel
theorem d_MO_close_33 : decode m_MO_close.2.1 33 = .ok (.iload_n 2, 1) := by decide +kernel
theorem d_MO_close_34 : decode m_MO_close.2.1 34 = .ok (.iaload, 1) := by decide +kernel
theorem d_MO_close_35 : decode m_MO_close.2.1 35 = .ok (.isub, 1) := by decide +kernel
theorem d_MO_close_36 : decode m_MO_close.2.1 36 = .ok (.iastore, 1) := by decide +kernel
theorem d_MO_close_37 : decode m_MO_close.2.1 37 = .ok (.iinc 2 1, 3) := by decide +kernel
theorem d_MO_close_40 : decode m_MO_close.2.1 40 = .ok (.goto (-33), 3) := by decide +kernel
theorem d_MO_close_43 : decode m_MO_close.2.1 43 = .ok (.aload_n 0, 1) := by decide +kernel
theorem d_MO_close_44 : decode m_MO_close.2.1 44 = .ok (.aload_n 0, 1) := by decide +kernel
theorem d_MO_close_45 : decode m_MO_close.2.1 45 = .ok (.getfield 53, 3) := by decide +kernel
theorem d_MO_close_48 : decode m_MO_close.2.1 48 = .ok (.iload_n 1, 1) := by decide +kernel
theorem d_MO_close_49 : decode m_MO_close.2.1 49 = .ok (.iaload, 1) := by decide +kernel
theorem d_MO_close_50 : decode m_MO_close.2.1 50 = .ok (.putfield 133, 3) := by decide +kernel
theorem d_MO_close_53 : decode m_MO_close.2.1 53 = .ok (.aload_n 0, 1) := by decide +kernel
theorem d_MO_close_54 : decode m_MO_close.2.1 54 = .ok (.getfield 50, 3) := by decide +kernel
theorem d_MO_close_57 : decode m_MO_close.2.1 57 = .ok (.iload_n 1, 1) := by decide +kernel
theorem d_MO_close_58 : decode m_MO_close.2.1 58 = .ok (.iaload, 1) := by decide +kernel
theorem d_MO_close_59 : decode m_MO_close.2.1 59 = .ok (.ifCond .le 19, 3) := by decide +kernel
theorem d_MO_close_62 : decode m_MO_close.2.1 62 = .ok (.aload_n 0, 1) := by decide +kernel
theorem d_MO_close_63 : decode m_MO_close.2.1 63 = .ok (.iconst 5, 1) := by decide +kernel
theorem d_MO_close_64 : decode m_MO_close.2.1 64 = .ok (.iconst 2, 1) := by decide +kernel
theorem d_MO_close_65 : decode m_MO_close.2.1 65 = .ok (.aload_n 0, 1) := by decide +kernel
theorem d_MO_close_66 : decode m_MO_close.2.1 66 = .ok (.getfield 50, 3) := by decide +kernel
theorem d_MO_close_69 : decode m_MO_close.2.1 69 = .ok (.iload_n 1, 1) := by decide +kernel
theorem d_MO_close_70 : decode m_MO_close.2.1 70 = .ok (.iaload, 1) := by decide +kernel
theorem d_MO_close_71 : decode m_MO_close.2.1 71 = .ok (.imul, 1) := by decide +kernel
theorem d_MO_close_72 : decode m_MO_close.2.1 72 = .ok (.iconst 1, 1) := by decide +kernel
theorem d_MO_close_73 : decode m_MO_close.2.1 73 = .ok (.iadd, 1) := by decide +kernel
theorem d_MO_close_74 : decode m_MO_close.2.1 74 = .ok (.iconst 0, 1) := by decide +kernel
theorem d_MO_close_75 : decode m_MO_close.2.1 75 = .ok (.invokevirtual 129, 3) := by decide +kernel
theorem d_MO_close_78 : decode m_MO_close.2.1 78 = .ok (.return_, 1) := by decide +kernel
theorem d_MO_fault_0 : decode m_MO_fault.2.1 0 = .ok (.aload_n 0, 1) := by decide +kernel
theorem d_MO_fault_1 : decode m_MO_fault.2.1 1 = .ok (.invokevirtual 176, 3) := by decide +kernel
theorem d_MO_fault_4 : decode m_MO_fault.2.1 4 = .ok (.ireturn, 1) := by decide +kernel
theorem d_MO_text_0 : decode m_MO_text.2.1 0 = .ok (.iload_n 1, 1) := by decide +kernel
theorem d_MO_text_1 : decode m_MO_text.2.1 1 = .ok (.bipush 32, 2) := by decide +kernel
theorem d_MO_text_3 : decode m_MO_text.2.1 3 = .ok (.if_icmp .lt 18, 3) := by decide +kernel
theorem d_MO_text_6 : decode m_MO_text.2.1 6 = .ok (.iload_n 1, 1) := by decide +kernel
theorem d_MO_text_7 : decode m_MO_text.2.1 7 = .ok (.bipush 126, 2) := by decide +kernel
theorem d_MO_text_9 : decode m_MO_text.2.1 9 = .ok (.if_icmp .gt 12, 3) := by decide +kernel
theorem d_MO_text_12 : decode m_MO_text.2.1 12 = .ok (.aload_n 0, 1) := by decide +kernel
theorem d_MO_text_13 : decode m_MO_text.2.1 13 = .ok (.getfield 164, 3) := by decide +kernel
theorem d_MO_text_16 : decode m_MO_text.2.1 16 = .ok (.bipush 30, 2) := by decide +kernel
theorem d_MO_text_18 : decode m_MO_text.2.1 18 = .ok (.if_icmp .ne 5, 3) := by decide +kernel
theorem d_MO_text_21 : decode m_MO_text.2.1 21 = .ok (.iconst (-1), 1) := by decide +kernel
theorem d_MO_text_22 : decode m_MO_text.2.1 22 = .ok (.ireturn, 1) := by decide +kernel
theorem d_MO_text_23 : decode m_MO_text.2.1 23 = .ok (.aload_n 0, 1) := by decide +kernel
theorem d_MO_text_24 : decode m_MO_text.2.1 24 = .ok (.getfield 13, 3) := by decide +kernel
theorem d_MO_text_27 : decode m_MO_text.2.1 27 = .ok (.aload_n 0, 1) := by decide +kernel
theorem d_MO_text_28 : decode m_MO_text.2.1 28 = .ok (.getfield 164, 3) := by decide +kernel
theorem d_MO_text_31 : decode m_MO_text.2.1 31 = .ok (.iload_n 1, 1) := by decide +kernel
theorem d_MO_text_32 : decode m_MO_text.2.1 32 = .ok (.iastore, 1) := by decide +kernel
theorem d_MO_text_33 : decode m_MO_text.2.1 33 = .ok (.aload_n 0, 1) := by decide +kernel
theorem d_MO_text_34 : decode m_MO_text.2.1 34 = .ok (.dup, 1) := by decide +kernel
theorem d_MO_text_35 : decode m_MO_text.2.1 35 = .ok (.getfield 164, 3) := by decide +kernel
theorem d_MO_text_38 : decode m_MO_text.2.1 38 = .ok (.iconst 1, 1) := by decide +kernel
theorem d_MO_text_39 : decode m_MO_text.2.1 39 = .ok (.iadd, 1) := by decide +kernel
theorem d_MO_text_40 : decode m_MO_text.2.1 40 = .ok (.putfield 164, 3) := by decide +kernel
theorem d_MO_text_43 : decode m_MO_text.2.1 43 = .ok (.aload_n 0, 1) := by decide +kernel
theorem d_MO_text_44 : decode m_MO_text.2.1 44 = .ok (.iconst 0, 1) := by decide +kernel
theorem d_MO_text_45 : decode m_MO_text.2.1 45 = .ok (.putfield 183, 3) := by decide +kernel
theorem d_MO_text_48 : decode m_MO_text.2.1 48 = .ok (.aload_n 0, 1) := by decide +kernel
theorem d_MO_text_49 : decode m_MO_text.2.1 49 = .ok (.getfield 164, 3) := by decide +kernel
theorem d_MO_text_52 : decode m_MO_text.2.1 52 = .ok (.ireturn, 1) := by decide +kernel
theorem d_MO_newText_0 : decode m_MO_newText.2.1 0 = .ok (.aload_n 0, 1) := by decide +kernel
theorem d_MO_newText_1 : decode m_MO_newText.2.1 1 = .ok (.iconst 0, 1) := by decide +kernel
theorem d_MO_newText_2 : decode m_MO_newText.2.1 2 = .ok (.putfield 164, 3) := by decide +kernel
theorem d_MO_newText_5 : decode m_MO_newText.2.1 5 = .ok (.aload_n 0, 1) := by decide +kernel
theorem d_MO_newText_6 : decode m_MO_newText.2.1 6 = .ok (.iconst 0, 1) := by decide +kernel
theorem d_MO_newText_7 : decode m_MO_newText.2.1 7 = .ok (.putfield 183, 3) := by decide +kernel
theorem d_MO_newText_10 : decode m_MO_newText.2.1 10 = .ok (.iconst 0, 1) := by decide +kernel
theorem d_MO_newText_11 : decode m_MO_newText.2.1 11 = .ok (.ireturn, 1) := by decide +kernel
theorem d_MO_find_0 : decode m_MO_find.2.1 0 = .ok (.iload_n 1, 1) := by decide +kernel
theorem d_MO_find_1 : decode m_MO_find.2.1 1 = .ok (.ifCond .lt 18, 3) := by decide +kernel
theorem d_MO_find_4 : decode m_MO_find.2.1 4 = .ok (.iload_n 1, 1) := by decide +kernel
theorem d_MO_find_5 : decode m_MO_find.2.1 5 = .ok (.aload_n 0, 1) := by decide +kernel
theorem d_MO_find_6 : decode m_MO_find.2.1 6 = .ok (.getfield 164, 3) := by decide +kernel
theorem d_MO_find_9 : decode m_MO_find.2.1 9 = .ok (.if_icmp .gt 10, 3) := by decide +kernel
theorem d_MO_find_12 : decode m_MO_find.2.1 12 = .ok (.aload_n 0, 1) := by decide +kernel
theorem d_MO_find_13 : decode m_MO_find.2.1 13 = .ok (.getfield 173, 3) := by decide +kernel
theorem d_MO_find_16 : decode m_MO_find.2.1 16 = .ok (.ifCond .ne 5, 3) := by decide +kernel
theorem d_MO_find_19 : decode m_MO_find.2.1 19 = .ok (.iconst (-1), 1) := by decide +kernel
theorem d_MO_find_20 : decode m_MO_find.2.1 20 = .ok (.ireturn, 1) := by decide +kernel
theorem d_MO_find_21 : decode m_MO_find.2.1 21 = .ok (.aload_n 0, 1) := by decide +kernel
theorem d_MO_find_22 : decode m_MO_find.2.1 22 = .ok (.iload_n 1, 1) := by decide +kernel
theorem d_MO_find_23 : decode m_MO_find.2.1 23 = .ok (.invokevirtual 186, 3) := by decide +kernel
theorem d_MO_find_26 : decode m_MO_find.2.1 26 = .ok (.istore_n 2, 1) := by decide +kernel
theorem d_MO_find_27 : decode m_MO_find.2.1 27 = .ok (.aload_n 0, 1) := by decide +kernel
theorem d_MO_find_28 : decode m_MO_find.2.1 28 = .ok (.iload_n 2, 1) := by decide +kernel
theorem d_MO_find_29 : decode m_MO_find.2.1 29 = .ok (.ifCond .lt 7, 3) := by decide +kernel
theorem d_MO_find_32 : decode m_MO_find.2.1 32 = .ok (.iconst 1, 1) := by decide +kernel
theorem d_MO_find_33 : decode m_MO_find.2.1 33 = .ok (.goto 4, 3) := by decide +kernel
theorem d_MO_find_36 : decode m_MO_find.2.1 36 = .ok (.iconst 0, 1) := by decide +kernel
theorem d_MO_find_37 : decode m_MO_find.2.1 37 = .ok (.putfield 183, 3) := by decide +kernel
theorem d_MO_find_40 : decode m_MO_find.2.1 40 = .ok (.iconst 0, 1) := by decide +kernel
theorem d_MO_find_41 : decode m_MO_find.2.1 41 = .ok (.istore_n 3, 1) := by decide +kernel
theorem d_MO_find_42 : decode m_MO_find.2.1 42 = .ok (.iload_n 3, 1) := by decide +kernel
theorem d_MO_find_43 : decode m_MO_find.2.1 43 = .ok (.bipush 14, 2) := by decide +kernel
theorem d_MO_find_45 : decode m_MO_find.2.1 45 = .ok (.if_icmp .ge 21, 3) := by decide +kernel
theorem d_MO_find_48 : decode m_MO_find.2.1 48 = .ok (.aload_n 0, 1) := by decide +kernel
theorem d_MO_find_49 : decode m_MO_find.2.1 49 = .ok (.getfield 19, 3) := by decide +kernel
theorem d_MO_find_52 : decode m_MO_find.2.1 52 = .ok (.iload_n 3, 1) := by decide +kernel
theorem d_MO_find_53 : decode m_MO_find.2.1 53 = .ok (.aload_n 0, 1) := by decide +kernel
theorem d_MO_find_54 : decode m_MO_find.2.1 54 = .ok (.getfield 65, 3) := by decide +kernel
theorem d_MO_find_57 : decode m_MO_find.2.1 57 = .ok (.iload_n 3, 1) := by decide +kernel
theorem d_MO_find_58 : decode m_MO_find.2.1 58 = .ok (.iaload, 1) := by decide +kernel
theorem d_MO_find_59 : decode m_MO_find.2.1 59 = .ok (.iastore, 1) := by decide +kernel
theorem d_MO_find_60 : decode m_MO_find.2.1 60 = .ok (.iinc 3 1, 3) := by decide +kernel
theorem d_MO_find_63 : decode m_MO_find.2.1 63 = .ok (.goto (-21), 3) := by decide +kernel
theorem d_MO_find_66 : decode m_MO_find.2.1 66 = .ok (.aload_n 0, 1) := by decide +kernel
theorem d_MO_find_67 : decode m_MO_find.2.1 67 = .ok (.getfield 183, 3) := by decide +kernel
theorem d_MO_find_70 : decode m_MO_find.2.1 70 = .ok (.ifCond .eq 7, 3) := by decide +kernel
theorem d_MO_find_73 : decode m_MO_find.2.1 73 = .ok (.iload_n 2, 1) := by decide +kernel
theorem d_MO_find_74 : decode m_MO_find.2.1 74 = .ok (.goto 5, 3) := by decide +kernel
theorem d_MO_find_77 : decode m_MO_find.2.1 77 = .ok (.bipush (-2), 2) := by decide +kernel
theorem d_MO_find_79 : decode m_MO_find.2.1 79 = .ok (.ireturn, 1) := by decide +kernel
theorem d_MO_search_0 : decode m_MO_search.2.1 0 = .ok (.iload_n 1, 1) := by decide +kernel
theorem d_MO_search_1 : decode m_MO_search.2.1 1 = .ok (.istore_n 2, 1) := by decide +kernel
theorem d_MO_search_2 : decode m_MO_search.2.1 2 = .ok (.iload_n 2, 1) := by decide +kernel
theorem d_MO_search_3 : decode m_MO_search.2.1 3 = .ok (.aload_n 0, 1) := by decide +kernel
theorem d_MO_search_4 : decode m_MO_search.2.1 4 = .ok (.getfield 164, 3) := by decide +kernel
theorem d_MO_search_7 : decode m_MO_search.2.1 7 = .ok (.if_icmp .gt 36, 3) := by decide +kernel
theorem d_MO_search_10 : decode m_MO_search.2.1 10 = .ok (.aload_n 0, 1) := by decide +kernel
theorem d_MO_search_11 : decode m_MO_search.2.1 11 = .ok (.iload_n 2, 1) := by decide +kernel
theorem d_MO_search_12 : decode m_MO_search.2.1 12 = .ok (.iconst (-1), 1) := by decide +kernel
theorem d_MO_search_13 : decode m_MO_search.2.1 13 = .ok (.invokevirtual 170, 3) := by decide +kernel
theorem d_MO_search_16 : decode m_MO_search.2.1 16 = .ok (.istore_n 3, 1) := by decide +kernel
theorem d_MO_search_17 : decode m_MO_search.2.1 17 = .ok (.iload_n 3, 1) := by decide +kernel
theorem d_MO_search_18 : decode m_MO_search.2.1 18 = .ok (.ifCond .lt 19, 3) := by decide +kernel
theorem d_MO_search_21 : decode m_MO_search.2.1 21 = .ok (.aload_n 0, 1) := by decide +kernel
theorem d_MO_search_22 : decode m_MO_search.2.1 22 = .ok (.getfield 65, 3) := by decide +kernel
theorem d_MO_search_25 : decode m_MO_search.2.1 25 = .ok (.iconst 0, 1) := by decide +kernel
theorem d_MO_search_26 : decode m_MO_search.2.1 26 = .ok (.iload_n 2, 1) := by decide +kernel
theorem d_MO_search_27 : decode m_MO_search.2.1 27 = .ok (.iastore, 1) := by decide +kernel
theorem d_MO_search_28 : decode m_MO_search.2.1 28 = .ok (.aload_n 0, 1) := by decide +kernel
theorem d_MO_search_29 : decode m_MO_search.2.1 29 = .ok (.getfield 65, 3) := by decide +kernel
theorem d_MO_search_32 : decode m_MO_search.2.1 32 = .ok (.iconst 1, 1) := by decide +kernel
theorem d_MO_search_33 : decode m_MO_search.2.1 33 = .ok (.iload_n 3, 1) := by decide +kernel
theorem d_MO_search_34 : decode m_MO_search.2.1 34 = .ok (.iastore, 1) := by decide +kernel
theorem d_MO_search_35 : decode m_MO_search.2.1 35 = .ok (.iload_n 2, 1) := by decide +kernel
theorem d_MO_search_36 : decode m_MO_search.2.1 36 = .ok (.ireturn, 1) := by decide +kernel
theorem d_MO_search_37 : decode m_MO_search.2.1 37 = .ok (.iinc 2 1, 3) := by decide +kernel
theorem d_MO_search_40 : decode m_MO_search.2.1 40 = .ok (.goto (-38), 3) := by decide +kernel
theorem d_MO_search_43 : decode m_MO_search.2.1 43 = .ok (.iconst (-1), 1) := by decide +kernel
theorem d_MO_search_44 : decode m_MO_search.2.1 44 = .ok (.ireturn, 1) := by decide +kernel
theorem d_MO_takes_0 : decode m_MO_takes.2.1 0 = .ok (.aload_n 0, 1) := by decide +kernel
theorem d_MO_takes_1 : decode m_MO_takes.2.1 1 = .ok (.getfield 35, 3) := by decide +kernel
theorem d_MO_takes_4 : decode m_MO_takes.2.1 4 = .ok (.iload_n 1, 1) := by decide +kernel
theorem d_MO_takes_5 : decode m_MO_takes.2.1 5 = .ok (.iaload, 1) := by decide +kernel
theorem d_MO_takes_6 : decode m_MO_takes.2.1 6 = .ok (.ifCond .ne 19, 3) := by decide +kernel
theorem d_MO_takes_9 : decode m_MO_takes.2.1 9 = .ok (.aload_n 0, 1) := by decide +kernel
theorem d_MO_takes_10 : decode m_MO_takes.2.1 10 = .ok (.getfield 38, 3) := by decide +kernel
theorem d_MO_takes_13 : decode m_MO_takes.2.1 13 = .ok (.iload_n 1, 1) := by decide +kernel
theorem d_MO_takes_14 : decode m_MO_takes.2.1 14 = .ok (.iaload, 1) := by decide +kernel
theorem d_MO_takes_15 : decode m_MO_takes.2.1 15 = .ok (.iload_n 2, 1) := by decide +kernel
theorem d_MO_takes_16 : decode m_MO_takes.2.1 16 = .ok (.if_icmp .ne 7, 3) := by decide +kernel
theorem d_MO_takes_19 : decode m_MO_takes.2.1 19 = .ok (.iconst 1, 1) := by decide +kernel
theorem d_MO_takes_20 : decode m_MO_takes.2.1 20 = .ok (.goto 4, 3) := by decide +kernel
theorem d_MO_takes_23 : decode m_MO_takes.2.1 23 = .ok (.iconst 0, 1) := by decide +kernel
theorem d_MO_takes_24 : decode m_MO_takes.2.1 24 = .ok (.ireturn, 1) := by decide +kernel
theorem d_MO_takes_25 : decode m_MO_takes.2.1 25 = .ok (.aload_n 0, 1) := by decide +kernel
theorem d_MO_takes_26 : decode m_MO_takes.2.1 26 = .ok (.getfield 35, 3) := by decide +kernel
theorem d_MO_takes_29 : decode m_MO_takes.2.1 29 = .ok (.iload_n 1, 1) := by decide +kernel
theorem d_MO_takes_30 : decode m_MO_takes.2.1 30 = .ok (.iaload, 1) := by decide +kernel
theorem d_MO_takes_31 : decode m_MO_takes.2.1 31 = .ok (.iconst 1, 1) := by decide +kernel
theorem d_MO_takes_32 : decode m_MO_takes.2.1 32 = .ok (.if_icmp .eq 27, 3) := by decide +kernel
theorem d_MO_takes_35 : decode m_MO_takes.2.1 35 = .ok (.aload_n 0, 1) := by decide +kernel
theorem d_MO_takes_36 : decode m_MO_takes.2.1 36 = .ok (.getfield 35, 3) := by decide +kernel
theorem d_MO_takes_39 : decode m_MO_takes.2.1 39 = .ok (.iload_n 1, 1) := by decide +kernel
theorem d_MO_takes_40 : decode m_MO_takes.2.1 40 = .ok (.iaload, 1) := by decide +kernel
theorem d_MO_takes_41 : decode m_MO_takes.2.1 41 = .ok (.iconst 2, 1) := by decide +kernel
theorem d_MO_takes_42 : decode m_MO_takes.2.1 42 = .ok (.if_icmp .ne 21, 3) := by decide +kernel
theorem d_MO_takes_45 : decode m_MO_takes.2.1 45 = .ok (.aload_n 0, 1) := by decide +kernel
theorem d_MO_takes_46 : decode m_MO_takes.2.1 46 = .ok (.aload_n 0, 1) := by decide +kernel
theorem d_MO_takes_47 : decode m_MO_takes.2.1 47 = .ok (.getfield 38, 3) := by decide +kernel
theorem d_MO_takes_50 : decode m_MO_takes.2.1 50 = .ok (.iload_n 1, 1) := by decide +kernel
theorem d_MO_takes_51 : decode m_MO_takes.2.1 51 = .ok (.iaload, 1) := by decide +kernel
theorem d_MO_takes_52 : decode m_MO_takes.2.1 52 = .ok (.iload_n 2, 1) := by decide +kernel
theorem d_MO_takes_53 : decode m_MO_takes.2.1 53 = .ok (.invokevirtual 160, 3) := by decide +kernel
theorem d_MO_takes_56 : decode m_MO_takes.2.1 56 = .ok (.ifCond .eq 7, 3) := by decide +kernel
theorem d_MO_takes_59 : decode m_MO_takes.2.1 59 = .ok (.iconst 1, 1) := by decide +kernel
theorem d_MO_takes_60 : decode m_MO_takes.2.1 60 = .ok (.goto 4, 3) := by decide +kernel
theorem d_MO_takes_63 : decode m_MO_takes.2.1 63 = .ok (.iconst 0, 1) := by decide +kernel
theorem d_MO_takes_64 : decode m_MO_takes.2.1 64 = .ok (.ireturn, 1) := by decide +kernel
theorem d_MO_ofClass_0 : decode m_MO_ofClass.2.1 0 = .ok (.iload_n 1, 1) := by decide +kernel
theorem d_MO_ofClass_1 : decode m_MO_ofClass.2.1 1 = .ok (.iconst 1, 1) := by decide +kernel
theorem d_MO_ofClass_2 : decode m_MO_ofClass.2.1 2 = .ok (.iadd, 1) := by decide +kernel
theorem d_MO_ofClass_3 : decode m_MO_ofClass.2.1 3 = .ok (.istore_n 3, 1) := by decide +kernel
theorem d_MO_ofClass_4 : decode m_MO_ofClass.2.1 4 = .ok (.aload_n 0, 1) := by decide +kernel
theorem d_MO_ofClass_5 : decode m_MO_ofClass.2.1 5 = .ok (.iload_n 3, 1) := by decide +kernel
theorem d_MO_ofClass_6 : decode m_MO_ofClass.2.1 6 = .ok (.invokevirtual 90, 3) := by decide +kernel
theorem d_MO_ofClass_9 : decode m_MO_ofClass.2.1 9 = .ok (.bipush 94, 2) := by decide +kernel
theorem d_MO_ofClass_11 : decode m_MO_ofClass.2.1 11 = .ok (.if_icmp .ne 7, 3) := by decide +kernel
theorem d_MO_ofClass_14 : decode m_MO_ofClass.2.1 14 = .ok (.iconst 1, 1) := by decide +kernel
theorem d_MO_ofClass_15 : decode m_MO_ofClass.2.1 15 = .ok (.goto 4, 3) := by decide +kernel
theorem d_MO_ofClass_18 : decode m_MO_ofClass.2.1 18 = .ok (.iconst 0, 1) := by decide +kernel
theorem d_MO_ofClass_19 : decode m_MO_ofClass.2.1 19 = .ok (.istore 4, 2) := by decide +kernel
theorem d_MO_ofClass_21 : decode m_MO_ofClass.2.1 21 = .ok (.iload 4, 2) := by decide +kernel
theorem d_MO_ofClass_23 : decode m_MO_ofClass.2.1 23 = .ok (.ifCond .eq 6, 3) := by decide +kernel
theorem d_MO_ofClass_26 : decode m_MO_ofClass.2.1 26 = .ok (.iinc 3 1, 3) := by decide +kernel
theorem d_MO_ofClass_29 : decode m_MO_ofClass.2.1 29 = .ok (.iconst 0, 1) := by decide +kernel
theorem d_MO_ofClass_30 : decode m_MO_ofClass.2.1 30 = .ok (.istore 5, 2) := by decide +kernel
theorem d_MO_ofClass_32 : decode m_MO_ofClass.2.1 32 = .ok (.aload_n 0, 1) := by decide +kernel
theorem d_MO_ofClass_33 : decode m_MO_ofClass.2.1 33 = .ok (.iload_n 3, 1) := by decide +kernel
theorem d_MO_ofClass_34 : decode m_MO_ofClass.2.1 34 = .ok (.invokevirtual 90, 3) := by decide +kernel
theorem d_MO_ofClass_37 : decode m_MO_ofClass.2.1 37 = .ok (.bipush 93, 2) := by decide +kernel
theorem d_MO_ofClass_39 : decode m_MO_ofClass.2.1 39 = .ok (.if_icmp .eq 78, 3) := by decide +kernel
theorem d_MO_ofClass_42 : decode m_MO_ofClass.2.1 42 = .ok (.aload_n 0, 1) := by decide +kernel
theorem d_MO_ofClass_43 : decode m_MO_ofClass.2.1 43 = .ok (.iload_n 3, 1) := by decide +kernel
theorem d_MO_ofClass_44 : decode m_MO_ofClass.2.1 44 = .ok (.iconst 1, 1) := by decide +kernel
theorem d_MO_ofClass_45 : decode m_MO_ofClass.2.1 45 = .ok (.iadd, 1) := by decide +kernel
theorem d_MO_ofClass_46 : decode m_MO_ofClass.2.1 46 = .ok (.invokevirtual 90, 3) := by decide +kernel
theorem d_MO_ofClass_49 : decode m_MO_ofClass.2.1 49 = .ok (.bipush 45, 2) := by decide +kernel
theorem d_MO_ofClass_51 : decode m_MO_ofClass.2.1 51 = .ok (.if_icmp .ne 7, 3) := by decide +kernel
theorem d_MO_ofClass_54 : decode m_MO_ofClass.2.1 54 = .ok (.iconst 1, 1) := by decide +kernel
theorem d_MO_ofClass_55 : decode m_MO_ofClass.2.1 55 = .ok (.goto 4, 3) := by decide +kernel
theorem d_MO_ofClass_58 : decode m_MO_ofClass.2.1 58 = .ok (.iconst 0, 1) := by decide +kernel
theorem d_MO_ofClass_59 : decode m_MO_ofClass.2.1 59 = .ok (.istore 6, 2) := by decide +kernel
theorem d_MO_ofClass_61 : decode m_MO_ofClass.2.1 61 = .ok (.iload 6, 2) := by decide +kernel
theorem d_MO_ofClass_63 : decode m_MO_ofClass.2.1 63 = .ok (.ifCond .eq 13, 3) := by decide +kernel
theorem d_MO_ofClass_66 : decode m_MO_ofClass.2.1 66 = .ok (.aload_n 0, 1) := by decide +kernel
theorem d_MO_ofClass_67 : decode m_MO_ofClass.2.1 67 = .ok (.iload_n 3, 1) := by decide +kernel
theorem d_MO_ofClass_68 : decode m_MO_ofClass.2.1 68 = .ok (.iconst 2, 1) := by decide +kernel
theorem d_MO_ofClass_69 : decode m_MO_ofClass.2.1 69 = .ok (.iadd, 1) := by decide +kernel
theorem d_MO_ofClass_70 : decode m_MO_ofClass.2.1 70 = .ok (.invokevirtual 90, 3) := by decide +kernel
theorem d_MO_ofClass_73 : decode m_MO_ofClass.2.1 73 = .ok (.goto 8, 3) := by decide +kernel
theorem d_MO_ofClass_76 : decode m_MO_ofClass.2.1 76 = .ok (.aload_n 0, 1) := by decide +kernel
theorem d_MO_ofClass_77 : decode m_MO_ofClass.2.1 77 = .ok (.iload_n 3, 1) := by decide +kernel
theorem d_MO_ofClass_78 : decode m_MO_ofClass.2.1 78 = .ok (.invokevirtual 90, 3) := by decide +kernel
theorem d_MO_ofClass_81 : decode m_MO_ofClass.2.1 81 = .ok (.istore 7, 2) := by decide +kernel
theorem d_MO_ofClass_83 : decode m_MO_ofClass.2.1 83 = .ok (.iload_n 2, 1) := by decide +kernel
theorem d_MO_ofClass_84 : decode m_MO_ofClass.2.1 84 = .ok (.aload_n 0, 1) := by decide +kernel
theorem d_MO_ofClass_85 : decode m_MO_ofClass.2.1 85 = .ok (.iload_n 3, 1) := by decide +kernel
theorem d_MO_ofClass_86 : decode m_MO_ofClass.2.1 86 = .ok (.invokevirtual 90, 3) := by decide +kernel
theorem d_MO_ofClass_89 : decode m_MO_ofClass.2.1 89 = .ok (.if_icmp .lt 12, 3) := by decide +kernel
theorem d_MO_ofClass_92 : decode m_MO_ofClass.2.1 92 = .ok (.iload_n 2, 1) := by decide +kernel
theorem d_MO_ofClass_93 : decode m_MO_ofClass.2.1 93 = .ok (.iload 7, 2) := by decide +kernel
theorem d_MO_ofClass_95 : decode m_MO_ofClass.2.1 95 = .ok (.if_icmp .gt 6, 3) := by decide +kernel
theorem d_MO_ofClass_98 : decode m_MO_ofClass.2.1 98 = .ok (.iconst 1, 1) := by decide +kernel
theorem d_MO_ofClass_99 : decode m_MO_ofClass.2.1 99 = .ok (.istore 5, 2) := by decide +kernel
theorem d_MO_ofClass_101 : decode m_MO_ofClass.2.1 101 = .ok (.iload_n 3, 1) := by decide +kernel
theorem d_MO_ofClass_102 : decode m_MO_ofClass.2.1 102 = .ok (.iload 6, 2) := by decide +kernel
theorem d_MO_ofClass_104 : decode m_MO_ofClass.2.1 104 = .ok (.ifCond .eq 7, 3) := by decide +kernel
theorem d_MO_ofClass_107 : decode m_MO_ofClass.2.1 107 = .ok (.iconst 3, 1) := by decide +kernel
theorem d_MO_ofClass_108 : decode m_MO_ofClass.2.1 108 = .ok (.goto 4, 3) := by decide +kernel
theorem d_MO_ofClass_111 : decode m_MO_ofClass.2.1 111 = .ok (.iconst 1, 1) := by decide +kernel
theorem d_MO_ofClass_112 : decode m_MO_ofClass.2.1 112 = .ok (.iadd, 1) := by decide +kernel
theorem d_MO_ofClass_113 : decode m_MO_ofClass.2.1 113 = .ok (.istore_n 3, 1) := by decide +kernel
theorem d_MO_ofClass_114 : decode m_MO_ofClass.2.1 114 = .ok (.goto (-82), 3) := by decide +kernel
theorem d_MO_ofClass_117 : decode m_MO_ofClass.2.1 117 = .ok (.iload 5, 2) := by decide +kernel
theorem d_MO_ofClass_119 : decode m_MO_ofClass.2.1 119 = .ok (.iload 4, 2) := by decide +kernel
theorem d_MO_ofClass_121 : decode m_MO_ofClass.2.1 121 = .ok (.if_icmp .eq 7, 3) := by decide +kernel
theorem d_MO_ofClass_124 : decode m_MO_ofClass.2.1 124 = .ok (.iconst 1, 1) := by decide +kernel
theorem d_MO_ofClass_125 : decode m_MO_ofClass.2.1 125 = .ok (.goto 4, 3) := by decide +kernel
theorem d_MO_ofClass_128 : decode m_MO_ofClass.2.1 128 = .ok (.iconst 0, 1) := by decide +kernel
theorem d_MO_ofClass_129 : decode m_MO_ofClass.2.1 129 = .ok (.ireturn, 1) := by decide +kernel
theorem d_MO_group_0 : decode m_MO_group.2.1 0 = .ok (.iload_n 1, 1) := by decide +kernel
theorem d_MO_group_1 : decode m_MO_group.2.1 1 = .ok (.ifCond .lt 16, 3) := by decide +kernel
theorem d_MO_group_4 : decode m_MO_group.2.1 4 = .ok (.iload_n 1, 1) := by decide +kernel
theorem d_MO_group_5 : decode m_MO_group.2.1 5 = .ok (.bipush 6, 2) := by decide +kernel
theorem d_MO_group_7 : decode m_MO_group.2.1 7 = .ok (.if_icmp .gt 10, 3) := by decide +kernel
theorem d_MO_group_10 : decode m_MO_group.2.1 10 = .ok (.aload_n 0, 1) := by decide +kernel
theorem d_MO_group_11 : decode m_MO_group.2.1 11 = .ok (.getfield 173, 3) := by decide +kernel
theorem d_MO_group_14 : decode m_MO_group.2.1 14 = .ok (.ifCond .ne 5, 3) := by decide +kernel
theorem d_MO_group_17 : decode m_MO_group.2.1 17 = .ok (.iconst (-1), 1) := by decide +kernel
theorem d_MO_group_18 : decode m_MO_group.2.1 18 = .ok (.ireturn, 1) := by decide +kernel
theorem d_MO_group_19 : decode m_MO_group.2.1 19 = .ok (.aload_n 0, 1) := by decide +kernel
theorem d_MO_group_20 : decode m_MO_group.2.1 20 = .ok (.getfield 183, 3) := by decide +kernel
theorem d_MO_group_23 : decode m_MO_group.2.1 23 = .ok (.ifCond .eq 16, 3) := by decide +kernel
theorem d_MO_group_26 : decode m_MO_group.2.1 26 = .ok (.aload_n 0, 1) := by decide +kernel
theorem d_MO_group_27 : decode m_MO_group.2.1 27 = .ok (.getfield 19, 3) := by decide +kernel
theorem d_MO_group_30 : decode m_MO_group.2.1 30 = .ok (.iconst 2, 1) := by decide +kernel
theorem d_MO_group_31 : decode m_MO_group.2.1 31 = .ok (.iload_n 1, 1) := by decide +kernel
theorem d_MO_group_32 : decode m_MO_group.2.1 32 = .ok (.imul, 1) := by decide +kernel
theorem d_MO_group_33 : decode m_MO_group.2.1 33 = .ok (.iconst 1, 1) := by decide +kernel
theorem d_MO_group_34 : decode m_MO_group.2.1 34 = .ok (.iadd, 1) := by decide +kernel
theorem d_MO_group_35 : decode m_MO_group.2.1 35 = .ok (.iaload, 1) := by decide +kernel
theorem d_MO_group_36 : decode m_MO_group.2.1 36 = .ok (.ifCond .ge 6, 3) := by decide +kernel
theorem d_MO_group_39 : decode m_MO_group.2.1 39 = .ok (.bipush (-2), 2) := by decide +kernel
theorem d_MO_group_41 : decode m_MO_group.2.1 41 = .ok (.ireturn, 1) := by decide +kernel
theorem d_MO_group_42 : decode m_MO_group.2.1 42 = .ok (.aload_n 0, 1) := by decide +kernel
theorem d_MO_group_43 : decode m_MO_group.2.1 43 = .ok (.getfield 19, 3) := by decide +kernel
theorem d_MO_group_46 : decode m_MO_group.2.1 46 = .ok (.iconst 2, 1) := by decide +kernel
theorem d_MO_group_47 : decode m_MO_group.2.1 47 = .ok (.iload_n 1, 1) := by decide +kernel
theorem d_MO_group_48 : decode m_MO_group.2.1 48 = .ok (.imul, 1) := by decide +kernel
theorem d_MO_group_49 : decode m_MO_group.2.1 49 = .ok (.iload_n 2, 1) := by decide +kernel
theorem d_MO_group_50 : decode m_MO_group.2.1 50 = .ok (.ifCond .eq 7, 3) := by decide +kernel
theorem d_MO_group_53 : decode m_MO_group.2.1 53 = .ok (.iconst 1, 1) := by decide +kernel
theorem d_MO_group_54 : decode m_MO_group.2.1 54 = .ok (.goto 4, 3) := by decide +kernel
theorem d_MO_group_57 : decode m_MO_group.2.1 57 = .ok (.iconst 0, 1) := by decide +kernel
theorem d_MO_group_58 : decode m_MO_group.2.1 58 = .ok (.iadd, 1) := by decide +kernel
theorem d_MO_group_59 : decode m_MO_group.2.1 59 = .ok (.iaload, 1) := by decide +kernel
theorem d_MO_group_60 : decode m_MO_group.2.1 60 = .ok (.ireturn, 1) := by decide +kernel
theorem d_MO_whole_0 : decode m_MO_whole.2.1 0 = .ok (.iload_n 1, 1) := by decide +kernel
theorem d_MO_whole_1 : decode m_MO_whole.2.1 1 = .ok (.ifCond .lt 31, 3) := by decide +kernel
theorem d_MO_whole_4 : decode m_MO_whole.2.1 4 = .ok (.iload_n 1, 1) := by decide +kernel
theorem d_MO_whole_5 : decode m_MO_whole.2.1 5 = .ok (.aload_n 0, 1) := by decide +kernel
theorem d_MO_whole_6 : decode m_MO_whole.2.1 6 = .ok (.getfield 164, 3) := by decide +kernel
theorem d_MO_whole_9 : decode m_MO_whole.2.1 9 = .ok (.if_icmp .gt 23, 3) := by decide +kernel
theorem d_MO_whole_12 : decode m_MO_whole.2.1 12 = .ok (.iload_n 2, 1) := by decide +kernel
theorem d_MO_whole_13 : decode m_MO_whole.2.1 13 = .ok (.iload_n 1, 1) := by decide +kernel
theorem d_MO_whole_14 : decode m_MO_whole.2.1 14 = .ok (.if_icmp .lt 18, 3) := by decide +kernel
theorem d_MO_whole_17 : decode m_MO_whole.2.1 17 = .ok (.iload_n 2, 1) := by decide +kernel
theorem d_MO_whole_18 : decode m_MO_whole.2.1 18 = .ok (.aload_n 0, 1) := by decide +kernel
theorem d_MO_whole_19 : decode m_MO_whole.2.1 19 = .ok (.getfield 164, 3) := by decide +kernel
theorem d_MO_whole_22 : decode m_MO_whole.2.1 22 = .ok (.if_icmp .gt 10, 3) := by decide +kernel
theorem d_MO_whole_25 : decode m_MO_whole.2.1 25 = .ok (.aload_n 0, 1) := by decide +kernel
theorem d_MO_whole_26 : decode m_MO_whole.2.1 26 = .ok (.getfield 173, 3) := by decide +kernel
theorem d_MO_whole_29 : decode m_MO_whole.2.1 29 = .ok (.ifCond .ne 5, 3) := by decide +kernel
theorem d_MO_whole_32 : decode m_MO_whole.2.1 32 = .ok (.iconst (-1), 1) := by decide +kernel
theorem d_MO_whole_33 : decode m_MO_whole.2.1 33 = .ok (.ireturn, 1) := by decide +kernel
theorem d_MO_whole_34 : decode m_MO_whole.2.1 34 = .ok (.aload_n 0, 1) := by decide +kernel
theorem d_MO_whole_35 : decode m_MO_whole.2.1 35 = .ok (.iload_n 1, 1) := by decide +kernel
theorem d_MO_whole_36 : decode m_MO_whole.2.1 36 = .ok (.iload_n 2, 1) := by decide +kernel
theorem d_MO_whole_37 : decode m_MO_whole.2.1 37 = .ok (.invokevirtual 170, 3) := by decide +kernel
theorem d_MO_whole_40 : decode m_MO_whole.2.1 40 = .ok (.ifCond .lt 7, 3) := by decide +kernel
theorem d_MO_whole_43 : decode m_MO_whole.2.1 43 = .ok (.iconst 1, 1) := by decide +kernel
theorem d_MO_whole_44 : decode m_MO_whole.2.1 44 = .ok (.goto 4, 3) := by decide +kernel
theorem d_MO_whole_47 : decode m_MO_whole.2.1 47 = .ok (.iconst 0, 1) := by decide +kernel
theorem d_MO_whole_48 : decode m_MO_whole.2.1 48 = .ok (.ireturn, 1) := by decide +kernel
theorem d_MO_matches_0 : decode m_MO_matches.2.1 0 = .ok (.aload_n 0, 1) := by decide +kernel
theorem d_MO_matches_1 : decode m_MO_matches.2.1 1 = .ok (.getfield 173, 3) := by decide +kernel
theorem d_MO_matches_4 : decode m_MO_matches.2.1 4 = .ok (.ifCond .ne 5, 3) := by decide +kernel
theorem d_MO_matches_7 : decode m_MO_matches.2.1 7 = .ok (.iconst (-1), 1) := by decide +kernel
theorem d_MO_matches_8 : decode m_MO_matches.2.1 8 = .ok (.ireturn, 1) := by decide +kernel
theorem d_MO_matches_9 : decode m_MO_matches.2.1 9 = .ok (.iconst 0, 1) := by decide +kernel
theorem d_MO_matches_10 : decode m_MO_matches.2.1 10 = .ok (.istore_n 1, 1) := by decide +kernel
theorem d_MO_matches_11 : decode m_MO_matches.2.1 11 = .ok (.iconst 0, 1) := by decide +kernel
theorem d_MO_matches_12 : decode m_MO_matches.2.1 12 = .ok (.istore_n 2, 1) := by decide +kernel
theorem d_MO_matches_13 : decode m_MO_matches.2.1 13 = .ok (.iload_n 2, 1) := by decide +kernel
theorem d_MO_matches_14 : decode m_MO_matches.2.1 14 = .ok (.aload_n 0, 1) := by decide +kernel
theorem d_MO_matches_15 : decode m_MO_matches.2.1 15 = .ok (.getfield 164, 3) := by decide +kernel
theorem d_MO_matches_18 : decode m_MO_matches.2.1 18 = .ok (.if_icmp .gt 50, 3) := by decide +kernel
theorem d_MO_matches_21 : decode m_MO_matches.2.1 21 = .ok (.aload_n 0, 1) := by decide +kernel
theorem d_MO_matches_22 : decode m_MO_matches.2.1 22 = .ok (.iload_n 2, 1) := by decide +kernel
theorem d_MO_matches_23 : decode m_MO_matches.2.1 23 = .ok (.invokevirtual 186, 3) := by decide +kernel
theorem d_MO_matches_26 : decode m_MO_matches.2.1 26 = .ok (.ifCond .lt 42, 3) := by decide +kernel
theorem d_MO_matches_29 : decode m_MO_matches.2.1 29 = .ok (.iinc 1 1, 3) := by decide +kernel
theorem d_MO_matches_32 : decode m_MO_matches.2.1 32 = .ok (.aload_n 0, 1) := by decide +kernel
theorem d_MO_matches_33 : decode m_MO_matches.2.1 33 = .ok (.getfield 65, 3) := by decide +kernel
theorem d_MO_matches_36 : decode m_MO_matches.2.1 36 = .ok (.iconst 1, 1) := by decide +kernel
theorem d_MO_matches_37 : decode m_MO_matches.2.1 37 = .ok (.iaload, 1) := by decide +kernel
theorem d_MO_matches_38 : decode m_MO_matches.2.1 38 = .ok (.aload_n 0, 1) := by decide +kernel
theorem d_MO_matches_39 : decode m_MO_matches.2.1 39 = .ok (.getfield 65, 3) := by decide +kernel
theorem d_MO_matches_42 : decode m_MO_matches.2.1 42 = .ok (.iconst 0, 1) := by decide +kernel
theorem d_MO_matches_43 : decode m_MO_matches.2.1 43 = .ok (.iaload, 1) := by decide +kernel
theorem d_MO_matches_44 : decode m_MO_matches.2.1 44 = .ok (.if_icmp .le 12, 3) := by decide +kernel
theorem d_MO_matches_47 : decode m_MO_matches.2.1 47 = .ok (.aload_n 0, 1) := by decide +kernel
theorem d_MO_matches_48 : decode m_MO_matches.2.1 48 = .ok (.getfield 65, 3) := by decide +kernel
theorem d_MO_matches_51 : decode m_MO_matches.2.1 51 = .ok (.iconst 1, 1) := by decide +kernel
theorem d_MO_matches_52 : decode m_MO_matches.2.1 52 = .ok (.iaload, 1) := by decide +kernel
theorem d_MO_matches_53 : decode m_MO_matches.2.1 53 = .ok (.goto 11, 3) := by decide +kernel
theorem d_MO_matches_56 : decode m_MO_matches.2.1 56 = .ok (.aload_n 0, 1) := by decide +kernel
theorem d_MO_matches_57 : decode m_MO_matches.2.1 57 = .ok (.getfield 65, 3) := by decide +kernel
theorem d_MO_matches_60 : decode m_MO_matches.2.1 60 = .ok (.iconst 1, 1) := by decide +kernel
theorem d_MO_matches_61 : decode m_MO_matches.2.1 61 = .ok (.iaload, 1) := by decide +kernel
theorem d_MO_matches_62 : decode m_MO_matches.2.1 62 = .ok (.iconst 1, 1) := by decide +kernel
theorem d_MO_matches_63 : decode m_MO_matches.2.1 63 = .ok (.iadd, 1) := by decide +kernel
theorem d_MO_matches_64 : decode m_MO_matches.2.1 64 = .ok (.istore_n 2, 1) := by decide +kernel
theorem d_MO_matches_65 : decode m_MO_matches.2.1 65 = .ok (.goto (-52), 3) := by decide +kernel
theorem d_MO_matches_68 : decode m_MO_matches.2.1 68 = .ok (.iload_n 1, 1) := by decide +kernel
theorem d_MO_matches_69 : decode m_MO_matches.2.1 69 = .ok (.ireturn, 1) := by decide +kernel
theorem d_MO_replace_0 : decode m_MO_replace.2.1 0 = .ok (.iload_n 1, 1) := by decide +kernel
theorem d_MO_replace_1 : decode m_MO_replace.2.1 1 = .ok (.ifCond .lt 16, 3) := by decide +kernel
theorem d_MO_replace_4 : decode m_MO_replace.2.1 4 = .ok (.iload_n 1, 1) := by decide +kernel
theorem d_MO_replace_5 : decode m_MO_replace.2.1 5 = .ok (.bipush 6, 2) := by decide +kernel
theorem d_MO_replace_7 : decode m_MO_replace.2.1 7 = .ok (.if_icmp .gt 10, 3) := by decide +kernel
theorem d_MO_replace_10 : decode m_MO_replace.2.1 10 = .ok (.aload_n 0, 1) := by decide +kernel
theorem d_MO_replace_11 : decode m_MO_replace.2.1 11 = .ok (.getfield 173, 3) := by decide +kernel
theorem d_MO_replace_14 : decode m_MO_replace.2.1 14 = .ok (.ifCond .ne 5, 3) := by decide +kernel
theorem d_MO_replace_17 : decode m_MO_replace.2.1 17 = .ok (.iconst (-1), 1) := by decide +kernel
theorem d_MO_replace_18 : decode m_MO_replace.2.1 18 = .ok (.ireturn, 1) := by decide +kernel
theorem d_MO_replace_19 : decode m_MO_replace.2.1 19 = .ok (.aload_n 0, 1) := by decide +kernel
theorem d_MO_replace_20 : decode m_MO_replace.2.1 20 = .ok (.iconst 0, 1) := by decide +kernel
theorem d_MO_replace_21 : decode m_MO_replace.2.1 21 = .ok (.putfield 189, 3) := by decide +kernel
theorem d_MO_replace_24 : decode m_MO_replace.2.1 24 = .ok (.iconst 0, 1) := by decide +kernel
theorem d_MO_replace_25 : decode m_MO_replace.2.1 25 = .ok (.istore_n 2, 1) := by decide +kernel
theorem d_MO_replace_26 : decode m_MO_replace.2.1 26 = .ok (.iconst 0, 1) := by decide +kernel
theorem d_MO_replace_27 : decode m_MO_replace.2.1 27 = .ok (.istore_n 3, 1) := by decide +kernel
theorem d_MO_replace_28 : decode m_MO_replace.2.1 28 = .ok (.iload_n 2, 1) := by decide +kernel
theorem d_MO_replace_29 : decode m_MO_replace.2.1 29 = .ok (.aload_n 0, 1) := by decide +kernel
theorem d_MO_replace_30 : decode m_MO_replace.2.1 30 = .ok (.getfield 164, 3) := by decide +kernel
theorem d_MO_replace_33 : decode m_MO_replace.2.1 33 = .ok (.if_icmp .gt 100, 3) := by decide +kernel
theorem d_MO_replace_36 : decode m_MO_replace.2.1 36 = .ok (.aload_n 0, 1) := by decide +kernel
theorem d_MO_replace_37 : decode m_MO_replace.2.1 37 = .ok (.iload_n 2, 1) := by decide +kernel
theorem d_MO_replace_38 : decode m_MO_replace.2.1 38 = .ok (.invokevirtual 186, 3) := by decide +kernel
theorem d_MO_replace_41 : decode m_MO_replace.2.1 41 = .ok (.ifCond .lt 92, 3) := by decide +kernel
theorem d_MO_replace_44 : decode m_MO_replace.2.1 44 = .ok (.aload_n 0, 1) := by decide +kernel
theorem d_MO_replace_45 : decode m_MO_replace.2.1 45 = .ok (.iload_n 3, 1) := by decide +kernel
theorem d_MO_replace_46 : decode m_MO_replace.2.1 46 = .ok (.aload_n 0, 1) := by decide +kernel
theorem d_MO_replace_47 : decode m_MO_replace.2.1 47 = .ok (.getfield 65, 3) := by decide +kernel
theorem d_MO_replace_50 : decode m_MO_replace.2.1 50 = .ok (.iconst 0, 1) := by decide +kernel
theorem d_MO_replace_51 : decode m_MO_replace.2.1 51 = .ok (.iaload, 1) := by decide +kernel
theorem d_MO_replace_52 : decode m_MO_replace.2.1 52 = .ok (.invokevirtual 192, 3) := by decide +kernel
theorem d_MO_replace_55 : decode m_MO_replace.2.1 55 = .ok (.aload_n 0, 1) := by decide +kernel
theorem d_MO_replace_56 : decode m_MO_replace.2.1 56 = .ok (.getfield 65, 3) := by decide +kernel
theorem d_MO_replace_59 : decode m_MO_replace.2.1 59 = .ok (.iconst 2, 1) := by decide +kernel
theorem d_MO_replace_60 : decode m_MO_replace.2.1 60 = .ok (.iload_n 1, 1) := by decide +kernel
theorem d_MO_replace_61 : decode m_MO_replace.2.1 61 = .ok (.imul, 1) := by decide +kernel
theorem d_MO_replace_62 : decode m_MO_replace.2.1 62 = .ok (.iconst 1, 1) := by decide +kernel
theorem d_MO_replace_63 : decode m_MO_replace.2.1 63 = .ok (.iadd, 1) := by decide +kernel
theorem d_MO_replace_64 : decode m_MO_replace.2.1 64 = .ok (.iaload, 1) := by decide +kernel
theorem d_MO_replace_65 : decode m_MO_replace.2.1 65 = .ok (.ifCond .lt 25, 3) := by decide +kernel
theorem d_MO_replace_68 : decode m_MO_replace.2.1 68 = .ok (.aload_n 0, 1) := by decide +kernel
theorem d_MO_replace_69 : decode m_MO_replace.2.1 69 = .ok (.aload_n 0, 1) := by decide +kernel
theorem d_MO_replace_70 : decode m_MO_replace.2.1 70 = .ok (.getfield 65, 3) := by decide +kernel
theorem d_MO_replace_73 : decode m_MO_replace.2.1 73 = .ok (.iconst 2, 1) := by decide +kernel
theorem d_MO_replace_74 : decode m_MO_replace.2.1 74 = .ok (.iload_n 1, 1) := by decide +kernel
theorem d_MO_replace_75 : decode m_MO_replace.2.1 75 = .ok (.imul, 1) := by decide +kernel
theorem d_MO_replace_76 : decode m_MO_replace.2.1 76 = .ok (.iaload, 1) := by decide +kernel
theorem d_MO_replace_77 : decode m_MO_replace.2.1 77 = .ok (.aload_n 0, 1) := by decide +kernel
theorem d_MO_replace_78 : decode m_MO_replace.2.1 78 = .ok (.getfield 65, 3) := by decide +kernel
theorem d_MO_replace_81 : decode m_MO_replace.2.1 81 = .ok (.iconst 2, 1) := by decide +kernel
theorem d_MO_replace_82 : decode m_MO_replace.2.1 82 = .ok (.iload_n 1, 1) := by decide +kernel
theorem d_MO_replace_83 : decode m_MO_replace.2.1 83 = .ok (.imul, 1) := by decide +kernel
theorem d_MO_replace_84 : decode m_MO_replace.2.1 84 = .ok (.iconst 1, 1) := by decide +kernel
theorem d_MO_replace_85 : decode m_MO_replace.2.1 85 = .ok (.iadd, 1) := by decide +kernel
theorem d_MO_replace_86 : decode m_MO_replace.2.1 86 = .ok (.iaload, 1) := by decide +kernel
theorem d_MO_replace_87 : decode m_MO_replace.2.1 87 = .ok (.invokevirtual 192, 3) := by decide +kernel
theorem d_MO_replace_90 : decode m_MO_replace.2.1 90 = .ok (.aload_n 0, 1) := by decide +kernel
theorem d_MO_replace_91 : decode m_MO_replace.2.1 91 = .ok (.getfield 65, 3) := by decide +kernel
theorem d_MO_replace_94 : decode m_MO_replace.2.1 94 = .ok (.iconst 1, 1) := by decide +kernel
theorem d_MO_replace_95 : decode m_MO_replace.2.1 95 = .ok (.iaload, 1) := by decide +kernel
theorem d_MO_replace_96 : decode m_MO_replace.2.1 96 = .ok (.istore_n 3, 1) := by decide +kernel
theorem d_MO_replace_97 : decode m_MO_replace.2.1 97 = .ok (.aload_n 0, 1) := by decide +kernel
theorem d_MO_replace_98 : decode m_MO_replace.2.1 98 = .ok (.getfield 65, 3) := by decide +kernel
theorem d_MO_replace_101 : decode m_MO_replace.2.1 101 = .ok (.iconst 1, 1) := by decide +kernel
theorem d_MO_replace_102 : decode m_MO_replace.2.1 102 = .ok (.iaload, 1) := by decide +kernel
theorem d_MO_replace_103 : decode m_MO_replace.2.1 103 = .ok (.aload_n 0, 1) := by decide +kernel
theorem d_MO_replace_104 : decode m_MO_replace.2.1 104 = .ok (.getfield 65, 3) := by decide +kernel
theorem d_MO_replace_107 : decode m_MO_replace.2.1 107 = .ok (.iconst 0, 1) := by decide +kernel
theorem d_MO_replace_108 : decode m_MO_replace.2.1 108 = .ok (.iaload, 1) := by decide +kernel
theorem d_MO_replace_109 : decode m_MO_replace.2.1 109 = .ok (.if_icmp .le 12, 3) := by decide +kernel
theorem d_MO_replace_112 : decode m_MO_replace.2.1 112 = .ok (.aload_n 0, 1) := by decide +kernel
theorem d_MO_replace_113 : decode m_MO_replace.2.1 113 = .ok (.getfield 65, 3) := by decide +kernel
theorem d_MO_replace_116 : decode m_MO_replace.2.1 116 = .ok (.iconst 1, 1) := by decide +kernel
theorem d_MO_replace_117 : decode m_MO_replace.2.1 117 = .ok (.iaload, 1) := by decide +kernel
theorem d_MO_replace_118 : decode m_MO_replace.2.1 118 = .ok (.goto 11, 3) := by decide +kernel
theorem d_MO_replace_121 : decode m_MO_replace.2.1 121 = .ok (.aload_n 0, 1) := by decide +kernel
theorem d_MO_replace_122 : decode m_MO_replace.2.1 122 = .ok (.getfield 65, 3) := by decide +kernel
theorem d_MO_replace_125 : decode m_MO_replace.2.1 125 = .ok (.iconst 1, 1) := by decide +kernel
theorem d_MO_replace_126 : decode m_MO_replace.2.1 126 = .ok (.iaload, 1) := by decide +kernel
theorem d_MO_replace_127 : decode m_MO_replace.2.1 127 = .ok (.iconst 1, 1) := by decide +kernel
theorem d_MO_replace_128 : decode m_MO_replace.2.1 128 = .ok (.iadd, 1) := by decide +kernel
theorem d_MO_replace_129 : decode m_MO_replace.2.1 129 = .ok (.istore_n 2, 1) := by decide +kernel
theorem d_MO_replace_130 : decode m_MO_replace.2.1 130 = .ok (.goto (-102), 3) := by decide +kernel
theorem d_MO_replace_133 : decode m_MO_replace.2.1 133 = .ok (.aload_n 0, 1) := by decide +kernel
theorem d_MO_replace_134 : decode m_MO_replace.2.1 134 = .ok (.iload_n 3, 1) := by decide +kernel
theorem d_MO_replace_135 : decode m_MO_replace.2.1 135 = .ok (.aload_n 0, 1) := by decide +kernel
theorem d_MO_replace_136 : decode m_MO_replace.2.1 136 = .ok (.getfield 164, 3) := by decide +kernel
theorem d_MO_replace_139 : decode m_MO_replace.2.1 139 = .ok (.invokevirtual 192, 3) := by decide +kernel
theorem d_MO_replace_142 : decode m_MO_replace.2.1 142 = .ok (.aload_n 0, 1) := by decide +kernel
theorem d_MO_replace_143 : decode m_MO_replace.2.1 143 = .ok (.getfield 189, 3) := by decide +kernel
theorem d_MO_replace_146 : decode m_MO_replace.2.1 146 = .ok (.ireturn, 1) := by decide +kernel
theorem d_MO_put_0 : decode m_MO_put.2.1 0 = .ok (.iload_n 1, 1) := by decide +kernel
theorem d_MO_put_1 : decode m_MO_put.2.1 1 = .ok (.istore_n 3, 1) := by decide +kernel
theorem d_MO_put_2 : decode m_MO_put.2.1 2 = .ok (.iload_n 3, 1) := by decide +kernel
theorem d_MO_put_3 : decode m_MO_put.2.1 3 = .ok (.iload_n 2, 1) := by decide +kernel
theorem d_MO_put_4 : decode m_MO_put.2.1 4 = .ok (.if_icmp .ge 34, 3) := by decide +kernel
theorem d_MO_put_7 : decode m_MO_put.2.1 7 = .ok (.aload_n 0, 1) := by decide +kernel
theorem d_MO_put_8 : decode m_MO_put.2.1 8 = .ok (.getfield 16, 3) := by decide +kernel
theorem d_MO_put_11 : decode m_MO_put.2.1 11 = .ok (.aload_n 0, 1) := by decide +kernel
theorem d_MO_put_12 : decode m_MO_put.2.1 12 = .ok (.getfield 189, 3) := by decide +kernel
theorem d_MO_put_15 : decode m_MO_put.2.1 15 = .ok (.aload_n 0, 1) := by decide +kernel
theorem d_MO_put_16 : decode m_MO_put.2.1 16 = .ok (.getfield 13, 3) := by decide +kernel
theorem d_MO_put_19 : decode m_MO_put.2.1 19 = .ok (.iload_n 3, 1) := by decide +kernel
theorem d_MO_put_20 : decode m_MO_put.2.1 20 = .ok (.iaload, 1) := by decide +kernel
theorem d_MO_put_21 : decode m_MO_put.2.1 21 = .ok (.iastore, 1) := by decide +kernel
theorem d_MO_put_22 : decode m_MO_put.2.1 22 = .ok (.aload_n 0, 1) := by decide +kernel
theorem d_MO_put_23 : decode m_MO_put.2.1 23 = .ok (.dup, 1) := by decide +kernel
theorem d_MO_put_24 : decode m_MO_put.2.1 24 = .ok (.getfield 189, 3) := by decide +kernel
theorem d_MO_put_27 : decode m_MO_put.2.1 27 = .ok (.iconst 1, 1) := by decide +kernel
theorem d_MO_put_28 : decode m_MO_put.2.1 28 = .ok (.iadd, 1) := by decide +kernel
theorem d_MO_put_29 : decode m_MO_put.2.1 29 = .ok (.putfield 189, 3) := by decide +kernel
theorem d_MO_put_32 : decode m_MO_put.2.1 32 = .ok (.iinc 3 1, 3) := by decide +kernel
theorem d_MO_put_35 : decode m_MO_put.2.1 35 = .ok (.goto (-33), 3) := by decide +kernel
theorem d_MO_put_38 : decode m_MO_put.2.1 38 = .ok (.return_, 1) := by decide +kernel
theorem d_MO_output_0 : decode m_MO_output.2.1 0 = .ok (.iload_n 1, 1) := by decide +kernel
theorem d_MO_output_1 : decode m_MO_output.2.1 1 = .ok (.ifCond .lt 11, 3) := by decide +kernel
theorem d_MO_output_4 : decode m_MO_output.2.1 4 = .ok (.iload_n 1, 1) := by decide +kernel
theorem d_MO_output_5 : decode m_MO_output.2.1 5 = .ok (.aload_n 0, 1) := by decide +kernel
theorem d_MO_output_6 : decode m_MO_output.2.1 6 = .ok (.getfield 189, 3) := by decide +kernel
theorem d_MO_output_9 : decode m_MO_output.2.1 9 = .ok (.if_icmp .lt 8, 3) := by decide +kernel
theorem d_MO_output_12 : decode m_MO_output.2.1 12 = .ok (.bipush (-2), 2) := by decide +kernel
theorem d_MO_output_14 : decode m_MO_output.2.1 14 = .ok (.goto 9, 3) := by decide +kernel
theorem d_MO_output_17 : decode m_MO_output.2.1 17 = .ok (.aload_n 0, 1) := by decide +kernel
theorem d_MO_output_18 : decode m_MO_output.2.1 18 = .ok (.getfield 16, 3) := by decide +kernel
theorem d_MO_output_21 : decode m_MO_output.2.1 21 = .ok (.iload_n 1, 1) := by decide +kernel
theorem d_MO_output_22 : decode m_MO_output.2.1 22 = .ok (.iaload, 1) := by decide +kernel
theorem d_MO_output_23 : decode m_MO_output.2.1 23 = .ok (.ireturn, 1) := by decide +kernel
theorem d_MO_state_0 : decode m_MO_state.2.1 0 = .ok (.iload_n 1, 1) := by decide +kernel
theorem d_MO_state_1 : decode m_MO_state.2.1 1 = .ok (.ifCond .ne 8, 3) := by decide +kernel
theorem d_MO_state_4 : decode m_MO_state.2.1 4 = .ok (.aload_n 0, 1) := by decide +kernel
theorem d_MO_state_5 : decode m_MO_state.2.1 5 = .ok (.getfield 72, 3) := by decide +kernel
theorem d_MO_state_8 : decode m_MO_state.2.1 8 = .ok (.ireturn, 1) := by decide +kernel
theorem d_MO_state_9 : decode m_MO_state.2.1 9 = .ok (.iload_n 1, 1) := by decide +kernel
theorem d_MO_state_10 : decode m_MO_state.2.1 10 = .ok (.iconst 1, 1) := by decide +kernel
theorem d_MO_state_11 : decode m_MO_state.2.1 11 = .ok (.if_icmp .ne 8, 3) := by decide +kernel
theorem d_MO_state_14 : decode m_MO_state.2.1 14 = .ok (.aload_n 0, 1) := by decide +kernel
theorem d_MO_state_15 : decode m_MO_state.2.1 15 = .ok (.getfield 164, 3) := by decide +kernel
theorem d_MO_state_18 : decode m_MO_state.2.1 18 = .ok (.ireturn, 1) := by decide +kernel
theorem d_MO_state_19 : decode m_MO_state.2.1 19 = .ok (.iload_n 1, 1) := by decide +kernel
theorem d_MO_state_20 : decode m_MO_state.2.1 20 = .ok (.iconst 2, 1) := by decide +kernel
theorem d_MO_state_21 : decode m_MO_state.2.1 21 = .ok (.if_icmp .ne 8, 3) := by decide +kernel
theorem d_MO_state_24 : decode m_MO_state.2.1 24 = .ok (.aload_n 0, 1) := by decide +kernel
theorem d_MO_state_25 : decode m_MO_state.2.1 25 = .ok (.getfield 189, 3) := by decide +kernel
theorem d_MO_state_28 : decode m_MO_state.2.1 28 = .ok (.ireturn, 1) := by decide +kernel
theorem d_MO_state_29 : decode m_MO_state.2.1 29 = .ok (.iload_n 1, 1) := by decide +kernel
theorem d_MO_state_30 : decode m_MO_state.2.1 30 = .ok (.iconst 3, 1) := by decide +kernel
theorem d_MO_state_31 : decode m_MO_state.2.1 31 = .ok (.if_icmp .ne 16, 3) := by decide +kernel
theorem d_MO_state_34 : decode m_MO_state.2.1 34 = .ok (.aload_n 0, 1) := by decide +kernel
theorem d_MO_state_35 : decode m_MO_state.2.1 35 = .ok (.getfield 173, 3) := by decide +kernel
theorem d_MO_state_38 : decode m_MO_state.2.1 38 = .ok (.ifCond .eq 7, 3) := by decide +kernel
theorem d_MO_state_41 : decode m_MO_state.2.1 41 = .ok (.iconst 1, 1) := by decide +kernel
theorem d_MO_state_42 : decode m_MO_state.2.1 42 = .ok (.goto 4, 3) := by decide +kernel
theorem d_MO_state_45 : decode m_MO_state.2.1 45 = .ok (.iconst 0, 1) := by decide +kernel
theorem d_MO_state_46 : decode m_MO_state.2.1 46 = .ok (.ireturn, 1) := by decide +kernel
theorem d_MO_state_47 : decode m_MO_state.2.1 47 = .ok (.iload_n 1, 1) := by decide +kernel
theorem d_MO_state_48 : decode m_MO_state.2.1 48 = .ok (.iconst 4, 1) := by decide +kernel
theorem d_MO_state_49 : decode m_MO_state.2.1 49 = .ok (.if_icmp .ne 22, 3) := by decide +kernel
theorem d_MO_state_52 : decode m_MO_state.2.1 52 = .ok (.aload_n 0, 1) := by decide +kernel
theorem d_MO_state_53 : decode m_MO_state.2.1 53 = .ok (.getfield 173, 3) := by decide +kernel
theorem d_MO_state_56 : decode m_MO_state.2.1 56 = .ok (.ifCond .eq 10, 3) := by decide +kernel
theorem d_MO_state_59 : decode m_MO_state.2.1 59 = .ok (.aload_n 0, 1) := by decide +kernel
theorem d_MO_state_60 : decode m_MO_state.2.1 60 = .ok (.getfield 123, 3) := by decide +kernel
theorem d_MO_state_63 : decode m_MO_state.2.1 63 = .ok (.goto 9, 3) := by decide +kernel
theorem d_MO_state_66 : decode m_MO_state.2.1 66 = .ok (.bipush (-2), 2) := by decide +kernel
theorem d_MO_state_68 : decode m_MO_state.2.1 68 = .ok (.goto 4, 3) := by decide +kernel
theorem d_MO_state_71 : decode m_MO_state.2.1 71 = .ok (.iconst (-1), 1) := by decide +kernel
theorem d_MO_state_72 : decode m_MO_state.2.1 72 = .ok (.ireturn, 1) := by decide +kernel
