theorem d_PS_init_0 : decode m_PS_init.2.1 0 = .ok (.aload_n 0, 1) := by decide +kernel
theorem d_PS_init_1 : decode m_PS_init.2.1 1 = .ok (.invokespecial 1, 3) := by decide +kernel
theorem d_PS_init_4 : decode m_PS_init.2.1 4 = .ok (.aload_n 0, 1) := by decide +kernel
theorem d_PS_init_5 : decode m_PS_init.2.1 5 = .ok (.new 7, 3) := by decide +kernel
theorem d_PS_init_8 : decode m_PS_init.2.1 8 = .ok (.dup, 1) := by decide +kernel
theorem d_PS_init_9 : decode m_PS_init.2.1 9 = .ok (.bipush 28, 2) := by decide +kernel
theorem d_PS_init_11 : decode m_PS_init.2.1 11 = .ok (.invokespecial 11, 3) := by decide +kernel
theorem d_PS_init_14 : decode m_PS_init.2.1 14 = .ok (.putfield 14, 3) := by decide +kernel
theorem d_PS_init_17 : decode m_PS_init.2.1 17 = .ok (.aload_n 0, 1) := by decide +kernel
theorem d_PS_init_18 : decode m_PS_init.2.1 18 = .ok (.new 7, 3) := by decide +kernel
theorem d_PS_init_21 : decode m_PS_init.2.1 21 = .ok (.dup, 1) := by decide +kernel
theorem d_PS_init_22 : decode m_PS_init.2.1 22 = .ok (.bipush 30, 2) := by decide +kernel
theorem d_PS_init_24 : decode m_PS_init.2.1 24 = .ok (.invokespecial 11, 3) := by decide +kernel
theorem d_PS_init_27 : decode m_PS_init.2.1 27 = .ok (.putfield 18, 3) := by decide +kernel
theorem d_PS_init_30 : decode m_PS_init.2.1 30 = .ok (.aload_n 0, 1) := by decide +kernel
theorem d_PS_init_31 : decode m_PS_init.2.1 31 = .ok (.new 7, 3) := by decide +kernel
theorem d_PS_init_34 : decode m_PS_init.2.1 34 = .ok (.dup, 1) := by decide +kernel
theorem d_PS_init_35 : decode m_PS_init.2.1 35 = .ok (.bipush 30, 2) := by decide +kernel
theorem d_PS_init_37 : decode m_PS_init.2.1 37 = .ok (.invokespecial 11, 3) := by decide +kernel
theorem d_PS_init_40 : decode m_PS_init.2.1 40 = .ok (.putfield 21, 3) := by decide +kernel
theorem d_PS_init_43 : decode m_PS_init.2.1 43 = .ok (.aload_n 0, 1) := by decide +kernel
theorem d_PS_init_44 : decode m_PS_init.2.1 44 = .ok (.new 24, 3) := by decide +kernel
theorem d_PS_init_47 : decode m_PS_init.2.1 47 = .ok (.dup, 1) := by decide +kernel
theorem d_PS_init_48 : decode m_PS_init.2.1 48 = .ok (.invokespecial 26, 3) := by decide +kernel
theorem d_PS_init_51 : decode m_PS_init.2.1 51 = .ok (.putfield 27, 3) := by decide +kernel
theorem d_PS_init_54 : decode m_PS_init.2.1 54 = .ok (.aload_n 0, 1) := by decide +kernel
theorem d_PS_init_55 : decode m_PS_init.2.1 55 = .ok (.new 31, 3) := by decide +kernel
theorem d_PS_init_58 : decode m_PS_init.2.1 58 = .ok (.dup, 1) := by decide +kernel
theorem d_PS_init_59 : decode m_PS_init.2.1 59 = .ok (.invokespecial 33, 3) := by decide +kernel
theorem d_PS_init_62 : decode m_PS_init.2.1 62 = .ok (.putfield 34, 3) := by decide +kernel
theorem d_PS_init_65 : decode m_PS_init.2.1 65 = .ok (.aload_n 0, 1) := by decide +kernel
theorem d_PS_init_66 : decode m_PS_init.2.1 66 = .ok (.new 31, 3) := by decide +kernel
theorem d_PS_init_69 : decode m_PS_init.2.1 69 = .ok (.dup, 1) := by decide +kernel
theorem d_PS_init_70 : decode m_PS_init.2.1 70 = .ok (.invokespecial 33, 3) := by decide +kernel
theorem d_PS_init_73 : decode m_PS_init.2.1 73 = .ok (.putfield 38, 3) := by decide +kernel
theorem d_PS_init_76 : decode m_PS_init.2.1 76 = .ok (.aload_n 0, 1) := by decide +kernel
theorem d_PS_init_77 : decode m_PS_init.2.1 77 = .ok (.iconst 0, 1) := by decide +kernel
theorem d_PS_init_78 : decode m_PS_init.2.1 78 = .ok (.putfield 41, 3) := by decide +kernel
theorem d_PS_init_81 : decode m_PS_init.2.1 81 = .ok (.aload_n 0, 1) := by decide +kernel
theorem d_PS_init_82 : decode m_PS_init.2.1 82 = .ok (.iconst 0, 1) := by decide +kernel
theorem d_PS_init_83 : decode m_PS_init.2.1 83 = .ok (.putfield 45, 3) := by decide +kernel
theorem d_PS_init_86 : decode m_PS_init.2.1 86 = .ok (.return_, 1) := by decide +kernel
theorem d_SI_init_0 : decode m_SI_init.2.1 0 = .ok (.aload_n 0, 1) := by decide +kernel
theorem d_SI_init_1 : decode m_SI_init.2.1 1 = .ok (.invokespecial 3, 3) := by decide +kernel
theorem d_SI_init_4 : decode m_SI_init.2.1 4 = .ok (.aload_n 0, 1) := by decide +kernel
theorem d_SI_init_5 : decode m_SI_init.2.1 5 = .ok (.iload_n 1, 1) := by decide +kernel
theorem d_SI_init_6 : decode m_SI_init.2.1 6 = .ok (.newarray .int, 2) := by decide +kernel
theorem d_SI_init_8 : decode m_SI_init.2.1 8 = .ok (.putfield 9, 3) := by decide +kernel
theorem d_SI_init_11 : decode m_SI_init.2.1 11 = .ok (.aload_n 0, 1) := by decide +kernel
theorem d_SI_init_12 : decode m_SI_init.2.1 12 = .ok (.iconst 0, 1) := by decide +kernel
theorem d_SI_init_13 : decode m_SI_init.2.1 13 = .ok (.putfield 15, 3) := by decide +kernel
theorem d_SI_init_16 : decode m_SI_init.2.1 16 = .ok (.return_, 1) := by decide +kernel
theorem d_BO_init_0 : decode m_BO_init.2.1 0 = .ok (.aload_n 0, 1) := by decide +kernel
theorem d_BO_init_1 : decode m_BO_init.2.1 1 = .ok (.invokespecial 3, 3) := by decide +kernel
theorem d_BO_init_4 : decode m_BO_init.2.1 4 = .ok (.aload_n 0, 1) := by decide +kernel
theorem d_BO_init_5 : decode m_BO_init.2.1 5 = .ok (.bipush 14, 2) := by decide +kernel
theorem d_BO_init_7 : decode m_BO_init.2.1 7 = .ok (.newarray .int, 2) := by decide +kernel
theorem d_BO_init_9 : decode m_BO_init.2.1 9 = .ok (.putfield 9, 3) := by decide +kernel
theorem d_BO_init_12 : decode m_BO_init.2.1 12 = .ok (.aload_n 0, 1) := by decide +kernel
theorem d_BO_init_13 : decode m_BO_init.2.1 13 = .ok (.getfield 9, 3) := by decide +kernel
theorem d_BO_init_16 : decode m_BO_init.2.1 16 = .ok (.bipush (-2), 2) := by decide +kernel
theorem d_BO_init_18 : decode m_BO_init.2.1 18 = .ok (.invokestatic 15, 3) := by decide +kernel
theorem d_BO_init_21 : decode m_BO_init.2.1 21 = .ok (.return_, 1) := by decide +kernel
theorem d_PS_pattern_0 : decode m_PS_pattern.2.1 0 = .ok (.iload_n 1, 1) := by decide +kernel
theorem d_PS_pattern_1 : decode m_PS_pattern.2.1 1 = .ok (.invokestatic 49, 3) := by decide +kernel
theorem d_PS_pattern_4 : decode m_PS_pattern.2.1 4 = .ok (.ifCond .eq 13, 3) := by decide +kernel
theorem d_PS_pattern_7 : decode m_PS_pattern.2.1 7 = .ok (.aload_n 0, 1) := by decide +kernel
theorem d_PS_pattern_8 : decode m_PS_pattern.2.1 8 = .ok (.getfield 14, 3) := by decide +kernel
theorem d_PS_pattern_11 : decode m_PS_pattern.2.1 11 = .ok (.invokevirtual 53, 3) := by decide +kernel
theorem d_PS_pattern_14 : decode m_PS_pattern.2.1 14 = .ok (.ifCond .eq 5, 3) := by decide +kernel
theorem d_PS_pattern_17 : decode m_PS_pattern.2.1 17 = .ok (.iconst (-1), 1) := by decide +kernel
theorem d_PS_pattern_18 : decode m_PS_pattern.2.1 18 = .ok (.ireturn, 1) := by decide +kernel
theorem d_PS_pattern_19 : decode m_PS_pattern.2.1 19 = .ok (.aload_n 0, 1) := by decide +kernel
theorem d_PS_pattern_20 : decode m_PS_pattern.2.1 20 = .ok (.getfield 14, 3) := by decide +kernel
theorem d_PS_pattern_23 : decode m_PS_pattern.2.1 23 = .ok (.iload_n 1, 1) := by decide +kernel
theorem d_PS_pattern_24 : decode m_PS_pattern.2.1 24 = .ok (.invokevirtual 57, 3) := by decide +kernel
theorem d_PS_pattern_27 : decode m_PS_pattern.2.1 27 = .ok (.aload_n 0, 1) := by decide +kernel
theorem d_PS_pattern_28 : decode m_PS_pattern.2.1 28 = .ok (.iconst 0, 1) := by decide +kernel
theorem d_PS_pattern_29 : decode m_PS_pattern.2.1 29 = .ok (.putfield 41, 3) := by decide +kernel
theorem d_PS_pattern_32 : decode m_PS_pattern.2.1 32 = .ok (.aload_n 0, 1) := by decide +kernel
theorem d_PS_pattern_33 : decode m_PS_pattern.2.1 33 = .ok (.getfield 14, 3) := by decide +kernel
theorem d_PS_pattern_36 : decode m_PS_pattern.2.1 36 = .ok (.invokevirtual 60, 3) := by decide +kernel
theorem d_PS_pattern_39 : decode m_PS_pattern.2.1 39 = .ok (.ireturn, 1) := by decide +kernel
theorem d_PS_isSign_0 : decode m_PS_isSign.2.1 0 = .ok (.iload_n 0, 1) := by decide +kernel
theorem d_PS_isSign_1 : decode m_PS_isSign.2.1 1 = .ok (.bipush 32, 2) := by decide +kernel
theorem d_PS_isSign_3 : decode m_PS_isSign.2.1 3 = .ok (.if_icmp .lt 13, 3) := by decide +kernel
theorem d_PS_isSign_6 : decode m_PS_isSign.2.1 6 = .ok (.iload_n 0, 1) := by decide +kernel
theorem d_PS_isSign_7 : decode m_PS_isSign.2.1 7 = .ok (.bipush 126, 2) := by decide +kernel
theorem d_PS_isSign_9 : decode m_PS_isSign.2.1 9 = .ok (.if_icmp .gt 7, 3) := by decide +kernel
theorem d_PS_isSign_12 : decode m_PS_isSign.2.1 12 = .ok (.iconst 1, 1) := by decide +kernel
theorem d_PS_isSign_13 : decode m_PS_isSign.2.1 13 = .ok (.goto 4, 3) := by decide +kernel
theorem d_PS_isSign_16 : decode m_PS_isSign.2.1 16 = .ok (.iconst 0, 1) := by decide +kernel
theorem d_PS_isSign_17 : decode m_PS_isSign.2.1 17 = .ok (.ireturn, 1) := by decide +kernel
theorem d_SI_isFull_0 : decode m_SI_isFull.2.1 0 = .ok (.aload_n 0, 1) := by decide +kernel
theorem d_SI_isFull_1 : decode m_SI_isFull.2.1 1 = .ok (.getfield 15, 3) := by decide +kernel
theorem d_SI_isFull_4 : decode m_SI_isFull.2.1 4 = .ok (.aload_n 0, 1) := by decide +kernel
theorem d_SI_isFull_5 : decode m_SI_isFull.2.1 5 = .ok (.getfield 9, 3) := by decide +kernel
theorem d_SI_isFull_8 : decode m_SI_isFull.2.1 8 = .ok (.arraylength, 1) := by decide +kernel
theorem d_SI_isFull_9 : decode m_SI_isFull.2.1 9 = .ok (.if_icmp .lt 7, 3) := by decide +kernel
theorem d_SI_isFull_12 : decode m_SI_isFull.2.1 12 = .ok (.iconst 1, 1) := by decide +kernel
theorem d_SI_isFull_13 : decode m_SI_isFull.2.1 13 = .ok (.goto 4, 3) := by decide +kernel
theorem d_SI_isFull_16 : decode m_SI_isFull.2.1 16 = .ok (.iconst 0, 1) := by decide +kernel
theorem d_SI_isFull_17 : decode m_SI_isFull.2.1 17 = .ok (.ireturn, 1) := by decide +kernel
theorem d_SI_add_0 : decode m_SI_add.2.1 0 = .ok (.aload_n 0, 1) := by decide +kernel
theorem d_SI_add_1 : decode m_SI_add.2.1 1 = .ok (.invokevirtual 19, 3) := by decide +kernel
theorem d_SI_add_4 : decode m_SI_add.2.1 4 = .ok (.ifCond .ne 23, 3) := by decide +kernel
theorem d_SI_add_7 : decode m_SI_add.2.1 7 = .ok (.aload_n 0, 1) := by decide +kernel
theorem d_SI_add_8 : decode m_SI_add.2.1 8 = .ok (.getfield 9, 3) := by decide +kernel
theorem d_SI_add_11 : decode m_SI_add.2.1 11 = .ok (.aload_n 0, 1) := by decide +kernel
theorem d_SI_add_12 : decode m_SI_add.2.1 12 = .ok (.getfield 15, 3) := by decide +kernel
theorem d_SI_add_15 : decode m_SI_add.2.1 15 = .ok (.iload_n 1, 1) := by decide +kernel
theorem d_SI_add_16 : decode m_SI_add.2.1 16 = .ok (.iastore, 1) := by decide +kernel
theorem d_SI_add_17 : decode m_SI_add.2.1 17 = .ok (.aload_n 0, 1) := by decide +kernel
theorem d_SI_add_18 : decode m_SI_add.2.1 18 = .ok (.dup, 1) := by decide +kernel
theorem d_SI_add_19 : decode m_SI_add.2.1 19 = .ok (.getfield 15, 3) := by decide +kernel
theorem d_SI_add_22 : decode m_SI_add.2.1 22 = .ok (.iconst 1, 1) := by decide +kernel
theorem d_SI_add_23 : decode m_SI_add.2.1 23 = .ok (.iadd, 1) := by decide +kernel
theorem d_SI_add_24 : decode m_SI_add.2.1 24 = .ok (.putfield 15, 3) := by decide +kernel
theorem d_SI_add_27 : decode m_SI_add.2.1 27 = .ok (.return_, 1) := by decide +kernel
theorem d_SI_length_0 : decode m_SI_length.2.1 0 = .ok (.aload_n 0, 1) := by decide +kernel
theorem d_SI_length_1 : decode m_SI_length.2.1 1 = .ok (.getfield 15, 3) := by decide +kernel
theorem d_SI_length_4 : decode m_SI_length.2.1 4 = .ok (.ireturn, 1) := by decide +kernel
theorem d_PS_newPattern_0 : decode m_PS_newPattern.2.1 0 = .ok (.aload_n 0, 1) := by decide +kernel
theorem d_PS_newPattern_1 : decode m_PS_newPattern.2.1 1 = .ok (.getfield 14, 3) := by decide +kernel
theorem d_PS_newPattern_4 : decode m_PS_newPattern.2.1 4 = .ok (.invokevirtual 64, 3) := by decide +kernel
theorem d_PS_newPattern_7 : decode m_PS_newPattern.2.1 7 = .ok (.aload_n 0, 1) := by decide +kernel
theorem d_PS_newPattern_8 : decode m_PS_newPattern.2.1 8 = .ok (.iconst 0, 1) := by decide +kernel
theorem d_PS_newPattern_9 : decode m_PS_newPattern.2.1 9 = .ok (.putfield 41, 3) := by decide +kernel
theorem d_PS_newPattern_12 : decode m_PS_newPattern.2.1 12 = .ok (.iconst 0, 1) := by decide +kernel
theorem d_PS_newPattern_13 : decode m_PS_newPattern.2.1 13 = .ok (.ireturn, 1) := by decide +kernel
theorem d_SI_clear_0 : decode m_SI_clear.2.1 0 = .ok (.aload_n 0, 1) := by decide +kernel
theorem d_SI_clear_1 : decode m_SI_clear.2.1 1 = .ok (.iconst 0, 1) := by decide +kernel
theorem d_SI_clear_2 : decode m_SI_clear.2.1 2 = .ok (.putfield 15, 3) := by decide +kernel
theorem d_SI_clear_5 : decode m_SI_clear.2.1 5 = .ok (.return_, 1) := by decide +kernel
theorem d_PS_compile_0 : decode m_PS_compile.2.1 0 = .ok (.aload_n 0, 1) := by decide +kernel
theorem d_PS_compile_1 : decode m_PS_compile.2.1 1 = .ok (.iconst 0, 1) := by decide +kernel
theorem d_PS_compile_2 : decode m_PS_compile.2.1 2 = .ok (.putfield 41, 3) := by decide +kernel
theorem d_PS_compile_5 : decode m_PS_compile.2.1 5 = .ok (.new 67, 3) := by decide +kernel
theorem d_PS_compile_8 : decode m_PS_compile.2.1 8 = .ok (.dup, 1) := by decide +kernel
theorem d_PS_compile_9 : decode m_PS_compile.2.1 9 = .ok (.aload_n 0, 1) := by decide +kernel
theorem d_PS_compile_10 : decode m_PS_compile.2.1 10 = .ok (.getfield 14, 3) := by decide +kernel
theorem d_PS_compile_13 : decode m_PS_compile.2.1 13 = .ok (.invokespecial 69, 3) := by decide +kernel
theorem d_PS_compile_16 : decode m_PS_compile.2.1 16 = .ok (.astore_n 1, 1) := by decide +kernel
theorem d_PS_compile_17 : decode m_PS_compile.2.1 17 = .ok (.aload_n 1, 1) := by decide +kernel
theorem d_PS_compile_18 : decode m_PS_compile.2.1 18 = .ok (.invokevirtual 72, 3) := by decide +kernel
theorem d_PS_compile_21 : decode m_PS_compile.2.1 21 = .ok (.astore_n 2, 1) := by decide +kernel
theorem d_PS_compile_22 : decode m_PS_compile.2.1 22 = .ok (.aload_n 1, 1) := by decide +kernel
theorem d_PS_compile_23 : decode m_PS_compile.2.1 23 = .ok (.invokevirtual 76, 3) := by decide +kernel
theorem d_PS_compile_26 : decode m_PS_compile.2.1 26 = .ok (.bipush (-2), 2) := by decide +kernel
theorem d_PS_compile_28 : decode m_PS_compile.2.1 28 = .ok (.if_icmp .eq 6, 3) := by decide +kernel
theorem d_PS_compile_31 : decode m_PS_compile.2.1 31 = .ok (.bipush (-3), 2) := by decide +kernel
theorem d_PS_compile_33 : decode m_PS_compile.2.1 33 = .ok (.ireturn, 1) := by decide +kernel
theorem d_PS_compile_34 : decode m_PS_compile.2.1 34 = .ok (.aload_n 1, 1) := by decide +kernel
theorem d_PS_compile_35 : decode m_PS_compile.2.1 35 = .ok (.invokevirtual 79, 3) := by decide +kernel
theorem d_PS_compile_38 : decode m_PS_compile.2.1 38 = .ok (.ifCond .eq 6, 3) := by decide +kernel
theorem d_PS_compile_41 : decode m_PS_compile.2.1 41 = .ok (.bipush (-4), 2) := by decide +kernel
theorem d_PS_compile_43 : decode m_PS_compile.2.1 43 = .ok (.ireturn, 1) := by decide +kernel
theorem d_PS_compile_44 : decode m_PS_compile.2.1 44 = .ok (.aload_n 2, 1) := by decide +kernel
theorem d_PS_compile_45 : decode m_PS_compile.2.1 45 = .ok (.invokevirtual 82, 3) := by decide +kernel
theorem d_PS_compile_48 : decode m_PS_compile.2.1 48 = .ok (.bipush 120, 2) := by decide +kernel
theorem d_PS_compile_50 : decode m_PS_compile.2.1 50 = .ok (.if_icmp .le 6, 3) := by decide +kernel
theorem d_PS_compile_53 : decode m_PS_compile.2.1 53 = .ok (.bipush (-5), 2) := by decide +kernel
theorem d_PS_compile_55 : decode m_PS_compile.2.1 55 = .ok (.ireturn, 1) := by decide +kernel
theorem d_PS_compile_56 : decode m_PS_compile.2.1 56 = .ok (.aload_n 0, 1) := by decide +kernel
theorem d_PS_compile_57 : decode m_PS_compile.2.1 57 = .ok (.getfield 27, 3) := by decide +kernel
theorem d_PS_compile_60 : decode m_PS_compile.2.1 60 = .ok (.aload_n 2, 1) := by decide +kernel
theorem d_PS_compile_61 : decode m_PS_compile.2.1 61 = .ok (.invokevirtual 87, 3) := by decide +kernel
theorem d_PS_compile_64 : decode m_PS_compile.2.1 64 = .ok (.aload_n 0, 1) := by decide +kernel
theorem d_PS_compile_65 : decode m_PS_compile.2.1 65 = .ok (.aload_n 2, 1) := by decide +kernel
theorem d_PS_compile_66 : decode m_PS_compile.2.1 66 = .ok (.invokevirtual 82, 3) := by decide +kernel
theorem d_PS_compile_69 : decode m_PS_compile.2.1 69 = .ok (.putfield 45, 3) := by decide +kernel
theorem d_PS_compile_72 : decode m_PS_compile.2.1 72 = .ok (.aload_n 0, 1) := by decide +kernel
theorem d_PS_compile_73 : decode m_PS_compile.2.1 73 = .ok (.iconst 1, 1) := by decide +kernel
theorem d_PS_compile_74 : decode m_PS_compile.2.1 74 = .ok (.putfield 41, 3) := by decide +kernel
theorem d_PS_compile_77 : decode m_PS_compile.2.1 77 = .ok (.aload_n 0, 1) := by decide +kernel
theorem d_PS_compile_78 : decode m_PS_compile.2.1 78 = .ok (.getfield 34, 3) := by decide +kernel
theorem d_PS_compile_81 : decode m_PS_compile.2.1 81 = .ok (.invokevirtual 91, 3) := by decide +kernel
theorem d_PS_compile_84 : decode m_PS_compile.2.1 84 = .ok (.aload_n 1, 1) := by decide +kernel
theorem d_PS_compile_85 : decode m_PS_compile.2.1 85 = .ok (.invokevirtual 92, 3) := by decide +kernel
theorem d_PS_compile_88 : decode m_PS_compile.2.1 88 = .ok (.ireturn, 1) := by decide +kernel
theorem d_CH_init_0 : decode m_CH_init.2.1 0 = .ok (.aload_n 0, 1) := by decide +kernel
theorem d_CH_init_1 : decode m_CH_init.2.1 1 = .ok (.invokespecial 1, 3) := by decide +kernel
theorem d_CH_init_4 : decode m_CH_init.2.1 4 = .ok (.return_, 1) := by decide +kernel
theorem d_RO_init_0 : decode m_RO_init.2.1 0 = .ok (.aload_n 0, 1) := by decide +kernel
theorem d_RO_init_1 : decode m_RO_init.2.1 1 = .ok (.invokespecial 1, 3) := by decide +kernel
theorem d_RO_init_4 : decode m_RO_init.2.1 4 = .ok (.aload_n 0, 1) := by decide +kernel
theorem d_RO_init_5 : decode m_RO_init.2.1 5 = .ok (.iconst 1, 1) := by decide +kernel
theorem d_RO_init_6 : decode m_RO_init.2.1 6 = .ok (.putfield 7, 3) := by decide +kernel
theorem d_RO_init_9 : decode m_RO_init.2.1 9 = .ok (.return_, 1) := by decide +kernel
theorem d_SI_at_0 : decode m_SI_at.2.1 0 = .ok (.iload_n 1, 1) := by decide +kernel
theorem d_SI_at_1 : decode m_SI_at.2.1 1 = .ok (.ifCond .lt 20, 3) := by decide +kernel
theorem d_SI_at_4 : decode m_SI_at.2.1 4 = .ok (.iload_n 1, 1) := by decide +kernel
theorem d_SI_at_5 : decode m_SI_at.2.1 5 = .ok (.aload_n 0, 1) := by decide +kernel
theorem d_SI_at_6 : decode m_SI_at.2.1 6 = .ok (.getfield 15, 3) := by decide +kernel
theorem d_SI_at_9 : decode m_SI_at.2.1 9 = .ok (.if_icmp .ge 12, 3) := by decide +kernel
theorem d_SI_at_12 : decode m_SI_at.2.1 12 = .ok (.aload_n 0, 1) := by decide +kernel
theorem d_SI_at_13 : decode m_SI_at.2.1 13 = .ok (.getfield 9, 3) := by decide +kernel
theorem d_SI_at_16 : decode m_SI_at.2.1 16 = .ok (.iload_n 1, 1) := by decide +kernel
theorem d_SI_at_17 : decode m_SI_at.2.1 17 = .ok (.iaload, 1) := by decide +kernel
theorem d_SI_at_18 : decode m_SI_at.2.1 18 = .ok (.goto 5, 3) := by decide +kernel
theorem d_SI_at_21 : decode m_SI_at.2.1 21 = .ok (.bipush (-2), 2) := by decide +kernel
theorem d_SI_at_23 : decode m_SI_at.2.1 23 = .ok (.ireturn, 1) := by decide +kernel
theorem d_AT_init_0 : decode m_AT_init.2.1 0 = .ok (.aload_n 0, 1) := by decide +kernel
theorem d_AT_init_1 : decode m_AT_init.2.1 1 = .ok (.invokespecial 1, 3) := by decide +kernel
theorem d_AT_init_4 : decode m_AT_init.2.1 4 = .ok (.aload_n 0, 1) := by decide +kernel
theorem d_AT_init_5 : decode m_AT_init.2.1 5 = .ok (.iload_n 1, 1) := by decide +kernel
theorem d_AT_init_6 : decode m_AT_init.2.1 6 = .ok (.putfield 7, 3) := by decide +kernel
theorem d_AT_init_9 : decode m_AT_init.2.1 9 = .ok (.return_, 1) := by decide +kernel
theorem d_AT_enclose_0 : decode m_AT_enclose.2.1 0 = .ok (.aload_n 0, 1) := by decide +kernel
theorem d_AT_enclose_1 : decode m_AT_enclose.2.1 1 = .ok (.iload_n 1, 1) := by decide +kernel
theorem d_AT_enclose_2 : decode m_AT_enclose.2.1 2 = .ok (.putfield 22, 3) := by decide +kernel
theorem d_AT_enclose_5 : decode m_AT_enclose.2.1 5 = .ok (.aload_n 0, 1) := by decide +kernel
theorem d_AT_enclose_6 : decode m_AT_enclose.2.1 6 = .ok (.aload_n 2, 1) := by decide +kernel
theorem d_AT_enclose_7 : decode m_AT_enclose.2.1 7 = .ok (.putfield 25, 3) := by decide +kernel
theorem d_AT_enclose_10 : decode m_AT_enclose.2.1 10 = .ok (.return_, 1) := by decide +kernel
theorem d_AT_takeSigns_0 : decode m_AT_takeSigns.2.1 0 = .ok (.iload_n 1, 1) := by decide +kernel
theorem d_AT_takeSigns_1 : decode m_AT_takeSigns.2.1 1 = .ok (.istore_n 3, 1) := by decide +kernel
theorem d_AT_takeSigns_2 : decode m_AT_takeSigns.2.1 2 = .ok (.iload_n 3, 1) := by decide +kernel
theorem d_AT_takeSigns_3 : decode m_AT_takeSigns.2.1 3 = .ok (.iload_n 2, 1) := by decide +kernel
theorem d_AT_takeSigns_4 : decode m_AT_takeSigns.2.1 4 = .ok (.if_icmp .gt 45, 3) := by decide +kernel
theorem d_AT_takeSigns_7 : decode m_AT_takeSigns.2.1 7 = .ok (.iload_n 3, 1) := by decide +kernel
theorem d_AT_takeSigns_8 : decode m_AT_takeSigns.2.1 8 = .ok (.bipush 64, 2) := by decide +kernel
theorem d_AT_takeSigns_10 : decode m_AT_takeSigns.2.1 10 = .ok (.if_icmp .ge 18, 3) := by decide +kernel
theorem d_AT_takeSigns_13 : decode m_AT_takeSigns.2.1 13 = .ok (.aload_n 0, 1) := by decide +kernel
theorem d_AT_takeSigns_14 : decode m_AT_takeSigns.2.1 14 = .ok (.dup, 1) := by decide +kernel
theorem d_AT_takeSigns_15 : decode m_AT_takeSigns.2.1 15 = .ok (.getfield 13, 3) := by decide +kernel
theorem d_AT_takeSigns_18 : decode m_AT_takeSigns.2.1 18 = .ok (.lconst 1, 1) := by decide +kernel
theorem d_AT_takeSigns_19 : decode m_AT_takeSigns.2.1 19 = .ok (.iload_n 3, 1) := by decide +kernel
theorem d_AT_takeSigns_20 : decode m_AT_takeSigns.2.1 20 = .ok (.lshl, 1) := by decide +kernel
theorem d_AT_takeSigns_21 : decode m_AT_takeSigns.2.1 21 = .ok (.lor, 1) := by decide +kernel
theorem d_AT_takeSigns_22 : decode m_AT_takeSigns.2.1 22 = .ok (.putfield 13, 3) := by decide +kernel
theorem d_AT_takeSigns_25 : decode m_AT_takeSigns.2.1 25 = .ok (.goto 18, 3) := by decide +kernel
theorem d_AT_takeSigns_28 : decode m_AT_takeSigns.2.1 28 = .ok (.aload_n 0, 1) := by decide +kernel
theorem d_AT_takeSigns_29 : decode m_AT_takeSigns.2.1 29 = .ok (.dup, 1) := by decide +kernel
theorem d_AT_takeSigns_30 : decode m_AT_takeSigns.2.1 30 = .ok (.getfield 17, 3) := by decide +kernel
theorem d_AT_takeSigns_33 : decode m_AT_takeSigns.2.1 33 = .ok (.lconst 1, 1) := by decide +kernel
theorem d_AT_takeSigns_34 : decode m_AT_takeSigns.2.1 34 = .ok (.iload_n 3, 1) := by decide +kernel
theorem d_AT_takeSigns_35 : decode m_AT_takeSigns.2.1 35 = .ok (.bipush 64, 2) := by decide +kernel
theorem d_AT_takeSigns_37 : decode m_AT_takeSigns.2.1 37 = .ok (.isub, 1) := by decide +kernel
theorem d_AT_takeSigns_38 : decode m_AT_takeSigns.2.1 38 = .ok (.lshl, 1) := by decide +kernel
theorem d_AT_takeSigns_39 : decode m_AT_takeSigns.2.1 39 = .ok (.lor, 1) := by decide +kernel
theorem d_AT_takeSigns_40 : decode m_AT_takeSigns.2.1 40 = .ok (.putfield 17, 3) := by decide +kernel
theorem d_AT_takeSigns_43 : decode m_AT_takeSigns.2.1 43 = .ok (.iinc 3 1, 3) := by decide +kernel
theorem d_AT_takeSigns_46 : decode m_AT_takeSigns.2.1 46 = .ok (.goto (-44), 3) := by decide +kernel
theorem d_AT_takeSigns_49 : decode m_AT_takeSigns.2.1 49 = .ok (.return_, 1) := by decide +kernel
theorem d_AT_takeOthers_0 : decode m_AT_takeOthers.2.1 0 = .ok (.aload_n 0, 1) := by decide +kernel
theorem d_AT_takeOthers_1 : decode m_AT_takeOthers.2.1 1 = .ok (.aload_n 0, 1) := by decide +kernel
theorem d_AT_takeOthers_2 : decode m_AT_takeOthers.2.1 2 = .ok (.getfield 13, 3) := by decide +kernel
theorem d_AT_takeOthers_5 : decode m_AT_takeOthers.2.1 5 = .ok (.ldc2_w 20, 3) := by decide +kernel
theorem d_AT_takeOthers_8 : decode m_AT_takeOthers.2.1 8 = .ok (.lxor, 1) := by decide +kernel
theorem d_AT_takeOthers_9 : decode m_AT_takeOthers.2.1 9 = .ok (.putfield 13, 3) := by decide +kernel
theorem d_AT_takeOthers_12 : decode m_AT_takeOthers.2.1 12 = .ok (.aload_n 0, 1) := by decide +kernel
theorem d_AT_takeOthers_13 : decode m_AT_takeOthers.2.1 13 = .ok (.aload_n 0, 1) := by decide +kernel
theorem d_AT_takeOthers_14 : decode m_AT_takeOthers.2.1 14 = .ok (.getfield 17, 3) := by decide +kernel
theorem d_AT_takeOthers_17 : decode m_AT_takeOthers.2.1 17 = .ok (.ldc2_w 20, 3) := by decide +kernel
theorem d_AT_takeOthers_20 : decode m_AT_takeOthers.2.1 20 = .ok (.lxor, 1) := by decide +kernel
theorem d_AT_takeOthers_21 : decode m_AT_takeOthers.2.1 21 = .ok (.putfield 17, 3) := by decide +kernel
theorem d_AT_takeOthers_24 : decode m_AT_takeOthers.2.1 24 = .ok (.return_, 1) := by decide +kernel
theorem d_PI_init_0 : decode m_PI_init.2.1 0 = .ok (.aload_n 0, 1) := by decide +kernel
theorem d_PI_init_1 : decode m_PI_init.2.1 1 = .ok (.invokespecial 1, 3) := by decide +kernel
theorem d_PI_init_4 : decode m_PI_init.2.1 4 = .ok (.aload_n 0, 1) := by decide +kernel
theorem d_PI_init_5 : decode m_PI_init.2.1 5 = .ok (.iconst 1, 1) := by decide +kernel
theorem d_PI_init_6 : decode m_PI_init.2.1 6 = .ok (.putfield 7, 3) := by decide +kernel
theorem d_PI_init_9 : decode m_PI_init.2.1 9 = .ok (.aload_n 0, 1) := by decide +kernel
theorem d_PI_init_10 : decode m_PI_init.2.1 10 = .ok (.iconst 1, 1) := by decide +kernel
theorem d_PI_init_11 : decode m_PI_init.2.1 11 = .ok (.putfield 13, 3) := by decide +kernel
theorem d_PI_init_14 : decode m_PI_init.2.1 14 = .ok (.aload_n 0, 1) := by decide +kernel
theorem d_PI_init_15 : decode m_PI_init.2.1 15 = .ok (.aload_n 1, 1) := by decide +kernel
theorem d_PI_init_16 : decode m_PI_init.2.1 16 = .ok (.putfield 16, 3) := by decide +kernel
theorem d_PI_init_19 : decode m_PI_init.2.1 19 = .ok (.return_, 1) := by decide +kernel
theorem d_PI_repeatUnbounded_0 : decode m_PI_repeatUnbounded.2.1 0 = .ok (.aload_n 0, 1) := by decide +kernel
theorem d_PI_repeatUnbounded_1 : decode m_PI_repeatUnbounded.2.1 1 = .ok (.iload_n 1, 1) := by decide +kernel
theorem d_PI_repeatUnbounded_2 : decode m_PI_repeatUnbounded.2.1 2 = .ok (.putfield 7, 3) := by decide +kernel
theorem d_PI_repeatUnbounded_5 : decode m_PI_repeatUnbounded.2.1 5 = .ok (.aload_n 0, 1) := by decide +kernel
theorem d_PI_repeatUnbounded_6 : decode m_PI_repeatUnbounded.2.1 6 = .ok (.iconst 1, 1) := by decide +kernel
theorem d_PI_repeatUnbounded_7 : decode m_PI_repeatUnbounded.2.1 7 = .ok (.putfield 20, 3) := by decide +kernel
theorem d_PI_repeatUnbounded_10 : decode m_PI_repeatUnbounded.2.1 10 = .ok (.return_, 1) := by decide +kernel
theorem d_PI_repeat_0 : decode m_PI_repeat.2.1 0 = .ok (.aload_n 0, 1) := by decide +kernel
theorem d_PI_repeat_1 : decode m_PI_repeat.2.1 1 = .ok (.iload_n 1, 1) := by decide +kernel
theorem d_PI_repeat_2 : decode m_PI_repeat.2.1 2 = .ok (.putfield 7, 3) := by decide +kernel
theorem d_PI_repeat_5 : decode m_PI_repeat.2.1 5 = .ok (.aload_n 0, 1) := by decide +kernel
theorem d_PI_repeat_6 : decode m_PI_repeat.2.1 6 = .ok (.iload_n 2, 1) := by decide +kernel
theorem d_PI_repeat_7 : decode m_PI_repeat.2.1 7 = .ok (.putfield 13, 3) := by decide +kernel
theorem d_PI_repeat_10 : decode m_PI_repeat.2.1 10 = .ok (.return_, 1) := by decide +kernel
theorem d_PI_isEndless_0 : decode m_PI_isEndless.2.1 0 = .ok (.aload_n 0, 1) := by decide +kernel
theorem d_PI_isEndless_1 : decode m_PI_isEndless.2.1 1 = .ok (.getfield 20, 3) := by decide +kernel
theorem d_PI_isEndless_4 : decode m_PI_isEndless.2.1 4 = .ok (.ifCond .eq 17, 3) := by decide +kernel
theorem d_PI_isEndless_7 : decode m_PI_isEndless.2.1 7 = .ok (.aload_n 0, 1) := by decide +kernel
theorem d_PI_isEndless_8 : decode m_PI_isEndless.2.1 8 = .ok (.getfield 16, 3) := by decide +kernel
theorem d_PI_isEndless_11 : decode m_PI_isEndless.2.1 11 = .ok (.invokevirtual 30, 3) := by decide +kernel
theorem d_PI_isEndless_14 : decode m_PI_isEndless.2.1 14 = .ok (.ifCond .eq 7, 3) := by decide +kernel
theorem d_PI_isEndless_17 : decode m_PI_isEndless.2.1 17 = .ok (.iconst 1, 1) := by decide +kernel
theorem d_PI_isEndless_18 : decode m_PI_isEndless.2.1 18 = .ok (.goto 4, 3) := by decide +kernel
theorem d_PI_isEndless_21 : decode m_PI_isEndless.2.1 21 = .ok (.iconst 0, 1) := by decide +kernel
theorem d_PI_isEndless_22 : decode m_PI_isEndless.2.1 22 = .ok (.ireturn, 1) := by decide +kernel
theorem d_AT_canBeEmpty_0 : decode m_AT_canBeEmpty.2.1 0 = .ok (.aload_n 0, 1) := by decide +kernel
theorem d_AT_canBeEmpty_1 : decode m_AT_canBeEmpty.2.1 1 = .ok (.getfield 25, 3) := by decide +kernel
theorem d_AT_canBeEmpty_4 : decode m_AT_canBeEmpty.2.1 4 = .ok (.ifnonnull 19, 3) := by decide +kernel
theorem d_AT_canBeEmpty_7 : decode m_AT_canBeEmpty.2.1 7 = .ok (.aload_n 0, 1) := by decide +kernel
theorem d_AT_canBeEmpty_8 : decode m_AT_canBeEmpty.2.1 8 = .ok (.getfield 7, 3) := by decide +kernel
theorem d_AT_canBeEmpty_11 : decode m_AT_canBeEmpty.2.1 11 = .ok (.iconst 1, 1) := by decide +kernel
theorem d_AT_canBeEmpty_12 : decode m_AT_canBeEmpty.2.1 12 = .ok (.if_icmp .eq 7, 3) := by decide +kernel
theorem d_AT_canBeEmpty_15 : decode m_AT_canBeEmpty.2.1 15 = .ok (.iconst 1, 1) := by decide +kernel
theorem d_AT_canBeEmpty_16 : decode m_AT_canBeEmpty.2.1 16 = .ok (.goto 14, 3) := by decide +kernel
theorem d_AT_canBeEmpty_19 : decode m_AT_canBeEmpty.2.1 19 = .ok (.iconst 0, 1) := by decide +kernel
theorem d_AT_canBeEmpty_20 : decode m_AT_canBeEmpty.2.1 20 = .ok (.goto 10, 3) := by decide +kernel
theorem d_AT_canBeEmpty_23 : decode m_AT_canBeEmpty.2.1 23 = .ok (.aload_n 0, 1) := by decide +kernel
theorem d_AT_canBeEmpty_24 : decode m_AT_canBeEmpty.2.1 24 = .ok (.getfield 25, 3) := by decide +kernel
theorem d_AT_canBeEmpty_27 : decode m_AT_canBeEmpty.2.1 27 = .ok (.invokevirtual 37, 3) := by decide +kernel
theorem d_AT_canBeEmpty_30 : decode m_AT_canBeEmpty.2.1 30 = .ok (.ireturn, 1) := by decide +kernel
theorem d_CH_canBeEmpty_0 : decode m_CH_canBeEmpty.2.1 0 = .ok (.aload_n 0, 1) := by decide +kernel
theorem d_CH_canBeEmpty_1 : decode m_CH_canBeEmpty.2.1 1 = .ok (.getfield 20, 3) := by decide +kernel
theorem d_CH_canBeEmpty_4 : decode m_CH_canBeEmpty.2.1 4 = .ok (.ireturn, 1) := by decide +kernel
theorem d_RO_add_0 : decode m_RO_add.2.1 0 = .ok (.aload_n 0, 1) := by decide +kernel
theorem d_RO_add_1 : decode m_RO_add.2.1 1 = .ok (.dup, 1) := by decide +kernel
theorem d_RO_add_2 : decode m_RO_add.2.1 2 = .ok (.getfield 13, 3) := by decide +kernel
theorem d_RO_add_5 : decode m_RO_add.2.1 5 = .ok (.aload_n 1, 1) := by decide +kernel
theorem d_RO_add_6 : decode m_RO_add.2.1 6 = .ok (.invokevirtual 17, 3) := by decide +kernel
theorem d_RO_add_9 : decode m_RO_add.2.1 9 = .ok (.iadd, 1) := by decide +kernel
theorem d_RO_add_10 : decode m_RO_add.2.1 10 = .ok (.putfield 13, 3) := by decide +kernel
theorem d_RO_add_13 : decode m_RO_add.2.1 13 = .ok (.aload_n 0, 1) := by decide +kernel
theorem d_RO_add_14 : decode m_RO_add.2.1 14 = .ok (.aload_n 0, 1) := by decide +kernel
theorem d_RO_add_15 : decode m_RO_add.2.1 15 = .ok (.getfield 7, 3) := by decide +kernel
theorem d_RO_add_18 : decode m_RO_add.2.1 18 = .ok (.ifCond .eq 14, 3) := by decide +kernel
theorem d_RO_add_21 : decode m_RO_add.2.1 21 = .ok (.aload_n 1, 1) := by decide +kernel
theorem d_RO_add_22 : decode m_RO_add.2.1 22 = .ok (.invokevirtual 22, 3) := by decide +kernel
theorem d_RO_add_25 : decode m_RO_add.2.1 25 = .ok (.ifCond .eq 7, 3) := by decide +kernel
theorem d_RO_add_28 : decode m_RO_add.2.1 28 = .ok (.iconst 1, 1) := by decide +kernel
theorem d_RO_add_29 : decode m_RO_add.2.1 29 = .ok (.goto 4, 3) := by decide +kernel
theorem d_RO_add_32 : decode m_RO_add.2.1 32 = .ok (.iconst 0, 1) := by decide +kernel
theorem d_RO_add_33 : decode m_RO_add.2.1 33 = .ok (.putfield 7, 3) := by decide +kernel
theorem d_RO_add_36 : decode m_RO_add.2.1 36 = .ok (.aload_n 1, 1) := by decide +kernel
theorem d_RO_add_37 : decode m_RO_add.2.1 37 = .ok (.aload_n 0, 1) := by decide +kernel
theorem d_RO_add_38 : decode m_RO_add.2.1 38 = .ok (.getfield 25, 3) := by decide +kernel
theorem d_RO_add_41 : decode m_RO_add.2.1 41 = .ok (.putfield 29, 3) := by decide +kernel
theorem d_RO_add_44 : decode m_RO_add.2.1 44 = .ok (.aload_n 0, 1) := by decide +kernel
theorem d_RO_add_45 : decode m_RO_add.2.1 45 = .ok (.aload_n 1, 1) := by decide +kernel
theorem d_RO_add_46 : decode m_RO_add.2.1 46 = .ok (.putfield 25, 3) := by decide +kernel
theorem d_RO_add_49 : decode m_RO_add.2.1 49 = .ok (.return_, 1) := by decide +kernel
theorem d_PI_size_0 : decode m_PI_size.2.1 0 = .ok (.aload_n 0, 1) := by decide +kernel
theorem d_PI_size_1 : decode m_PI_size.2.1 1 = .ok (.getfield 20, 3) := by decide +kernel
theorem d_PI_size_4 : decode m_PI_size.2.1 4 = .ok (.ifCond .eq 15, 3) := by decide +kernel
theorem d_PI_size_7 : decode m_PI_size.2.1 7 = .ok (.aload_n 0, 1) := by decide +kernel
theorem d_PI_size_8 : decode m_PI_size.2.1 8 = .ok (.getfield 16, 3) := by decide +kernel
theorem d_PI_size_11 : decode m_PI_size.2.1 11 = .ok (.invokevirtual 24, 3) := by decide +kernel
theorem d_PI_size_14 : decode m_PI_size.2.1 14 = .ok (.iconst 2, 1) := by decide +kernel
theorem d_PI_size_15 : decode m_PI_size.2.1 15 = .ok (.iadd, 1) := by decide +kernel
theorem d_PI_size_16 : decode m_PI_size.2.1 16 = .ok (.goto 27, 3) := by decide +kernel
theorem d_PI_size_19 : decode m_PI_size.2.1 19 = .ok (.aload_n 0, 1) := by decide +kernel
theorem d_PI_size_20 : decode m_PI_size.2.1 20 = .ok (.getfield 13, 3) := by decide +kernel
theorem d_PI_size_23 : decode m_PI_size.2.1 23 = .ok (.aload_n 0, 1) := by decide +kernel
theorem d_PI_size_24 : decode m_PI_size.2.1 24 = .ok (.getfield 16, 3) := by decide +kernel
theorem d_PI_size_27 : decode m_PI_size.2.1 27 = .ok (.invokevirtual 24, 3) := by decide +kernel
theorem d_PI_size_30 : decode m_PI_size.2.1 30 = .ok (.imul, 1) := by decide +kernel
theorem d_PI_size_31 : decode m_PI_size.2.1 31 = .ok (.iconst 2, 1) := by decide +kernel
theorem d_PI_size_32 : decode m_PI_size.2.1 32 = .ok (.aload_n 0, 1) := by decide +kernel
theorem d_PI_size_33 : decode m_PI_size.2.1 33 = .ok (.getfield 13, 3) := by decide +kernel
theorem d_PI_size_36 : decode m_PI_size.2.1 36 = .ok (.aload_n 0, 1) := by decide +kernel
theorem d_PI_size_37 : decode m_PI_size.2.1 37 = .ok (.getfield 7, 3) := by decide +kernel
theorem d_PI_size_40 : decode m_PI_size.2.1 40 = .ok (.isub, 1) := by decide +kernel
theorem d_PI_size_41 : decode m_PI_size.2.1 41 = .ok (.imul, 1) := by decide +kernel
theorem d_PI_size_42 : decode m_PI_size.2.1 42 = .ok (.iadd, 1) := by decide +kernel
theorem d_PI_size_43 : decode m_PI_size.2.1 43 = .ok (.ireturn, 1) := by decide +kernel
theorem d_AT_size_0 : decode m_AT_size.2.1 0 = .ok (.aload_n 0, 1) := by decide +kernel
theorem d_AT_size_1 : decode m_AT_size.2.1 1 = .ok (.getfield 25, 3) := by decide +kernel
theorem d_AT_size_4 : decode m_AT_size.2.1 4 = .ok (.ifnonnull 7, 3) := by decide +kernel
theorem d_AT_size_7 : decode m_AT_size.2.1 7 = .ok (.iconst 1, 1) := by decide +kernel
theorem d_AT_size_8 : decode m_AT_size.2.1 8 = .ok (.goto 12, 3) := by decide +kernel
theorem d_AT_size_11 : decode m_AT_size.2.1 11 = .ok (.aload_n 0, 1) := by decide +kernel
theorem d_AT_size_12 : decode m_AT_size.2.1 12 = .ok (.getfield 25, 3) := by decide +kernel
theorem d_AT_size_15 : decode m_AT_size.2.1 15 = .ok (.invokevirtual 29, 3) := by decide +kernel
theorem d_AT_size_18 : decode m_AT_size.2.1 18 = .ok (.iconst 2, 1) := by decide +kernel
theorem d_AT_size_19 : decode m_AT_size.2.1 19 = .ok (.iadd, 1) := by decide +kernel
theorem d_AT_size_20 : decode m_AT_size.2.1 20 = .ok (.ireturn, 1) := by decide +kernel
theorem d_CH_size_0 : decode m_CH_size.2.1 0 = .ok (.aload_n 0, 1) := by decide +kernel
theorem d_CH_size_1 : decode m_CH_size.2.1 1 = .ok (.getfield 7, 3) := by decide +kernel
theorem d_CH_size_4 : decode m_CH_size.2.1 4 = .ok (.ireturn, 1) := by decide +kernel
theorem d_PI_canBeEmpty_0 : decode m_PI_canBeEmpty.2.1 0 = .ok (.aload_n 0, 1) := by decide +kernel
theorem d_PI_canBeEmpty_1 : decode m_PI_canBeEmpty.2.1 1 = .ok (.getfield 7, 3) := by decide +kernel
theorem d_PI_canBeEmpty_4 : decode m_PI_canBeEmpty.2.1 4 = .ok (.ifCond .eq 13, 3) := by decide +kernel
theorem d_PI_canBeEmpty_7 : decode m_PI_canBeEmpty.2.1 7 = .ok (.aload_n 0, 1) := by decide +kernel
theorem d_PI_canBeEmpty_8 : decode m_PI_canBeEmpty.2.1 8 = .ok (.getfield 16, 3) := by decide +kernel
theorem d_PI_canBeEmpty_11 : decode m_PI_canBeEmpty.2.1 11 = .ok (.invokevirtual 30, 3) := by decide +kernel
theorem d_PI_canBeEmpty_14 : decode m_PI_canBeEmpty.2.1 14 = .ok (.ifCond .eq 7, 3) := by decide +kernel
theorem d_PI_canBeEmpty_17 : decode m_PI_canBeEmpty.2.1 17 = .ok (.iconst 1, 1) := by decide +kernel
theorem d_PI_canBeEmpty_18 : decode m_PI_canBeEmpty.2.1 18 = .ok (.goto 4, 3) := by decide +kernel
theorem d_PI_canBeEmpty_21 : decode m_PI_canBeEmpty.2.1 21 = .ok (.iconst 0, 1) := by decide +kernel
theorem d_PI_canBeEmpty_22 : decode m_PI_canBeEmpty.2.1 22 = .ok (.ireturn, 1) := by decide +kernel
theorem d_CH_add_0 : decode m_CH_add.2.1 0 = .ok (.aload_n 0, 1) := by decide +kernel
theorem d_CH_add_1 : decode m_CH_add.2.1 1 = .ok (.dup, 1) := by decide +kernel
theorem d_CH_add_2 : decode m_CH_add.2.1 2 = .ok (.getfield 7, 3) := by decide +kernel
theorem d_CH_add_5 : decode m_CH_add.2.1 5 = .ok (.aload_n 1, 1) := by decide +kernel
theorem d_CH_add_6 : decode m_CH_add.2.1 6 = .ok (.getfield 13, 3) := by decide +kernel
theorem d_CH_add_9 : decode m_CH_add.2.1 9 = .ok (.aload_n 0, 1) := by decide +kernel
theorem d_CH_add_10 : decode m_CH_add.2.1 10 = .ok (.getfield 16, 3) := by decide +kernel
theorem d_CH_add_13 : decode m_CH_add.2.1 13 = .ok (.ifnonnull 7, 3) := by decide +kernel
theorem d_CH_add_16 : decode m_CH_add.2.1 16 = .ok (.iconst 0, 1) := by decide +kernel
theorem d_CH_add_17 : decode m_CH_add.2.1 17 = .ok (.goto 4, 3) := by decide +kernel
theorem d_CH_add_20 : decode m_CH_add.2.1 20 = .ok (.iconst 2, 1) := by decide +kernel
theorem d_CH_add_21 : decode m_CH_add.2.1 21 = .ok (.iadd, 1) := by decide +kernel
theorem d_CH_add_22 : decode m_CH_add.2.1 22 = .ok (.iadd, 1) := by decide +kernel
theorem d_CH_add_23 : decode m_CH_add.2.1 23 = .ok (.putfield 7, 3) := by decide +kernel
theorem d_CH_add_26 : decode m_CH_add.2.1 26 = .ok (.aload_n 0, 1) := by decide +kernel
theorem d_CH_add_27 : decode m_CH_add.2.1 27 = .ok (.aload_n 0, 1) := by decide +kernel
theorem d_CH_add_28 : decode m_CH_add.2.1 28 = .ok (.getfield 20, 3) := by decide +kernel
theorem d_CH_add_31 : decode m_CH_add.2.1 31 = .ok (.ifCond .ne 10, 3) := by decide +kernel
theorem d_CH_add_34 : decode m_CH_add.2.1 34 = .ok (.aload_n 1, 1) := by decide +kernel
theorem d_CH_add_35 : decode m_CH_add.2.1 35 = .ok (.getfield 24, 3) := by decide +kernel
theorem d_CH_add_38 : decode m_CH_add.2.1 38 = .ok (.ifCond .eq 7, 3) := by decide +kernel
theorem d_CH_add_41 : decode m_CH_add.2.1 41 = .ok (.iconst 1, 1) := by decide +kernel
theorem d_CH_add_42 : decode m_CH_add.2.1 42 = .ok (.goto 4, 3) := by decide +kernel
theorem d_CH_add_45 : decode m_CH_add.2.1 45 = .ok (.iconst 0, 1) := by decide +kernel
theorem d_CH_add_46 : decode m_CH_add.2.1 46 = .ok (.putfield 20, 3) := by decide +kernel
theorem d_CH_add_49 : decode m_CH_add.2.1 49 = .ok (.aload_n 1, 1) := by decide +kernel
theorem d_CH_add_50 : decode m_CH_add.2.1 50 = .ok (.aload_n 0, 1) := by decide +kernel
theorem d_CH_add_51 : decode m_CH_add.2.1 51 = .ok (.getfield 16, 3) := by decide +kernel
theorem d_CH_add_54 : decode m_CH_add.2.1 54 = .ok (.putfield 27, 3) := by decide +kernel
theorem d_CH_add_57 : decode m_CH_add.2.1 57 = .ok (.aload_n 0, 1) := by decide +kernel
theorem d_CH_add_58 : decode m_CH_add.2.1 58 = .ok (.aload_n 1, 1) := by decide +kernel
theorem d_CH_add_59 : decode m_CH_add.2.1 59 = .ok (.putfield 16, 3) := by decide +kernel
theorem d_CH_add_62 : decode m_CH_add.2.1 62 = .ok (.return_, 1) := by decide +kernel
theorem d_BO_endSlot_0 : decode m_BO_endSlot.2.1 0 = .ok (.iconst 2, 1) := by decide +kernel
theorem d_BO_endSlot_1 : decode m_BO_endSlot.2.1 1 = .ok (.iload_n 0, 1) := by decide +kernel
theorem d_BO_endSlot_2 : decode m_BO_endSlot.2.1 2 = .ok (.imul, 1) := by decide +kernel
theorem d_BO_endSlot_3 : decode m_BO_endSlot.2.1 3 = .ok (.iconst 1, 1) := by decide +kernel
theorem d_BO_endSlot_4 : decode m_BO_endSlot.2.1 4 = .ok (.iadd, 1) := by decide +kernel
theorem d_BO_endSlot_5 : decode m_BO_endSlot.2.1 5 = .ok (.ireturn, 1) := by decide +kernel
theorem d_BO_beginSlot_0 : decode m_BO_beginSlot.2.1 0 = .ok (.iconst 2, 1) := by decide +kernel
theorem d_BO_beginSlot_1 : decode m_BO_beginSlot.2.1 1 = .ok (.iload_n 0, 1) := by decide +kernel
theorem d_BO_beginSlot_2 : decode m_BO_beginSlot.2.1 2 = .ok (.imul, 1) := by decide +kernel
theorem d_BO_beginSlot_3 : decode m_BO_beginSlot.2.1 3 = .ok (.ireturn, 1) := by decide +kernel
theorem d_BO_clear_0 : decode m_BO_clear.2.1 0 = .ok (.aload_n 0, 1) := by decide +kernel
theorem d_BO_clear_1 : decode m_BO_clear.2.1 1 = .ok (.getfield 9, 3) := by decide +kernel
theorem d_BO_clear_4 : decode m_BO_clear.2.1 4 = .ok (.bipush (-2), 2) := by decide +kernel
theorem d_BO_clear_6 : decode m_BO_clear.2.1 6 = .ok (.invokestatic 15, 3) := by decide +kernel
theorem d_BO_clear_9 : decode m_BO_clear.2.1 9 = .ok (.return_, 1) := by decide +kernel
theorem d_PS_fault_0 : decode m_PS_fault.2.1 0 = .ok (.new 67, 3) := by decide +kernel
theorem d_PS_fault_3 : decode m_PS_fault.2.1 3 = .ok (.dup, 1) := by decide +kernel
theorem d_PS_fault_4 : decode m_PS_fault.2.1 4 = .ok (.aload_n 0, 1) := by decide +kernel
theorem d_PS_fault_5 : decode m_PS_fault.2.1 5 = .ok (.getfield 14, 3) := by decide +kernel
theorem d_PS_fault_8 : decode m_PS_fault.2.1 8 = .ok (.invokespecial 69, 3) := by decide +kernel
theorem d_PS_fault_11 : decode m_PS_fault.2.1 11 = .ok (.astore_n 1, 1) := by decide +kernel
theorem d_PS_fault_12 : decode m_PS_fault.2.1 12 = .ok (.aload_n 1, 1) := by decide +kernel
theorem d_PS_fault_13 : decode m_PS_fault.2.1 13 = .ok (.invokevirtual 72, 3) := by decide +kernel
theorem d_PS_fault_16 : decode m_PS_fault.2.1 16 = .ok (.pop, 1) := by decide +kernel
theorem d_PS_fault_17 : decode m_PS_fault.2.1 17 = .ok (.aload_n 1, 1) := by decide +kernel
theorem d_PS_fault_18 : decode m_PS_fault.2.1 18 = .ok (.invokevirtual 76, 3) := by decide +kernel
theorem d_PS_fault_21 : decode m_PS_fault.2.1 21 = .ok (.ireturn, 1) := by decide +kernel
theorem d_PS_text_0 : decode m_PS_text.2.1 0 = .ok (.iload_n 1, 1) := by decide +kernel
theorem d_PS_text_1 : decode m_PS_text.2.1 1 = .ok (.invokestatic 49, 3) := by decide +kernel
theorem d_PS_text_4 : decode m_PS_text.2.1 4 = .ok (.ifCond .eq 13, 3) := by decide +kernel
theorem d_PS_text_7 : decode m_PS_text.2.1 7 = .ok (.aload_n 0, 1) := by decide +kernel
theorem d_PS_text_8 : decode m_PS_text.2.1 8 = .ok (.getfield 18, 3) := by decide +kernel
theorem d_PS_text_11 : decode m_PS_text.2.1 11 = .ok (.invokevirtual 53, 3) := by decide +kernel
theorem d_PS_text_14 : decode m_PS_text.2.1 14 = .ok (.ifCond .eq 5, 3) := by decide +kernel
theorem d_PS_text_17 : decode m_PS_text.2.1 17 = .ok (.iconst (-1), 1) := by decide +kernel
theorem d_PS_text_18 : decode m_PS_text.2.1 18 = .ok (.ireturn, 1) := by decide +kernel
theorem d_PS_text_19 : decode m_PS_text.2.1 19 = .ok (.aload_n 0, 1) := by decide +kernel
theorem d_PS_text_20 : decode m_PS_text.2.1 20 = .ok (.getfield 18, 3) := by decide +kernel
theorem d_PS_text_23 : decode m_PS_text.2.1 23 = .ok (.iload_n 1, 1) := by decide +kernel
theorem d_PS_text_24 : decode m_PS_text.2.1 24 = .ok (.invokevirtual 57, 3) := by decide +kernel
theorem d_PS_text_27 : decode m_PS_text.2.1 27 = .ok (.aload_n 0, 1) := by decide +kernel
theorem d_PS_text_28 : decode m_PS_text.2.1 28 = .ok (.getfield 34, 3) := by decide +kernel
theorem d_PS_text_31 : decode m_PS_text.2.1 31 = .ok (.invokevirtual 91, 3) := by decide +kernel
theorem d_PS_text_34 : decode m_PS_text.2.1 34 = .ok (.aload_n 0, 1) := by decide +kernel
theorem d_PS_text_35 : decode m_PS_text.2.1 35 = .ok (.getfield 18, 3) := by decide +kernel
theorem d_PS_text_38 : decode m_PS_text.2.1 38 = .ok (.invokevirtual 60, 3) := by decide +kernel
theorem d_PS_text_41 : decode m_PS_text.2.1 41 = .ok (.ireturn, 1) := by decide +kernel
theorem d_PS_newText_0 : decode m_PS_newText.2.1 0 = .ok (.aload_n 0, 1) := by decide +kernel
theorem d_PS_newText_1 : decode m_PS_newText.2.1 1 = .ok (.getfield 18, 3) := by decide +kernel
theorem d_PS_newText_4 : decode m_PS_newText.2.1 4 = .ok (.invokevirtual 64, 3) := by decide +kernel
theorem d_PS_newText_7 : decode m_PS_newText.2.1 7 = .ok (.aload_n 0, 1) := by decide +kernel
theorem d_PS_newText_8 : decode m_PS_newText.2.1 8 = .ok (.getfield 34, 3) := by decide +kernel
theorem d_PS_newText_11 : decode m_PS_newText.2.1 11 = .ok (.invokevirtual 91, 3) := by decide +kernel
theorem d_PS_newText_14 : decode m_PS_newText.2.1 14 = .ok (.iconst 0, 1) := by decide +kernel
theorem d_PS_newText_15 : decode m_PS_newText.2.1 15 = .ok (.ireturn, 1) := by decide +kernel
theorem d_PS_find_0 : decode m_PS_find.2.1 0 = .ok (.iload_n 1, 1) := by decide +kernel
theorem d_PS_find_1 : decode m_PS_find.2.1 1 = .ok (.ifCond .lt 21, 3) := by decide +kernel
theorem d_PS_find_4 : decode m_PS_find.2.1 4 = .ok (.iload_n 1, 1) := by decide +kernel
theorem d_PS_find_5 : decode m_PS_find.2.1 5 = .ok (.aload_n 0, 1) := by decide +kernel
theorem d_PS_find_6 : decode m_PS_find.2.1 6 = .ok (.getfield 18, 3) := by decide +kernel
theorem d_PS_find_9 : decode m_PS_find.2.1 9 = .ok (.invokevirtual 60, 3) := by decide +kernel
theorem d_PS_find_12 : decode m_PS_find.2.1 12 = .ok (.if_icmp .gt 10, 3) := by decide +kernel
theorem d_PS_find_15 : decode m_PS_find.2.1 15 = .ok (.aload_n 0, 1) := by decide +kernel
theorem d_PS_find_16 : decode m_PS_find.2.1 16 = .ok (.getfield 41, 3) := by decide +kernel
theorem d_PS_find_19 : decode m_PS_find.2.1 19 = .ok (.ifCond .ne 5, 3) := by decide +kernel
theorem d_PS_find_22 : decode m_PS_find.2.1 22 = .ok (.iconst (-1), 1) := by decide +kernel
theorem d_PS_find_23 : decode m_PS_find.2.1 23 = .ok (.ireturn, 1) := by decide +kernel
theorem d_PS_find_24 : decode m_PS_find.2.1 24 = .ok (.aload_n 0, 1) := by decide +kernel
theorem d_PS_find_25 : decode m_PS_find.2.1 25 = .ok (.getfield 27, 3) := by decide +kernel
theorem d_PS_find_28 : decode m_PS_find.2.1 28 = .ok (.aload_n 0, 1) := by decide +kernel
theorem d_PS_find_29 : decode m_PS_find.2.1 29 = .ok (.getfield 18, 3) := by decide +kernel
theorem d_PS_find_32 : decode m_PS_find.2.1 32 = .ok (.invokevirtual 95, 3) := by decide +kernel
theorem d_PS_find_35 : decode m_PS_find.2.1 35 = .ok (.aload_n 0, 1) := by decide +kernel
theorem d_PS_find_36 : decode m_PS_find.2.1 36 = .ok (.getfield 27, 3) := by decide +kernel
theorem d_PS_find_39 : decode m_PS_find.2.1 39 = .ok (.iload_n 1, 1) := by decide +kernel
theorem d_PS_find_40 : decode m_PS_find.2.1 40 = .ok (.aload_n 0, 1) := by decide +kernel
theorem d_PS_find_41 : decode m_PS_find.2.1 41 = .ok (.getfield 34, 3) := by decide +kernel
theorem d_PS_find_44 : decode m_PS_find.2.1 44 = .ok (.invokevirtual 98, 3) := by decide +kernel
theorem d_PS_find_47 : decode m_PS_find.2.1 47 = .ok (.pop, 1) := by decide +kernel
theorem d_PS_find_48 : decode m_PS_find.2.1 48 = .ok (.aload_n 0, 1) := by decide +kernel
theorem d_PS_find_49 : decode m_PS_find.2.1 49 = .ok (.getfield 34, 3) := by decide +kernel
theorem d_PS_find_52 : decode m_PS_find.2.1 52 = .ok (.iconst 0, 1) := by decide +kernel
theorem d_PS_find_53 : decode m_PS_find.2.1 53 = .ok (.invokevirtual 102, 3) := by decide +kernel
theorem d_PS_find_56 : decode m_PS_find.2.1 56 = .ok (.ireturn, 1) := by decide +kernel
theorem d_BO_mark_0 : decode m_BO_mark.2.1 0 = .ok (.iload_n 1, 1) := by decide +kernel
theorem d_BO_mark_1 : decode m_BO_mark.2.1 1 = .ok (.ifCond .lt 19, 3) := by decide +kernel
theorem d_BO_mark_4 : decode m_BO_mark.2.1 4 = .ok (.iload_n 1, 1) := by decide +kernel
theorem d_BO_mark_5 : decode m_BO_mark.2.1 5 = .ok (.aload_n 0, 1) := by decide +kernel
theorem d_BO_mark_6 : decode m_BO_mark.2.1 6 = .ok (.getfield 9, 3) := by decide +kernel
theorem d_BO_mark_9 : decode m_BO_mark.2.1 9 = .ok (.arraylength, 1) := by decide +kernel
theorem d_BO_mark_10 : decode m_BO_mark.2.1 10 = .ok (.if_icmp .ge 10, 3) := by decide +kernel
theorem d_BO_mark_13 : decode m_BO_mark.2.1 13 = .ok (.aload_n 0, 1) := by decide +kernel
theorem d_BO_mark_14 : decode m_BO_mark.2.1 14 = .ok (.getfield 9, 3) := by decide +kernel
theorem d_BO_mark_17 : decode m_BO_mark.2.1 17 = .ok (.iload_n 1, 1) := by decide +kernel
theorem d_BO_mark_18 : decode m_BO_mark.2.1 18 = .ok (.iload_n 2, 1) := by decide +kernel
theorem d_BO_mark_19 : decode m_BO_mark.2.1 19 = .ok (.iastore, 1) := by decide +kernel
theorem d_BO_mark_20 : decode m_BO_mark.2.1 20 = .ok (.return_, 1) := by decide +kernel
theorem d_BO_begin_0 : decode m_BO_begin.2.1 0 = .ok (.aload_n 0, 1) := by decide +kernel
theorem d_BO_begin_1 : decode m_BO_begin.2.1 1 = .ok (.iload_n 1, 1) := by decide +kernel
theorem d_BO_begin_2 : decode m_BO_begin.2.1 2 = .ok (.invokestatic 21, 3) := by decide +kernel
theorem d_BO_begin_5 : decode m_BO_begin.2.1 5 = .ok (.invokevirtual 25, 3) := by decide +kernel
theorem d_BO_begin_8 : decode m_BO_begin.2.1 8 = .ok (.ireturn, 1) := by decide +kernel
theorem d_BO_inSlot_0 : decode m_BO_inSlot.2.1 0 = .ok (.iload_n 1, 1) := by decide +kernel
theorem d_BO_inSlot_1 : decode m_BO_inSlot.2.1 1 = .ok (.ifCond .lt 21, 3) := by decide +kernel
theorem d_BO_inSlot_4 : decode m_BO_inSlot.2.1 4 = .ok (.iload_n 1, 1) := by decide +kernel
theorem d_BO_inSlot_5 : decode m_BO_inSlot.2.1 5 = .ok (.aload_n 0, 1) := by decide +kernel
theorem d_BO_inSlot_6 : decode m_BO_inSlot.2.1 6 = .ok (.getfield 9, 3) := by decide +kernel
theorem d_BO_inSlot_9 : decode m_BO_inSlot.2.1 9 = .ok (.arraylength, 1) := by decide +kernel
theorem d_BO_inSlot_10 : decode m_BO_inSlot.2.1 10 = .ok (.if_icmp .ge 12, 3) := by decide +kernel
theorem d_BO_inSlot_13 : decode m_BO_inSlot.2.1 13 = .ok (.aload_n 0, 1) := by decide +kernel
theorem d_BO_inSlot_14 : decode m_BO_inSlot.2.1 14 = .ok (.getfield 9, 3) := by decide +kernel
theorem d_BO_inSlot_17 : decode m_BO_inSlot.2.1 17 = .ok (.iload_n 1, 1) := by decide +kernel
theorem d_BO_inSlot_18 : decode m_BO_inSlot.2.1 18 = .ok (.iaload, 1) := by decide +kernel
theorem d_BO_inSlot_19 : decode m_BO_inSlot.2.1 19 = .ok (.goto 5, 3) := by decide +kernel
theorem d_BO_inSlot_22 : decode m_BO_inSlot.2.1 22 = .ok (.bipush (-2), 2) := by decide +kernel
theorem d_BO_inSlot_24 : decode m_BO_inSlot.2.1 24 = .ok (.ireturn, 1) := by decide +kernel
theorem d_PS_group_0 : decode m_PS_group.2.1 0 = .ok (.iload_n 1, 1) := by decide +kernel
theorem d_PS_group_1 : decode m_PS_group.2.1 1 = .ok (.invokestatic 106, 3) := by decide +kernel
theorem d_PS_group_4 : decode m_PS_group.2.1 4 = .ok (.ifCond .eq 10, 3) := by decide +kernel
theorem d_PS_group_7 : decode m_PS_group.2.1 7 = .ok (.aload_n 0, 1) := by decide +kernel
theorem d_PS_group_8 : decode m_PS_group.2.1 8 = .ok (.getfield 41, 3) := by decide +kernel
theorem d_PS_group_11 : decode m_PS_group.2.1 11 = .ok (.ifCond .ne 5, 3) := by decide +kernel
theorem d_PS_group_14 : decode m_PS_group.2.1 14 = .ok (.iconst (-1), 1) := by decide +kernel
theorem d_PS_group_15 : decode m_PS_group.2.1 15 = .ok (.ireturn, 1) := by decide +kernel
theorem d_PS_group_16 : decode m_PS_group.2.1 16 = .ok (.iload_n 2, 1) := by decide +kernel
theorem d_PS_group_17 : decode m_PS_group.2.1 17 = .ok (.ifCond .eq 14, 3) := by decide +kernel
theorem d_PS_group_20 : decode m_PS_group.2.1 20 = .ok (.aload_n 0, 1) := by decide +kernel
theorem d_PS_group_21 : decode m_PS_group.2.1 21 = .ok (.getfield 34, 3) := by decide +kernel
theorem d_PS_group_24 : decode m_PS_group.2.1 24 = .ok (.iload_n 1, 1) := by decide +kernel
theorem d_PS_group_25 : decode m_PS_group.2.1 25 = .ok (.invokevirtual 109, 3) := by decide +kernel
theorem d_PS_group_28 : decode m_PS_group.2.1 28 = .ok (.goto 11, 3) := by decide +kernel
theorem d_PS_group_31 : decode m_PS_group.2.1 31 = .ok (.aload_n 0, 1) := by decide +kernel
theorem d_PS_group_32 : decode m_PS_group.2.1 32 = .ok (.getfield 34, 3) := by decide +kernel
theorem d_PS_group_35 : decode m_PS_group.2.1 35 = .ok (.iload_n 1, 1) := by decide +kernel
theorem d_PS_group_36 : decode m_PS_group.2.1 36 = .ok (.invokevirtual 102, 3) := by decide +kernel
theorem d_PS_group_39 : decode m_PS_group.2.1 39 = .ok (.ireturn, 1) := by decide +kernel
theorem d_PS_isGroup_0 : decode m_PS_isGroup.2.1 0 = .ok (.iload_n 0, 1) := by decide +kernel
theorem d_PS_isGroup_1 : decode m_PS_isGroup.2.1 1 = .ok (.ifCond .lt 13, 3) := by decide +kernel
theorem d_PS_isGroup_4 : decode m_PS_isGroup.2.1 4 = .ok (.iload_n 0, 1) := by decide +kernel
theorem d_PS_isGroup_5 : decode m_PS_isGroup.2.1 5 = .ok (.bipush 6, 2) := by decide +kernel
theorem d_PS_isGroup_7 : decode m_PS_isGroup.2.1 7 = .ok (.if_icmp .gt 7, 3) := by decide +kernel
theorem d_PS_isGroup_10 : decode m_PS_isGroup.2.1 10 = .ok (.iconst 1, 1) := by decide +kernel
theorem d_PS_isGroup_11 : decode m_PS_isGroup.2.1 11 = .ok (.goto 4, 3) := by decide +kernel
theorem d_PS_isGroup_14 : decode m_PS_isGroup.2.1 14 = .ok (.iconst 0, 1) := by decide +kernel
theorem d_PS_isGroup_15 : decode m_PS_isGroup.2.1 15 = .ok (.ireturn, 1) := by decide +kernel
theorem d_BO_end_0 : decode m_BO_end.2.1 0 = .ok (.aload_n 0, 1) := by decide +kernel
theorem d_BO_end_1 : decode m_BO_end.2.1 1 = .ok (.iload_n 1, 1) := by decide +kernel
theorem d_BO_end_2 : decode m_BO_end.2.1 2 = .ok (.invokestatic 28, 3) := by decide +kernel
theorem d_BO_end_5 : decode m_BO_end.2.1 5 = .ok (.invokevirtual 25, 3) := by decide +kernel
theorem d_BO_end_8 : decode m_BO_end.2.1 8 = .ok (.ireturn, 1) := by decide +kernel
theorem d_PS_whole_0 : decode m_PS_whole.2.1 0 = .ok (.iload_n 1, 1) := by decide +kernel
theorem d_PS_whole_1 : decode m_PS_whole.2.1 1 = .ok (.ifCond .lt 26, 3) := by decide +kernel
theorem d_PS_whole_4 : decode m_PS_whole.2.1 4 = .ok (.iload_n 2, 1) := by decide +kernel
theorem d_PS_whole_5 : decode m_PS_whole.2.1 5 = .ok (.iload_n 1, 1) := by decide +kernel
theorem d_PS_whole_6 : decode m_PS_whole.2.1 6 = .ok (.if_icmp .lt 21, 3) := by decide +kernel
theorem d_PS_whole_9 : decode m_PS_whole.2.1 9 = .ok (.iload_n 2, 1) := by decide +kernel
theorem d_PS_whole_10 : decode m_PS_whole.2.1 10 = .ok (.aload_n 0, 1) := by decide +kernel
theorem d_PS_whole_11 : decode m_PS_whole.2.1 11 = .ok (.getfield 18, 3) := by decide +kernel
theorem d_PS_whole_14 : decode m_PS_whole.2.1 14 = .ok (.invokevirtual 60, 3) := by decide +kernel
theorem d_PS_whole_17 : decode m_PS_whole.2.1 17 = .ok (.if_icmp .gt 10, 3) := by decide +kernel
theorem d_PS_whole_20 : decode m_PS_whole.2.1 20 = .ok (.aload_n 0, 1) := by decide +kernel
theorem d_PS_whole_21 : decode m_PS_whole.2.1 21 = .ok (.getfield 41, 3) := by decide +kernel
theorem d_PS_whole_24 : decode m_PS_whole.2.1 24 = .ok (.ifCond .ne 5, 3) := by decide +kernel
theorem d_PS_whole_27 : decode m_PS_whole.2.1 27 = .ok (.iconst (-1), 1) := by decide +kernel
theorem d_PS_whole_28 : decode m_PS_whole.2.1 28 = .ok (.ireturn, 1) := by decide +kernel
theorem d_PS_whole_29 : decode m_PS_whole.2.1 29 = .ok (.aload_n 0, 1) := by decide +kernel
theorem d_PS_whole_30 : decode m_PS_whole.2.1 30 = .ok (.getfield 27, 3) := by decide +kernel
theorem d_PS_whole_33 : decode m_PS_whole.2.1 33 = .ok (.aload_n 0, 1) := by decide +kernel
theorem d_PS_whole_34 : decode m_PS_whole.2.1 34 = .ok (.getfield 18, 3) := by decide +kernel
theorem d_PS_whole_37 : decode m_PS_whole.2.1 37 = .ok (.iload_n 2, 1) := by decide +kernel
theorem d_PS_whole_38 : decode m_PS_whole.2.1 38 = .ok (.invokevirtual 112, 3) := by decide +kernel
theorem d_PS_whole_41 : decode m_PS_whole.2.1 41 = .ok (.aload_n 0, 1) := by decide +kernel
theorem d_PS_whole_42 : decode m_PS_whole.2.1 42 = .ok (.getfield 27, 3) := by decide +kernel
theorem d_PS_whole_45 : decode m_PS_whole.2.1 45 = .ok (.iload_n 1, 1) := by decide +kernel
theorem d_PS_whole_46 : decode m_PS_whole.2.1 46 = .ok (.invokevirtual 116, 3) := by decide +kernel
theorem d_PS_whole_49 : decode m_PS_whole.2.1 49 = .ok (.ifCond .eq 7, 3) := by decide +kernel
theorem d_PS_whole_52 : decode m_PS_whole.2.1 52 = .ok (.iconst 1, 1) := by decide +kernel
theorem d_PS_whole_53 : decode m_PS_whole.2.1 53 = .ok (.goto 4, 3) := by decide +kernel
theorem d_PS_whole_56 : decode m_PS_whole.2.1 56 = .ok (.iconst 0, 1) := by decide +kernel
theorem d_PS_whole_57 : decode m_PS_whole.2.1 57 = .ok (.ireturn, 1) := by decide +kernel
theorem d_PS_matches_0 : decode m_PS_matches.2.1 0 = .ok (.aload_n 0, 1) := by decide +kernel
theorem d_PS_matches_1 : decode m_PS_matches.2.1 1 = .ok (.getfield 41, 3) := by decide +kernel
theorem d_PS_matches_4 : decode m_PS_matches.2.1 4 = .ok (.ifCond .ne 5, 3) := by decide +kernel
theorem d_PS_matches_7 : decode m_PS_matches.2.1 7 = .ok (.iconst (-1), 1) := by decide +kernel
theorem d_PS_matches_8 : decode m_PS_matches.2.1 8 = .ok (.ireturn, 1) := by decide +kernel
theorem d_PS_matches_9 : decode m_PS_matches.2.1 9 = .ok (.aload_n 0, 1) := by decide +kernel
theorem d_PS_matches_10 : decode m_PS_matches.2.1 10 = .ok (.getfield 27, 3) := by decide +kernel
theorem d_PS_matches_13 : decode m_PS_matches.2.1 13 = .ok (.aload_n 0, 1) := by decide +kernel
theorem d_PS_matches_14 : decode m_PS_matches.2.1 14 = .ok (.getfield 18, 3) := by decide +kernel
theorem d_PS_matches_17 : decode m_PS_matches.2.1 17 = .ok (.invokevirtual 95, 3) := by decide +kernel
theorem d_PS_matches_20 : decode m_PS_matches.2.1 20 = .ok (.iconst 0, 1) := by decide +kernel
theorem d_PS_matches_21 : decode m_PS_matches.2.1 21 = .ok (.istore_n 1, 1) := by decide +kernel
theorem d_PS_matches_22 : decode m_PS_matches.2.1 22 = .ok (.iconst 0, 1) := by decide +kernel
theorem d_PS_matches_23 : decode m_PS_matches.2.1 23 = .ok (.istore_n 2, 1) := by decide +kernel
theorem d_PS_matches_24 : decode m_PS_matches.2.1 24 = .ok (.iload_n 1, 1) := by decide +kernel
theorem d_PS_matches_25 : decode m_PS_matches.2.1 25 = .ok (.bipush 30, 2) := by decide +kernel
theorem d_PS_matches_27 : decode m_PS_matches.2.1 27 = .ok (.if_icmp .gt 32, 3) := by decide +kernel
theorem d_PS_matches_30 : decode m_PS_matches.2.1 30 = .ok (.aload_n 0, 1) := by decide +kernel
theorem d_PS_matches_31 : decode m_PS_matches.2.1 31 = .ok (.getfield 27, 3) := by decide +kernel
theorem d_PS_matches_34 : decode m_PS_matches.2.1 34 = .ok (.iload_n 2, 1) := by decide +kernel
theorem d_PS_matches_35 : decode m_PS_matches.2.1 35 = .ok (.aload_n 0, 1) := by decide +kernel
theorem d_PS_matches_36 : decode m_PS_matches.2.1 36 = .ok (.getfield 38, 3) := by decide +kernel
theorem d_PS_matches_39 : decode m_PS_matches.2.1 39 = .ok (.invokevirtual 98, 3) := by decide +kernel
theorem d_PS_matches_42 : decode m_PS_matches.2.1 42 = .ok (.ifCond .eq 17, 3) := by decide +kernel
theorem d_PS_matches_45 : decode m_PS_matches.2.1 45 = .ok (.aload_n 0, 1) := by decide +kernel
theorem d_PS_matches_46 : decode m_PS_matches.2.1 46 = .ok (.getfield 38, 3) := by decide +kernel
theorem d_PS_matches_49 : decode m_PS_matches.2.1 49 = .ok (.invokevirtual 119, 3) := by decide +kernel
theorem d_PS_matches_52 : decode m_PS_matches.2.1 52 = .ok (.istore_n 2, 1) := by decide +kernel
theorem d_PS_matches_53 : decode m_PS_matches.2.1 53 = .ok (.iinc 1 1, 3) := by decide +kernel
theorem d_PS_matches_56 : decode m_PS_matches.2.1 56 = .ok (.goto (-32), 3) := by decide +kernel
theorem d_PS_matches_59 : decode m_PS_matches.2.1 59 = .ok (.iload_n 1, 1) := by decide +kernel
theorem d_PS_matches_60 : decode m_PS_matches.2.1 60 = .ok (.ireturn, 1) := by decide +kernel
theorem d_BO_placeBehind_0 : decode m_BO_placeBehind.2.1 0 = .ok (.aload_n 0, 1) := by decide +kernel
theorem d_BO_placeBehind_1 : decode m_BO_placeBehind.2.1 1 = .ok (.iconst 0, 1) := by decide +kernel
theorem d_BO_placeBehind_2 : decode m_BO_placeBehind.2.1 2 = .ok (.invokevirtual 31, 3) := by decide +kernel
theorem d_BO_placeBehind_5 : decode m_BO_placeBehind.2.1 5 = .ok (.aload_n 0, 1) := by decide +kernel
theorem d_BO_placeBehind_6 : decode m_BO_placeBehind.2.1 6 = .ok (.iconst 0, 1) := by decide +kernel
theorem d_BO_placeBehind_7 : decode m_BO_placeBehind.2.1 7 = .ok (.invokevirtual 34, 3) := by decide +kernel
theorem d_BO_placeBehind_10 : decode m_BO_placeBehind.2.1 10 = .ok (.if_icmp .ne 13, 3) := by decide +kernel
theorem d_BO_placeBehind_13 : decode m_BO_placeBehind.2.1 13 = .ok (.aload_n 0, 1) := by decide +kernel
theorem d_BO_placeBehind_14 : decode m_BO_placeBehind.2.1 14 = .ok (.iconst 0, 1) := by decide +kernel
theorem d_BO_placeBehind_15 : decode m_BO_placeBehind.2.1 15 = .ok (.invokevirtual 34, 3) := by decide +kernel
theorem d_BO_placeBehind_18 : decode m_BO_placeBehind.2.1 18 = .ok (.iconst 1, 1) := by decide +kernel
theorem d_BO_placeBehind_19 : decode m_BO_placeBehind.2.1 19 = .ok (.iadd, 1) := by decide +kernel
theorem d_BO_placeBehind_20 : decode m_BO_placeBehind.2.1 20 = .ok (.goto 8, 3) := by decide +kernel
theorem d_BO_placeBehind_23 : decode m_BO_placeBehind.2.1 23 = .ok (.aload_n 0, 1) := by decide +kernel
theorem d_BO_placeBehind_24 : decode m_BO_placeBehind.2.1 24 = .ok (.iconst 0, 1) := by decide +kernel
theorem d_BO_placeBehind_25 : decode m_BO_placeBehind.2.1 25 = .ok (.invokevirtual 34, 3) := by decide +kernel
theorem d_BO_placeBehind_28 : decode m_BO_placeBehind.2.1 28 = .ok (.ireturn, 1) := by decide +kernel
theorem d_PS_replace_0 : decode m_PS_replace.2.1 0 = .ok (.iload_n 1, 1) := by decide +kernel
theorem d_PS_replace_1 : decode m_PS_replace.2.1 1 = .ok (.invokestatic 106, 3) := by decide +kernel
theorem d_PS_replace_4 : decode m_PS_replace.2.1 4 = .ok (.ifCond .eq 10, 3) := by decide +kernel
theorem d_PS_replace_7 : decode m_PS_replace.2.1 7 = .ok (.aload_n 0, 1) := by decide +kernel
theorem d_PS_replace_8 : decode m_PS_replace.2.1 8 = .ok (.getfield 41, 3) := by decide +kernel
theorem d_PS_replace_11 : decode m_PS_replace.2.1 11 = .ok (.ifCond .ne 5, 3) := by decide +kernel
theorem d_PS_replace_14 : decode m_PS_replace.2.1 14 = .ok (.iconst (-1), 1) := by decide +kernel
theorem d_PS_replace_15 : decode m_PS_replace.2.1 15 = .ok (.ireturn, 1) := by decide +kernel
theorem d_PS_replace_16 : decode m_PS_replace.2.1 16 = .ok (.aload_n 0, 1) := by decide +kernel
theorem d_PS_replace_17 : decode m_PS_replace.2.1 17 = .ok (.getfield 27, 3) := by decide +kernel
theorem d_PS_replace_20 : decode m_PS_replace.2.1 20 = .ok (.aload_n 0, 1) := by decide +kernel
theorem d_PS_replace_21 : decode m_PS_replace.2.1 21 = .ok (.getfield 18, 3) := by decide +kernel
theorem d_PS_replace_24 : decode m_PS_replace.2.1 24 = .ok (.invokevirtual 95, 3) := by decide +kernel
theorem d_PS_replace_27 : decode m_PS_replace.2.1 27 = .ok (.aload_n 0, 1) := by decide +kernel
theorem d_PS_replace_28 : decode m_PS_replace.2.1 28 = .ok (.getfield 21, 3) := by decide +kernel
theorem d_PS_replace_31 : decode m_PS_replace.2.1 31 = .ok (.invokevirtual 64, 3) := by decide +kernel
theorem d_PS_replace_34 : decode m_PS_replace.2.1 34 = .ok (.iconst 0, 1) := by decide +kernel
theorem d_PS_replace_35 : decode m_PS_replace.2.1 35 = .ok (.istore_n 2, 1) := by decide +kernel
theorem d_PS_replace_36 : decode m_PS_replace.2.1 36 = .ok (.iconst 0, 1) := by decide +kernel
theorem d_PS_replace_37 : decode m_PS_replace.2.1 37 = .ok (.istore_n 3, 1) := by decide +kernel
theorem d_PS_replace_38 : decode m_PS_replace.2.1 38 = .ok (.iconst 0, 1) := by decide +kernel
theorem d_PS_replace_39 : decode m_PS_replace.2.1 39 = .ok (.istore 4, 2) := by decide +kernel
theorem d_PS_replace_41 : decode m_PS_replace.2.1 41 = .ok (.iload 4, 2) := by decide +kernel
theorem d_PS_replace_43 : decode m_PS_replace.2.1 43 = .ok (.bipush 30, 2) := by decide +kernel
theorem d_PS_replace_45 : decode m_PS_replace.2.1 45 = .ok (.if_icmp .gt 88, 3) := by decide +kernel
theorem d_PS_replace_48 : decode m_PS_replace.2.1 48 = .ok (.aload_n 0, 1) := by decide +kernel
theorem d_PS_replace_49 : decode m_PS_replace.2.1 49 = .ok (.getfield 27, 3) := by decide +kernel
theorem d_PS_replace_52 : decode m_PS_replace.2.1 52 = .ok (.iload_n 3, 1) := by decide +kernel
theorem d_PS_replace_53 : decode m_PS_replace.2.1 53 = .ok (.aload_n 0, 1) := by decide +kernel
theorem d_PS_replace_54 : decode m_PS_replace.2.1 54 = .ok (.getfield 38, 3) := by decide +kernel
theorem d_PS_replace_57 : decode m_PS_replace.2.1 57 = .ok (.invokevirtual 98, 3) := by decide +kernel
theorem d_PS_replace_60 : decode m_PS_replace.2.1 60 = .ok (.ifCond .eq 73, 3) := by decide +kernel
theorem d_PS_replace_63 : decode m_PS_replace.2.1 63 = .ok (.aload_n 0, 1) := by decide +kernel
theorem d_PS_replace_64 : decode m_PS_replace.2.1 64 = .ok (.getfield 21, 3) := by decide +kernel
theorem d_PS_replace_67 : decode m_PS_replace.2.1 67 = .ok (.aload_n 0, 1) := by decide +kernel
theorem d_PS_replace_68 : decode m_PS_replace.2.1 68 = .ok (.getfield 18, 3) := by decide +kernel
theorem d_PS_replace_71 : decode m_PS_replace.2.1 71 = .ok (.iload_n 2, 1) := by decide +kernel
theorem d_PS_replace_72 : decode m_PS_replace.2.1 72 = .ok (.aload_n 0, 1) := by decide +kernel
theorem d_PS_replace_73 : decode m_PS_replace.2.1 73 = .ok (.getfield 38, 3) := by decide +kernel
theorem d_PS_replace_76 : decode m_PS_replace.2.1 76 = .ok (.iconst 0, 1) := by decide +kernel
theorem d_PS_replace_77 : decode m_PS_replace.2.1 77 = .ok (.invokevirtual 102, 3) := by decide +kernel
theorem d_PS_replace_80 : decode m_PS_replace.2.1 80 = .ok (.invokevirtual 122, 3) := by decide +kernel
theorem d_PS_replace_83 : decode m_PS_replace.2.1 83 = .ok (.aload_n 0, 1) := by decide +kernel
theorem d_PS_replace_84 : decode m_PS_replace.2.1 84 = .ok (.getfield 21, 3) := by decide +kernel
theorem d_PS_replace_87 : decode m_PS_replace.2.1 87 = .ok (.aload_n 0, 1) := by decide +kernel
theorem d_PS_replace_88 : decode m_PS_replace.2.1 88 = .ok (.getfield 18, 3) := by decide +kernel
theorem d_PS_replace_91 : decode m_PS_replace.2.1 91 = .ok (.aload_n 0, 1) := by decide +kernel
theorem d_PS_replace_92 : decode m_PS_replace.2.1 92 = .ok (.getfield 38, 3) := by decide +kernel
theorem d_PS_replace_95 : decode m_PS_replace.2.1 95 = .ok (.iload_n 1, 1) := by decide +kernel
theorem d_PS_replace_96 : decode m_PS_replace.2.1 96 = .ok (.invokevirtual 102, 3) := by decide +kernel
theorem d_PS_replace_99 : decode m_PS_replace.2.1 99 = .ok (.aload_n 0, 1) := by decide +kernel
theorem d_PS_replace_100 : decode m_PS_replace.2.1 100 = .ok (.getfield 38, 3) := by decide +kernel
theorem d_PS_replace_103 : decode m_PS_replace.2.1 103 = .ok (.iload_n 1, 1) := by decide +kernel
theorem d_PS_replace_104 : decode m_PS_replace.2.1 104 = .ok (.invokevirtual 109, 3) := by decide +kernel
theorem d_PS_replace_107 : decode m_PS_replace.2.1 107 = .ok (.invokevirtual 122, 3) := by decide +kernel
theorem d_PS_replace_110 : decode m_PS_replace.2.1 110 = .ok (.aload_n 0, 1) := by decide +kernel
theorem d_PS_replace_111 : decode m_PS_replace.2.1 111 = .ok (.getfield 38, 3) := by decide +kernel
theorem d_PS_replace_114 : decode m_PS_replace.2.1 114 = .ok (.iconst 0, 1) := by decide +kernel
theorem d_PS_replace_115 : decode m_PS_replace.2.1 115 = .ok (.invokevirtual 109, 3) := by decide +kernel
theorem d_PS_replace_118 : decode m_PS_replace.2.1 118 = .ok (.istore_n 2, 1) := by decide +kernel
theorem d_PS_replace_119 : decode m_PS_replace.2.1 119 = .ok (.aload_n 0, 1) := by decide +kernel
theorem d_PS_replace_120 : decode m_PS_replace.2.1 120 = .ok (.getfield 38, 3) := by decide +kernel
theorem d_PS_replace_123 : decode m_PS_replace.2.1 123 = .ok (.invokevirtual 119, 3) := by decide +kernel
theorem d_PS_replace_126 : decode m_PS_replace.2.1 126 = .ok (.istore_n 3, 1) := by decide +kernel
theorem d_PS_replace_127 : decode m_PS_replace.2.1 127 = .ok (.iinc 4 1, 3) := by decide +kernel
theorem d_PS_replace_130 : decode m_PS_replace.2.1 130 = .ok (.goto (-89), 3) := by decide +kernel
theorem d_PS_replace_133 : decode m_PS_replace.2.1 133 = .ok (.aload_n 0, 1) := by decide +kernel
theorem d_PS_replace_134 : decode m_PS_replace.2.1 134 = .ok (.getfield 21, 3) := by decide +kernel
theorem d_PS_replace_137 : decode m_PS_replace.2.1 137 = .ok (.aload_n 0, 1) := by decide +kernel
theorem d_PS_replace_138 : decode m_PS_replace.2.1 138 = .ok (.getfield 18, 3) := by decide +kernel
theorem d_PS_replace_141 : decode m_PS_replace.2.1 141 = .ok (.iload_n 2, 1) := by decide +kernel
theorem d_PS_replace_142 : decode m_PS_replace.2.1 142 = .ok (.aload_n 0, 1) := by decide +kernel
theorem d_PS_replace_143 : decode m_PS_replace.2.1 143 = .ok (.getfield 18, 3) := by decide +kernel
theorem d_PS_replace_146 : decode m_PS_replace.2.1 146 = .ok (.invokevirtual 60, 3) := by decide +kernel
theorem d_PS_replace_149 : decode m_PS_replace.2.1 149 = .ok (.invokevirtual 122, 3) := by decide +kernel
theorem d_PS_replace_152 : decode m_PS_replace.2.1 152 = .ok (.aload_n 0, 1) := by decide +kernel
theorem d_PS_replace_153 : decode m_PS_replace.2.1 153 = .ok (.getfield 21, 3) := by decide +kernel
theorem d_PS_replace_156 : decode m_PS_replace.2.1 156 = .ok (.invokevirtual 60, 3) := by decide +kernel
theorem d_PS_replace_159 : decode m_PS_replace.2.1 159 = .ok (.ireturn, 1) := by decide +kernel
theorem d_SI_addStretch_0 : decode m_SI_addStretch.2.1 0 = .ok (.iload_n 2, 1) := by decide +kernel
theorem d_SI_addStretch_1 : decode m_SI_addStretch.2.1 1 = .ok (.istore 4, 2) := by decide +kernel
theorem d_SI_addStretch_3 : decode m_SI_addStretch.2.1 3 = .ok (.iload 4, 2) := by decide +kernel
theorem d_SI_addStretch_5 : decode m_SI_addStretch.2.1 5 = .ok (.iload_n 3, 1) := by decide +kernel
theorem d_SI_addStretch_6 : decode m_SI_addStretch.2.1 6 = .ok (.if_icmp .ge 19, 3) := by decide +kernel
theorem d_SI_addStretch_9 : decode m_SI_addStretch.2.1 9 = .ok (.aload_n 0, 1) := by decide +kernel
theorem d_SI_addStretch_10 : decode m_SI_addStretch.2.1 10 = .ok (.aload_n 1, 1) := by decide +kernel
theorem d_SI_addStretch_11 : decode m_SI_addStretch.2.1 11 = .ok (.iload 4, 2) := by decide +kernel
theorem d_SI_addStretch_13 : decode m_SI_addStretch.2.1 13 = .ok (.invokevirtual 23, 3) := by decide +kernel
theorem d_SI_addStretch_16 : decode m_SI_addStretch.2.1 16 = .ok (.invokevirtual 27, 3) := by decide +kernel
theorem d_SI_addStretch_19 : decode m_SI_addStretch.2.1 19 = .ok (.iinc 4 1, 3) := by decide +kernel
theorem d_SI_addStretch_22 : decode m_SI_addStretch.2.1 22 = .ok (.goto (-19), 3) := by decide +kernel
theorem d_SI_addStretch_25 : decode m_SI_addStretch.2.1 25 = .ok (.return_, 1) := by decide +kernel
theorem d_PS_output_0 : decode m_PS_output.2.1 0 = .ok (.aload_n 0, 1) := by decide +kernel
theorem d_PS_output_1 : decode m_PS_output.2.1 1 = .ok (.getfield 21, 3) := by decide +kernel
theorem d_PS_output_4 : decode m_PS_output.2.1 4 = .ok (.iload_n 1, 1) := by decide +kernel
theorem d_PS_output_5 : decode m_PS_output.2.1 5 = .ok (.invokevirtual 126, 3) := by decide +kernel
theorem d_PS_output_8 : decode m_PS_output.2.1 8 = .ok (.ireturn, 1) := by decide +kernel
theorem d_PS_state_0 : decode m_PS_state.2.1 0 = .ok (.iload_n 1, 1) := by decide +kernel
theorem d_PS_state_1 : decode m_PS_state.2.1 1 = .ok (.tableswitch 89 0 4 #[35, 43, 51, 59, 72], 35) := by decide +kernel
theorem d_PS_state_36 : decode m_PS_state.2.1 36 = .ok (.aload_n 0, 1) := by decide +kernel
theorem d_PS_state_37 : decode m_PS_state.2.1 37 = .ok (.getfield 14, 3) := by decide +kernel
theorem d_PS_state_40 : decode m_PS_state.2.1 40 = .ok (.invokevirtual 60, 3) := by decide +kernel
theorem d_PS_state_43 : decode m_PS_state.2.1 43 = .ok (.ireturn, 1) := by decide +kernel
theorem d_PS_state_44 : decode m_PS_state.2.1 44 = .ok (.aload_n 0, 1) := by decide +kernel
theorem d_PS_state_45 : decode m_PS_state.2.1 45 = .ok (.getfield 18, 3) := by decide +kernel
theorem d_PS_state_48 : decode m_PS_state.2.1 48 = .ok (.invokevirtual 60, 3) := by decide +kernel
theorem d_PS_state_51 : decode m_PS_state.2.1 51 = .ok (.ireturn, 1) := by decide +kernel
theorem d_PS_state_52 : decode m_PS_state.2.1 52 = .ok (.aload_n 0, 1) := by decide +kernel
theorem d_PS_state_53 : decode m_PS_state.2.1 53 = .ok (.getfield 21, 3) := by decide +kernel
theorem d_PS_state_56 : decode m_PS_state.2.1 56 = .ok (.invokevirtual 60, 3) := by decide +kernel
theorem d_PS_state_59 : decode m_PS_state.2.1 59 = .ok (.ireturn, 1) := by decide +kernel
theorem d_PS_state_60 : decode m_PS_state.2.1 60 = .ok (.aload_n 0, 1) := by decide +kernel
theorem d_PS_state_61 : decode m_PS_state.2.1 61 = .ok (.getfield 41, 3) := by decide +kernel
theorem d_PS_state_64 : decode m_PS_state.2.1 64 = .ok (.ifCond .eq 7, 3) := by decide +kernel
theorem d_PS_state_67 : decode m_PS_state.2.1 67 = .ok (.iconst 1, 1) := by decide +kernel
theorem d_PS_state_68 : decode m_PS_state.2.1 68 = .ok (.goto 4, 3) := by decide +kernel
theorem d_PS_state_71 : decode m_PS_state.2.1 71 = .ok (.iconst 0, 1) := by decide +kernel
theorem d_PS_state_72 : decode m_PS_state.2.1 72 = .ok (.ireturn, 1) := by decide +kernel
theorem d_PS_state_73 : decode m_PS_state.2.1 73 = .ok (.aload_n 0, 1) := by decide +kernel
theorem d_PS_state_74 : decode m_PS_state.2.1 74 = .ok (.getfield 41, 3) := by decide +kernel
theorem d_PS_state_77 : decode m_PS_state.2.1 77 = .ok (.ifCond .eq 10, 3) := by decide +kernel
theorem d_PS_state_80 : decode m_PS_state.2.1 80 = .ok (.aload_n 0, 1) := by decide +kernel
theorem d_PS_state_81 : decode m_PS_state.2.1 81 = .ok (.getfield 45, 3) := by decide +kernel
theorem d_PS_state_84 : decode m_PS_state.2.1 84 = .ok (.goto 5, 3) := by decide +kernel
theorem d_PS_state_87 : decode m_PS_state.2.1 87 = .ok (.bipush (-2), 2) := by decide +kernel
theorem d_PS_state_89 : decode m_PS_state.2.1 89 = .ok (.ireturn, 1) := by decide +kernel
theorem d_PS_state_90 : decode m_PS_state.2.1 90 = .ok (.iconst (-1), 1) := by decide +kernel
theorem d_PS_state_91 : decode m_PS_state.2.1 91 = .ok (.ireturn, 1) := by decide +kernel
