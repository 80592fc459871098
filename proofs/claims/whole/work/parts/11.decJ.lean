theorem d_JA_fill_0 : decode m_JA_fill.2.1 0 = .ok (.iconst 0, 1) := by decide +kernel
theorem d_JA_fill_1 : decode m_JA_fill.2.1 1 = .ok (.istore_n 2, 1) := by decide +kernel
theorem d_JA_fill_2 : decode m_JA_fill.2.1 2 = .ok (.aload_n 0, 1) := by decide +kernel
theorem d_JA_fill_3 : decode m_JA_fill.2.1 3 = .ok (.arraylength, 1) := by decide +kernel
theorem d_JA_fill_4 : decode m_JA_fill.2.1 4 = .ok (.istore_n 3, 1) := by decide +kernel
theorem d_JA_fill_5 : decode m_JA_fill.2.1 5 = .ok (.iload_n 2, 1) := by decide +kernel
theorem d_JA_fill_6 : decode m_JA_fill.2.1 6 = .ok (.iload_n 3, 1) := by decide +kernel
theorem d_JA_fill_7 : decode m_JA_fill.2.1 7 = .ok (.if_icmp .ge 13, 3) := by decide +kernel
theorem d_JA_fill_10 : decode m_JA_fill.2.1 10 = .ok (.aload_n 0, 1) := by decide +kernel
theorem d_JA_fill_11 : decode m_JA_fill.2.1 11 = .ok (.iload_n 2, 1) := by decide +kernel
theorem d_JA_fill_12 : decode m_JA_fill.2.1 12 = .ok (.iload_n 1, 1) := by decide +kernel
theorem d_JA_fill_13 : decode m_JA_fill.2.1 13 = .ok (.iastore, 1) := by decide +kernel
theorem d_JA_fill_14 : decode m_JA_fill.2.1 14 = .ok (.iinc 2 1, 3) := by decide +kernel
theorem d_JA_fill_17 : decode m_JA_fill.2.1 17 = .ok (.goto (-12), 3) := by decide +kernel
theorem d_JA_fill_20 : decode m_JA_fill.2.1 20 = .ok (.return_, 1) := by decide +kernel
theorem d_JS_indexOf1_0 : decode m_JS_indexOf1.2.1 0 = .ok (.aload_n 0, 1) := by decide +kernel
theorem d_JS_indexOf1_1 : decode m_JS_indexOf1.2.1 1 = .ok (.iload_n 1, 1) := by decide +kernel
theorem d_JS_indexOf1_2 : decode m_JS_indexOf1.2.1 2 = .ok (.iconst 0, 1) := by decide +kernel
theorem d_JS_indexOf1_3 : decode m_JS_indexOf1.2.1 3 = .ok (.invokevirtual 633, 3) := by decide +kernel
theorem d_JS_indexOf1_6 : decode m_JS_indexOf1.2.1 6 = .ok (.ireturn, 1) := by decide +kernel
theorem d_JS_indexOf2_0 : decode m_JS_indexOf2.2.1 0 = .ok (.aload_n 0, 1) := by decide +kernel
theorem d_JS_indexOf2_1 : decode m_JS_indexOf2.2.1 1 = .ok (.invokevirtual 492, 3) := by decide +kernel
theorem d_JS_indexOf2_4 : decode m_JS_indexOf2.2.1 4 = .ok (.ifCond .eq 19, 3) := by decide +kernel
theorem d_JS_indexOf2_7 : decode m_JS_indexOf2.2.1 7 = .ok (.aload_n 0, 1) := by decide +kernel
theorem d_JS_indexOf2_8 : decode m_JS_indexOf2.2.1 8 = .ok (.getfield 9, 3) := by decide +kernel
theorem d_JS_indexOf2_11 : decode m_JS_indexOf2.2.1 11 = .ok (.iload_n 1, 1) := by decide +kernel
theorem d_JS_indexOf2_12 : decode m_JS_indexOf2.2.1 12 = .ok (.iload_n 2, 1) := by decide +kernel
theorem d_JS_indexOf2_13 : decode m_JS_indexOf2.2.1 13 = .ok (.aload_n 0, 1) := by decide +kernel
theorem d_JS_indexOf2_14 : decode m_JS_indexOf2.2.1 14 = .ok (.invokevirtual 505, 3) := by decide +kernel
theorem d_JS_indexOf2_17 : decode m_JS_indexOf2.2.1 17 = .ok (.invokestatic 637, 3) := by decide +kernel
theorem d_JS_indexOf2_20 : decode m_JS_indexOf2.2.1 20 = .ok (.goto 16, 3) := by decide +kernel
theorem d_JS_indexOf2_23 : decode m_JS_indexOf2.2.1 23 = .ok (.aload_n 0, 1) := by decide +kernel
theorem d_JS_indexOf2_24 : decode m_JS_indexOf2.2.1 24 = .ok (.getfield 9, 3) := by decide +kernel
theorem d_JS_indexOf2_27 : decode m_JS_indexOf2.2.1 27 = .ok (.iload_n 1, 1) := by decide +kernel
theorem d_JS_indexOf2_28 : decode m_JS_indexOf2.2.1 28 = .ok (.iload_n 2, 1) := by decide +kernel
theorem d_JS_indexOf2_29 : decode m_JS_indexOf2.2.1 29 = .ok (.aload_n 0, 1) := by decide +kernel
theorem d_JS_indexOf2_30 : decode m_JS_indexOf2.2.1 30 = .ok (.invokevirtual 505, 3) := by decide +kernel
theorem d_JS_indexOf2_33 : decode m_JS_indexOf2.2.1 33 = .ok (.invokestatic 640, 3) := by decide +kernel
theorem d_JS_indexOf2_36 : decode m_JS_indexOf2.2.1 36 = .ok (.ireturn, 1) := by decide +kernel
theorem d_JS_isLatin1_0 : decode m_JS_isLatin1.2.1 0 = .ok (.getstatic 38, 3) := by decide +kernel
theorem d_JS_isLatin1_3 : decode m_JS_isLatin1.2.1 3 = .ok (.ifCond .eq 14, 3) := by decide +kernel
theorem d_JS_isLatin1_6 : decode m_JS_isLatin1.2.1 6 = .ok (.aload_n 0, 1) := by decide +kernel
theorem d_JS_isLatin1_7 : decode m_JS_isLatin1.2.1 7 = .ok (.getfield 15, 3) := by decide +kernel
theorem d_JS_isLatin1_10 : decode m_JS_isLatin1.2.1 10 = .ok (.ifCond .ne 7, 3) := by decide +kernel
theorem d_JS_isLatin1_13 : decode m_JS_isLatin1.2.1 13 = .ok (.iconst 1, 1) := by decide +kernel
theorem d_JS_isLatin1_14 : decode m_JS_isLatin1.2.1 14 = .ok (.goto 4, 3) := by decide +kernel
theorem d_JS_isLatin1_17 : decode m_JS_isLatin1.2.1 17 = .ok (.iconst 0, 1) := by decide +kernel
theorem d_JS_isLatin1_18 : decode m_JS_isLatin1.2.1 18 = .ok (.ireturn, 1) := by decide +kernel
theorem d_JS_length_0 : decode m_JS_length.2.1 0 = .ok (.aload_n 0, 1) := by decide +kernel
theorem d_JS_length_1 : decode m_JS_length.2.1 1 = .ok (.getfield 9, 3) := by decide +kernel
theorem d_JS_length_4 : decode m_JS_length.2.1 4 = .ok (.arraylength, 1) := by decide +kernel
theorem d_JS_length_5 : decode m_JS_length.2.1 5 = .ok (.aload_n 0, 1) := by decide +kernel
theorem d_JS_length_6 : decode m_JS_length.2.1 6 = .ok (.invokevirtual 335, 3) := by decide +kernel
theorem d_JS_length_9 : decode m_JS_length.2.1 9 = .ok (.ishr, 1) := by decide +kernel
theorem d_JS_length_10 : decode m_JS_length.2.1 10 = .ok (.ireturn, 1) := by decide +kernel
theorem d_JS_coder_0 : decode m_JS_coder.2.1 0 = .ok (.getstatic 38, 3) := by decide +kernel
theorem d_JS_coder_3 : decode m_JS_coder.2.1 3 = .ok (.ifCond .eq 10, 3) := by decide +kernel
theorem d_JS_coder_6 : decode m_JS_coder.2.1 6 = .ok (.aload_n 0, 1) := by decide +kernel
theorem d_JS_coder_7 : decode m_JS_coder.2.1 7 = .ok (.getfield 15, 3) := by decide +kernel
theorem d_JS_coder_10 : decode m_JS_coder.2.1 10 = .ok (.goto 4, 3) := by decide +kernel
theorem d_JS_coder_13 : decode m_JS_coder.2.1 13 = .ok (.iconst 1, 1) := by decide +kernel
theorem d_JS_coder_14 : decode m_JS_coder.2.1 14 = .ok (.ireturn, 1) := by decide +kernel
theorem d_JL_indexOf_0 : decode m_JL_indexOf.2.1 0 = .ok (.iload_n 1, 1) := by decide +kernel
theorem d_JL_indexOf_1 : decode m_JL_indexOf.2.1 1 = .ok (.invokestatic 88, 3) := by decide +kernel
theorem d_JL_indexOf_4 : decode m_JL_indexOf.2.1 4 = .ok (.ifCond .ne 5, 3) := by decide +kernel
theorem d_JL_indexOf_7 : decode m_JL_indexOf.2.1 7 = .ok (.iconst (-1), 1) := by decide +kernel
theorem d_JL_indexOf_8 : decode m_JL_indexOf.2.1 8 = .ok (.ireturn, 1) := by decide +kernel
theorem d_JL_indexOf_9 : decode m_JL_indexOf.2.1 9 = .ok (.iload_n 2, 1) := by decide +kernel
theorem d_JL_indexOf_10 : decode m_JL_indexOf.2.1 10 = .ok (.iconst 0, 1) := by decide +kernel
theorem d_JL_indexOf_11 : decode m_JL_indexOf.2.1 11 = .ok (.invokestatic 92, 3) := by decide +kernel
theorem d_JL_indexOf_14 : decode m_JL_indexOf.2.1 14 = .ok (.istore_n 2, 1) := by decide +kernel
theorem d_JL_indexOf_15 : decode m_JL_indexOf.2.1 15 = .ok (.iload_n 3, 1) := by decide +kernel
theorem d_JL_indexOf_16 : decode m_JL_indexOf.2.1 16 = .ok (.aload_n 0, 1) := by decide +kernel
theorem d_JL_indexOf_17 : decode m_JL_indexOf.2.1 17 = .ok (.arraylength, 1) := by decide +kernel
theorem d_JL_indexOf_18 : decode m_JL_indexOf.2.1 18 = .ok (.invokestatic 38, 3) := by decide +kernel
theorem d_JL_indexOf_21 : decode m_JL_indexOf.2.1 21 = .ok (.istore_n 3, 1) := by decide +kernel
theorem d_JL_indexOf_22 : decode m_JL_indexOf.2.1 22 = .ok (.iload_n 2, 1) := by decide +kernel
theorem d_JL_indexOf_23 : decode m_JL_indexOf.2.1 23 = .ok (.iload_n 3, 1) := by decide +kernel
theorem d_JL_indexOf_24 : decode m_JL_indexOf.2.1 24 = .ok (.if_icmp .lt 5, 3) := by decide +kernel
theorem d_JL_indexOf_27 : decode m_JL_indexOf.2.1 27 = .ok (.iconst (-1), 1) := by decide +kernel
theorem d_JL_indexOf_28 : decode m_JL_indexOf.2.1 28 = .ok (.ireturn, 1) := by decide +kernel
theorem d_JL_indexOf_29 : decode m_JL_indexOf.2.1 29 = .ok (.aload_n 0, 1) := by decide +kernel
theorem d_JL_indexOf_30 : decode m_JL_indexOf.2.1 30 = .ok (.iload_n 1, 1) := by decide +kernel
theorem d_JL_indexOf_31 : decode m_JL_indexOf.2.1 31 = .ok (.iload_n 2, 1) := by decide +kernel
theorem d_JL_indexOf_32 : decode m_JL_indexOf.2.1 32 = .ok (.iload_n 3, 1) := by decide +kernel
theorem d_JL_indexOf_33 : decode m_JL_indexOf.2.1 33 = .ok (.invokestatic 95, 3) := by decide +kernel
theorem d_JL_indexOf_36 : decode m_JL_indexOf.2.1 36 = .ok (.ireturn, 1) := by decide +kernel
theorem d_JL_canEncode_0 : decode m_JL_canEncode.2.1 0 = .ok (.iload_n 0, 1) := by decide +kernel
theorem d_JL_canEncode_1 : decode m_JL_canEncode.2.1 1 = .ok (.ifCond .lt 14, 3) := by decide +kernel
theorem d_JL_canEncode_4 : decode m_JL_canEncode.2.1 4 = .ok (.iload_n 0, 1) := by decide +kernel
theorem d_JL_canEncode_5 : decode m_JL_canEncode.2.1 5 = .ok (.sipush 255, 3) := by decide +kernel
theorem d_JL_canEncode_8 : decode m_JL_canEncode.2.1 8 = .ok (.if_icmp .gt 7, 3) := by decide +kernel
theorem d_JL_canEncode_11 : decode m_JL_canEncode.2.1 11 = .ok (.iconst 1, 1) := by decide +kernel
theorem d_JL_canEncode_12 : decode m_JL_canEncode.2.1 12 = .ok (.goto 4, 3) := by decide +kernel
theorem d_JL_canEncode_15 : decode m_JL_canEncode.2.1 15 = .ok (.iconst 0, 1) := by decide +kernel
theorem d_JL_canEncode_16 : decode m_JL_canEncode.2.1 16 = .ok (.ireturn, 1) := by decide +kernel
theorem d_JL_indexOfChar_0 : decode m_JL_indexOfChar.2.1 0 = .ok (.iload_n 1, 1) := by decide +kernel
theorem d_JL_indexOfChar_1 : decode m_JL_indexOfChar.2.1 1 = .ok (.i2b, 1) := by decide +kernel
theorem d_JL_indexOfChar_2 : decode m_JL_indexOfChar.2.1 2 = .ok (.istore 4, 2) := by decide +kernel
theorem d_JL_indexOfChar_4 : decode m_JL_indexOfChar.2.1 4 = .ok (.iload_n 2, 1) := by decide +kernel
theorem d_JL_indexOfChar_5 : decode m_JL_indexOfChar.2.1 5 = .ok (.istore 5, 2) := by decide +kernel
theorem d_JL_indexOfChar_7 : decode m_JL_indexOfChar.2.1 7 = .ok (.iload 5, 2) := by decide +kernel
theorem d_JL_indexOfChar_9 : decode m_JL_indexOfChar.2.1 9 = .ok (.iload_n 3, 1) := by decide +kernel
theorem d_JL_indexOfChar_10 : decode m_JL_indexOfChar.2.1 10 = .ok (.if_icmp .ge 21, 3) := by decide +kernel
theorem d_JL_indexOfChar_13 : decode m_JL_indexOfChar.2.1 13 = .ok (.aload_n 0, 1) := by decide +kernel
theorem d_JL_indexOfChar_14 : decode m_JL_indexOfChar.2.1 14 = .ok (.iload 5, 2) := by decide +kernel
theorem d_JL_indexOfChar_16 : decode m_JL_indexOfChar.2.1 16 = .ok (.baload, 1) := by decide +kernel
theorem d_JL_indexOfChar_17 : decode m_JL_indexOfChar.2.1 17 = .ok (.iload 4, 2) := by decide +kernel
theorem d_JL_indexOfChar_19 : decode m_JL_indexOfChar.2.1 19 = .ok (.if_icmp .ne 6, 3) := by decide +kernel
theorem d_JL_indexOfChar_22 : decode m_JL_indexOfChar.2.1 22 = .ok (.iload 5, 2) := by decide +kernel
theorem d_JL_indexOfChar_24 : decode m_JL_indexOfChar.2.1 24 = .ok (.ireturn, 1) := by decide +kernel
theorem d_JL_indexOfChar_25 : decode m_JL_indexOfChar.2.1 25 = .ok (.iinc 5 1, 3) := by decide +kernel
theorem d_JL_indexOfChar_28 : decode m_JL_indexOfChar.2.1 28 = .ok (.goto (-21), 3) := by decide +kernel
theorem d_JL_indexOfChar_31 : decode m_JL_indexOfChar.2.1 31 = .ok (.iconst (-1), 1) := by decide +kernel
theorem d_JL_indexOfChar_32 : decode m_JL_indexOfChar.2.1 32 = .ok (.ireturn, 1) := by decide +kernel
theorem d_JM_max_0 : decode m_JM_max.2.1 0 = .ok (.iload_n 0, 1) := by decide +kernel
theorem d_JM_max_1 : decode m_JM_max.2.1 1 = .ok (.iload_n 1, 1) := by decide +kernel
theorem d_JM_max_2 : decode m_JM_max.2.1 2 = .ok (.if_icmp .lt 7, 3) := by decide +kernel
theorem d_JM_max_5 : decode m_JM_max.2.1 5 = .ok (.iload_n 0, 1) := by decide +kernel
theorem d_JM_max_6 : decode m_JM_max.2.1 6 = .ok (.goto 4, 3) := by decide +kernel
theorem d_JM_max_9 : decode m_JM_max.2.1 9 = .ok (.iload_n 1, 1) := by decide +kernel
theorem d_JM_max_10 : decode m_JM_max.2.1 10 = .ok (.ireturn, 1) := by decide +kernel
theorem d_JM_min_0 : decode m_JM_min.2.1 0 = .ok (.iload_n 0, 1) := by decide +kernel
theorem d_JM_min_1 : decode m_JM_min.2.1 1 = .ok (.iload_n 1, 1) := by decide +kernel
theorem d_JM_min_2 : decode m_JM_min.2.1 2 = .ok (.if_icmp .gt 7, 3) := by decide +kernel
theorem d_JM_min_5 : decode m_JM_min.2.1 5 = .ok (.iload_n 0, 1) := by decide +kernel
theorem d_JM_min_6 : decode m_JM_min.2.1 6 = .ok (.goto 4, 3) := by decide +kernel
theorem d_JM_min_9 : decode m_JM_min.2.1 9 = .ok (.iload_n 1, 1) := by decide +kernel
theorem d_JM_min_10 : decode m_JM_min.2.1 10 = .ok (.ireturn, 1) := by decide +kernel
