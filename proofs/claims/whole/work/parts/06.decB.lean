theorem d_MA_init_0 : decode m_MA_init.2.1 0 = .ok (.aload_n 0, 1) := by decide +kernel
theorem d_MA_init_1 : decode m_MA_init.2.1 1 = .ok (.invokespecial 3, 3) := by decide +kernel
theorem d_MA_init_4 : decode m_MA_init.2.1 4 = .ok (.aload_n 0, 1) := by decide +kernel
theorem d_MA_init_5 : decode m_MA_init.2.1 5 = .ok (.new 9, 3) := by decide +kernel
theorem d_MA_init_8 : decode m_MA_init.2.1 8 = .ok (.dup, 1) := by decide +kernel
theorem d_MA_init_9 : decode m_MA_init.2.1 9 = .ok (.invokespecial 11, 3) := by decide +kernel
theorem d_MA_init_12 : decode m_MA_init.2.1 12 = .ok (.putfield 12, 3) := by decide +kernel
theorem d_MA_init_15 : decode m_MA_init.2.1 15 = .ok (.aload_n 0, 1) := by decide +kernel
theorem d_MA_init_16 : decode m_MA_init.2.1 16 = .ok (.bipush 121, 2) := by decide +kernel
theorem d_MA_init_18 : decode m_MA_init.2.1 18 = .ok (.newarray .int, 2) := by decide +kernel
theorem d_MA_init_20 : decode m_MA_init.2.1 20 = .ok (.putfield 18, 3) := by decide +kernel
theorem d_MA_init_23 : decode m_MA_init.2.1 23 = .ok (.aload_n 0, 1) := by decide +kernel
theorem d_MA_init_24 : decode m_MA_init.2.1 24 = .ok (.bipush 121, 2) := by decide +kernel
theorem d_MA_init_26 : decode m_MA_init.2.1 26 = .ok (.newarray .int, 2) := by decide +kernel
theorem d_MA_init_28 : decode m_MA_init.2.1 28 = .ok (.putfield 22, 3) := by decide +kernel
theorem d_MA_init_31 : decode m_MA_init.2.1 31 = .ok (.return_, 1) := by decide +kernel
theorem d_PR_init_0 : decode m_PR_init.2.1 0 = .ok (.aload_n 0, 1) := by decide +kernel
theorem d_PR_init_1 : decode m_PR_init.2.1 1 = .ok (.invokespecial 3, 3) := by decide +kernel
theorem d_PR_init_4 : decode m_PR_init.2.1 4 = .ok (.aload_n 0, 1) := by decide +kernel
theorem d_PR_init_5 : decode m_PR_init.2.1 5 = .ok (.bipush 121, 2) := by decide +kernel
theorem d_PR_init_7 : decode m_PR_init.2.1 7 = .ok (.newarray .int, 2) := by decide +kernel
theorem d_PR_init_9 : decode m_PR_init.2.1 9 = .ok (.putfield 11, 3) := by decide +kernel
theorem d_PR_init_12 : decode m_PR_init.2.1 12 = .ok (.aload_n 0, 1) := by decide +kernel
theorem d_PR_init_13 : decode m_PR_init.2.1 13 = .ok (.bipush 121, 2) := by decide +kernel
theorem d_PR_init_15 : decode m_PR_init.2.1 15 = .ok (.newarray .int, 2) := by decide +kernel
theorem d_PR_init_17 : decode m_PR_init.2.1 17 = .ok (.putfield 15, 3) := by decide +kernel
theorem d_PR_init_20 : decode m_PR_init.2.1 20 = .ok (.aload_n 0, 1) := by decide +kernel
theorem d_PR_init_21 : decode m_PR_init.2.1 21 = .ok (.bipush 121, 2) := by decide +kernel
theorem d_PR_init_23 : decode m_PR_init.2.1 23 = .ok (.newarray .int, 2) := by decide +kernel
theorem d_PR_init_25 : decode m_PR_init.2.1 25 = .ok (.putfield 18, 3) := by decide +kernel
theorem d_PR_init_28 : decode m_PR_init.2.1 28 = .ok (.aload_n 0, 1) := by decide +kernel
theorem d_PR_init_29 : decode m_PR_init.2.1 29 = .ok (.bipush 121, 2) := by decide +kernel
theorem d_PR_init_31 : decode m_PR_init.2.1 31 = .ok (.newarray .int, 2) := by decide +kernel
theorem d_PR_init_33 : decode m_PR_init.2.1 33 = .ok (.putfield 21, 3) := by decide +kernel
theorem d_PR_init_36 : decode m_PR_init.2.1 36 = .ok (.aload_n 0, 1) := by decide +kernel
theorem d_PR_init_37 : decode m_PR_init.2.1 37 = .ok (.bipush 121, 2) := by decide +kernel
theorem d_PR_init_39 : decode m_PR_init.2.1 39 = .ok (.newarray .long, 2) := by decide +kernel
theorem d_PR_init_41 : decode m_PR_init.2.1 41 = .ok (.putfield 24, 3) := by decide +kernel
theorem d_PR_init_44 : decode m_PR_init.2.1 44 = .ok (.aload_n 0, 1) := by decide +kernel
theorem d_PR_init_45 : decode m_PR_init.2.1 45 = .ok (.bipush 121, 2) := by decide +kernel
theorem d_PR_init_47 : decode m_PR_init.2.1 47 = .ok (.newarray .long, 2) := by decide +kernel
theorem d_PR_init_49 : decode m_PR_init.2.1 49 = .ok (.putfield 28, 3) := by decide +kernel
theorem d_PR_init_52 : decode m_PR_init.2.1 52 = .ok (.return_, 1) := by decide +kernel
theorem d_RE_init_0 : decode m_RE_init.2.1 0 = .ok (.aload_n 0, 1) := by decide +kernel
theorem d_RE_init_1 : decode m_RE_init.2.1 1 = .ok (.invokespecial 3, 3) := by decide +kernel
theorem d_RE_init_4 : decode m_RE_init.2.1 4 = .ok (.aload_n 0, 1) := by decide +kernel
theorem d_RE_init_5 : decode m_RE_init.2.1 5 = .ok (.aload_n 1, 1) := by decide +kernel
theorem d_RE_init_6 : decode m_RE_init.2.1 6 = .ok (.putfield 9, 3) := by decide +kernel
theorem d_RE_init_9 : decode m_RE_init.2.1 9 = .ok (.return_, 1) := by decide +kernel
theorem d_RE_readChoice_0 : decode m_RE_readChoice.2.1 0 = .ok (.new 35, 3) := by decide +kernel
theorem d_RE_readChoice_3 : decode m_RE_readChoice.2.1 3 = .ok (.dup, 1) := by decide +kernel
theorem d_RE_readChoice_4 : decode m_RE_readChoice.2.1 4 = .ok (.invokespecial 37, 3) := by decide +kernel
theorem d_RE_readChoice_7 : decode m_RE_readChoice.2.1 7 = .ok (.astore_n 1, 1) := by decide +kernel
theorem d_RE_readChoice_8 : decode m_RE_readChoice.2.1 8 = .ok (.aload_n 1, 1) := by decide +kernel
theorem d_RE_readChoice_9 : decode m_RE_readChoice.2.1 9 = .ok (.aload_n 0, 1) := by decide +kernel
theorem d_RE_readChoice_10 : decode m_RE_readChoice.2.1 10 = .ok (.invokevirtual 38, 3) := by decide +kernel
theorem d_RE_readChoice_13 : decode m_RE_readChoice.2.1 13 = .ok (.invokevirtual 42, 3) := by decide +kernel
theorem d_RE_readChoice_16 : decode m_RE_readChoice.2.1 16 = .ok (.iconst 0, 1) := by decide +kernel
theorem d_RE_readChoice_17 : decode m_RE_readChoice.2.1 17 = .ok (.istore_n 2, 1) := by decide +kernel
theorem d_RE_readChoice_18 : decode m_RE_readChoice.2.1 18 = .ok (.iload_n 2, 1) := by decide +kernel
theorem d_RE_readChoice_19 : decode m_RE_readChoice.2.1 19 = .ok (.bipush 28, 2) := by decide +kernel
theorem d_RE_readChoice_21 : decode m_RE_readChoice.2.1 21 = .ok (.if_icmp .ge 26, 3) := by decide +kernel
theorem d_RE_readChoice_24 : decode m_RE_readChoice.2.1 24 = .ok (.aload_n 0, 1) := by decide +kernel
theorem d_RE_readChoice_25 : decode m_RE_readChoice.2.1 25 = .ok (.bipush 124, 2) := by decide +kernel
theorem d_RE_readChoice_27 : decode m_RE_readChoice.2.1 27 = .ok (.invokevirtual 46, 3) := by decide +kernel
theorem d_RE_readChoice_30 : decode m_RE_readChoice.2.1 30 = .ok (.ifCond .eq 17, 3) := by decide +kernel
theorem d_RE_readChoice_33 : decode m_RE_readChoice.2.1 33 = .ok (.aload_n 1, 1) := by decide +kernel
theorem d_RE_readChoice_34 : decode m_RE_readChoice.2.1 34 = .ok (.aload_n 0, 1) := by decide +kernel
theorem d_RE_readChoice_35 : decode m_RE_readChoice.2.1 35 = .ok (.invokevirtual 38, 3) := by decide +kernel
theorem d_RE_readChoice_38 : decode m_RE_readChoice.2.1 38 = .ok (.invokevirtual 42, 3) := by decide +kernel
theorem d_RE_readChoice_41 : decode m_RE_readChoice.2.1 41 = .ok (.iinc 2 1, 3) := by decide +kernel
theorem d_RE_readChoice_44 : decode m_RE_readChoice.2.1 44 = .ok (.goto (-26), 3) := by decide +kernel
theorem d_RE_readChoice_47 : decode m_RE_readChoice.2.1 47 = .ok (.aload_n 1, 1) := by decide +kernel
theorem d_RE_readChoice_48 : decode m_RE_readChoice.2.1 48 = .ok (.areturn, 1) := by decide +kernel
theorem d_RE_readRow_0 : decode m_RE_readRow.2.1 0 = .ok (.new 50, 3) := by decide +kernel
theorem d_RE_readRow_3 : decode m_RE_readRow.2.1 3 = .ok (.dup, 1) := by decide +kernel
theorem d_RE_readRow_4 : decode m_RE_readRow.2.1 4 = .ok (.invokespecial 52, 3) := by decide +kernel
theorem d_RE_readRow_7 : decode m_RE_readRow.2.1 7 = .ok (.astore_n 1, 1) := by decide +kernel
theorem d_RE_readRow_8 : decode m_RE_readRow.2.1 8 = .ok (.iconst 0, 1) := by decide +kernel
theorem d_RE_readRow_9 : decode m_RE_readRow.2.1 9 = .ok (.istore_n 2, 1) := by decide +kernel
theorem d_RE_readRow_10 : decode m_RE_readRow.2.1 10 = .ok (.iload_n 2, 1) := by decide +kernel
theorem d_RE_readRow_11 : decode m_RE_readRow.2.1 11 = .ok (.bipush 28, 2) := by decide +kernel
theorem d_RE_readRow_13 : decode m_RE_readRow.2.1 13 = .ok (.if_icmp .ge 28, 3) := by decide +kernel
theorem d_RE_readRow_16 : decode m_RE_readRow.2.1 16 = .ok (.aload_n 0, 1) := by decide +kernel
theorem d_RE_readRow_17 : decode m_RE_readRow.2.1 17 = .ok (.aload_n 0, 1) := by decide +kernel
theorem d_RE_readRow_18 : decode m_RE_readRow.2.1 18 = .ok (.invokevirtual 53, 3) := by decide +kernel
theorem d_RE_readRow_21 : decode m_RE_readRow.2.1 21 = .ok (.invokevirtual 56, 3) := by decide +kernel
theorem d_RE_readRow_24 : decode m_RE_readRow.2.1 24 = .ok (.ifCond .eq 17, 3) := by decide +kernel
theorem d_RE_readRow_27 : decode m_RE_readRow.2.1 27 = .ok (.aload_n 1, 1) := by decide +kernel
theorem d_RE_readRow_28 : decode m_RE_readRow.2.1 28 = .ok (.aload_n 0, 1) := by decide +kernel
theorem d_RE_readRow_29 : decode m_RE_readRow.2.1 29 = .ok (.invokevirtual 59, 3) := by decide +kernel
theorem d_RE_readRow_32 : decode m_RE_readRow.2.1 32 = .ok (.invokevirtual 63, 3) := by decide +kernel
theorem d_RE_readRow_35 : decode m_RE_readRow.2.1 35 = .ok (.iinc 2 1, 3) := by decide +kernel
theorem d_RE_readRow_38 : decode m_RE_readRow.2.1 38 = .ok (.goto (-28), 3) := by decide +kernel
theorem d_RE_readRow_41 : decode m_RE_readRow.2.1 41 = .ok (.aload_n 1, 1) := by decide +kernel
theorem d_RE_readRow_42 : decode m_RE_readRow.2.1 42 = .ok (.areturn, 1) := by decide +kernel
theorem d_RE_peek_0 : decode m_RE_peek.2.1 0 = .ok (.aload_n 0, 1) := by decide +kernel
theorem d_RE_peek_1 : decode m_RE_peek.2.1 1 = .ok (.getfield 15, 3) := by decide +kernel
theorem d_RE_peek_4 : decode m_RE_peek.2.1 4 = .ok (.ifCond .eq 8, 3) := by decide +kernel
theorem d_RE_peek_7 : decode m_RE_peek.2.1 7 = .ok (.bipush (-2), 2) := by decide +kernel
theorem d_RE_peek_9 : decode m_RE_peek.2.1 9 = .ok (.goto 14, 3) := by decide +kernel
theorem d_RE_peek_12 : decode m_RE_peek.2.1 12 = .ok (.aload_n 0, 1) := by decide +kernel
theorem d_RE_peek_13 : decode m_RE_peek.2.1 13 = .ok (.getfield 9, 3) := by decide +kernel
theorem d_RE_peek_16 : decode m_RE_peek.2.1 16 = .ok (.aload_n 0, 1) := by decide +kernel
theorem d_RE_peek_17 : decode m_RE_peek.2.1 17 = .ok (.getfield 19, 3) := by decide +kernel
theorem d_RE_peek_20 : decode m_RE_peek.2.1 20 = .ok (.invokevirtual 164, 3) := by decide +kernel
theorem d_RE_peek_23 : decode m_RE_peek.2.1 23 = .ok (.ireturn, 1) := by decide +kernel
theorem d_RE_beginsAtom_0 : decode m_RE_beginsAtom.2.1 0 = .ok (.iload_n 1, 1) := by decide +kernel
theorem d_RE_beginsAtom_1 : decode m_RE_beginsAtom.2.1 1 = .ok (.bipush 40, 2) := by decide +kernel
theorem d_RE_beginsAtom_3 : decode m_RE_beginsAtom.2.1 3 = .ok (.if_icmp .ne 18, 3) := by decide +kernel
theorem d_RE_beginsAtom_6 : decode m_RE_beginsAtom.2.1 6 = .ok (.aload_n 0, 1) := by decide +kernel
theorem d_RE_beginsAtom_7 : decode m_RE_beginsAtom.2.1 7 = .ok (.getfield 32, 3) := by decide +kernel
theorem d_RE_beginsAtom_10 : decode m_RE_beginsAtom.2.1 10 = .ok (.bipush 6, 2) := by decide +kernel
theorem d_RE_beginsAtom_12 : decode m_RE_beginsAtom.2.1 12 = .ok (.if_icmp .ge 7, 3) := by decide +kernel
theorem d_RE_beginsAtom_15 : decode m_RE_beginsAtom.2.1 15 = .ok (.iconst 1, 1) := by decide +kernel
theorem d_RE_beginsAtom_16 : decode m_RE_beginsAtom.2.1 16 = .ok (.goto 4, 3) := by decide +kernel
theorem d_RE_beginsAtom_19 : decode m_RE_beginsAtom.2.1 19 = .ok (.iconst 0, 1) := by decide +kernel
theorem d_RE_beginsAtom_20 : decode m_RE_beginsAtom.2.1 20 = .ok (.ireturn, 1) := by decide +kernel
theorem d_RE_beginsAtom_21 : decode m_RE_beginsAtom.2.1 21 = .ok (.iload_n 1, 1) := by decide +kernel
theorem d_RE_beginsAtom_22 : decode m_RE_beginsAtom.2.1 22 = .ok (.bipush 91, 2) := by decide +kernel
theorem d_RE_beginsAtom_24 : decode m_RE_beginsAtom.2.1 24 = .ok (.if_icmp .eq 28, 3) := by decide +kernel
theorem d_RE_beginsAtom_27 : decode m_RE_beginsAtom.2.1 27 = .ok (.iload_n 1, 1) := by decide +kernel
theorem d_RE_beginsAtom_28 : decode m_RE_beginsAtom.2.1 28 = .ok (.bipush 46, 2) := by decide +kernel
theorem d_RE_beginsAtom_30 : decode m_RE_beginsAtom.2.1 30 = .ok (.if_icmp .eq 22, 3) := by decide +kernel
theorem d_RE_beginsAtom_33 : decode m_RE_beginsAtom.2.1 33 = .ok (.iload_n 1, 1) := by decide +kernel
theorem d_RE_beginsAtom_34 : decode m_RE_beginsAtom.2.1 34 = .ok (.bipush 94, 2) := by decide +kernel
theorem d_RE_beginsAtom_36 : decode m_RE_beginsAtom.2.1 36 = .ok (.if_icmp .eq 16, 3) := by decide +kernel
theorem d_RE_beginsAtom_39 : decode m_RE_beginsAtom.2.1 39 = .ok (.iload_n 1, 1) := by decide +kernel
theorem d_RE_beginsAtom_40 : decode m_RE_beginsAtom.2.1 40 = .ok (.bipush 36, 2) := by decide +kernel
theorem d_RE_beginsAtom_42 : decode m_RE_beginsAtom.2.1 42 = .ok (.if_icmp .eq 10, 3) := by decide +kernel
theorem d_RE_beginsAtom_45 : decode m_RE_beginsAtom.2.1 45 = .ok (.iload_n 1, 1) := by decide +kernel
theorem d_RE_beginsAtom_46 : decode m_RE_beginsAtom.2.1 46 = .ok (.invokestatic 149, 3) := by decide +kernel
theorem d_RE_beginsAtom_49 : decode m_RE_beginsAtom.2.1 49 = .ok (.ifCond .eq 7, 3) := by decide +kernel
theorem d_RE_beginsAtom_52 : decode m_RE_beginsAtom.2.1 52 = .ok (.iconst 1, 1) := by decide +kernel
theorem d_RE_beginsAtom_53 : decode m_RE_beginsAtom.2.1 53 = .ok (.goto 4, 3) := by decide +kernel
theorem d_RE_beginsAtom_56 : decode m_RE_beginsAtom.2.1 56 = .ok (.iconst 0, 1) := by decide +kernel
theorem d_RE_beginsAtom_57 : decode m_RE_beginsAtom.2.1 57 = .ok (.ireturn, 1) := by decide +kernel
theorem d_RE_isPlain_0 : decode m_RE_isPlain.2.1 0 = .ok (.iload_n 0, 1) := by decide +kernel
theorem d_RE_isPlain_1 : decode m_RE_isPlain.2.1 1 = .ok (.invokestatic 152, 3) := by decide +kernel
theorem d_RE_isPlain_4 : decode m_RE_isPlain.2.1 4 = .ok (.ifCond .eq 17, 3) := by decide +kernel
theorem d_RE_isPlain_7 : decode m_RE_isPlain.2.1 7 = .ok (.ldc 155, 2) := by decide +kernel
theorem d_RE_isPlain_9 : decode m_RE_isPlain.2.1 9 = .ok (.iload_n 0, 1) := by decide +kernel
theorem d_RE_isPlain_10 : decode m_RE_isPlain.2.1 10 = .ok (.i2c, 1) := by decide +kernel
theorem d_RE_isPlain_11 : decode m_RE_isPlain.2.1 11 = .ok (.invokevirtual 157, 3) := by decide +kernel
theorem d_RE_isPlain_14 : decode m_RE_isPlain.2.1 14 = .ok (.ifCond .ge 7, 3) := by decide +kernel
theorem d_RE_isPlain_17 : decode m_RE_isPlain.2.1 17 = .ok (.iconst 1, 1) := by decide +kernel
theorem d_RE_isPlain_18 : decode m_RE_isPlain.2.1 18 = .ok (.goto 4, 3) := by decide +kernel
theorem d_RE_isPlain_21 : decode m_RE_isPlain.2.1 21 = .ok (.iconst 0, 1) := by decide +kernel
theorem d_RE_isPlain_22 : decode m_RE_isPlain.2.1 22 = .ok (.ireturn, 1) := by decide +kernel
theorem d_RE_readPiece_0 : decode m_RE_readPiece.2.1 0 = .ok (.new 66, 3) := by decide +kernel
theorem d_RE_readPiece_3 : decode m_RE_readPiece.2.1 3 = .ok (.dup, 1) := by decide +kernel
theorem d_RE_readPiece_4 : decode m_RE_readPiece.2.1 4 = .ok (.aload_n 0, 1) := by decide +kernel
theorem d_RE_readPiece_5 : decode m_RE_readPiece.2.1 5 = .ok (.invokevirtual 68, 3) := by decide +kernel
theorem d_RE_readPiece_8 : decode m_RE_readPiece.2.1 8 = .ok (.invokespecial 72, 3) := by decide +kernel
theorem d_RE_readPiece_11 : decode m_RE_readPiece.2.1 11 = .ok (.astore_n 1, 1) := by decide +kernel
theorem d_RE_readPiece_12 : decode m_RE_readPiece.2.1 12 = .ok (.aload_n 0, 1) := by decide +kernel
theorem d_RE_readPiece_13 : decode m_RE_readPiece.2.1 13 = .ok (.aload_n 1, 1) := by decide +kernel
theorem d_RE_readPiece_14 : decode m_RE_readPiece.2.1 14 = .ok (.invokevirtual 75, 3) := by decide +kernel
theorem d_RE_readPiece_17 : decode m_RE_readPiece.2.1 17 = .ok (.ifCond .eq 13, 3) := by decide +kernel
theorem d_RE_readPiece_20 : decode m_RE_readPiece.2.1 20 = .ok (.aload_n 1, 1) := by decide +kernel
theorem d_RE_readPiece_21 : decode m_RE_readPiece.2.1 21 = .ok (.aload_n 0, 1) := by decide +kernel
theorem d_RE_readPiece_22 : decode m_RE_readPiece.2.1 22 = .ok (.bipush 63, 2) := by decide +kernel
theorem d_RE_readPiece_24 : decode m_RE_readPiece.2.1 24 = .ok (.invokevirtual 46, 3) := by decide +kernel
theorem d_RE_readPiece_27 : decode m_RE_readPiece.2.1 27 = .ok (.putfield 79, 3) := by decide +kernel
theorem d_RE_readPiece_30 : decode m_RE_readPiece.2.1 30 = .ok (.aload_n 0, 1) := by decide +kernel
theorem d_RE_readPiece_31 : decode m_RE_readPiece.2.1 31 = .ok (.aload_n 0, 1) := by decide +kernel
theorem d_RE_readPiece_32 : decode m_RE_readPiece.2.1 32 = .ok (.getfield 29, 3) := by decide +kernel
theorem d_RE_readPiece_35 : decode m_RE_readPiece.2.1 35 = .ok (.ifCond .ne 10, 3) := by decide +kernel
theorem d_RE_readPiece_38 : decode m_RE_readPiece.2.1 38 = .ok (.aload_n 1, 1) := by decide +kernel
theorem d_RE_readPiece_39 : decode m_RE_readPiece.2.1 39 = .ok (.invokevirtual 82, 3) := by decide +kernel
theorem d_RE_readPiece_42 : decode m_RE_readPiece.2.1 42 = .ok (.ifCond .eq 7, 3) := by decide +kernel
theorem d_RE_readPiece_45 : decode m_RE_readPiece.2.1 45 = .ok (.iconst 1, 1) := by decide +kernel
theorem d_RE_readPiece_46 : decode m_RE_readPiece.2.1 46 = .ok (.goto 4, 3) := by decide +kernel
theorem d_RE_readPiece_49 : decode m_RE_readPiece.2.1 49 = .ok (.iconst 0, 1) := by decide +kernel
theorem d_RE_readPiece_50 : decode m_RE_readPiece.2.1 50 = .ok (.putfield 29, 3) := by decide +kernel
theorem d_RE_readPiece_53 : decode m_RE_readPiece.2.1 53 = .ok (.aload_n 1, 1) := by decide +kernel
theorem d_RE_readPiece_54 : decode m_RE_readPiece.2.1 54 = .ok (.areturn, 1) := by decide +kernel
theorem d_RE_readAtom_0 : decode m_RE_readAtom.2.1 0 = .ok (.aload_n 0, 1) := by decide +kernel
theorem d_RE_readAtom_1 : decode m_RE_readAtom.2.1 1 = .ok (.invokevirtual 53, 3) := by decide +kernel
theorem d_RE_readAtom_4 : decode m_RE_readAtom.2.1 4 = .ok (.istore_n 1, 1) := by decide +kernel
theorem d_RE_readAtom_5 : decode m_RE_readAtom.2.1 5 = .ok (.aload_n 0, 1) := by decide +kernel
theorem d_RE_readAtom_6 : decode m_RE_readAtom.2.1 6 = .ok (.dup, 1) := by decide +kernel
theorem d_RE_readAtom_7 : decode m_RE_readAtom.2.1 7 = .ok (.getfield 19, 3) := by decide +kernel
theorem d_RE_readAtom_10 : decode m_RE_readAtom.2.1 10 = .ok (.iconst 1, 1) := by decide +kernel
theorem d_RE_readAtom_11 : decode m_RE_readAtom.2.1 11 = .ok (.iadd, 1) := by decide +kernel
theorem d_RE_readAtom_12 : decode m_RE_readAtom.2.1 12 = .ok (.putfield 19, 3) := by decide +kernel
theorem d_RE_readAtom_15 : decode m_RE_readAtom.2.1 15 = .ok (.iload_n 1, 1) := by decide +kernel
theorem d_RE_readAtom_16 : decode m_RE_readAtom.2.1 16 = .ok (.lookupswitch 88 #[(36, 71), (40, 52), (46, 80), (91, 57), (94, 62)], 52) := by decide +kernel
theorem d_RE_readAtom_68 : decode m_RE_readAtom.2.1 68 = .ok (.aload_n 0, 1) := by decide +kernel
theorem d_RE_readAtom_69 : decode m_RE_readAtom.2.1 69 = .ok (.invokevirtual 110, 3) := by decide +kernel
theorem d_RE_readAtom_72 : decode m_RE_readAtom.2.1 72 = .ok (.areturn, 1) := by decide +kernel
theorem d_RE_readAtom_73 : decode m_RE_readAtom.2.1 73 = .ok (.aload_n 0, 1) := by decide +kernel
theorem d_RE_readAtom_74 : decode m_RE_readAtom.2.1 74 = .ok (.invokevirtual 113, 3) := by decide +kernel
theorem d_RE_readAtom_77 : decode m_RE_readAtom.2.1 77 = .ok (.areturn, 1) := by decide +kernel
theorem d_RE_readAtom_78 : decode m_RE_readAtom.2.1 78 = .ok (.new 116, 3) := by decide +kernel
theorem d_RE_readAtom_81 : decode m_RE_readAtom.2.1 81 = .ok (.dup, 1) := by decide +kernel
theorem d_RE_readAtom_82 : decode m_RE_readAtom.2.1 82 = .ok (.iconst 2, 1) := by decide +kernel
theorem d_RE_readAtom_83 : decode m_RE_readAtom.2.1 83 = .ok (.invokespecial 120, 3) := by decide +kernel
theorem d_RE_readAtom_86 : decode m_RE_readAtom.2.1 86 = .ok (.areturn, 1) := by decide +kernel
theorem d_RE_readAtom_87 : decode m_RE_readAtom.2.1 87 = .ok (.new 116, 3) := by decide +kernel
theorem d_RE_readAtom_90 : decode m_RE_readAtom.2.1 90 = .ok (.dup, 1) := by decide +kernel
theorem d_RE_readAtom_91 : decode m_RE_readAtom.2.1 91 = .ok (.iconst 3, 1) := by decide +kernel
theorem d_RE_readAtom_92 : decode m_RE_readAtom.2.1 92 = .ok (.invokespecial 120, 3) := by decide +kernel
theorem d_RE_readAtom_95 : decode m_RE_readAtom.2.1 95 = .ok (.areturn, 1) := by decide +kernel
theorem d_RE_readAtom_96 : decode m_RE_readAtom.2.1 96 = .ok (.bipush 32, 2) := by decide +kernel
theorem d_RE_readAtom_98 : decode m_RE_readAtom.2.1 98 = .ok (.bipush 126, 2) := by decide +kernel
theorem d_RE_readAtom_100 : decode m_RE_readAtom.2.1 100 = .ok (.invokestatic 122, 3) := by decide +kernel
theorem d_RE_readAtom_103 : decode m_RE_readAtom.2.1 103 = .ok (.areturn, 1) := by decide +kernel
theorem d_RE_readAtom_104 : decode m_RE_readAtom.2.1 104 = .ok (.iload_n 1, 1) := by decide +kernel
theorem d_RE_readAtom_105 : decode m_RE_readAtom.2.1 105 = .ok (.iload_n 1, 1) := by decide +kernel
theorem d_RE_readAtom_106 : decode m_RE_readAtom.2.1 106 = .ok (.invokestatic 122, 3) := by decide +kernel
theorem d_RE_readAtom_109 : decode m_RE_readAtom.2.1 109 = .ok (.areturn, 1) := by decide +kernel
theorem d_RE_readGroup_0 : decode m_RE_readGroup.2.1 0 = .ok (.aload_n 0, 1) := by decide +kernel
theorem d_RE_readGroup_1 : decode m_RE_readGroup.2.1 1 = .ok (.dup, 1) := by decide +kernel
theorem d_RE_readGroup_2 : decode m_RE_readGroup.2.1 2 = .ok (.getfield 32, 3) := by decide +kernel
theorem d_RE_readGroup_5 : decode m_RE_readGroup.2.1 5 = .ok (.iconst 1, 1) := by decide +kernel
theorem d_RE_readGroup_6 : decode m_RE_readGroup.2.1 6 = .ok (.iadd, 1) := by decide +kernel
theorem d_RE_readGroup_7 : decode m_RE_readGroup.2.1 7 = .ok (.putfield 32, 3) := by decide +kernel
theorem d_RE_readGroup_10 : decode m_RE_readGroup.2.1 10 = .ok (.aload_n 0, 1) := by decide +kernel
theorem d_RE_readGroup_11 : decode m_RE_readGroup.2.1 11 = .ok (.getfield 32, 3) := by decide +kernel
theorem d_RE_readGroup_14 : decode m_RE_readGroup.2.1 14 = .ok (.istore_n 1, 1) := by decide +kernel
theorem d_RE_readGroup_15 : decode m_RE_readGroup.2.1 15 = .ok (.new 116, 3) := by decide +kernel
theorem d_RE_readGroup_18 : decode m_RE_readGroup.2.1 18 = .ok (.dup, 1) := by decide +kernel
theorem d_RE_readGroup_19 : decode m_RE_readGroup.2.1 19 = .ok (.iconst 4, 1) := by decide +kernel
theorem d_RE_readGroup_20 : decode m_RE_readGroup.2.1 20 = .ok (.invokespecial 120, 3) := by decide +kernel
theorem d_RE_readGroup_23 : decode m_RE_readGroup.2.1 23 = .ok (.astore_n 2, 1) := by decide +kernel
theorem d_RE_readGroup_24 : decode m_RE_readGroup.2.1 24 = .ok (.aload_n 2, 1) := by decide +kernel
theorem d_RE_readGroup_25 : decode m_RE_readGroup.2.1 25 = .ok (.iload_n 1, 1) := by decide +kernel
theorem d_RE_readGroup_26 : decode m_RE_readGroup.2.1 26 = .ok (.aload_n 0, 1) := by decide +kernel
theorem d_RE_readGroup_27 : decode m_RE_readGroup.2.1 27 = .ok (.invokevirtual 129, 3) := by decide +kernel
theorem d_RE_readGroup_30 : decode m_RE_readGroup.2.1 30 = .ok (.invokevirtual 133, 3) := by decide +kernel
theorem d_RE_readGroup_33 : decode m_RE_readGroup.2.1 33 = .ok (.aload_n 0, 1) := by decide +kernel
theorem d_RE_readGroup_34 : decode m_RE_readGroup.2.1 34 = .ok (.bipush 41, 2) := by decide +kernel
theorem d_RE_readGroup_36 : decode m_RE_readGroup.2.1 36 = .ok (.invokevirtual 107, 3) := by decide +kernel
theorem d_RE_readGroup_39 : decode m_RE_readGroup.2.1 39 = .ok (.aload_n 2, 1) := by decide +kernel
theorem d_RE_readGroup_40 : decode m_RE_readGroup.2.1 40 = .ok (.areturn, 1) := by decide +kernel
theorem d_RE_expect_0 : decode m_RE_expect.2.1 0 = .ok (.aload_n 0, 1) := by decide +kernel
theorem d_RE_expect_1 : decode m_RE_expect.2.1 1 = .ok (.iload_n 1, 1) := by decide +kernel
theorem d_RE_expect_2 : decode m_RE_expect.2.1 2 = .ok (.invokevirtual 46, 3) := by decide +kernel
theorem d_RE_expect_5 : decode m_RE_expect.2.1 5 = .ok (.ifCond .ne 8, 3) := by decide +kernel
theorem d_RE_expect_8 : decode m_RE_expect.2.1 8 = .ok (.aload_n 0, 1) := by decide +kernel
theorem d_RE_expect_9 : decode m_RE_expect.2.1 9 = .ok (.iconst 1, 1) := by decide +kernel
theorem d_RE_expect_10 : decode m_RE_expect.2.1 10 = .ok (.putfield 15, 3) := by decide +kernel
theorem d_RE_expect_13 : decode m_RE_expect.2.1 13 = .ok (.return_, 1) := by decide +kernel
theorem d_RE_take_0 : decode m_RE_take.2.1 0 = .ok (.aload_n 0, 1) := by decide +kernel
theorem d_RE_take_1 : decode m_RE_take.2.1 1 = .ok (.invokevirtual 53, 3) := by decide +kernel
theorem d_RE_take_4 : decode m_RE_take.2.1 4 = .ok (.iload_n 1, 1) := by decide +kernel
theorem d_RE_take_5 : decode m_RE_take.2.1 5 = .ok (.if_icmp .eq 5, 3) := by decide +kernel
theorem d_RE_take_8 : decode m_RE_take.2.1 8 = .ok (.iconst 0, 1) := by decide +kernel
theorem d_RE_take_9 : decode m_RE_take.2.1 9 = .ok (.ireturn, 1) := by decide +kernel
theorem d_RE_take_10 : decode m_RE_take.2.1 10 = .ok (.aload_n 0, 1) := by decide +kernel
theorem d_RE_take_11 : decode m_RE_take.2.1 11 = .ok (.dup, 1) := by decide +kernel
theorem d_RE_take_12 : decode m_RE_take.2.1 12 = .ok (.getfield 19, 3) := by decide +kernel
theorem d_RE_take_15 : decode m_RE_take.2.1 15 = .ok (.iconst 1, 1) := by decide +kernel
theorem d_RE_take_16 : decode m_RE_take.2.1 16 = .ok (.iadd, 1) := by decide +kernel
theorem d_RE_take_17 : decode m_RE_take.2.1 17 = .ok (.putfield 19, 3) := by decide +kernel
theorem d_RE_take_20 : decode m_RE_take.2.1 20 = .ok (.iconst 1, 1) := by decide +kernel
theorem d_RE_take_21 : decode m_RE_take.2.1 21 = .ok (.ireturn, 1) := by decide +kernel
theorem d_RE_readClass_0 : decode m_RE_readClass.2.1 0 = .ok (.new 116, 3) := by decide +kernel
theorem d_RE_readClass_3 : decode m_RE_readClass.2.1 3 = .ok (.dup, 1) := by decide +kernel
theorem d_RE_readClass_4 : decode m_RE_readClass.2.1 4 = .ok (.iconst 1, 1) := by decide +kernel
theorem d_RE_readClass_5 : decode m_RE_readClass.2.1 5 = .ok (.invokespecial 120, 3) := by decide +kernel
theorem d_RE_readClass_8 : decode m_RE_readClass.2.1 8 = .ok (.astore_n 1, 1) := by decide +kernel
theorem d_RE_readClass_9 : decode m_RE_readClass.2.1 9 = .ok (.aload_n 0, 1) := by decide +kernel
theorem d_RE_readClass_10 : decode m_RE_readClass.2.1 10 = .ok (.bipush 94, 2) := by decide +kernel
theorem d_RE_readClass_12 : decode m_RE_readClass.2.1 12 = .ok (.invokevirtual 46, 3) := by decide +kernel
theorem d_RE_readClass_15 : decode m_RE_readClass.2.1 15 = .ok (.istore_n 2, 1) := by decide +kernel
theorem d_RE_readClass_16 : decode m_RE_readClass.2.1 16 = .ok (.aload_n 0, 1) := by decide +kernel
theorem d_RE_readClass_17 : decode m_RE_readClass.2.1 17 = .ok (.aload_n 1, 1) := by decide +kernel
theorem d_RE_readClass_18 : decode m_RE_readClass.2.1 18 = .ok (.invokevirtual 137, 3) := by decide +kernel
theorem d_RE_readClass_21 : decode m_RE_readClass.2.1 21 = .ok (.iconst 1, 1) := by decide +kernel
theorem d_RE_readClass_22 : decode m_RE_readClass.2.1 22 = .ok (.istore_n 3, 1) := by decide +kernel
theorem d_RE_readClass_23 : decode m_RE_readClass.2.1 23 = .ok (.iload_n 3, 1) := by decide +kernel
theorem d_RE_readClass_24 : decode m_RE_readClass.2.1 24 = .ok (.bipush 28, 2) := by decide +kernel
theorem d_RE_readClass_26 : decode m_RE_readClass.2.1 26 = .ok (.if_icmp .ge 24, 3) := by decide +kernel
theorem d_RE_readClass_29 : decode m_RE_readClass.2.1 29 = .ok (.aload_n 0, 1) := by decide +kernel
theorem d_RE_readClass_30 : decode m_RE_readClass.2.1 30 = .ok (.invokevirtual 53, 3) := by decide +kernel
theorem d_RE_readClass_33 : decode m_RE_readClass.2.1 33 = .ok (.invokestatic 140, 3) := by decide +kernel
theorem d_RE_readClass_36 : decode m_RE_readClass.2.1 36 = .ok (.ifCond .eq 14, 3) := by decide +kernel
theorem d_RE_readClass_39 : decode m_RE_readClass.2.1 39 = .ok (.aload_n 0, 1) := by decide +kernel
theorem d_RE_readClass_40 : decode m_RE_readClass.2.1 40 = .ok (.aload_n 1, 1) := by decide +kernel
theorem d_RE_readClass_41 : decode m_RE_readClass.2.1 41 = .ok (.invokevirtual 137, 3) := by decide +kernel
theorem d_RE_readClass_44 : decode m_RE_readClass.2.1 44 = .ok (.iinc 3 1, 3) := by decide +kernel
theorem d_RE_readClass_47 : decode m_RE_readClass.2.1 47 = .ok (.goto (-24), 3) := by decide +kernel
theorem d_RE_readClass_50 : decode m_RE_readClass.2.1 50 = .ok (.aload_n 0, 1) := by decide +kernel
theorem d_RE_readClass_51 : decode m_RE_readClass.2.1 51 = .ok (.bipush 93, 2) := by decide +kernel
theorem d_RE_readClass_53 : decode m_RE_readClass.2.1 53 = .ok (.invokevirtual 107, 3) := by decide +kernel
theorem d_RE_readClass_56 : decode m_RE_readClass.2.1 56 = .ok (.iload_n 2, 1) := by decide +kernel
theorem d_RE_readClass_57 : decode m_RE_readClass.2.1 57 = .ok (.ifCond .eq 7, 3) := by decide +kernel
theorem d_RE_readClass_60 : decode m_RE_readClass.2.1 60 = .ok (.aload_n 1, 1) := by decide +kernel
theorem d_RE_readClass_61 : decode m_RE_readClass.2.1 61 = .ok (.invokevirtual 143, 3) := by decide +kernel
theorem d_RE_readClass_64 : decode m_RE_readClass.2.1 64 = .ok (.aload_n 1, 1) := by decide +kernel
theorem d_RE_readClass_65 : decode m_RE_readClass.2.1 65 = .ok (.areturn, 1) := by decide +kernel
theorem d_RE_readItem_0 : decode m_RE_readItem.2.1 0 = .ok (.aload_n 0, 1) := by decide +kernel
theorem d_RE_readItem_1 : decode m_RE_readItem.2.1 1 = .ok (.bipush 32, 2) := by decide +kernel
theorem d_RE_readItem_3 : decode m_RE_readItem.2.1 3 = .ok (.invokevirtual 146, 3) := by decide +kernel
theorem d_RE_readItem_6 : decode m_RE_readItem.2.1 6 = .ok (.istore_n 2, 1) := by decide +kernel
theorem d_RE_readItem_7 : decode m_RE_readItem.2.1 7 = .ok (.aload_n 0, 1) := by decide +kernel
theorem d_RE_readItem_8 : decode m_RE_readItem.2.1 8 = .ok (.bipush 45, 2) := by decide +kernel
theorem d_RE_readItem_10 : decode m_RE_readItem.2.1 10 = .ok (.invokevirtual 46, 3) := by decide +kernel
theorem d_RE_readItem_13 : decode m_RE_readItem.2.1 13 = .ok (.ifCond .eq 11, 3) := by decide +kernel
theorem d_RE_readItem_16 : decode m_RE_readItem.2.1 16 = .ok (.aload_n 0, 1) := by decide +kernel
theorem d_RE_readItem_17 : decode m_RE_readItem.2.1 17 = .ok (.iload_n 2, 1) := by decide +kernel
theorem d_RE_readItem_18 : decode m_RE_readItem.2.1 18 = .ok (.invokevirtual 146, 3) := by decide +kernel
theorem d_RE_readItem_21 : decode m_RE_readItem.2.1 21 = .ok (.goto 4, 3) := by decide +kernel
theorem d_RE_readItem_24 : decode m_RE_readItem.2.1 24 = .ok (.iload_n 2, 1) := by decide +kernel
theorem d_RE_readItem_25 : decode m_RE_readItem.2.1 25 = .ok (.istore_n 3, 1) := by decide +kernel
theorem d_RE_readItem_26 : decode m_RE_readItem.2.1 26 = .ok (.aload_n 1, 1) := by decide +kernel
theorem d_RE_readItem_27 : decode m_RE_readItem.2.1 27 = .ok (.iload_n 2, 1) := by decide +kernel
theorem d_RE_readItem_28 : decode m_RE_readItem.2.1 28 = .ok (.iload_n 3, 1) := by decide +kernel
theorem d_RE_readItem_29 : decode m_RE_readItem.2.1 29 = .ok (.invokevirtual 126, 3) := by decide +kernel
theorem d_RE_readItem_32 : decode m_RE_readItem.2.1 32 = .ok (.return_, 1) := by decide +kernel
theorem d_RE_readItemSign_0 : decode m_RE_readItemSign.2.1 0 = .ok (.aload_n 0, 1) := by decide +kernel
theorem d_RE_readItemSign_1 : decode m_RE_readItemSign.2.1 1 = .ok (.invokevirtual 53, 3) := by decide +kernel
theorem d_RE_readItemSign_4 : decode m_RE_readItemSign.2.1 4 = .ok (.istore_n 2, 1) := by decide +kernel
theorem d_RE_readItemSign_5 : decode m_RE_readItemSign.2.1 5 = .ok (.iload_n 2, 1) := by decide +kernel
theorem d_RE_readItemSign_6 : decode m_RE_readItemSign.2.1 6 = .ok (.invokestatic 140, 3) := by decide +kernel
theorem d_RE_readItemSign_9 : decode m_RE_readItemSign.2.1 9 = .ok (.ifCond .eq 8, 3) := by decide +kernel
theorem d_RE_readItemSign_12 : decode m_RE_readItemSign.2.1 12 = .ok (.iload_n 2, 1) := by decide +kernel
theorem d_RE_readItemSign_13 : decode m_RE_readItemSign.2.1 13 = .ok (.iload_n 1, 1) := by decide +kernel
theorem d_RE_readItemSign_14 : decode m_RE_readItemSign.2.1 14 = .ok (.if_icmp .ge 10, 3) := by decide +kernel
theorem d_RE_readItemSign_17 : decode m_RE_readItemSign.2.1 17 = .ok (.aload_n 0, 1) := by decide +kernel
theorem d_RE_readItemSign_18 : decode m_RE_readItemSign.2.1 18 = .ok (.iconst 1, 1) := by decide +kernel
theorem d_RE_readItemSign_19 : decode m_RE_readItemSign.2.1 19 = .ok (.putfield 15, 3) := by decide +kernel
theorem d_RE_readItemSign_22 : decode m_RE_readItemSign.2.1 22 = .ok (.iload_n 1, 1) := by decide +kernel
theorem d_RE_readItemSign_23 : decode m_RE_readItemSign.2.1 23 = .ok (.ireturn, 1) := by decide +kernel
theorem d_RE_readItemSign_24 : decode m_RE_readItemSign.2.1 24 = .ok (.aload_n 0, 1) := by decide +kernel
theorem d_RE_readItemSign_25 : decode m_RE_readItemSign.2.1 25 = .ok (.dup, 1) := by decide +kernel
theorem d_RE_readItemSign_26 : decode m_RE_readItemSign.2.1 26 = .ok (.getfield 19, 3) := by decide +kernel
theorem d_RE_readItemSign_29 : decode m_RE_readItemSign.2.1 29 = .ok (.iconst 1, 1) := by decide +kernel
theorem d_RE_readItemSign_30 : decode m_RE_readItemSign.2.1 30 = .ok (.iadd, 1) := by decide +kernel
theorem d_RE_readItemSign_31 : decode m_RE_readItemSign.2.1 31 = .ok (.putfield 19, 3) := by decide +kernel
theorem d_RE_readItemSign_34 : decode m_RE_readItemSign.2.1 34 = .ok (.iload_n 2, 1) := by decide +kernel
theorem d_RE_readItemSign_35 : decode m_RE_readItemSign.2.1 35 = .ok (.ireturn, 1) := by decide +kernel
theorem d_RE_isItemSign_0 : decode m_RE_isItemSign.2.1 0 = .ok (.iload_n 0, 1) := by decide +kernel
theorem d_RE_isItemSign_1 : decode m_RE_isItemSign.2.1 1 = .ok (.invokestatic 152, 3) := by decide +kernel
theorem d_RE_isItemSign_4 : decode m_RE_isItemSign.2.1 4 = .ok (.ifCond .eq 17, 3) := by decide +kernel
theorem d_RE_isItemSign_7 : decode m_RE_isItemSign.2.1 7 = .ok (.ldc 162, 2) := by decide +kernel
theorem d_RE_isItemSign_9 : decode m_RE_isItemSign.2.1 9 = .ok (.iload_n 0, 1) := by decide +kernel
theorem d_RE_isItemSign_10 : decode m_RE_isItemSign.2.1 10 = .ok (.i2c, 1) := by decide +kernel
theorem d_RE_isItemSign_11 : decode m_RE_isItemSign.2.1 11 = .ok (.invokevirtual 157, 3) := by decide +kernel
theorem d_RE_isItemSign_14 : decode m_RE_isItemSign.2.1 14 = .ok (.ifCond .ge 7, 3) := by decide +kernel
theorem d_RE_isItemSign_17 : decode m_RE_isItemSign.2.1 17 = .ok (.iconst 1, 1) := by decide +kernel
theorem d_RE_isItemSign_18 : decode m_RE_isItemSign.2.1 18 = .ok (.goto 4, 3) := by decide +kernel
theorem d_RE_isItemSign_21 : decode m_RE_isItemSign.2.1 21 = .ok (.iconst 0, 1) := by decide +kernel
theorem d_RE_isItemSign_22 : decode m_RE_isItemSign.2.1 22 = .ok (.ireturn, 1) := by decide +kernel
theorem d_RE_signAtom_0 : decode m_RE_signAtom.2.1 0 = .ok (.new 116, 3) := by decide +kernel
theorem d_RE_signAtom_3 : decode m_RE_signAtom.2.1 3 = .ok (.dup, 1) := by decide +kernel
theorem d_RE_signAtom_4 : decode m_RE_signAtom.2.1 4 = .ok (.iconst 1, 1) := by decide +kernel
theorem d_RE_signAtom_5 : decode m_RE_signAtom.2.1 5 = .ok (.invokespecial 120, 3) := by decide +kernel
theorem d_RE_signAtom_8 : decode m_RE_signAtom.2.1 8 = .ok (.astore_n 2, 1) := by decide +kernel
theorem d_RE_signAtom_9 : decode m_RE_signAtom.2.1 9 = .ok (.aload_n 2, 1) := by decide +kernel
theorem d_RE_signAtom_10 : decode m_RE_signAtom.2.1 10 = .ok (.iload_n 0, 1) := by decide +kernel
theorem d_RE_signAtom_11 : decode m_RE_signAtom.2.1 11 = .ok (.iload_n 1, 1) := by decide +kernel
theorem d_RE_signAtom_12 : decode m_RE_signAtom.2.1 12 = .ok (.invokevirtual 126, 3) := by decide +kernel
theorem d_RE_signAtom_15 : decode m_RE_signAtom.2.1 15 = .ok (.aload_n 2, 1) := by decide +kernel
theorem d_RE_signAtom_16 : decode m_RE_signAtom.2.1 16 = .ok (.areturn, 1) := by decide +kernel
theorem d_RE_readRepetition_0 : decode m_RE_readRepetition.2.1 0 = .ok (.aload_n 0, 1) := by decide +kernel
theorem d_RE_readRepetition_1 : decode m_RE_readRepetition.2.1 1 = .ok (.bipush 42, 2) := by decide +kernel
theorem d_RE_readRepetition_3 : decode m_RE_readRepetition.2.1 3 = .ok (.invokevirtual 46, 3) := by decide +kernel
theorem d_RE_readRepetition_6 : decode m_RE_readRepetition.2.1 6 = .ok (.ifCond .eq 11, 3) := by decide +kernel
theorem d_RE_readRepetition_9 : decode m_RE_readRepetition.2.1 9 = .ok (.aload_n 1, 1) := by decide +kernel
theorem d_RE_readRepetition_10 : decode m_RE_readRepetition.2.1 10 = .ok (.iconst 0, 1) := by decide +kernel
theorem d_RE_readRepetition_11 : decode m_RE_readRepetition.2.1 11 = .ok (.invokevirtual 86, 3) := by decide +kernel
theorem d_RE_readRepetition_14 : decode m_RE_readRepetition.2.1 14 = .ok (.goto 57, 3) := by decide +kernel
theorem d_RE_readRepetition_17 : decode m_RE_readRepetition.2.1 17 = .ok (.aload_n 0, 1) := by decide +kernel
theorem d_RE_readRepetition_18 : decode m_RE_readRepetition.2.1 18 = .ok (.bipush 43, 2) := by decide +kernel
theorem d_RE_readRepetition_20 : decode m_RE_readRepetition.2.1 20 = .ok (.invokevirtual 46, 3) := by decide +kernel
theorem d_RE_readRepetition_23 : decode m_RE_readRepetition.2.1 23 = .ok (.ifCond .eq 11, 3) := by decide +kernel
theorem d_RE_readRepetition_26 : decode m_RE_readRepetition.2.1 26 = .ok (.aload_n 1, 1) := by decide +kernel
theorem d_RE_readRepetition_27 : decode m_RE_readRepetition.2.1 27 = .ok (.iconst 1, 1) := by decide +kernel
theorem d_RE_readRepetition_28 : decode m_RE_readRepetition.2.1 28 = .ok (.invokevirtual 86, 3) := by decide +kernel
theorem d_RE_readRepetition_31 : decode m_RE_readRepetition.2.1 31 = .ok (.goto 40, 3) := by decide +kernel
theorem d_RE_readRepetition_34 : decode m_RE_readRepetition.2.1 34 = .ok (.aload_n 0, 1) := by decide +kernel
theorem d_RE_readRepetition_35 : decode m_RE_readRepetition.2.1 35 = .ok (.bipush 63, 2) := by decide +kernel
theorem d_RE_readRepetition_37 : decode m_RE_readRepetition.2.1 37 = .ok (.invokevirtual 46, 3) := by decide +kernel
theorem d_RE_readRepetition_40 : decode m_RE_readRepetition.2.1 40 = .ok (.ifCond .eq 12, 3) := by decide +kernel
theorem d_RE_readRepetition_43 : decode m_RE_readRepetition.2.1 43 = .ok (.aload_n 1, 1) := by decide +kernel
theorem d_RE_readRepetition_44 : decode m_RE_readRepetition.2.1 44 = .ok (.iconst 0, 1) := by decide +kernel
theorem d_RE_readRepetition_45 : decode m_RE_readRepetition.2.1 45 = .ok (.iconst 1, 1) := by decide +kernel
theorem d_RE_readRepetition_46 : decode m_RE_readRepetition.2.1 46 = .ok (.invokevirtual 90, 3) := by decide +kernel
theorem d_RE_readRepetition_49 : decode m_RE_readRepetition.2.1 49 = .ok (.goto 22, 3) := by decide +kernel
theorem d_RE_readRepetition_52 : decode m_RE_readRepetition.2.1 52 = .ok (.aload_n 0, 1) := by decide +kernel
theorem d_RE_readRepetition_53 : decode m_RE_readRepetition.2.1 53 = .ok (.bipush 123, 2) := by decide +kernel
theorem d_RE_readRepetition_55 : decode m_RE_readRepetition.2.1 55 = .ok (.invokevirtual 46, 3) := by decide +kernel
theorem d_RE_readRepetition_58 : decode m_RE_readRepetition.2.1 58 = .ok (.ifCond .eq 11, 3) := by decide +kernel
theorem d_RE_readRepetition_61 : decode m_RE_readRepetition.2.1 61 = .ok (.aload_n 0, 1) := by decide +kernel
theorem d_RE_readRepetition_62 : decode m_RE_readRepetition.2.1 62 = .ok (.aload_n 1, 1) := by decide +kernel
theorem d_RE_readRepetition_63 : decode m_RE_readRepetition.2.1 63 = .ok (.invokevirtual 94, 3) := by decide +kernel
theorem d_RE_readRepetition_66 : decode m_RE_readRepetition.2.1 66 = .ok (.goto 5, 3) := by decide +kernel
theorem d_RE_readRepetition_69 : decode m_RE_readRepetition.2.1 69 = .ok (.iconst 0, 1) := by decide +kernel
theorem d_RE_readRepetition_70 : decode m_RE_readRepetition.2.1 70 = .ok (.ireturn, 1) := by decide +kernel
theorem d_RE_readRepetition_71 : decode m_RE_readRepetition.2.1 71 = .ok (.iconst 1, 1) := by decide +kernel
theorem d_RE_readRepetition_72 : decode m_RE_readRepetition.2.1 72 = .ok (.ireturn, 1) := by decide +kernel
theorem d_RE_readBraces_0 : decode m_RE_readBraces.2.1 0 = .ok (.aload_n 0, 1) := by decide +kernel
theorem d_RE_readBraces_1 : decode m_RE_readBraces.2.1 1 = .ok (.iconst 0, 1) := by decide +kernel
theorem d_RE_readBraces_2 : decode m_RE_readBraces.2.1 2 = .ok (.invokevirtual 97, 3) := by decide +kernel
theorem d_RE_readBraces_5 : decode m_RE_readBraces.2.1 5 = .ok (.istore_n 2, 1) := by decide +kernel
theorem d_RE_readBraces_6 : decode m_RE_readBraces.2.1 6 = .ok (.iload_n 2, 1) := by decide +kernel
theorem d_RE_readBraces_7 : decode m_RE_readBraces.2.1 7 = .ok (.istore_n 3, 1) := by decide +kernel
theorem d_RE_readBraces_8 : decode m_RE_readBraces.2.1 8 = .ok (.aload_n 0, 1) := by decide +kernel
theorem d_RE_readBraces_9 : decode m_RE_readBraces.2.1 9 = .ok (.bipush 44, 2) := by decide +kernel
theorem d_RE_readBraces_11 : decode m_RE_readBraces.2.1 11 = .ok (.invokevirtual 46, 3) := by decide +kernel
theorem d_RE_readBraces_14 : decode m_RE_readBraces.2.1 14 = .ok (.ifCond .eq 16, 3) := by decide +kernel
theorem d_RE_readBraces_17 : decode m_RE_readBraces.2.1 17 = .ok (.aload_n 0, 1) := by decide +kernel
theorem d_RE_readBraces_18 : decode m_RE_readBraces.2.1 18 = .ok (.iconst 1, 1) := by decide +kernel
theorem d_RE_readBraces_19 : decode m_RE_readBraces.2.1 19 = .ok (.iload_n 2, 1) := by decide +kernel
theorem d_RE_readBraces_20 : decode m_RE_readBraces.2.1 20 = .ok (.invokestatic 101, 3) := by decide +kernel
theorem d_RE_readBraces_23 : decode m_RE_readBraces.2.1 23 = .ok (.invokevirtual 97, 3) := by decide +kernel
theorem d_RE_readBraces_26 : decode m_RE_readBraces.2.1 26 = .ok (.istore_n 3, 1) := by decide +kernel
theorem d_RE_readBraces_27 : decode m_RE_readBraces.2.1 27 = .ok (.goto 12, 3) := by decide +kernel
theorem d_RE_readBraces_30 : decode m_RE_readBraces.2.1 30 = .ok (.iload_n 2, 1) := by decide +kernel
theorem d_RE_readBraces_31 : decode m_RE_readBraces.2.1 31 = .ok (.ifCond .ne 8, 3) := by decide +kernel
theorem d_RE_readBraces_34 : decode m_RE_readBraces.2.1 34 = .ok (.aload_n 0, 1) := by decide +kernel
theorem d_RE_readBraces_35 : decode m_RE_readBraces.2.1 35 = .ok (.iconst 1, 1) := by decide +kernel
theorem d_RE_readBraces_36 : decode m_RE_readBraces.2.1 36 = .ok (.putfield 15, 3) := by decide +kernel
theorem d_RE_readBraces_39 : decode m_RE_readBraces.2.1 39 = .ok (.aload_n 0, 1) := by decide +kernel
theorem d_RE_readBraces_40 : decode m_RE_readBraces.2.1 40 = .ok (.bipush 125, 2) := by decide +kernel
theorem d_RE_readBraces_42 : decode m_RE_readBraces.2.1 42 = .ok (.invokevirtual 107, 3) := by decide +kernel
theorem d_RE_readBraces_45 : decode m_RE_readBraces.2.1 45 = .ok (.aload_n 1, 1) := by decide +kernel
theorem d_RE_readBraces_46 : decode m_RE_readBraces.2.1 46 = .ok (.iload_n 2, 1) := by decide +kernel
theorem d_RE_readBraces_47 : decode m_RE_readBraces.2.1 47 = .ok (.iload_n 3, 1) := by decide +kernel
theorem d_RE_readBraces_48 : decode m_RE_readBraces.2.1 48 = .ok (.invokevirtual 90, 3) := by decide +kernel
theorem d_RE_readBraces_51 : decode m_RE_readBraces.2.1 51 = .ok (.return_, 1) := by decide +kernel
theorem d_RE_readDigit_0 : decode m_RE_readDigit.2.1 0 = .ok (.aload_n 0, 1) := by decide +kernel
theorem d_RE_readDigit_1 : decode m_RE_readDigit.2.1 1 = .ok (.invokevirtual 53, 3) := by decide +kernel
theorem d_RE_readDigit_4 : decode m_RE_readDigit.2.1 4 = .ok (.bipush 48, 2) := by decide +kernel
theorem d_RE_readDigit_6 : decode m_RE_readDigit.2.1 6 = .ok (.isub, 1) := by decide +kernel
theorem d_RE_readDigit_7 : decode m_RE_readDigit.2.1 7 = .ok (.istore_n 2, 1) := by decide +kernel
theorem d_RE_readDigit_8 : decode m_RE_readDigit.2.1 8 = .ok (.iload_n 2, 1) := by decide +kernel
theorem d_RE_readDigit_9 : decode m_RE_readDigit.2.1 9 = .ok (.iload_n 1, 1) := by decide +kernel
theorem d_RE_readDigit_10 : decode m_RE_readDigit.2.1 10 = .ok (.if_icmp .lt 9, 3) := by decide +kernel
theorem d_RE_readDigit_13 : decode m_RE_readDigit.2.1 13 = .ok (.iload_n 2, 1) := by decide +kernel
theorem d_RE_readDigit_14 : decode m_RE_readDigit.2.1 14 = .ok (.bipush 6, 2) := by decide +kernel
theorem d_RE_readDigit_16 : decode m_RE_readDigit.2.1 16 = .ok (.if_icmp .le 10, 3) := by decide +kernel
theorem d_RE_readDigit_19 : decode m_RE_readDigit.2.1 19 = .ok (.aload_n 0, 1) := by decide +kernel
theorem d_RE_readDigit_20 : decode m_RE_readDigit.2.1 20 = .ok (.iconst 1, 1) := by decide +kernel
theorem d_RE_readDigit_21 : decode m_RE_readDigit.2.1 21 = .ok (.putfield 15, 3) := by decide +kernel
theorem d_RE_readDigit_24 : decode m_RE_readDigit.2.1 24 = .ok (.iload_n 1, 1) := by decide +kernel
theorem d_RE_readDigit_25 : decode m_RE_readDigit.2.1 25 = .ok (.ireturn, 1) := by decide +kernel
theorem d_RE_readDigit_26 : decode m_RE_readDigit.2.1 26 = .ok (.aload_n 0, 1) := by decide +kernel
theorem d_RE_readDigit_27 : decode m_RE_readDigit.2.1 27 = .ok (.dup, 1) := by decide +kernel
theorem d_RE_readDigit_28 : decode m_RE_readDigit.2.1 28 = .ok (.getfield 19, 3) := by decide +kernel
theorem d_RE_readDigit_31 : decode m_RE_readDigit.2.1 31 = .ok (.iconst 1, 1) := by decide +kernel
theorem d_RE_readDigit_32 : decode m_RE_readDigit.2.1 32 = .ok (.iadd, 1) := by decide +kernel
theorem d_RE_readDigit_33 : decode m_RE_readDigit.2.1 33 = .ok (.putfield 19, 3) := by decide +kernel
theorem d_RE_readDigit_36 : decode m_RE_readDigit.2.1 36 = .ok (.iload_n 2, 1) := by decide +kernel
theorem d_RE_readDigit_37 : decode m_RE_readDigit.2.1 37 = .ok (.ireturn, 1) := by decide +kernel
theorem d_RE_faultPlace_0 : decode m_RE_faultPlace.2.1 0 = .ok (.aload_n 0, 1) := by decide +kernel
theorem d_RE_faultPlace_1 : decode m_RE_faultPlace.2.1 1 = .ok (.getfield 15, 3) := by decide +kernel
theorem d_RE_faultPlace_4 : decode m_RE_faultPlace.2.1 4 = .ok (.ifCond .ne 17, 3) := by decide +kernel
theorem d_RE_faultPlace_7 : decode m_RE_faultPlace.2.1 7 = .ok (.aload_n 0, 1) := by decide +kernel
theorem d_RE_faultPlace_8 : decode m_RE_faultPlace.2.1 8 = .ok (.getfield 19, 3) := by decide +kernel
theorem d_RE_faultPlace_11 : decode m_RE_faultPlace.2.1 11 = .ok (.aload_n 0, 1) := by decide +kernel
theorem d_RE_faultPlace_12 : decode m_RE_faultPlace.2.1 12 = .ok (.getfield 9, 3) := by decide +kernel
theorem d_RE_faultPlace_15 : decode m_RE_faultPlace.2.1 15 = .ok (.invokevirtual 23, 3) := by decide +kernel
theorem d_RE_faultPlace_18 : decode m_RE_faultPlace.2.1 18 = .ok (.if_icmp .ge 10, 3) := by decide +kernel
theorem d_RE_faultPlace_21 : decode m_RE_faultPlace.2.1 21 = .ok (.aload_n 0, 1) := by decide +kernel
theorem d_RE_faultPlace_22 : decode m_RE_faultPlace.2.1 22 = .ok (.getfield 19, 3) := by decide +kernel
theorem d_RE_faultPlace_25 : decode m_RE_faultPlace.2.1 25 = .ok (.goto 5, 3) := by decide +kernel
theorem d_RE_faultPlace_28 : decode m_RE_faultPlace.2.1 28 = .ok (.bipush (-2), 2) := by decide +kernel
theorem d_RE_faultPlace_30 : decode m_RE_faultPlace.2.1 30 = .ok (.ireturn, 1) := by decide +kernel
theorem d_RE_isEndless_0 : decode m_RE_isEndless.2.1 0 = .ok (.aload_n 0, 1) := by decide +kernel
theorem d_RE_isEndless_1 : decode m_RE_isEndless.2.1 1 = .ok (.getfield 29, 3) := by decide +kernel
theorem d_RE_isEndless_4 : decode m_RE_isEndless.2.1 4 = .ok (.ireturn, 1) := by decide +kernel
theorem d_MA_load_0 : decode m_MA_load.2.1 0 = .ok (.aload_n 0, 1) := by decide +kernel
theorem d_MA_load_1 : decode m_MA_load.2.1 1 = .ok (.getfield 12, 3) := by decide +kernel
theorem d_MA_load_4 : decode m_MA_load.2.1 4 = .ok (.aload_n 1, 1) := by decide +kernel
theorem d_MA_load_5 : decode m_MA_load.2.1 5 = .ok (.invokevirtual 25, 3) := by decide +kernel
theorem d_MA_load_8 : decode m_MA_load.2.1 8 = .ok (.return_, 1) := by decide +kernel
theorem d_PR_build_0 : decode m_PR_build.2.1 0 = .ok (.aload_n 0, 1) := by decide +kernel
theorem d_PR_build_1 : decode m_PR_build.2.1 1 = .ok (.iconst 0, 1) := by decide +kernel
theorem d_PR_build_2 : decode m_PR_build.2.1 2 = .ok (.putfield 31, 3) := by decide +kernel
theorem d_PR_build_5 : decode m_PR_build.2.1 5 = .ok (.aload_n 0, 1) := by decide +kernel
theorem d_PR_build_6 : decode m_PR_build.2.1 6 = .ok (.iconst 0, 1) := by decide +kernel
theorem d_PR_build_7 : decode m_PR_build.2.1 7 = .ok (.iconst 0, 1) := by decide +kernel
theorem d_PR_build_8 : decode m_PR_build.2.1 8 = .ok (.invokevirtual 35, 3) := by decide +kernel
theorem d_PR_build_11 : decode m_PR_build.2.1 11 = .ok (.istore_n 2, 1) := by decide +kernel
theorem d_PR_build_12 : decode m_PR_build.2.1 12 = .ok (.aload_n 0, 1) := by decide +kernel
theorem d_PR_build_13 : decode m_PR_build.2.1 13 = .ok (.aload_n 0, 1) := by decide +kernel
theorem d_PR_build_14 : decode m_PR_build.2.1 14 = .ok (.aload_n 1, 1) := by decide +kernel
theorem d_PR_build_15 : decode m_PR_build.2.1 15 = .ok (.iload_n 2, 1) := by decide +kernel
theorem d_PR_build_16 : decode m_PR_build.2.1 16 = .ok (.iconst 0, 1) := by decide +kernel
theorem d_PR_build_17 : decode m_PR_build.2.1 17 = .ok (.invokevirtual 39, 3) := by decide +kernel
theorem d_PR_build_20 : decode m_PR_build.2.1 20 = .ok (.putfield 43, 3) := by decide +kernel
theorem d_PR_build_23 : decode m_PR_build.2.1 23 = .ok (.return_, 1) := by decide +kernel
theorem d_PR_addStep_0 : decode m_PR_addStep.2.1 0 = .ok (.aload_n 0, 1) := by decide +kernel
theorem d_PR_addStep_1 : decode m_PR_addStep.2.1 1 = .ok (.getfield 31, 3) := by decide +kernel
theorem d_PR_addStep_4 : decode m_PR_addStep.2.1 4 = .ok (.bipush 120, 2) := by decide +kernel
theorem d_PR_addStep_6 : decode m_PR_addStep.2.1 6 = .ok (.invokestatic 134, 3) := by decide +kernel
theorem d_PR_addStep_9 : decode m_PR_addStep.2.1 9 = .ok (.istore_n 3, 1) := by decide +kernel
theorem d_PR_addStep_10 : decode m_PR_addStep.2.1 10 = .ok (.aload_n 0, 1) := by decide +kernel
theorem d_PR_addStep_11 : decode m_PR_addStep.2.1 11 = .ok (.getfield 11, 3) := by decide +kernel
theorem d_PR_addStep_14 : decode m_PR_addStep.2.1 14 = .ok (.iload_n 3, 1) := by decide +kernel
theorem d_PR_addStep_15 : decode m_PR_addStep.2.1 15 = .ok (.iload_n 1, 1) := by decide +kernel
theorem d_PR_addStep_16 : decode m_PR_addStep.2.1 16 = .ok (.iastore, 1) := by decide +kernel
theorem d_PR_addStep_17 : decode m_PR_addStep.2.1 17 = .ok (.aload_n 0, 1) := by decide +kernel
theorem d_PR_addStep_18 : decode m_PR_addStep.2.1 18 = .ok (.getfield 15, 3) := by decide +kernel
theorem d_PR_addStep_21 : decode m_PR_addStep.2.1 21 = .ok (.iload_n 3, 1) := by decide +kernel
theorem d_PR_addStep_22 : decode m_PR_addStep.2.1 22 = .ok (.iload_n 2, 1) := by decide +kernel
theorem d_PR_addStep_23 : decode m_PR_addStep.2.1 23 = .ok (.iastore, 1) := by decide +kernel
theorem d_PR_addStep_24 : decode m_PR_addStep.2.1 24 = .ok (.aload_n 0, 1) := by decide +kernel
theorem d_PR_addStep_25 : decode m_PR_addStep.2.1 25 = .ok (.iload_n 3, 1) := by decide +kernel
theorem d_PR_addStep_26 : decode m_PR_addStep.2.1 26 = .ok (.iconst 1, 1) := by decide +kernel
theorem d_PR_addStep_27 : decode m_PR_addStep.2.1 27 = .ok (.iadd, 1) := by decide +kernel
theorem d_PR_addStep_28 : decode m_PR_addStep.2.1 28 = .ok (.putfield 31, 3) := by decide +kernel
theorem d_PR_addStep_31 : decode m_PR_addStep.2.1 31 = .ok (.iload_n 3, 1) := by decide +kernel
theorem d_PR_addStep_32 : decode m_PR_addStep.2.1 32 = .ok (.ireturn, 1) := by decide +kernel
theorem d_PR_addChoice_0 : decode m_PR_addChoice.2.1 0 = .ok (.iload_n 2, 1) := by decide +kernel
theorem d_PR_addChoice_1 : decode m_PR_addChoice.2.1 1 = .ok (.istore 4, 2) := by decide +kernel
theorem d_PR_addChoice_3 : decode m_PR_addChoice.2.1 3 = .ok (.aload_n 1, 1) := by decide +kernel
theorem d_PR_addChoice_4 : decode m_PR_addChoice.2.1 4 = .ok (.getfield 46, 3) := by decide +kernel
theorem d_PR_addChoice_7 : decode m_PR_addChoice.2.1 7 = .ok (.astore 5, 2) := by decide +kernel
theorem d_PR_addChoice_9 : decode m_PR_addChoice.2.1 9 = .ok (.aload 5, 2) := by decide +kernel
theorem d_PR_addChoice_11 : decode m_PR_addChoice.2.1 11 = .ok (.ifnull 47, 3) := by decide +kernel
theorem d_PR_addChoice_14 : decode m_PR_addChoice.2.1 14 = .ok (.aload_n 0, 1) := by decide +kernel
theorem d_PR_addChoice_15 : decode m_PR_addChoice.2.1 15 = .ok (.aload 5, 2) := by decide +kernel
theorem d_PR_addChoice_17 : decode m_PR_addChoice.2.1 17 = .ok (.iload_n 2, 1) := by decide +kernel
theorem d_PR_addChoice_18 : decode m_PR_addChoice.2.1 18 = .ok (.iload_n 3, 1) := by decide +kernel
theorem d_PR_addChoice_19 : decode m_PR_addChoice.2.1 19 = .ok (.invokevirtual 52, 3) := by decide +kernel
theorem d_PR_addChoice_22 : decode m_PR_addChoice.2.1 22 = .ok (.istore 6, 2) := by decide +kernel
theorem d_PR_addChoice_24 : decode m_PR_addChoice.2.1 24 = .ok (.aload 5, 2) := by decide +kernel
theorem d_PR_addChoice_26 : decode m_PR_addChoice.2.1 26 = .ok (.aload_n 1, 1) := by decide +kernel
theorem d_PR_addChoice_27 : decode m_PR_addChoice.2.1 27 = .ok (.getfield 46, 3) := by decide +kernel
theorem d_PR_addChoice_30 : decode m_PR_addChoice.2.1 30 = .ok (.if_acmp .ne 8, 3) := by decide +kernel
theorem d_PR_addChoice_33 : decode m_PR_addChoice.2.1 33 = .ok (.iload 6, 2) := by decide +kernel
theorem d_PR_addChoice_35 : decode m_PR_addChoice.2.1 35 = .ok (.goto 11, 3) := by decide +kernel
theorem d_PR_addChoice_38 : decode m_PR_addChoice.2.1 38 = .ok (.aload_n 0, 1) := by decide +kernel
theorem d_PR_addChoice_39 : decode m_PR_addChoice.2.1 39 = .ok (.iload 6, 2) := by decide +kernel
theorem d_PR_addChoice_41 : decode m_PR_addChoice.2.1 41 = .ok (.iload 4, 2) := by decide +kernel
theorem d_PR_addChoice_43 : decode m_PR_addChoice.2.1 43 = .ok (.invokevirtual 56, 3) := by decide +kernel
theorem d_PR_addChoice_46 : decode m_PR_addChoice.2.1 46 = .ok (.istore 4, 2) := by decide +kernel
theorem d_PR_addChoice_48 : decode m_PR_addChoice.2.1 48 = .ok (.aload 5, 2) := by decide +kernel
theorem d_PR_addChoice_50 : decode m_PR_addChoice.2.1 50 = .ok (.getfield 59, 3) := by decide +kernel
theorem d_PR_addChoice_53 : decode m_PR_addChoice.2.1 53 = .ok (.astore 5, 2) := by decide +kernel
theorem d_PR_addChoice_55 : decode m_PR_addChoice.2.1 55 = .ok (.goto (-46), 3) := by decide +kernel
theorem d_PR_addChoice_58 : decode m_PR_addChoice.2.1 58 = .ok (.iload 4, 2) := by decide +kernel
theorem d_PR_addChoice_60 : decode m_PR_addChoice.2.1 60 = .ok (.ireturn, 1) := by decide +kernel
theorem d_PR_addRow_0 : decode m_PR_addRow.2.1 0 = .ok (.iload_n 2, 1) := by decide +kernel
theorem d_PR_addRow_1 : decode m_PR_addRow.2.1 1 = .ok (.istore 4, 2) := by decide +kernel
theorem d_PR_addRow_3 : decode m_PR_addRow.2.1 3 = .ok (.aload_n 1, 1) := by decide +kernel
theorem d_PR_addRow_4 : decode m_PR_addRow.2.1 4 = .ok (.getfield 64, 3) := by decide +kernel
theorem d_PR_addRow_7 : decode m_PR_addRow.2.1 7 = .ok (.astore 5, 2) := by decide +kernel
theorem d_PR_addRow_9 : decode m_PR_addRow.2.1 9 = .ok (.aload 5, 2) := by decide +kernel
theorem d_PR_addRow_11 : decode m_PR_addRow.2.1 11 = .ok (.ifnull 44, 3) := by decide +kernel
theorem d_PR_addRow_14 : decode m_PR_addRow.2.1 14 = .ok (.aload 5, 2) := by decide +kernel
theorem d_PR_addRow_16 : decode m_PR_addRow.2.1 16 = .ok (.getfield 68, 3) := by decide +kernel
theorem d_PR_addRow_19 : decode m_PR_addRow.2.1 19 = .ok (.ifCond .eq 15, 3) := by decide +kernel
theorem d_PR_addRow_22 : decode m_PR_addRow.2.1 22 = .ok (.aload_n 0, 1) := by decide +kernel
theorem d_PR_addRow_23 : decode m_PR_addRow.2.1 23 = .ok (.aload 5, 2) := by decide +kernel
theorem d_PR_addRow_25 : decode m_PR_addRow.2.1 25 = .ok (.iload 4, 2) := by decide +kernel
theorem d_PR_addRow_27 : decode m_PR_addRow.2.1 27 = .ok (.iload_n 3, 1) := by decide +kernel
theorem d_PR_addRow_28 : decode m_PR_addRow.2.1 28 = .ok (.invokevirtual 74, 3) := by decide +kernel
theorem d_PR_addRow_31 : decode m_PR_addRow.2.1 31 = .ok (.goto 12, 3) := by decide +kernel
theorem d_PR_addRow_34 : decode m_PR_addRow.2.1 34 = .ok (.aload_n 0, 1) := by decide +kernel
theorem d_PR_addRow_35 : decode m_PR_addRow.2.1 35 = .ok (.aload 5, 2) := by decide +kernel
theorem d_PR_addRow_37 : decode m_PR_addRow.2.1 37 = .ok (.iload 4, 2) := by decide +kernel
theorem d_PR_addRow_39 : decode m_PR_addRow.2.1 39 = .ok (.iload_n 3, 1) := by decide +kernel
theorem d_PR_addRow_40 : decode m_PR_addRow.2.1 40 = .ok (.invokevirtual 78, 3) := by decide +kernel
theorem d_PR_addRow_43 : decode m_PR_addRow.2.1 43 = .ok (.istore 4, 2) := by decide +kernel
theorem d_PR_addRow_45 : decode m_PR_addRow.2.1 45 = .ok (.aload 5, 2) := by decide +kernel
theorem d_PR_addRow_47 : decode m_PR_addRow.2.1 47 = .ok (.getfield 81, 3) := by decide +kernel
theorem d_PR_addRow_50 : decode m_PR_addRow.2.1 50 = .ok (.astore 5, 2) := by decide +kernel
theorem d_PR_addRow_52 : decode m_PR_addRow.2.1 52 = .ok (.goto (-43), 3) := by decide +kernel
theorem d_PR_addRow_55 : decode m_PR_addRow.2.1 55 = .ok (.iload 4, 2) := by decide +kernel
theorem d_PR_addRow_57 : decode m_PR_addRow.2.1 57 = .ok (.ireturn, 1) := by decide +kernel
theorem d_PR_addLoop_0 : decode m_PR_addLoop.2.1 0 = .ok (.aload_n 0, 1) := by decide +kernel
theorem d_PR_addLoop_1 : decode m_PR_addLoop.2.1 1 = .ok (.iload_n 2, 1) := by decide +kernel
theorem d_PR_addLoop_2 : decode m_PR_addLoop.2.1 2 = .ok (.iload_n 2, 1) := by decide +kernel
theorem d_PR_addLoop_3 : decode m_PR_addLoop.2.1 3 = .ok (.invokevirtual 56, 3) := by decide +kernel
theorem d_PR_addLoop_6 : decode m_PR_addLoop.2.1 6 = .ok (.istore 4, 2) := by decide +kernel
theorem d_PR_addLoop_8 : decode m_PR_addLoop.2.1 8 = .ok (.aload_n 0, 1) := by decide +kernel
theorem d_PR_addLoop_9 : decode m_PR_addLoop.2.1 9 = .ok (.aload_n 1, 1) := by decide +kernel
theorem d_PR_addLoop_10 : decode m_PR_addLoop.2.1 10 = .ok (.getfield 83, 3) := by decide +kernel
theorem d_PR_addLoop_13 : decode m_PR_addLoop.2.1 13 = .ok (.iload 4, 2) := by decide +kernel
theorem d_PR_addLoop_15 : decode m_PR_addLoop.2.1 15 = .ok (.iload_n 3, 1) := by decide +kernel
theorem d_PR_addLoop_16 : decode m_PR_addLoop.2.1 16 = .ok (.invokevirtual 87, 3) := by decide +kernel
theorem d_PR_addLoop_19 : decode m_PR_addLoop.2.1 19 = .ok (.istore 5, 2) := by decide +kernel
theorem d_PR_addLoop_21 : decode m_PR_addLoop.2.1 21 = .ok (.aload_n 1, 1) := by decide +kernel
theorem d_PR_addLoop_22 : decode m_PR_addLoop.2.1 22 = .ok (.getfield 91, 3) := by decide +kernel
theorem d_PR_addLoop_25 : decode m_PR_addLoop.2.1 25 = .ok (.ifCond .eq 15, 3) := by decide +kernel
theorem d_PR_addLoop_28 : decode m_PR_addLoop.2.1 28 = .ok (.aload_n 0, 1) := by decide +kernel
theorem d_PR_addLoop_29 : decode m_PR_addLoop.2.1 29 = .ok (.getfield 18, 3) := by decide +kernel
theorem d_PR_addLoop_32 : decode m_PR_addLoop.2.1 32 = .ok (.iload 4, 2) := by decide +kernel
theorem d_PR_addLoop_34 : decode m_PR_addLoop.2.1 34 = .ok (.iload 5, 2) := by decide +kernel
theorem d_PR_addLoop_36 : decode m_PR_addLoop.2.1 36 = .ok (.iastore, 1) := by decide +kernel
theorem d_PR_addLoop_37 : decode m_PR_addLoop.2.1 37 = .ok (.goto 12, 3) := by decide +kernel
theorem d_PR_addLoop_40 : decode m_PR_addLoop.2.1 40 = .ok (.aload_n 0, 1) := by decide +kernel
theorem d_PR_addLoop_41 : decode m_PR_addLoop.2.1 41 = .ok (.getfield 15, 3) := by decide +kernel
theorem d_PR_addLoop_44 : decode m_PR_addLoop.2.1 44 = .ok (.iload 4, 2) := by decide +kernel
theorem d_PR_addLoop_46 : decode m_PR_addLoop.2.1 46 = .ok (.iload 5, 2) := by decide +kernel
theorem d_PR_addLoop_48 : decode m_PR_addLoop.2.1 48 = .ok (.iastore, 1) := by decide +kernel
theorem d_PR_addLoop_49 : decode m_PR_addLoop.2.1 49 = .ok (.aload_n 1, 1) := by decide +kernel
theorem d_PR_addLoop_50 : decode m_PR_addLoop.2.1 50 = .ok (.getfield 94, 3) := by decide +kernel
theorem d_PR_addLoop_53 : decode m_PR_addLoop.2.1 53 = .ok (.ifCond .ne 8, 3) := by decide +kernel
theorem d_PR_addLoop_56 : decode m_PR_addLoop.2.1 56 = .ok (.iload 4, 2) := by decide +kernel
theorem d_PR_addLoop_58 : decode m_PR_addLoop.2.1 58 = .ok (.goto 5, 3) := by decide +kernel
theorem d_PR_addLoop_61 : decode m_PR_addLoop.2.1 61 = .ok (.iload 5, 2) := by decide +kernel
theorem d_PR_addLoop_63 : decode m_PR_addLoop.2.1 63 = .ok (.ireturn, 1) := by decide +kernel
theorem d_PR_addFork_0 : decode m_PR_addFork.2.1 0 = .ok (.aload_n 0, 1) := by decide +kernel
theorem d_PR_addFork_1 : decode m_PR_addFork.2.1 1 = .ok (.iconst 5, 1) := by decide +kernel
theorem d_PR_addFork_2 : decode m_PR_addFork.2.1 2 = .ok (.iload_n 1, 1) := by decide +kernel
theorem d_PR_addFork_3 : decode m_PR_addFork.2.1 3 = .ok (.invokevirtual 35, 3) := by decide +kernel
theorem d_PR_addFork_6 : decode m_PR_addFork.2.1 6 = .ok (.istore_n 3, 1) := by decide +kernel
theorem d_PR_addFork_7 : decode m_PR_addFork.2.1 7 = .ok (.aload_n 0, 1) := by decide +kernel
theorem d_PR_addFork_8 : decode m_PR_addFork.2.1 8 = .ok (.getfield 18, 3) := by decide +kernel
theorem d_PR_addFork_11 : decode m_PR_addFork.2.1 11 = .ok (.iload_n 3, 1) := by decide +kernel
theorem d_PR_addFork_12 : decode m_PR_addFork.2.1 12 = .ok (.iload_n 2, 1) := by decide +kernel
theorem d_PR_addFork_13 : decode m_PR_addFork.2.1 13 = .ok (.iastore, 1) := by decide +kernel
theorem d_PR_addFork_14 : decode m_PR_addFork.2.1 14 = .ok (.iload_n 3, 1) := by decide +kernel
theorem d_PR_addFork_15 : decode m_PR_addFork.2.1 15 = .ok (.ireturn, 1) := by decide +kernel
theorem d_PR_addAtom_0 : decode m_PR_addAtom.2.1 0 = .ok (.aload_n 1, 1) := by decide +kernel
theorem d_PR_addAtom_1 : decode m_PR_addAtom.2.1 1 = .ok (.getfield 100, 3) := by decide +kernel
theorem d_PR_addAtom_4 : decode m_PR_addAtom.2.1 4 = .ok (.ifnull 11, 3) := by decide +kernel
theorem d_PR_addAtom_7 : decode m_PR_addAtom.2.1 7 = .ok (.aload_n 0, 1) := by decide +kernel
theorem d_PR_addAtom_8 : decode m_PR_addAtom.2.1 8 = .ok (.aload_n 1, 1) := by decide +kernel
theorem d_PR_addAtom_9 : decode m_PR_addAtom.2.1 9 = .ok (.iload_n 2, 1) := by decide +kernel
theorem d_PR_addAtom_10 : decode m_PR_addAtom.2.1 10 = .ok (.iload_n 3, 1) := by decide +kernel
theorem d_PR_addAtom_11 : decode m_PR_addAtom.2.1 11 = .ok (.invokevirtual 106, 3) := by decide +kernel
theorem d_PR_addAtom_14 : decode m_PR_addAtom.2.1 14 = .ok (.ireturn, 1) := by decide +kernel
theorem d_PR_addAtom_15 : decode m_PR_addAtom.2.1 15 = .ok (.aload_n 0, 1) := by decide +kernel
theorem d_PR_addAtom_16 : decode m_PR_addAtom.2.1 16 = .ok (.aload_n 1, 1) := by decide +kernel
theorem d_PR_addAtom_17 : decode m_PR_addAtom.2.1 17 = .ok (.getfield 109, 3) := by decide +kernel
theorem d_PR_addAtom_20 : decode m_PR_addAtom.2.1 20 = .ok (.iload_n 2, 1) := by decide +kernel
theorem d_PR_addAtom_21 : decode m_PR_addAtom.2.1 21 = .ok (.invokevirtual 35, 3) := by decide +kernel
theorem d_PR_addAtom_24 : decode m_PR_addAtom.2.1 24 = .ok (.istore 4, 2) := by decide +kernel
theorem d_PR_addAtom_26 : decode m_PR_addAtom.2.1 26 = .ok (.aload_n 0, 1) := by decide +kernel
theorem d_PR_addAtom_27 : decode m_PR_addAtom.2.1 27 = .ok (.getfield 24, 3) := by decide +kernel
theorem d_PR_addAtom_30 : decode m_PR_addAtom.2.1 30 = .ok (.iload 4, 2) := by decide +kernel
theorem d_PR_addAtom_32 : decode m_PR_addAtom.2.1 32 = .ok (.aload_n 1, 1) := by decide +kernel
theorem d_PR_addAtom_33 : decode m_PR_addAtom.2.1 33 = .ok (.getfield 112, 3) := by decide +kernel
theorem d_PR_addAtom_36 : decode m_PR_addAtom.2.1 36 = .ok (.lastore, 1) := by decide +kernel
theorem d_PR_addAtom_37 : decode m_PR_addAtom.2.1 37 = .ok (.aload_n 0, 1) := by decide +kernel
theorem d_PR_addAtom_38 : decode m_PR_addAtom.2.1 38 = .ok (.getfield 28, 3) := by decide +kernel
theorem d_PR_addAtom_41 : decode m_PR_addAtom.2.1 41 = .ok (.iload 4, 2) := by decide +kernel
theorem d_PR_addAtom_43 : decode m_PR_addAtom.2.1 43 = .ok (.aload_n 1, 1) := by decide +kernel
theorem d_PR_addAtom_44 : decode m_PR_addAtom.2.1 44 = .ok (.getfield 116, 3) := by decide +kernel
theorem d_PR_addAtom_47 : decode m_PR_addAtom.2.1 47 = .ok (.lastore, 1) := by decide +kernel
theorem d_PR_addAtom_48 : decode m_PR_addAtom.2.1 48 = .ok (.iload 4, 2) := by decide +kernel
theorem d_PR_addAtom_50 : decode m_PR_addAtom.2.1 50 = .ok (.ireturn, 1) := by decide +kernel
theorem d_PR_addGroup_0 : decode m_PR_addGroup.2.1 0 = .ok (.iload_n 3, 1) := by decide +kernel
theorem d_PR_addGroup_1 : decode m_PR_addGroup.2.1 1 = .ok (.bipush 6, 2) := by decide +kernel
theorem d_PR_addGroup_3 : decode m_PR_addGroup.2.1 3 = .ok (.if_icmp .lt 5, 3) := by decide +kernel
theorem d_PR_addGroup_6 : decode m_PR_addGroup.2.1 6 = .ok (.iload_n 2, 1) := by decide +kernel
theorem d_PR_addGroup_7 : decode m_PR_addGroup.2.1 7 = .ok (.ireturn, 1) := by decide +kernel
theorem d_PR_addGroup_8 : decode m_PR_addGroup.2.1 8 = .ok (.aload_n 0, 1) := by decide +kernel
theorem d_PR_addGroup_9 : decode m_PR_addGroup.2.1 9 = .ok (.aload_n 1, 1) := by decide +kernel
theorem d_PR_addGroup_10 : decode m_PR_addGroup.2.1 10 = .ok (.getfield 119, 3) := by decide +kernel
theorem d_PR_addGroup_13 : decode m_PR_addGroup.2.1 13 = .ok (.invokestatic 122, 3) := by decide +kernel
theorem d_PR_addGroup_16 : decode m_PR_addGroup.2.1 16 = .ok (.iload_n 2, 1) := by decide +kernel
theorem d_PR_addGroup_17 : decode m_PR_addGroup.2.1 17 = .ok (.invokevirtual 128, 3) := by decide +kernel
theorem d_PR_addGroup_20 : decode m_PR_addGroup.2.1 20 = .ok (.istore 4, 2) := by decide +kernel
theorem d_PR_addGroup_22 : decode m_PR_addGroup.2.1 22 = .ok (.aload_n 0, 1) := by decide +kernel
theorem d_PR_addGroup_23 : decode m_PR_addGroup.2.1 23 = .ok (.aload_n 1, 1) := by decide +kernel
theorem d_PR_addGroup_24 : decode m_PR_addGroup.2.1 24 = .ok (.getfield 100, 3) := by decide +kernel
theorem d_PR_addGroup_27 : decode m_PR_addGroup.2.1 27 = .ok (.iload 4, 2) := by decide +kernel
theorem d_PR_addGroup_29 : decode m_PR_addGroup.2.1 29 = .ok (.iload_n 3, 1) := by decide +kernel
theorem d_PR_addGroup_30 : decode m_PR_addGroup.2.1 30 = .ok (.iconst 1, 1) := by decide +kernel
theorem d_PR_addGroup_31 : decode m_PR_addGroup.2.1 31 = .ok (.iadd, 1) := by decide +kernel
theorem d_PR_addGroup_32 : decode m_PR_addGroup.2.1 32 = .ok (.invokevirtual 39, 3) := by decide +kernel
theorem d_PR_addGroup_35 : decode m_PR_addGroup.2.1 35 = .ok (.istore 5, 2) := by decide +kernel
theorem d_PR_addGroup_37 : decode m_PR_addGroup.2.1 37 = .ok (.aload_n 0, 1) := by decide +kernel
theorem d_PR_addGroup_38 : decode m_PR_addGroup.2.1 38 = .ok (.aload_n 1, 1) := by decide +kernel
theorem d_PR_addGroup_39 : decode m_PR_addGroup.2.1 39 = .ok (.getfield 119, 3) := by decide +kernel
theorem d_PR_addGroup_42 : decode m_PR_addGroup.2.1 42 = .ok (.invokestatic 131, 3) := by decide +kernel
theorem d_PR_addGroup_45 : decode m_PR_addGroup.2.1 45 = .ok (.iload 5, 2) := by decide +kernel
theorem d_PR_addGroup_47 : decode m_PR_addGroup.2.1 47 = .ok (.invokevirtual 128, 3) := by decide +kernel
theorem d_PR_addGroup_50 : decode m_PR_addGroup.2.1 50 = .ok (.ireturn, 1) := by decide +kernel
theorem d_PR_addMark_0 : decode m_PR_addMark.2.1 0 = .ok (.aload_n 0, 1) := by decide +kernel
theorem d_PR_addMark_1 : decode m_PR_addMark.2.1 1 = .ok (.iconst 4, 1) := by decide +kernel
theorem d_PR_addMark_2 : decode m_PR_addMark.2.1 2 = .ok (.iload_n 2, 1) := by decide +kernel
theorem d_PR_addMark_3 : decode m_PR_addMark.2.1 3 = .ok (.invokevirtual 35, 3) := by decide +kernel
theorem d_PR_addMark_6 : decode m_PR_addMark.2.1 6 = .ok (.istore_n 3, 1) := by decide +kernel
theorem d_PR_addMark_7 : decode m_PR_addMark.2.1 7 = .ok (.aload_n 0, 1) := by decide +kernel
theorem d_PR_addMark_8 : decode m_PR_addMark.2.1 8 = .ok (.getfield 21, 3) := by decide +kernel
theorem d_PR_addMark_11 : decode m_PR_addMark.2.1 11 = .ok (.iload_n 3, 1) := by decide +kernel
theorem d_PR_addMark_12 : decode m_PR_addMark.2.1 12 = .ok (.iload_n 1, 1) := by decide +kernel
theorem d_PR_addMark_13 : decode m_PR_addMark.2.1 13 = .ok (.iastore, 1) := by decide +kernel
theorem d_PR_addMark_14 : decode m_PR_addMark.2.1 14 = .ok (.iload_n 3, 1) := by decide +kernel
theorem d_PR_addMark_15 : decode m_PR_addMark.2.1 15 = .ok (.ireturn, 1) := by decide +kernel
theorem d_PR_addCopies_0 : decode m_PR_addCopies.2.1 0 = .ok (.iload_n 2, 1) := by decide +kernel
theorem d_PR_addCopies_1 : decode m_PR_addCopies.2.1 1 = .ok (.istore 4, 2) := by decide +kernel
theorem d_PR_addCopies_3 : decode m_PR_addCopies.2.1 3 = .ok (.aload_n 1, 1) := by decide +kernel
theorem d_PR_addCopies_4 : decode m_PR_addCopies.2.1 4 = .ok (.getfield 94, 3) := by decide +kernel
theorem d_PR_addCopies_7 : decode m_PR_addCopies.2.1 7 = .ok (.istore 5, 2) := by decide +kernel
theorem d_PR_addCopies_9 : decode m_PR_addCopies.2.1 9 = .ok (.iload 5, 2) := by decide +kernel
theorem d_PR_addCopies_11 : decode m_PR_addCopies.2.1 11 = .ok (.aload_n 1, 1) := by decide +kernel
theorem d_PR_addCopies_12 : decode m_PR_addCopies.2.1 12 = .ok (.getfield 97, 3) := by decide +kernel
theorem d_PR_addCopies_15 : decode m_PR_addCopies.2.1 15 = .ok (.if_icmp .ge 48, 3) := by decide +kernel
theorem d_PR_addCopies_18 : decode m_PR_addCopies.2.1 18 = .ok (.aload_n 0, 1) := by decide +kernel
theorem d_PR_addCopies_19 : decode m_PR_addCopies.2.1 19 = .ok (.aload_n 1, 1) := by decide +kernel
theorem d_PR_addCopies_20 : decode m_PR_addCopies.2.1 20 = .ok (.getfield 83, 3) := by decide +kernel
theorem d_PR_addCopies_23 : decode m_PR_addCopies.2.1 23 = .ok (.iload 4, 2) := by decide +kernel
theorem d_PR_addCopies_25 : decode m_PR_addCopies.2.1 25 = .ok (.iload_n 3, 1) := by decide +kernel
theorem d_PR_addCopies_26 : decode m_PR_addCopies.2.1 26 = .ok (.invokevirtual 87, 3) := by decide +kernel
theorem d_PR_addCopies_29 : decode m_PR_addCopies.2.1 29 = .ok (.istore 6, 2) := by decide +kernel
theorem d_PR_addCopies_31 : decode m_PR_addCopies.2.1 31 = .ok (.aload_n 1, 1) := by decide +kernel
theorem d_PR_addCopies_32 : decode m_PR_addCopies.2.1 32 = .ok (.getfield 91, 3) := by decide +kernel
theorem d_PR_addCopies_35 : decode m_PR_addCopies.2.1 35 = .ok (.ifCond .eq 13, 3) := by decide +kernel
theorem d_PR_addCopies_38 : decode m_PR_addCopies.2.1 38 = .ok (.aload_n 0, 1) := by decide +kernel
theorem d_PR_addCopies_39 : decode m_PR_addCopies.2.1 39 = .ok (.iload_n 2, 1) := by decide +kernel
theorem d_PR_addCopies_40 : decode m_PR_addCopies.2.1 40 = .ok (.iload 6, 2) := by decide +kernel
theorem d_PR_addCopies_42 : decode m_PR_addCopies.2.1 42 = .ok (.invokevirtual 56, 3) := by decide +kernel
theorem d_PR_addCopies_45 : decode m_PR_addCopies.2.1 45 = .ok (.goto 10, 3) := by decide +kernel
theorem d_PR_addCopies_48 : decode m_PR_addCopies.2.1 48 = .ok (.aload_n 0, 1) := by decide +kernel
theorem d_PR_addCopies_49 : decode m_PR_addCopies.2.1 49 = .ok (.iload 6, 2) := by decide +kernel
theorem d_PR_addCopies_51 : decode m_PR_addCopies.2.1 51 = .ok (.iload_n 2, 1) := by decide +kernel
theorem d_PR_addCopies_52 : decode m_PR_addCopies.2.1 52 = .ok (.invokevirtual 56, 3) := by decide +kernel
theorem d_PR_addCopies_55 : decode m_PR_addCopies.2.1 55 = .ok (.istore 4, 2) := by decide +kernel
theorem d_PR_addCopies_57 : decode m_PR_addCopies.2.1 57 = .ok (.iinc 5 1, 3) := by decide +kernel
theorem d_PR_addCopies_60 : decode m_PR_addCopies.2.1 60 = .ok (.goto (-51), 3) := by decide +kernel
theorem d_PR_addCopies_63 : decode m_PR_addCopies.2.1 63 = .ok (.iconst 0, 1) := by decide +kernel
theorem d_PR_addCopies_64 : decode m_PR_addCopies.2.1 64 = .ok (.istore 5, 2) := by decide +kernel
theorem d_PR_addCopies_66 : decode m_PR_addCopies.2.1 66 = .ok (.iload 5, 2) := by decide +kernel
theorem d_PR_addCopies_68 : decode m_PR_addCopies.2.1 68 = .ok (.aload_n 1, 1) := by decide +kernel
theorem d_PR_addCopies_69 : decode m_PR_addCopies.2.1 69 = .ok (.getfield 94, 3) := by decide +kernel
theorem d_PR_addCopies_72 : decode m_PR_addCopies.2.1 72 = .ok (.if_icmp .ge 22, 3) := by decide +kernel
theorem d_PR_addCopies_75 : decode m_PR_addCopies.2.1 75 = .ok (.aload_n 0, 1) := by decide +kernel
theorem d_PR_addCopies_76 : decode m_PR_addCopies.2.1 76 = .ok (.aload_n 1, 1) := by decide +kernel
theorem d_PR_addCopies_77 : decode m_PR_addCopies.2.1 77 = .ok (.getfield 83, 3) := by decide +kernel
theorem d_PR_addCopies_80 : decode m_PR_addCopies.2.1 80 = .ok (.iload 4, 2) := by decide +kernel
theorem d_PR_addCopies_82 : decode m_PR_addCopies.2.1 82 = .ok (.iload_n 3, 1) := by decide +kernel
theorem d_PR_addCopies_83 : decode m_PR_addCopies.2.1 83 = .ok (.invokevirtual 87, 3) := by decide +kernel
theorem d_PR_addCopies_86 : decode m_PR_addCopies.2.1 86 = .ok (.istore 4, 2) := by decide +kernel
theorem d_PR_addCopies_88 : decode m_PR_addCopies.2.1 88 = .ok (.iinc 5 1, 3) := by decide +kernel
theorem d_PR_addCopies_91 : decode m_PR_addCopies.2.1 91 = .ok (.goto (-25), 3) := by decide +kernel
theorem d_PR_addCopies_94 : decode m_PR_addCopies.2.1 94 = .ok (.iload 4, 2) := by decide +kernel
theorem d_PR_addCopies_96 : decode m_PR_addCopies.2.1 96 = .ok (.ireturn, 1) := by decide +kernel
theorem d_RE_groupCount_0 : decode m_RE_groupCount.2.1 0 = .ok (.aload_n 0, 1) := by decide +kernel
theorem d_RE_groupCount_1 : decode m_RE_groupCount.2.1 1 = .ok (.getfield 32, 3) := by decide +kernel
theorem d_RE_groupCount_4 : decode m_RE_groupCount.2.1 4 = .ok (.ireturn, 1) := by decide +kernel
theorem d_MA_aimAnywhere_0 : decode m_MA_aimAnywhere.2.1 0 = .ok (.aload_n 0, 1) := by decide +kernel
theorem d_MA_aimAnywhere_1 : decode m_MA_aimAnywhere.2.1 1 = .ok (.aload_n 1, 1) := by decide +kernel
theorem d_MA_aimAnywhere_2 : decode m_MA_aimAnywhere.2.1 2 = .ok (.iconst (-1), 1) := by decide +kernel
theorem d_MA_aimAnywhere_3 : decode m_MA_aimAnywhere.2.1 3 = .ok (.invokevirtual 29, 3) := by decide +kernel
theorem d_MA_aimAnywhere_6 : decode m_MA_aimAnywhere.2.1 6 = .ok (.return_, 1) := by decide +kernel
theorem d_MA_aim_0 : decode m_MA_aim.2.1 0 = .ok (.aload_n 0, 1) := by decide +kernel
theorem d_MA_aim_1 : decode m_MA_aim.2.1 1 = .ok (.aload_n 1, 1) := by decide +kernel
theorem d_MA_aim_2 : decode m_MA_aim.2.1 2 = .ok (.invokevirtual 57, 3) := by decide +kernel
theorem d_MA_aim_5 : decode m_MA_aim.2.1 5 = .ok (.putfield 46, 3) := by decide +kernel
theorem d_MA_aim_8 : decode m_MA_aim.2.1 8 = .ok (.iconst 0, 1) := by decide +kernel
theorem d_MA_aim_9 : decode m_MA_aim.2.1 9 = .ok (.istore_n 3, 1) := by decide +kernel
theorem d_MA_aim_10 : decode m_MA_aim.2.1 10 = .ok (.iload_n 3, 1) := by decide +kernel
theorem d_MA_aim_11 : decode m_MA_aim.2.1 11 = .ok (.aload_n 0, 1) := by decide +kernel
theorem d_MA_aim_12 : decode m_MA_aim.2.1 12 = .ok (.getfield 12, 3) := by decide +kernel
theorem d_MA_aim_15 : decode m_MA_aim.2.1 15 = .ok (.getfield 62, 3) := by decide +kernel
theorem d_MA_aim_18 : decode m_MA_aim.2.1 18 = .ok (.if_icmp .ge 45, 3) := by decide +kernel
theorem d_MA_aim_21 : decode m_MA_aim.2.1 21 = .ok (.aload_n 0, 1) := by decide +kernel
theorem d_MA_aim_22 : decode m_MA_aim.2.1 22 = .ok (.getfield 18, 3) := by decide +kernel
theorem d_MA_aim_25 : decode m_MA_aim.2.1 25 = .ok (.iload_n 3, 1) := by decide +kernel
theorem d_MA_aim_26 : decode m_MA_aim.2.1 26 = .ok (.aload_n 0, 1) := by decide +kernel
theorem d_MA_aim_27 : decode m_MA_aim.2.1 27 = .ok (.getfield 12, 3) := by decide +kernel
theorem d_MA_aim_30 : decode m_MA_aim.2.1 30 = .ok (.getfield 65, 3) := by decide +kernel
theorem d_MA_aim_33 : decode m_MA_aim.2.1 33 = .ok (.iload_n 3, 1) := by decide +kernel
theorem d_MA_aim_34 : decode m_MA_aim.2.1 34 = .ok (.iaload, 1) := by decide +kernel
theorem d_MA_aim_35 : decode m_MA_aim.2.1 35 = .ok (.iconst 1, 1) := by decide +kernel
theorem d_MA_aim_36 : decode m_MA_aim.2.1 36 = .ok (.if_icmp .ne 12, 3) := by decide +kernel
theorem d_MA_aim_39 : decode m_MA_aim.2.1 39 = .ok (.aload_n 0, 1) := by decide +kernel
theorem d_MA_aim_40 : decode m_MA_aim.2.1 40 = .ok (.iload_n 3, 1) := by decide +kernel
theorem d_MA_aim_41 : decode m_MA_aim.2.1 41 = .ok (.aload_n 1, 1) := by decide +kernel
theorem d_MA_aim_42 : decode m_MA_aim.2.1 42 = .ok (.invokevirtual 68, 3) := by decide +kernel
theorem d_MA_aim_45 : decode m_MA_aim.2.1 45 = .ok (.goto 4, 3) := by decide +kernel
theorem d_MA_aim_48 : decode m_MA_aim.2.1 48 = .ok (.iconst 0, 1) := by decide +kernel
theorem d_MA_aim_49 : decode m_MA_aim.2.1 49 = .ok (.iastore, 1) := by decide +kernel
theorem d_MA_aim_50 : decode m_MA_aim.2.1 50 = .ok (.aload_n 0, 1) := by decide +kernel
theorem d_MA_aim_51 : decode m_MA_aim.2.1 51 = .ok (.getfield 22, 3) := by decide +kernel
theorem d_MA_aim_54 : decode m_MA_aim.2.1 54 = .ok (.iload_n 3, 1) := by decide +kernel
theorem d_MA_aim_55 : decode m_MA_aim.2.1 55 = .ok (.iconst 0, 1) := by decide +kernel
theorem d_MA_aim_56 : decode m_MA_aim.2.1 56 = .ok (.iastore, 1) := by decide +kernel
theorem d_MA_aim_57 : decode m_MA_aim.2.1 57 = .ok (.iinc 3 1, 3) := by decide +kernel
theorem d_MA_aim_60 : decode m_MA_aim.2.1 60 = .ok (.goto (-50), 3) := by decide +kernel
theorem d_MA_aim_63 : decode m_MA_aim.2.1 63 = .ok (.iconst 1, 1) := by decide +kernel
theorem d_MA_aim_64 : decode m_MA_aim.2.1 64 = .ok (.istore_n 3, 1) := by decide +kernel
theorem d_MA_aim_65 : decode m_MA_aim.2.1 65 = .ok (.iconst 0, 1) := by decide +kernel
theorem d_MA_aim_66 : decode m_MA_aim.2.1 66 = .ok (.istore 4, 2) := by decide +kernel
theorem d_MA_aim_68 : decode m_MA_aim.2.1 68 = .ok (.iload_n 3, 1) := by decide +kernel
theorem d_MA_aim_69 : decode m_MA_aim.2.1 69 = .ok (.ifCond .eq 23, 3) := by decide +kernel
theorem d_MA_aim_72 : decode m_MA_aim.2.1 72 = .ok (.iload 4, 2) := by decide +kernel
theorem d_MA_aim_74 : decode m_MA_aim.2.1 74 = .ok (.sipush 3751, 3) := by decide +kernel
theorem d_MA_aim_77 : decode m_MA_aim.2.1 77 = .ok (.if_icmp .gt 15, 3) := by decide +kernel
theorem d_MA_aim_80 : decode m_MA_aim.2.1 80 = .ok (.aload_n 0, 1) := by decide +kernel
theorem d_MA_aim_81 : decode m_MA_aim.2.1 81 = .ok (.iload_n 2, 1) := by decide +kernel
theorem d_MA_aim_82 : decode m_MA_aim.2.1 82 = .ok (.invokevirtual 72, 3) := by decide +kernel
theorem d_MA_aim_85 : decode m_MA_aim.2.1 85 = .ok (.istore_n 3, 1) := by decide +kernel
theorem d_MA_aim_86 : decode m_MA_aim.2.1 86 = .ok (.iinc 4 1, 3) := by decide +kernel
theorem d_MA_aim_89 : decode m_MA_aim.2.1 89 = .ok (.goto (-21), 3) := by decide +kernel
theorem d_MA_aim_92 : decode m_MA_aim.2.1 92 = .ok (.return_, 1) := by decide +kernel
theorem d_MA_fittingPlaces_0 : decode m_MA_fittingPlaces.2.1 0 = .ok (.iconst 0, 1) := by decide +kernel
theorem d_MA_fittingPlaces_1 : decode m_MA_fittingPlaces.2.1 1 = .ok (.istore_n 3, 1) := by decide +kernel
theorem d_MA_fittingPlaces_2 : decode m_MA_fittingPlaces.2.1 2 = .ok (.iconst 0, 1) := by decide +kernel
theorem d_MA_fittingPlaces_3 : decode m_MA_fittingPlaces.2.1 3 = .ok (.istore 4, 2) := by decide +kernel
theorem d_MA_fittingPlaces_5 : decode m_MA_fittingPlaces.2.1 5 = .ok (.iload 4, 2) := by decide +kernel
theorem d_MA_fittingPlaces_7 : decode m_MA_fittingPlaces.2.1 7 = .ok (.aload_n 0, 1) := by decide +kernel
theorem d_MA_fittingPlaces_8 : decode m_MA_fittingPlaces.2.1 8 = .ok (.getfield 46, 3) := by decide +kernel
theorem d_MA_fittingPlaces_11 : decode m_MA_fittingPlaces.2.1 11 = .ok (.if_icmp .ge 33, 3) := by decide +kernel
theorem d_MA_fittingPlaces_14 : decode m_MA_fittingPlaces.2.1 14 = .ok (.aload_n 0, 1) := by decide +kernel
theorem d_MA_fittingPlaces_15 : decode m_MA_fittingPlaces.2.1 15 = .ok (.getfield 12, 3) := by decide +kernel
theorem d_MA_fittingPlaces_18 : decode m_MA_fittingPlaces.2.1 18 = .ok (.iload_n 1, 1) := by decide +kernel
theorem d_MA_fittingPlaces_19 : decode m_MA_fittingPlaces.2.1 19 = .ok (.aload_n 2, 1) := by decide +kernel
theorem d_MA_fittingPlaces_20 : decode m_MA_fittingPlaces.2.1 20 = .ok (.iload 4, 2) := by decide +kernel
theorem d_MA_fittingPlaces_22 : decode m_MA_fittingPlaces.2.1 22 = .ok (.invokevirtual 75, 3) := by decide +kernel
theorem d_MA_fittingPlaces_25 : decode m_MA_fittingPlaces.2.1 25 = .ok (.invokevirtual 79, 3) := by decide +kernel
theorem d_MA_fittingPlaces_28 : decode m_MA_fittingPlaces.2.1 28 = .ok (.ifCond .eq 10, 3) := by decide +kernel
theorem d_MA_fittingPlaces_31 : decode m_MA_fittingPlaces.2.1 31 = .ok (.iload_n 3, 1) := by decide +kernel
theorem d_MA_fittingPlaces_32 : decode m_MA_fittingPlaces.2.1 32 = .ok (.iconst 1, 1) := by decide +kernel
theorem d_MA_fittingPlaces_33 : decode m_MA_fittingPlaces.2.1 33 = .ok (.iload 4, 2) := by decide +kernel
theorem d_MA_fittingPlaces_35 : decode m_MA_fittingPlaces.2.1 35 = .ok (.ishl, 1) := by decide +kernel
theorem d_MA_fittingPlaces_36 : decode m_MA_fittingPlaces.2.1 36 = .ok (.ior, 1) := by decide +kernel
theorem d_MA_fittingPlaces_37 : decode m_MA_fittingPlaces.2.1 37 = .ok (.istore_n 3, 1) := by decide +kernel
theorem d_MA_fittingPlaces_38 : decode m_MA_fittingPlaces.2.1 38 = .ok (.iinc 4 1, 3) := by decide +kernel
theorem d_MA_fittingPlaces_41 : decode m_MA_fittingPlaces.2.1 41 = .ok (.goto (-36), 3) := by decide +kernel
theorem d_MA_fittingPlaces_44 : decode m_MA_fittingPlaces.2.1 44 = .ok (.iload_n 3, 1) := by decide +kernel
theorem d_MA_fittingPlaces_45 : decode m_MA_fittingPlaces.2.1 45 = .ok (.ireturn, 1) := by decide +kernel
theorem d_PR_takes_0 : decode m_PR_takes.2.1 0 = .ok (.iload_n 2, 1) := by decide +kernel
theorem d_PR_takes_1 : decode m_PR_takes.2.1 1 = .ok (.bipush 64, 2) := by decide +kernel
theorem d_PR_takes_3 : decode m_PR_takes.2.1 3 = .ok (.if_icmp .ge 14, 3) := by decide +kernel
theorem d_PR_takes_6 : decode m_PR_takes.2.1 6 = .ok (.aload_n 0, 1) := by decide +kernel
theorem d_PR_takes_7 : decode m_PR_takes.2.1 7 = .ok (.getfield 24, 3) := by decide +kernel
theorem d_PR_takes_10 : decode m_PR_takes.2.1 10 = .ok (.iload_n 1, 1) := by decide +kernel
theorem d_PR_takes_11 : decode m_PR_takes.2.1 11 = .ok (.laload, 1) := by decide +kernel
theorem d_PR_takes_12 : decode m_PR_takes.2.1 12 = .ok (.iload_n 2, 1) := by decide +kernel
theorem d_PR_takes_13 : decode m_PR_takes.2.1 13 = .ok (.lushr, 1) := by decide +kernel
theorem d_PR_takes_14 : decode m_PR_takes.2.1 14 = .ok (.goto 14, 3) := by decide +kernel
theorem d_PR_takes_17 : decode m_PR_takes.2.1 17 = .ok (.aload_n 0, 1) := by decide +kernel
theorem d_PR_takes_18 : decode m_PR_takes.2.1 18 = .ok (.getfield 28, 3) := by decide +kernel
theorem d_PR_takes_21 : decode m_PR_takes.2.1 21 = .ok (.iload_n 1, 1) := by decide +kernel
theorem d_PR_takes_22 : decode m_PR_takes.2.1 22 = .ok (.laload, 1) := by decide +kernel
theorem d_PR_takes_23 : decode m_PR_takes.2.1 23 = .ok (.iload_n 2, 1) := by decide +kernel
theorem d_PR_takes_24 : decode m_PR_takes.2.1 24 = .ok (.bipush 64, 2) := by decide +kernel
theorem d_PR_takes_26 : decode m_PR_takes.2.1 26 = .ok (.isub, 1) := by decide +kernel
theorem d_PR_takes_27 : decode m_PR_takes.2.1 27 = .ok (.lushr, 1) := by decide +kernel
theorem d_PR_takes_28 : decode m_PR_takes.2.1 28 = .ok (.lstore_n 3, 1) := by decide +kernel
theorem d_PR_takes_29 : decode m_PR_takes.2.1 29 = .ok (.lload_n 3, 1) := by decide +kernel
theorem d_PR_takes_30 : decode m_PR_takes.2.1 30 = .ok (.lconst 1, 1) := by decide +kernel
theorem d_PR_takes_31 : decode m_PR_takes.2.1 31 = .ok (.land, 1) := by decide +kernel
theorem d_PR_takes_32 : decode m_PR_takes.2.1 32 = .ok (.lconst 1, 1) := by decide +kernel
theorem d_PR_takes_33 : decode m_PR_takes.2.1 33 = .ok (.lcmp, 1) := by decide +kernel
theorem d_PR_takes_34 : decode m_PR_takes.2.1 34 = .ok (.ifCond .ne 7, 3) := by decide +kernel
theorem d_PR_takes_37 : decode m_PR_takes.2.1 37 = .ok (.iconst 1, 1) := by decide +kernel
theorem d_PR_takes_38 : decode m_PR_takes.2.1 38 = .ok (.goto 4, 3) := by decide +kernel
theorem d_PR_takes_41 : decode m_PR_takes.2.1 41 = .ok (.iconst 0, 1) := by decide +kernel
theorem d_PR_takes_42 : decode m_PR_takes.2.1 42 = .ok (.ireturn, 1) := by decide +kernel
theorem d_MA_spread_0 : decode m_MA_spread.2.1 0 = .ok (.iconst 0, 1) := by decide +kernel
theorem d_MA_spread_1 : decode m_MA_spread.2.1 1 = .ok (.istore_n 2, 1) := by decide +kernel
theorem d_MA_spread_2 : decode m_MA_spread.2.1 2 = .ok (.iconst 0, 1) := by decide +kernel
theorem d_MA_spread_3 : decode m_MA_spread.2.1 3 = .ok (.istore_n 3, 1) := by decide +kernel
theorem d_MA_spread_4 : decode m_MA_spread.2.1 4 = .ok (.iload_n 3, 1) := by decide +kernel
theorem d_MA_spread_5 : decode m_MA_spread.2.1 5 = .ok (.aload_n 0, 1) := by decide +kernel
theorem d_MA_spread_6 : decode m_MA_spread.2.1 6 = .ok (.getfield 12, 3) := by decide +kernel
theorem d_MA_spread_9 : decode m_MA_spread.2.1 9 = .ok (.getfield 62, 3) := by decide +kernel
theorem d_MA_spread_12 : decode m_MA_spread.2.1 12 = .ok (.if_icmp .ge 46, 3) := by decide +kernel
theorem d_MA_spread_15 : decode m_MA_spread.2.1 15 = .ok (.aload_n 0, 1) := by decide +kernel
theorem d_MA_spread_16 : decode m_MA_spread.2.1 16 = .ok (.iload_n 3, 1) := by decide +kernel
theorem d_MA_spread_17 : decode m_MA_spread.2.1 17 = .ok (.iload_n 1, 1) := by decide +kernel
theorem d_MA_spread_18 : decode m_MA_spread.2.1 18 = .ok (.invokevirtual 82, 3) := by decide +kernel
theorem d_MA_spread_21 : decode m_MA_spread.2.1 21 = .ok (.istore 4, 2) := by decide +kernel
theorem d_MA_spread_23 : decode m_MA_spread.2.1 23 = .ok (.iload_n 2, 1) := by decide +kernel
theorem d_MA_spread_24 : decode m_MA_spread.2.1 24 = .ok (.ifCond .ne 14, 3) := by decide +kernel
theorem d_MA_spread_27 : decode m_MA_spread.2.1 27 = .ok (.iload 4, 2) := by decide +kernel
theorem d_MA_spread_29 : decode m_MA_spread.2.1 29 = .ok (.aload_n 0, 1) := by decide +kernel
theorem d_MA_spread_30 : decode m_MA_spread.2.1 30 = .ok (.getfield 22, 3) := by decide +kernel
theorem d_MA_spread_33 : decode m_MA_spread.2.1 33 = .ok (.iload_n 3, 1) := by decide +kernel
theorem d_MA_spread_34 : decode m_MA_spread.2.1 34 = .ok (.iaload, 1) := by decide +kernel
theorem d_MA_spread_35 : decode m_MA_spread.2.1 35 = .ok (.if_icmp .eq 7, 3) := by decide +kernel
theorem d_MA_spread_38 : decode m_MA_spread.2.1 38 = .ok (.iconst 1, 1) := by decide +kernel
theorem d_MA_spread_39 : decode m_MA_spread.2.1 39 = .ok (.goto 4, 3) := by decide +kernel
theorem d_MA_spread_42 : decode m_MA_spread.2.1 42 = .ok (.iconst 0, 1) := by decide +kernel
theorem d_MA_spread_43 : decode m_MA_spread.2.1 43 = .ok (.istore_n 2, 1) := by decide +kernel
theorem d_MA_spread_44 : decode m_MA_spread.2.1 44 = .ok (.aload_n 0, 1) := by decide +kernel
theorem d_MA_spread_45 : decode m_MA_spread.2.1 45 = .ok (.getfield 22, 3) := by decide +kernel
theorem d_MA_spread_48 : decode m_MA_spread.2.1 48 = .ok (.iload_n 3, 1) := by decide +kernel
theorem d_MA_spread_49 : decode m_MA_spread.2.1 49 = .ok (.iload 4, 2) := by decide +kernel
theorem d_MA_spread_51 : decode m_MA_spread.2.1 51 = .ok (.iastore, 1) := by decide +kernel
theorem d_MA_spread_52 : decode m_MA_spread.2.1 52 = .ok (.iinc 3 1, 3) := by decide +kernel
theorem d_MA_spread_55 : decode m_MA_spread.2.1 55 = .ok (.goto (-51), 3) := by decide +kernel
theorem d_MA_spread_58 : decode m_MA_spread.2.1 58 = .ok (.iload_n 2, 1) := by decide +kernel
theorem d_MA_spread_59 : decode m_MA_spread.2.1 59 = .ok (.ireturn, 1) := by decide +kernel
theorem d_MA_leadingPlaces_0 : decode m_MA_leadingPlaces.2.1 0 = .ok (.aload_n 0, 1) := by decide +kernel
theorem d_MA_leadingPlaces_1 : decode m_MA_leadingPlaces.2.1 1 = .ok (.getfield 22, 3) := by decide +kernel
theorem d_MA_leadingPlaces_4 : decode m_MA_leadingPlaces.2.1 4 = .ok (.aload_n 0, 1) := by decide +kernel
theorem d_MA_leadingPlaces_5 : decode m_MA_leadingPlaces.2.1 5 = .ok (.getfield 12, 3) := by decide +kernel
theorem d_MA_leadingPlaces_8 : decode m_MA_leadingPlaces.2.1 8 = .ok (.getfield 86, 3) := by decide +kernel
theorem d_MA_leadingPlaces_11 : decode m_MA_leadingPlaces.2.1 11 = .ok (.iload_n 1, 1) := by decide +kernel
theorem d_MA_leadingPlaces_12 : decode m_MA_leadingPlaces.2.1 12 = .ok (.iaload, 1) := by decide +kernel
theorem d_MA_leadingPlaces_13 : decode m_MA_leadingPlaces.2.1 13 = .ok (.iaload, 1) := by decide +kernel
theorem d_MA_leadingPlaces_14 : decode m_MA_leadingPlaces.2.1 14 = .ok (.istore_n 3, 1) := by decide +kernel
theorem d_MA_leadingPlaces_15 : decode m_MA_leadingPlaces.2.1 15 = .ok (.aload_n 0, 1) := by decide +kernel
theorem d_MA_leadingPlaces_16 : decode m_MA_leadingPlaces.2.1 16 = .ok (.getfield 12, 3) := by decide +kernel
theorem d_MA_leadingPlaces_19 : decode m_MA_leadingPlaces.2.1 19 = .ok (.getfield 65, 3) := by decide +kernel
theorem d_MA_leadingPlaces_22 : decode m_MA_leadingPlaces.2.1 22 = .ok (.iload_n 1, 1) := by decide +kernel
theorem d_MA_leadingPlaces_23 : decode m_MA_leadingPlaces.2.1 23 = .ok (.iaload, 1) := by decide +kernel
theorem d_MA_leadingPlaces_24 : decode m_MA_leadingPlaces.2.1 24 = .ok (.tableswitch 83 0 5 #[40, 42, 53, 57, 83, 66], 40) := by decide +kernel
theorem d_MA_leadingPlaces_64 : decode m_MA_leadingPlaces.2.1 64 = .ok (.iload_n 2, 1) := by decide +kernel
theorem d_MA_leadingPlaces_65 : decode m_MA_leadingPlaces.2.1 65 = .ok (.ireturn, 1) := by decide +kernel
theorem d_MA_leadingPlaces_66 : decode m_MA_leadingPlaces.2.1 66 = .ok (.iload_n 3, 1) := by decide +kernel
theorem d_MA_leadingPlaces_67 : decode m_MA_leadingPlaces.2.1 67 = .ok (.iconst 1, 1) := by decide +kernel
theorem d_MA_leadingPlaces_68 : decode m_MA_leadingPlaces.2.1 68 = .ok (.iushr, 1) := by decide +kernel
theorem d_MA_leadingPlaces_69 : decode m_MA_leadingPlaces.2.1 69 = .ok (.aload_n 0, 1) := by decide +kernel
theorem d_MA_leadingPlaces_70 : decode m_MA_leadingPlaces.2.1 70 = .ok (.getfield 18, 3) := by decide +kernel
theorem d_MA_leadingPlaces_73 : decode m_MA_leadingPlaces.2.1 73 = .ok (.iload_n 1, 1) := by decide +kernel
theorem d_MA_leadingPlaces_74 : decode m_MA_leadingPlaces.2.1 74 = .ok (.iaload, 1) := by decide +kernel
theorem d_MA_leadingPlaces_75 : decode m_MA_leadingPlaces.2.1 75 = .ok (.iand, 1) := by decide +kernel
theorem d_MA_leadingPlaces_76 : decode m_MA_leadingPlaces.2.1 76 = .ok (.ireturn, 1) := by decide +kernel
theorem d_MA_leadingPlaces_77 : decode m_MA_leadingPlaces.2.1 77 = .ok (.iload_n 3, 1) := by decide +kernel
theorem d_MA_leadingPlaces_78 : decode m_MA_leadingPlaces.2.1 78 = .ok (.iconst 1, 1) := by decide +kernel
theorem d_MA_leadingPlaces_79 : decode m_MA_leadingPlaces.2.1 79 = .ok (.iand, 1) := by decide +kernel
theorem d_MA_leadingPlaces_80 : decode m_MA_leadingPlaces.2.1 80 = .ok (.ireturn, 1) := by decide +kernel
theorem d_MA_leadingPlaces_81 : decode m_MA_leadingPlaces.2.1 81 = .ok (.iload_n 3, 1) := by decide +kernel
theorem d_MA_leadingPlaces_82 : decode m_MA_leadingPlaces.2.1 82 = .ok (.iconst 1, 1) := by decide +kernel
theorem d_MA_leadingPlaces_83 : decode m_MA_leadingPlaces.2.1 83 = .ok (.aload_n 0, 1) := by decide +kernel
theorem d_MA_leadingPlaces_84 : decode m_MA_leadingPlaces.2.1 84 = .ok (.getfield 46, 3) := by decide +kernel
theorem d_MA_leadingPlaces_87 : decode m_MA_leadingPlaces.2.1 87 = .ok (.ishl, 1) := by decide +kernel
theorem d_MA_leadingPlaces_88 : decode m_MA_leadingPlaces.2.1 88 = .ok (.iand, 1) := by decide +kernel
theorem d_MA_leadingPlaces_89 : decode m_MA_leadingPlaces.2.1 89 = .ok (.ireturn, 1) := by decide +kernel
theorem d_MA_leadingPlaces_90 : decode m_MA_leadingPlaces.2.1 90 = .ok (.iload_n 3, 1) := by decide +kernel
theorem d_MA_leadingPlaces_91 : decode m_MA_leadingPlaces.2.1 91 = .ok (.aload_n 0, 1) := by decide +kernel
theorem d_MA_leadingPlaces_92 : decode m_MA_leadingPlaces.2.1 92 = .ok (.getfield 22, 3) := by decide +kernel
theorem d_MA_leadingPlaces_95 : decode m_MA_leadingPlaces.2.1 95 = .ok (.aload_n 0, 1) := by decide +kernel
theorem d_MA_leadingPlaces_96 : decode m_MA_leadingPlaces.2.1 96 = .ok (.getfield 12, 3) := by decide +kernel
theorem d_MA_leadingPlaces_99 : decode m_MA_leadingPlaces.2.1 99 = .ok (.getfield 89, 3) := by decide +kernel
theorem d_MA_leadingPlaces_102 : decode m_MA_leadingPlaces.2.1 102 = .ok (.iload_n 1, 1) := by decide +kernel
theorem d_MA_leadingPlaces_103 : decode m_MA_leadingPlaces.2.1 103 = .ok (.iaload, 1) := by decide +kernel
theorem d_MA_leadingPlaces_104 : decode m_MA_leadingPlaces.2.1 104 = .ok (.iaload, 1) := by decide +kernel
theorem d_MA_leadingPlaces_105 : decode m_MA_leadingPlaces.2.1 105 = .ok (.ior, 1) := by decide +kernel
theorem d_MA_leadingPlaces_106 : decode m_MA_leadingPlaces.2.1 106 = .ok (.ireturn, 1) := by decide +kernel
theorem d_MA_leadingPlaces_107 : decode m_MA_leadingPlaces.2.1 107 = .ok (.iload_n 3, 1) := by decide +kernel
theorem d_MA_leadingPlaces_108 : decode m_MA_leadingPlaces.2.1 108 = .ok (.ireturn, 1) := by decide +kernel
theorem d_MA_seek_0 : decode m_MA_seek.2.1 0 = .ok (.aload_n 2, 1) := by decide +kernel
theorem d_MA_seek_1 : decode m_MA_seek.2.1 1 = .ok (.invokevirtual 41, 3) := by decide +kernel
theorem d_MA_seek_4 : decode m_MA_seek.2.1 4 = .ok (.iload_n 1, 1) := by decide +kernel
theorem d_MA_seek_5 : decode m_MA_seek.2.1 5 = .ok (.istore_n 3, 1) := by decide +kernel
theorem d_MA_seek_6 : decode m_MA_seek.2.1 6 = .ok (.iload_n 3, 1) := by decide +kernel
theorem d_MA_seek_7 : decode m_MA_seek.2.1 7 = .ok (.aload_n 0, 1) := by decide +kernel
theorem d_MA_seek_8 : decode m_MA_seek.2.1 8 = .ok (.getfield 46, 3) := by decide +kernel
theorem d_MA_seek_11 : decode m_MA_seek.2.1 11 = .ok (.if_icmp .gt 25, 3) := by decide +kernel
theorem d_MA_seek_14 : decode m_MA_seek.2.1 14 = .ok (.aload_n 0, 1) := by decide +kernel
theorem d_MA_seek_15 : decode m_MA_seek.2.1 15 = .ok (.iload_n 3, 1) := by decide +kernel
theorem d_MA_seek_16 : decode m_MA_seek.2.1 16 = .ok (.invokevirtual 49, 3) := by decide +kernel
theorem d_MA_seek_19 : decode m_MA_seek.2.1 19 = .ok (.ifCond .eq 11, 3) := by decide +kernel
theorem d_MA_seek_22 : decode m_MA_seek.2.1 22 = .ok (.aload_n 0, 1) := by decide +kernel
theorem d_MA_seek_23 : decode m_MA_seek.2.1 23 = .ok (.iload_n 3, 1) := by decide +kernel
theorem d_MA_seek_24 : decode m_MA_seek.2.1 24 = .ok (.aload_n 2, 1) := by decide +kernel
theorem d_MA_seek_25 : decode m_MA_seek.2.1 25 = .ok (.invokevirtual 53, 3) := by decide +kernel
theorem d_MA_seek_28 : decode m_MA_seek.2.1 28 = .ok (.iconst 1, 1) := by decide +kernel
theorem d_MA_seek_29 : decode m_MA_seek.2.1 29 = .ok (.ireturn, 1) := by decide +kernel
theorem d_MA_seek_30 : decode m_MA_seek.2.1 30 = .ok (.iinc 3 1, 3) := by decide +kernel
theorem d_MA_seek_33 : decode m_MA_seek.2.1 33 = .ok (.goto (-27), 3) := by decide +kernel
theorem d_MA_seek_36 : decode m_MA_seek.2.1 36 = .ok (.iconst 0, 1) := by decide +kernel
theorem d_MA_seek_37 : decode m_MA_seek.2.1 37 = .ok (.ireturn, 1) := by decide +kernel
theorem d_MA_leadsOn_0 : decode m_MA_leadsOn.2.1 0 = .ok (.aload_n 0, 1) := by decide +kernel
theorem d_MA_leadsOn_1 : decode m_MA_leadsOn.2.1 1 = .ok (.aload_n 0, 1) := by decide +kernel
theorem d_MA_leadsOn_2 : decode m_MA_leadsOn.2.1 2 = .ok (.getfield 12, 3) := by decide +kernel
theorem d_MA_leadsOn_5 : decode m_MA_leadsOn.2.1 5 = .ok (.getfield 33, 3) := by decide +kernel
theorem d_MA_leadsOn_8 : decode m_MA_leadsOn.2.1 8 = .ok (.iload_n 1, 1) := by decide +kernel
theorem d_MA_leadsOn_9 : decode m_MA_leadsOn.2.1 9 = .ok (.invokevirtual 37, 3) := by decide +kernel
theorem d_MA_leadsOn_12 : decode m_MA_leadsOn.2.1 12 = .ok (.ireturn, 1) := by decide +kernel
theorem d_MA_leadsOnFrom_0 : decode m_MA_leadsOnFrom.2.1 0 = .ok (.aload_n 0, 1) := by decide +kernel
theorem d_MA_leadsOnFrom_1 : decode m_MA_leadsOnFrom.2.1 1 = .ok (.getfield 22, 3) := by decide +kernel
theorem d_MA_leadsOnFrom_4 : decode m_MA_leadsOnFrom.2.1 4 = .ok (.iload_n 1, 1) := by decide +kernel
theorem d_MA_leadsOnFrom_5 : decode m_MA_leadsOnFrom.2.1 5 = .ok (.iaload, 1) := by decide +kernel
theorem d_MA_leadsOnFrom_6 : decode m_MA_leadsOnFrom.2.1 6 = .ok (.iload_n 2, 1) := by decide +kernel
theorem d_MA_leadsOnFrom_7 : decode m_MA_leadsOnFrom.2.1 7 = .ok (.iushr, 1) := by decide +kernel
theorem d_MA_leadsOnFrom_8 : decode m_MA_leadsOnFrom.2.1 8 = .ok (.iconst 1, 1) := by decide +kernel
theorem d_MA_leadsOnFrom_9 : decode m_MA_leadsOnFrom.2.1 9 = .ok (.iand, 1) := by decide +kernel
theorem d_MA_leadsOnFrom_10 : decode m_MA_leadsOnFrom.2.1 10 = .ok (.iconst 1, 1) := by decide +kernel
theorem d_MA_leadsOnFrom_11 : decode m_MA_leadsOnFrom.2.1 11 = .ok (.if_icmp .ne 7, 3) := by decide +kernel
theorem d_MA_leadsOnFrom_14 : decode m_MA_leadsOnFrom.2.1 14 = .ok (.iconst 1, 1) := by decide +kernel
theorem d_MA_leadsOnFrom_15 : decode m_MA_leadsOnFrom.2.1 15 = .ok (.goto 4, 3) := by decide +kernel
theorem d_MA_leadsOnFrom_18 : decode m_MA_leadsOnFrom.2.1 18 = .ok (.iconst 0, 1) := by decide +kernel
theorem d_MA_leadsOnFrom_19 : decode m_MA_leadsOnFrom.2.1 19 = .ok (.ireturn, 1) := by decide +kernel
theorem d_MA_walk_0 : decode m_MA_walk.2.1 0 = .ok (.iload_n 1, 1) := by decide +kernel
theorem d_MA_walk_1 : decode m_MA_walk.2.1 1 = .ok (.istore_n 3, 1) := by decide +kernel
theorem d_MA_walk_2 : decode m_MA_walk.2.1 2 = .ok (.aload_n 0, 1) := by decide +kernel
theorem d_MA_walk_3 : decode m_MA_walk.2.1 3 = .ok (.getfield 12, 3) := by decide +kernel
theorem d_MA_walk_6 : decode m_MA_walk.2.1 6 = .ok (.getfield 33, 3) := by decide +kernel
theorem d_MA_walk_9 : decode m_MA_walk.2.1 9 = .ok (.istore 4, 2) := by decide +kernel
theorem d_MA_walk_11 : decode m_MA_walk.2.1 11 = .ok (.iconst 0, 1) := by decide +kernel
theorem d_MA_walk_12 : decode m_MA_walk.2.1 12 = .ok (.istore 5, 2) := by decide +kernel
theorem d_MA_walk_14 : decode m_MA_walk.2.1 14 = .ok (.iload 5, 2) := by decide +kernel
theorem d_MA_walk_16 : decode m_MA_walk.2.1 16 = .ok (.sipush 3751, 3) := by decide +kernel
theorem d_MA_walk_19 : decode m_MA_walk.2.1 19 = .ok (.if_icmp .ge 128, 3) := by decide +kernel
theorem d_MA_walk_22 : decode m_MA_walk.2.1 22 = .ok (.aload_n 0, 1) := by decide +kernel
theorem d_MA_walk_23 : decode m_MA_walk.2.1 23 = .ok (.getfield 12, 3) := by decide +kernel
theorem d_MA_walk_26 : decode m_MA_walk.2.1 26 = .ok (.getfield 65, 3) := by decide +kernel
theorem d_MA_walk_29 : decode m_MA_walk.2.1 29 = .ok (.iload 4, 2) := by decide +kernel
theorem d_MA_walk_31 : decode m_MA_walk.2.1 31 = .ok (.iaload, 1) := by decide +kernel
theorem d_MA_walk_32 : decode m_MA_walk.2.1 32 = .ok (.ifCond .eq 115, 3) := by decide +kernel
theorem d_MA_walk_35 : decode m_MA_walk.2.1 35 = .ok (.aload_n 0, 1) := by decide +kernel
theorem d_MA_walk_36 : decode m_MA_walk.2.1 36 = .ok (.getfield 12, 3) := by decide +kernel
theorem d_MA_walk_39 : decode m_MA_walk.2.1 39 = .ok (.getfield 65, 3) := by decide +kernel
theorem d_MA_walk_42 : decode m_MA_walk.2.1 42 = .ok (.iload 4, 2) := by decide +kernel
theorem d_MA_walk_44 : decode m_MA_walk.2.1 44 = .ok (.iaload, 1) := by decide +kernel
theorem d_MA_walk_45 : decode m_MA_walk.2.1 45 = .ok (.istore 6, 2) := by decide +kernel
theorem d_MA_walk_47 : decode m_MA_walk.2.1 47 = .ok (.iload 6, 2) := by decide +kernel
theorem d_MA_walk_49 : decode m_MA_walk.2.1 49 = .ok (.iconst 1, 1) := by decide +kernel
theorem d_MA_walk_50 : decode m_MA_walk.2.1 50 = .ok (.if_icmp .ne 9, 3) := by decide +kernel
theorem d_MA_walk_53 : decode m_MA_walk.2.1 53 = .ok (.iinc 3 1, 3) := by decide +kernel
theorem d_MA_walk_56 : decode m_MA_walk.2.1 56 = .ok (.goto 24, 3) := by decide +kernel
theorem d_MA_walk_59 : decode m_MA_walk.2.1 59 = .ok (.iload 6, 2) := by decide +kernel
theorem d_MA_walk_61 : decode m_MA_walk.2.1 61 = .ok (.iconst 4, 1) := by decide +kernel
theorem d_MA_walk_62 : decode m_MA_walk.2.1 62 = .ok (.if_icmp .ne 18, 3) := by decide +kernel
theorem d_MA_walk_65 : decode m_MA_walk.2.1 65 = .ok (.aload_n 2, 1) := by decide +kernel
theorem d_MA_walk_66 : decode m_MA_walk.2.1 66 = .ok (.aload_n 0, 1) := by decide +kernel
theorem d_MA_walk_67 : decode m_MA_walk.2.1 67 = .ok (.getfield 12, 3) := by decide +kernel
theorem d_MA_walk_70 : decode m_MA_walk.2.1 70 = .ok (.getfield 92, 3) := by decide +kernel
theorem d_MA_walk_73 : decode m_MA_walk.2.1 73 = .ok (.iload 4, 2) := by decide +kernel
theorem d_MA_walk_75 : decode m_MA_walk.2.1 75 = .ok (.iaload, 1) := by decide +kernel
theorem d_MA_walk_76 : decode m_MA_walk.2.1 76 = .ok (.iload_n 3, 1) := by decide +kernel
theorem d_MA_walk_77 : decode m_MA_walk.2.1 77 = .ok (.invokevirtual 95, 3) := by decide +kernel
theorem d_MA_walk_80 : decode m_MA_walk.2.1 80 = .ok (.iload 6, 2) := by decide +kernel
theorem d_MA_walk_82 : decode m_MA_walk.2.1 82 = .ok (.iconst 5, 1) := by decide +kernel
theorem d_MA_walk_83 : decode m_MA_walk.2.1 83 = .ok (.if_icmp .ne 25, 3) := by decide +kernel
theorem d_MA_walk_86 : decode m_MA_walk.2.1 86 = .ok (.aload_n 0, 1) := by decide +kernel
theorem d_MA_walk_87 : decode m_MA_walk.2.1 87 = .ok (.aload_n 0, 1) := by decide +kernel
theorem d_MA_walk_88 : decode m_MA_walk.2.1 88 = .ok (.getfield 12, 3) := by decide +kernel
theorem d_MA_walk_91 : decode m_MA_walk.2.1 91 = .ok (.getfield 86, 3) := by decide +kernel
theorem d_MA_walk_94 : decode m_MA_walk.2.1 94 = .ok (.iload 4, 2) := by decide +kernel
theorem d_MA_walk_96 : decode m_MA_walk.2.1 96 = .ok (.iaload, 1) := by decide +kernel
theorem d_MA_walk_97 : decode m_MA_walk.2.1 97 = .ok (.iload_n 3, 1) := by decide +kernel
theorem d_MA_walk_98 : decode m_MA_walk.2.1 98 = .ok (.invokevirtual 37, 3) := by decide +kernel
theorem d_MA_walk_101 : decode m_MA_walk.2.1 101 = .ok (.ifCond .ne 7, 3) := by decide +kernel
theorem d_MA_walk_104 : decode m_MA_walk.2.1 104 = .ok (.iconst 1, 1) := by decide +kernel
theorem d_MA_walk_105 : decode m_MA_walk.2.1 105 = .ok (.goto 4, 3) := by decide +kernel
theorem d_MA_walk_108 : decode m_MA_walk.2.1 108 = .ok (.iconst 0, 1) := by decide +kernel
theorem d_MA_walk_109 : decode m_MA_walk.2.1 109 = .ok (.istore 7, 2) := by decide +kernel
theorem d_MA_walk_111 : decode m_MA_walk.2.1 111 = .ok (.iload 7, 2) := by decide +kernel
theorem d_MA_walk_113 : decode m_MA_walk.2.1 113 = .ok (.ifCond .eq 16, 3) := by decide +kernel
theorem d_MA_walk_116 : decode m_MA_walk.2.1 116 = .ok (.aload_n 0, 1) := by decide +kernel
theorem d_MA_walk_117 : decode m_MA_walk.2.1 117 = .ok (.getfield 12, 3) := by decide +kernel
theorem d_MA_walk_120 : decode m_MA_walk.2.1 120 = .ok (.getfield 89, 3) := by decide +kernel
theorem d_MA_walk_123 : decode m_MA_walk.2.1 123 = .ok (.iload 4, 2) := by decide +kernel
theorem d_MA_walk_125 : decode m_MA_walk.2.1 125 = .ok (.iaload, 1) := by decide +kernel
theorem d_MA_walk_126 : decode m_MA_walk.2.1 126 = .ok (.goto 13, 3) := by decide +kernel
theorem d_MA_walk_129 : decode m_MA_walk.2.1 129 = .ok (.aload_n 0, 1) := by decide +kernel
theorem d_MA_walk_130 : decode m_MA_walk.2.1 130 = .ok (.getfield 12, 3) := by decide +kernel
theorem d_MA_walk_133 : decode m_MA_walk.2.1 133 = .ok (.getfield 86, 3) := by decide +kernel
theorem d_MA_walk_136 : decode m_MA_walk.2.1 136 = .ok (.iload 4, 2) := by decide +kernel
theorem d_MA_walk_138 : decode m_MA_walk.2.1 138 = .ok (.iaload, 1) := by decide +kernel
theorem d_MA_walk_139 : decode m_MA_walk.2.1 139 = .ok (.istore 4, 2) := by decide +kernel
theorem d_MA_walk_141 : decode m_MA_walk.2.1 141 = .ok (.iinc 5 1, 3) := by decide +kernel
theorem d_MA_walk_144 : decode m_MA_walk.2.1 144 = .ok (.goto (-130), 3) := by decide +kernel
theorem d_MA_walk_147 : decode m_MA_walk.2.1 147 = .ok (.aload_n 2, 1) := by decide +kernel
theorem d_MA_walk_148 : decode m_MA_walk.2.1 148 = .ok (.iconst 0, 1) := by decide +kernel
theorem d_MA_walk_149 : decode m_MA_walk.2.1 149 = .ok (.invokestatic 99, 3) := by decide +kernel
theorem d_MA_walk_152 : decode m_MA_walk.2.1 152 = .ok (.iload_n 1, 1) := by decide +kernel
theorem d_MA_walk_153 : decode m_MA_walk.2.1 153 = .ok (.invokevirtual 95, 3) := by decide +kernel
theorem d_MA_walk_156 : decode m_MA_walk.2.1 156 = .ok (.aload_n 2, 1) := by decide +kernel
theorem d_MA_walk_157 : decode m_MA_walk.2.1 157 = .ok (.iconst 0, 1) := by decide +kernel
theorem d_MA_walk_158 : decode m_MA_walk.2.1 158 = .ok (.invokestatic 102, 3) := by decide +kernel
theorem d_MA_walk_161 : decode m_MA_walk.2.1 161 = .ok (.iload_n 3, 1) := by decide +kernel
theorem d_MA_walk_162 : decode m_MA_walk.2.1 162 = .ok (.invokevirtual 95, 3) := by decide +kernel
theorem d_MA_walk_165 : decode m_MA_walk.2.1 165 = .ok (.return_, 1) := by decide +kernel
theorem d_MA_aimAt_0 : decode m_MA_aimAt.2.1 0 = .ok (.aload_n 0, 1) := by decide +kernel
theorem d_MA_aimAt_1 : decode m_MA_aimAt.2.1 1 = .ok (.aload_n 1, 1) := by decide +kernel
theorem d_MA_aimAt_2 : decode m_MA_aimAt.2.1 2 = .ok (.iconst 1, 1) := by decide +kernel
theorem d_MA_aimAt_3 : decode m_MA_aimAt.2.1 3 = .ok (.iload_n 2, 1) := by decide +kernel
theorem d_MA_aimAt_4 : decode m_MA_aimAt.2.1 4 = .ok (.ishl, 1) := by decide +kernel
theorem d_MA_aimAt_5 : decode m_MA_aimAt.2.1 5 = .ok (.invokevirtual 29, 3) := by decide +kernel
theorem d_MA_aimAt_8 : decode m_MA_aimAt.2.1 8 = .ok (.return_, 1) := by decide +kernel
