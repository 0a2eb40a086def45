theorem dd_Te_byteOf_0 : decode cb_Te_byteOf 0 = .ok (.iload_n 0, 1) := by decide +kernel
theorem dd_Te_byteOf_1 : decode cb_Te_byteOf 1 = .ok (.bipush 8, 2) := by decide +kernel
theorem dd_Te_byteOf_3 : decode cb_Te_byteOf 3 = .ok (.iload_n 1, 1) := by decide +kernel
theorem dd_Te_byteOf_4 : decode cb_Te_byteOf 4 = .ok (.imul, 1) := by decide +kernel
theorem dd_Te_byteOf_5 : decode cb_Te_byteOf 5 = .ok (.ishr, 1) := by decide +kernel
theorem dd_Te_byteOf_6 : decode cb_Te_byteOf 6 = .ok (.sipush 255, 3) := by decide +kernel
theorem dd_Te_byteOf_9 : decode cb_Te_byteOf 9 = .ok (.iand, 1) := by decide +kernel
theorem dd_Te_byteOf_10 : decode cb_Te_byteOf 10 = .ok (.ireturn, 1) := by decide +kernel
theorem dd_Te_isCharacter_0 : decode cb_Te_isCharacter 0 = .ok (.iload_n 0, 1) := by decide +kernel
theorem dd_Te_isCharacter_1 : decode cb_Te_isCharacter 1 = .ok (.bipush 10, 2) := by decide +kernel
theorem dd_Te_isCharacter_3 : decode cb_Te_isCharacter 3 = .ok (.if_icmp .eq 15, 3) := by decide +kernel
theorem dd_Te_isCharacter_6 : decode cb_Te_isCharacter 6 = .ok (.iload_n 0, 1) := by decide +kernel
theorem dd_Te_isCharacter_7 : decode cb_Te_isCharacter 7 = .ok (.bipush 32, 2) := by decide +kernel
theorem dd_Te_isCharacter_9 : decode cb_Te_isCharacter 9 = .ok (.if_icmp .lt 13, 3) := by decide +kernel
theorem dd_Te_isCharacter_12 : decode cb_Te_isCharacter 12 = .ok (.iload_n 0, 1) := by decide +kernel
theorem dd_Te_isCharacter_13 : decode cb_Te_isCharacter 13 = .ok (.bipush 126, 2) := by decide +kernel
theorem dd_Te_isCharacter_15 : decode cb_Te_isCharacter 15 = .ok (.if_icmp .gt 7, 3) := by decide +kernel
theorem dd_Te_isCharacter_18 : decode cb_Te_isCharacter 18 = .ok (.iconst 1, 1) := by decide +kernel
theorem dd_Te_isCharacter_19 : decode cb_Te_isCharacter 19 = .ok (.goto 4, 3) := by decide +kernel
theorem dd_Te_isCharacter_22 : decode cb_Te_isCharacter 22 = .ok (.iconst 0, 1) := by decide +kernel
theorem dd_Te_isCharacter_23 : decode cb_Te_isCharacter 23 = .ok (.ireturn, 1) := by decide +kernel
theorem dd_Te_isBlank_0 : decode cb_Te_isBlank 0 = .ok (.iload_n 0, 1) := by decide +kernel
theorem dd_Te_isBlank_1 : decode cb_Te_isBlank 1 = .ok (.bipush 32, 2) := by decide +kernel
theorem dd_Te_isBlank_3 : decode cb_Te_isBlank 3 = .ok (.if_icmp .eq 9, 3) := by decide +kernel
theorem dd_Te_isBlank_6 : decode cb_Te_isBlank 6 = .ok (.iload_n 0, 1) := by decide +kernel
theorem dd_Te_isBlank_7 : decode cb_Te_isBlank 7 = .ok (.bipush 10, 2) := by decide +kernel
theorem dd_Te_isBlank_9 : decode cb_Te_isBlank 9 = .ok (.if_icmp .ne 7, 3) := by decide +kernel
theorem dd_Te_isBlank_12 : decode cb_Te_isBlank 12 = .ok (.iconst 1, 1) := by decide +kernel
theorem dd_Te_isBlank_13 : decode cb_Te_isBlank 13 = .ok (.goto 4, 3) := by decide +kernel
theorem dd_Te_isBlank_16 : decode cb_Te_isBlank 16 = .ok (.iconst 0, 1) := by decide +kernel
theorem dd_Te_isBlank_17 : decode cb_Te_isBlank 17 = .ok (.ireturn, 1) := by decide +kernel
theorem dd_Te_append_0 : decode cb_Te_append 0 = .ok (.iload_n 2, 1) := by decide +kernel
theorem dd_Te_append_1 : decode cb_Te_append 1 = .ok (.iconst 1, 1) := by decide +kernel
theorem dd_Te_append_2 : decode cb_Te_append 2 = .ok (.if_icmp .lt 20, 3) := by decide +kernel
theorem dd_Te_append_5 : decode cb_Te_append 5 = .ok (.iload_n 2, 1) := by decide +kernel
theorem dd_Te_append_6 : decode cb_Te_append 6 = .ok (.iconst 4, 1) := by decide +kernel
theorem dd_Te_append_7 : decode cb_Te_append 7 = .ok (.if_icmp .gt 15, 3) := by decide +kernel
theorem dd_Te_append_10 : decode cb_Te_append 10 = .ok (.aload_n 0, 1) := by decide +kernel
theorem dd_Te_append_11 : decode cb_Te_append 11 = .ok (.getfield 15, 3) := by decide +kernel
theorem dd_Te_append_14 : decode cb_Te_append 14 = .ok (.iload_n 2, 1) := by decide +kernel
theorem dd_Te_append_15 : decode cb_Te_append 15 = .ok (.iadd, 1) := by decide +kernel
theorem dd_Te_append_16 : decode cb_Te_append 16 = .ok (.sipush 160, 3) := by decide +kernel
theorem dd_Te_append_19 : decode cb_Te_append 19 = .ok (.if_icmp .le 5, 3) := by decide +kernel
theorem dd_Te_append_22 : decode cb_Te_append 22 = .ok (.iconst 0, 1) := by decide +kernel
theorem dd_Te_append_23 : decode cb_Te_append 23 = .ok (.ireturn, 1) := by decide +kernel
theorem dd_Te_append_24 : decode cb_Te_append 24 = .ok (.iload_n 2, 1) := by decide +kernel
theorem dd_Te_append_25 : decode cb_Te_append 25 = .ok (.iconst 1, 1) := by decide +kernel
theorem dd_Te_append_26 : decode cb_Te_append 26 = .ok (.isub, 1) := by decide +kernel
theorem dd_Te_append_27 : decode cb_Te_append 27 = .ok (.istore_n 3, 1) := by decide +kernel
theorem dd_Te_append_28 : decode cb_Te_append 28 = .ok (.iload_n 3, 1) := by decide +kernel
theorem dd_Te_append_29 : decode cb_Te_append 29 = .ok (.ifCond .lt 22, 3) := by decide +kernel
theorem dd_Te_append_32 : decode cb_Te_append 32 = .ok (.iload_n 1, 1) := by decide +kernel
theorem dd_Te_append_33 : decode cb_Te_append 33 = .ok (.iload_n 3, 1) := by decide +kernel
theorem dd_Te_append_34 : decode cb_Te_append 34 = .ok (.invokestatic 19, 3) := by decide +kernel
theorem dd_Te_append_37 : decode cb_Te_append 37 = .ok (.invokestatic 23, 3) := by decide +kernel
theorem dd_Te_append_40 : decode cb_Te_append 40 = .ok (.ifCond .ne 5, 3) := by decide +kernel
theorem dd_Te_append_43 : decode cb_Te_append 43 = .ok (.iconst 0, 1) := by decide +kernel
theorem dd_Te_append_44 : decode cb_Te_append 44 = .ok (.ireturn, 1) := by decide +kernel
theorem dd_Te_append_45 : decode cb_Te_append 45 = .ok (.iinc 3 (-1), 3) := by decide +kernel
theorem dd_Te_append_48 : decode cb_Te_append 48 = .ok (.goto (-20), 3) := by decide +kernel
theorem dd_Te_append_51 : decode cb_Te_append 51 = .ok (.iload_n 2, 1) := by decide +kernel
theorem dd_Te_append_52 : decode cb_Te_append 52 = .ok (.iconst 1, 1) := by decide +kernel
theorem dd_Te_append_53 : decode cb_Te_append 53 = .ok (.isub, 1) := by decide +kernel
theorem dd_Te_append_54 : decode cb_Te_append 54 = .ok (.istore_n 3, 1) := by decide +kernel
theorem dd_Te_append_55 : decode cb_Te_append 55 = .ok (.iload_n 3, 1) := by decide +kernel
theorem dd_Te_append_56 : decode cb_Te_append 56 = .ok (.ifCond .lt 34, 3) := by decide +kernel
theorem dd_Te_append_59 : decode cb_Te_append 59 = .ok (.aload_n 0, 1) := by decide +kernel
theorem dd_Te_append_60 : decode cb_Te_append 60 = .ok (.getfield 9, 3) := by decide +kernel
theorem dd_Te_append_63 : decode cb_Te_append 63 = .ok (.aload_n 0, 1) := by decide +kernel
theorem dd_Te_append_64 : decode cb_Te_append 64 = .ok (.getfield 15, 3) := by decide +kernel
theorem dd_Te_append_67 : decode cb_Te_append 67 = .ok (.iload_n 1, 1) := by decide +kernel
theorem dd_Te_append_68 : decode cb_Te_append 68 = .ok (.iload_n 3, 1) := by decide +kernel
theorem dd_Te_append_69 : decode cb_Te_append 69 = .ok (.invokestatic 19, 3) := by decide +kernel
theorem dd_Te_append_72 : decode cb_Te_append 72 = .ok (.i2c, 1) := by decide +kernel
theorem dd_Te_append_73 : decode cb_Te_append 73 = .ok (.castore, 1) := by decide +kernel
theorem dd_Te_append_74 : decode cb_Te_append 74 = .ok (.aload_n 0, 1) := by decide +kernel
theorem dd_Te_append_75 : decode cb_Te_append 75 = .ok (.dup, 1) := by decide +kernel
theorem dd_Te_append_76 : decode cb_Te_append 76 = .ok (.getfield 15, 3) := by decide +kernel
theorem dd_Te_append_79 : decode cb_Te_append 79 = .ok (.iconst 1, 1) := by decide +kernel
theorem dd_Te_append_80 : decode cb_Te_append 80 = .ok (.iadd, 1) := by decide +kernel
theorem dd_Te_append_81 : decode cb_Te_append 81 = .ok (.putfield 15, 3) := by decide +kernel
theorem dd_Te_append_84 : decode cb_Te_append 84 = .ok (.iinc 3 (-1), 3) := by decide +kernel
theorem dd_Te_append_87 : decode cb_Te_append 87 = .ok (.goto (-32), 3) := by decide +kernel
theorem dd_Te_append_90 : decode cb_Te_append 90 = .ok (.iconst 1, 1) := by decide +kernel
theorem dd_Te_append_91 : decode cb_Te_append 91 = .ok (.ireturn, 1) := by decide +kernel
theorem dd_Te_clear_0 : decode cb_Te_clear 0 = .ok (.aload_n 0, 1) := by decide +kernel
theorem dd_Te_clear_1 : decode cb_Te_clear 1 = .ok (.iconst 0, 1) := by decide +kernel
theorem dd_Te_clear_2 : decode cb_Te_clear 2 = .ok (.putfield 15, 3) := by decide +kernel
theorem dd_Te_clear_5 : decode cb_Te_clear 5 = .ok (.return_, 1) := by decide +kernel
theorem dd_Te_standBehind_0 : decode cb_Te_standBehind 0 = .ok (.aload_n 0, 1) := by decide +kernel
theorem dd_Te_standBehind_1 : decode cb_Te_standBehind 1 = .ok (.iload_n 1, 1) := by decide +kernel
theorem dd_Te_standBehind_2 : decode cb_Te_standBehind 2 = .ok (.putfield 49, 3) := by decide +kernel
theorem dd_Te_standBehind_5 : decode cb_Te_standBehind 5 = .ok (.aload_n 0, 1) := by decide +kernel
theorem dd_Te_standBehind_6 : decode cb_Te_standBehind 6 = .ok (.getfield 49, 3) := by decide +kernel
theorem dd_Te_standBehind_9 : decode cb_Te_standBehind 9 = .ok (.aload_n 0, 1) := by decide +kernel
theorem dd_Te_standBehind_10 : decode cb_Te_standBehind 10 = .ok (.getfield 15, 3) := by decide +kernel
theorem dd_Te_standBehind_13 : decode cb_Te_standBehind 13 = .ok (.if_icmp .ge 31, 3) := by decide +kernel
theorem dd_Te_standBehind_16 : decode cb_Te_standBehind 16 = .ok (.aload_n 0, 1) := by decide +kernel
theorem dd_Te_standBehind_17 : decode cb_Te_standBehind 17 = .ok (.getfield 9, 3) := by decide +kernel
theorem dd_Te_standBehind_20 : decode cb_Te_standBehind 20 = .ok (.aload_n 0, 1) := by decide +kernel
theorem dd_Te_standBehind_21 : decode cb_Te_standBehind 21 = .ok (.getfield 49, 3) := by decide +kernel
theorem dd_Te_standBehind_24 : decode cb_Te_standBehind 24 = .ok (.caload, 1) := by decide +kernel
theorem dd_Te_standBehind_25 : decode cb_Te_standBehind 25 = .ok (.invokestatic 71, 3) := by decide +kernel
theorem dd_Te_standBehind_28 : decode cb_Te_standBehind 28 = .ok (.ifCond .eq 16, 3) := by decide +kernel
theorem dd_Te_standBehind_31 : decode cb_Te_standBehind 31 = .ok (.aload_n 0, 1) := by decide +kernel
theorem dd_Te_standBehind_32 : decode cb_Te_standBehind 32 = .ok (.dup, 1) := by decide +kernel
theorem dd_Te_standBehind_33 : decode cb_Te_standBehind 33 = .ok (.getfield 49, 3) := by decide +kernel
theorem dd_Te_standBehind_36 : decode cb_Te_standBehind 36 = .ok (.iconst 1, 1) := by decide +kernel
theorem dd_Te_standBehind_37 : decode cb_Te_standBehind 37 = .ok (.iadd, 1) := by decide +kernel
theorem dd_Te_standBehind_38 : decode cb_Te_standBehind 38 = .ok (.putfield 49, 3) := by decide +kernel
theorem dd_Te_standBehind_41 : decode cb_Te_standBehind 41 = .ok (.goto (-36), 3) := by decide +kernel
theorem dd_Te_standBehind_44 : decode cb_Te_standBehind 44 = .ok (.aload_n 0, 1) := by decide +kernel
theorem dd_Te_standBehind_45 : decode cb_Te_standBehind 45 = .ok (.aload_n 0, 1) := by decide +kernel
theorem dd_Te_standBehind_46 : decode cb_Te_standBehind 46 = .ok (.getfield 49, 3) := by decide +kernel
theorem dd_Te_standBehind_49 : decode cb_Te_standBehind 49 = .ok (.putfield 31, 3) := by decide +kernel
theorem dd_Te_standBehind_52 : decode cb_Te_standBehind 52 = .ok (.aload_n 0, 1) := by decide +kernel
theorem dd_Te_standBehind_53 : decode cb_Te_standBehind 53 = .ok (.getfield 31, 3) := by decide +kernel
theorem dd_Te_standBehind_56 : decode cb_Te_standBehind 56 = .ok (.aload_n 0, 1) := by decide +kernel
theorem dd_Te_standBehind_57 : decode cb_Te_standBehind 57 = .ok (.getfield 15, 3) := by decide +kernel
theorem dd_Te_standBehind_60 : decode cb_Te_standBehind 60 = .ok (.if_icmp .ge 31, 3) := by decide +kernel
theorem dd_Te_standBehind_63 : decode cb_Te_standBehind 63 = .ok (.aload_n 0, 1) := by decide +kernel
theorem dd_Te_standBehind_64 : decode cb_Te_standBehind 64 = .ok (.getfield 9, 3) := by decide +kernel
theorem dd_Te_standBehind_67 : decode cb_Te_standBehind 67 = .ok (.aload_n 0, 1) := by decide +kernel
theorem dd_Te_standBehind_68 : decode cb_Te_standBehind 68 = .ok (.getfield 31, 3) := by decide +kernel
theorem dd_Te_standBehind_71 : decode cb_Te_standBehind 71 = .ok (.caload, 1) := by decide +kernel
theorem dd_Te_standBehind_72 : decode cb_Te_standBehind 72 = .ok (.invokestatic 71, 3) := by decide +kernel
theorem dd_Te_standBehind_75 : decode cb_Te_standBehind 75 = .ok (.ifCond .ne 16, 3) := by decide +kernel
theorem dd_Te_standBehind_78 : decode cb_Te_standBehind 78 = .ok (.aload_n 0, 1) := by decide +kernel
theorem dd_Te_standBehind_79 : decode cb_Te_standBehind 79 = .ok (.dup, 1) := by decide +kernel
theorem dd_Te_standBehind_80 : decode cb_Te_standBehind 80 = .ok (.getfield 31, 3) := by decide +kernel
theorem dd_Te_standBehind_83 : decode cb_Te_standBehind 83 = .ok (.iconst 1, 1) := by decide +kernel
theorem dd_Te_standBehind_84 : decode cb_Te_standBehind 84 = .ok (.iadd, 1) := by decide +kernel
theorem dd_Te_standBehind_85 : decode cb_Te_standBehind 85 = .ok (.putfield 31, 3) := by decide +kernel
theorem dd_Te_standBehind_88 : decode cb_Te_standBehind 88 = .ok (.goto (-36), 3) := by decide +kernel
theorem dd_Te_standBehind_91 : decode cb_Te_standBehind 91 = .ok (.return_, 1) := by decide +kernel
theorem dd_Te_beginsLine_0 : decode cb_Te_beginsLine 0 = .ok (.aload_n 0, 1) := by decide +kernel
theorem dd_Te_beginsLine_1 : decode cb_Te_beginsLine 1 = .ok (.getfield 49, 3) := by decide +kernel
theorem dd_Te_beginsLine_4 : decode cb_Te_beginsLine 4 = .ok (.iconst 1, 1) := by decide +kernel
theorem dd_Te_beginsLine_5 : decode cb_Te_beginsLine 5 = .ok (.isub, 1) := by decide +kernel
theorem dd_Te_beginsLine_6 : decode cb_Te_beginsLine 6 = .ok (.istore_n 1, 1) := by decide +kernel
theorem dd_Te_beginsLine_7 : decode cb_Te_beginsLine 7 = .ok (.iload_n 1, 1) := by decide +kernel
theorem dd_Te_beginsLine_8 : decode cb_Te_beginsLine 8 = .ok (.ifCond .lt 20, 3) := by decide +kernel
theorem dd_Te_beginsLine_11 : decode cb_Te_beginsLine 11 = .ok (.aload_n 0, 1) := by decide +kernel
theorem dd_Te_beginsLine_12 : decode cb_Te_beginsLine 12 = .ok (.getfield 9, 3) := by decide +kernel
theorem dd_Te_beginsLine_15 : decode cb_Te_beginsLine 15 = .ok (.iload_n 1, 1) := by decide +kernel
theorem dd_Te_beginsLine_16 : decode cb_Te_beginsLine 16 = .ok (.caload, 1) := by decide +kernel
theorem dd_Te_beginsLine_17 : decode cb_Te_beginsLine 17 = .ok (.bipush 32, 2) := by decide +kernel
theorem dd_Te_beginsLine_19 : decode cb_Te_beginsLine 19 = .ok (.if_icmp .ne 9, 3) := by decide +kernel
theorem dd_Te_beginsLine_22 : decode cb_Te_beginsLine 22 = .ok (.iinc 1 (-1), 3) := by decide +kernel
theorem dd_Te_beginsLine_25 : decode cb_Te_beginsLine 25 = .ok (.goto (-18), 3) := by decide +kernel
theorem dd_Te_beginsLine_28 : decode cb_Te_beginsLine 28 = .ok (.iload_n 1, 1) := by decide +kernel
theorem dd_Te_beginsLine_29 : decode cb_Te_beginsLine 29 = .ok (.ifCond .lt 14, 3) := by decide +kernel
theorem dd_Te_beginsLine_32 : decode cb_Te_beginsLine 32 = .ok (.aload_n 0, 1) := by decide +kernel
theorem dd_Te_beginsLine_33 : decode cb_Te_beginsLine 33 = .ok (.getfield 9, 3) := by decide +kernel
theorem dd_Te_beginsLine_36 : decode cb_Te_beginsLine 36 = .ok (.iload_n 1, 1) := by decide +kernel
theorem dd_Te_beginsLine_37 : decode cb_Te_beginsLine 37 = .ok (.caload, 1) := by decide +kernel
theorem dd_Te_beginsLine_38 : decode cb_Te_beginsLine 38 = .ok (.bipush 10, 2) := by decide +kernel
theorem dd_Te_beginsLine_40 : decode cb_Te_beginsLine 40 = .ok (.if_icmp .ne 7, 3) := by decide +kernel
theorem dd_Te_beginsLine_43 : decode cb_Te_beginsLine 43 = .ok (.iconst 1, 1) := by decide +kernel
theorem dd_Te_beginsLine_44 : decode cb_Te_beginsLine 44 = .ok (.goto 4, 3) := by decide +kernel
theorem dd_Te_beginsLine_47 : decode cb_Te_beginsLine 47 = .ok (.iconst 0, 1) := by decide +kernel
theorem dd_Te_beginsLine_48 : decode cb_Te_beginsLine 48 = .ok (.ireturn, 1) := by decide +kernel
theorem dd_Te_lineEnd_0 : decode cb_Te_lineEnd 0 = .ok (.aload_n 0, 1) := by decide +kernel
theorem dd_Te_lineEnd_1 : decode cb_Te_lineEnd 1 = .ok (.getfield 49, 3) := by decide +kernel
theorem dd_Te_lineEnd_4 : decode cb_Te_lineEnd 4 = .ok (.istore_n 1, 1) := by decide +kernel
theorem dd_Te_lineEnd_5 : decode cb_Te_lineEnd 5 = .ok (.iload_n 1, 1) := by decide +kernel
theorem dd_Te_lineEnd_6 : decode cb_Te_lineEnd 6 = .ok (.aload_n 0, 1) := by decide +kernel
theorem dd_Te_lineEnd_7 : decode cb_Te_lineEnd 7 = .ok (.getfield 15, 3) := by decide +kernel
theorem dd_Te_lineEnd_10 : decode cb_Te_lineEnd 10 = .ok (.if_icmp .ge 20, 3) := by decide +kernel
theorem dd_Te_lineEnd_13 : decode cb_Te_lineEnd 13 = .ok (.aload_n 0, 1) := by decide +kernel
theorem dd_Te_lineEnd_14 : decode cb_Te_lineEnd 14 = .ok (.getfield 9, 3) := by decide +kernel
theorem dd_Te_lineEnd_17 : decode cb_Te_lineEnd 17 = .ok (.iload_n 1, 1) := by decide +kernel
theorem dd_Te_lineEnd_18 : decode cb_Te_lineEnd 18 = .ok (.caload, 1) := by decide +kernel
theorem dd_Te_lineEnd_19 : decode cb_Te_lineEnd 19 = .ok (.bipush 10, 2) := by decide +kernel
theorem dd_Te_lineEnd_21 : decode cb_Te_lineEnd 21 = .ok (.if_icmp .eq 9, 3) := by decide +kernel
theorem dd_Te_lineEnd_24 : decode cb_Te_lineEnd 24 = .ok (.iinc 1 1, 3) := by decide +kernel
theorem dd_Te_lineEnd_27 : decode cb_Te_lineEnd 27 = .ok (.goto (-22), 3) := by decide +kernel
theorem dd_Te_lineEnd_30 : decode cb_Te_lineEnd 30 = .ok (.iload_n 1, 1) := by decide +kernel
theorem dd_Te_lineEnd_31 : decode cb_Te_lineEnd 31 = .ok (.ireturn, 1) := by decide +kernel
theorem dd_Te_isAtEnd_0 : decode cb_Te_isAtEnd 0 = .ok (.aload_n 0, 1) := by decide +kernel
theorem dd_Te_isAtEnd_1 : decode cb_Te_isAtEnd 1 = .ok (.getfield 49, 3) := by decide +kernel
theorem dd_Te_isAtEnd_4 : decode cb_Te_isAtEnd 4 = .ok (.aload_n 0, 1) := by decide +kernel
theorem dd_Te_isAtEnd_5 : decode cb_Te_isAtEnd 5 = .ok (.getfield 15, 3) := by decide +kernel
theorem dd_Te_isAtEnd_8 : decode cb_Te_isAtEnd 8 = .ok (.if_icmp .lt 7, 3) := by decide +kernel
theorem dd_Te_isAtEnd_11 : decode cb_Te_isAtEnd 11 = .ok (.iconst 1, 1) := by decide +kernel
theorem dd_Te_isAtEnd_12 : decode cb_Te_isAtEnd 12 = .ok (.goto 4, 3) := by decide +kernel
theorem dd_Te_isAtEnd_15 : decode cb_Te_isAtEnd 15 = .ok (.iconst 0, 1) := by decide +kernel
theorem dd_Te_isAtEnd_16 : decode cb_Te_isAtEnd 16 = .ok (.ireturn, 1) := by decide +kernel
theorem dd_Te_isWord_0 : decode cb_Te_isWord 0 = .ok (.aload_n 0, 1) := by decide +kernel
theorem dd_Te_isWord_1 : decode cb_Te_isWord 1 = .ok (.getfield 31, 3) := by decide +kernel
theorem dd_Te_isWord_4 : decode cb_Te_isWord 4 = .ok (.aload_n 0, 1) := by decide +kernel
theorem dd_Te_isWord_5 : decode cb_Te_isWord 5 = .ok (.getfield 49, 3) := by decide +kernel
theorem dd_Te_isWord_8 : decode cb_Te_isWord 8 = .ok (.isub, 1) := by decide +kernel
theorem dd_Te_isWord_9 : decode cb_Te_isWord 9 = .ok (.aload_n 1, 1) := by decide +kernel
theorem dd_Te_isWord_10 : decode cb_Te_isWord 10 = .ok (.invokevirtual 52, 3) := by decide +kernel
theorem dd_Te_isWord_13 : decode cb_Te_isWord 13 = .ok (.if_icmp .eq 5, 3) := by decide +kernel
theorem dd_Te_isWord_16 : decode cb_Te_isWord 16 = .ok (.iconst 0, 1) := by decide +kernel
theorem dd_Te_isWord_17 : decode cb_Te_isWord 17 = .ok (.ireturn, 1) := by decide +kernel
theorem dd_Te_isWord_18 : decode cb_Te_isWord 18 = .ok (.aload_n 0, 1) := by decide +kernel
theorem dd_Te_isWord_19 : decode cb_Te_isWord 19 = .ok (.getfield 49, 3) := by decide +kernel
theorem dd_Te_isWord_22 : decode cb_Te_isWord 22 = .ok (.istore_n 2, 1) := by decide +kernel
theorem dd_Te_isWord_23 : decode cb_Te_isWord 23 = .ok (.iload_n 2, 1) := by decide +kernel
theorem dd_Te_isWord_24 : decode cb_Te_isWord 24 = .ok (.aload_n 0, 1) := by decide +kernel
theorem dd_Te_isWord_25 : decode cb_Te_isWord 25 = .ok (.getfield 31, 3) := by decide +kernel
theorem dd_Te_isWord_28 : decode cb_Te_isWord 28 = .ok (.if_icmp .ge 30, 3) := by decide +kernel
theorem dd_Te_isWord_31 : decode cb_Te_isWord 31 = .ok (.aload_n 0, 1) := by decide +kernel
theorem dd_Te_isWord_32 : decode cb_Te_isWord 32 = .ok (.getfield 9, 3) := by decide +kernel
theorem dd_Te_isWord_35 : decode cb_Te_isWord 35 = .ok (.iload_n 2, 1) := by decide +kernel
theorem dd_Te_isWord_36 : decode cb_Te_isWord 36 = .ok (.caload, 1) := by decide +kernel
theorem dd_Te_isWord_37 : decode cb_Te_isWord 37 = .ok (.aload_n 1, 1) := by decide +kernel
theorem dd_Te_isWord_38 : decode cb_Te_isWord 38 = .ok (.iload_n 2, 1) := by decide +kernel
theorem dd_Te_isWord_39 : decode cb_Te_isWord 39 = .ok (.aload_n 0, 1) := by decide +kernel
theorem dd_Te_isWord_40 : decode cb_Te_isWord 40 = .ok (.getfield 49, 3) := by decide +kernel
theorem dd_Te_isWord_43 : decode cb_Te_isWord 43 = .ok (.isub, 1) := by decide +kernel
theorem dd_Te_isWord_44 : decode cb_Te_isWord 44 = .ok (.invokevirtual 56, 3) := by decide +kernel
theorem dd_Te_isWord_47 : decode cb_Te_isWord 47 = .ok (.if_icmp .eq 5, 3) := by decide +kernel
theorem dd_Te_isWord_50 : decode cb_Te_isWord 50 = .ok (.iconst 0, 1) := by decide +kernel
theorem dd_Te_isWord_51 : decode cb_Te_isWord 51 = .ok (.ireturn, 1) := by decide +kernel
theorem dd_Te_isWord_52 : decode cb_Te_isWord 52 = .ok (.iinc 2 1, 3) := by decide +kernel
theorem dd_Te_isWord_55 : decode cb_Te_isWord 55 = .ok (.goto (-32), 3) := by decide +kernel
theorem dd_Te_isWord_58 : decode cb_Te_isWord 58 = .ok (.iconst 1, 1) := by decide +kernel
theorem dd_Te_isWord_59 : decode cb_Te_isWord 59 = .ok (.ireturn, 1) := by decide +kernel
theorem dd_Te_isRemark_0 : decode cb_Te_isRemark 0 = .ok (.aload_n 0, 1) := by decide +kernel
theorem dd_Te_isRemark_1 : decode cb_Te_isRemark 1 = .ok (.getfield 27, 3) := by decide +kernel
theorem dd_Te_isRemark_4 : decode cb_Te_isRemark 4 = .ok (.ifCond .eq 23, 3) := by decide +kernel
theorem dd_Te_isRemark_7 : decode cb_Te_isRemark 7 = .ok (.aload_n 0, 1) := by decide +kernel
theorem dd_Te_isRemark_8 : decode cb_Te_isRemark 8 = .ok (.ldc 75, 2) := by decide +kernel
theorem dd_Te_isRemark_10 : decode cb_Te_isRemark 10 = .ok (.invokevirtual 63, 3) := by decide +kernel
theorem dd_Te_isRemark_13 : decode cb_Te_isRemark 13 = .ok (.ifCond .eq 14, 3) := by decide +kernel
theorem dd_Te_isRemark_16 : decode cb_Te_isRemark 16 = .ok (.aload_n 0, 1) := by decide +kernel
theorem dd_Te_isRemark_17 : decode cb_Te_isRemark 17 = .ok (.invokevirtual 77, 3) := by decide +kernel
theorem dd_Te_isRemark_20 : decode cb_Te_isRemark 20 = .ok (.ifCond .eq 7, 3) := by decide +kernel
theorem dd_Te_isRemark_23 : decode cb_Te_isRemark 23 = .ok (.iconst 1, 1) := by decide +kernel
theorem dd_Te_isRemark_24 : decode cb_Te_isRemark 24 = .ok (.goto 4, 3) := by decide +kernel
theorem dd_Te_isRemark_27 : decode cb_Te_isRemark 27 = .ok (.iconst 0, 1) := by decide +kernel
theorem dd_Te_isRemark_28 : decode cb_Te_isRemark 28 = .ok (.ireturn, 1) := by decide +kernel
theorem dd_Te_advance_0 : decode cb_Te_advance 0 = .ok (.aload_n 0, 1) := by decide +kernel
theorem dd_Te_advance_1 : decode cb_Te_advance 1 = .ok (.aload_n 0, 1) := by decide +kernel
theorem dd_Te_advance_2 : decode cb_Te_advance 2 = .ok (.getfield 31, 3) := by decide +kernel
theorem dd_Te_advance_5 : decode cb_Te_advance 5 = .ok (.invokevirtual 37, 3) := by decide +kernel
theorem dd_Te_advance_8 : decode cb_Te_advance 8 = .ok (.iconst 0, 1) := by decide +kernel
theorem dd_Te_advance_9 : decode cb_Te_advance 9 = .ok (.istore_n 1, 1) := by decide +kernel
theorem dd_Te_advance_10 : decode cb_Te_advance 10 = .ok (.iload_n 1, 1) := by decide +kernel
theorem dd_Te_advance_11 : decode cb_Te_advance 11 = .ok (.aload_n 0, 1) := by decide +kernel
theorem dd_Te_advance_12 : decode cb_Te_advance 12 = .ok (.getfield 15, 3) := by decide +kernel
theorem dd_Te_advance_15 : decode cb_Te_advance 15 = .ok (.if_icmp .ge 24, 3) := by decide +kernel
theorem dd_Te_advance_18 : decode cb_Te_advance 18 = .ok (.aload_n 0, 1) := by decide +kernel
theorem dd_Te_advance_19 : decode cb_Te_advance 19 = .ok (.invokevirtual 41, 3) := by decide +kernel
theorem dd_Te_advance_22 : decode cb_Te_advance 22 = .ok (.ifCond .eq 17, 3) := by decide +kernel
theorem dd_Te_advance_25 : decode cb_Te_advance 25 = .ok (.aload_n 0, 1) := by decide +kernel
theorem dd_Te_advance_26 : decode cb_Te_advance 26 = .ok (.aload_n 0, 1) := by decide +kernel
theorem dd_Te_advance_27 : decode cb_Te_advance 27 = .ok (.invokevirtual 45, 3) := by decide +kernel
theorem dd_Te_advance_30 : decode cb_Te_advance 30 = .ok (.invokevirtual 37, 3) := by decide +kernel
theorem dd_Te_advance_33 : decode cb_Te_advance 33 = .ok (.iinc 1 1, 3) := by decide +kernel
theorem dd_Te_advance_36 : decode cb_Te_advance 36 = .ok (.goto (-26), 3) := by decide +kernel
theorem dd_Te_advance_39 : decode cb_Te_advance 39 = .ok (.return_, 1) := by decide +kernel
theorem dd_Te_rewind_0 : decode cb_Te_rewind 0 = .ok (.aload_n 0, 1) := by decide +kernel
theorem dd_Te_rewind_1 : decode cb_Te_rewind 1 = .ok (.iload_n 1, 1) := by decide +kernel
theorem dd_Te_rewind_2 : decode cb_Te_rewind 2 = .ok (.putfield 27, 3) := by decide +kernel
theorem dd_Te_rewind_5 : decode cb_Te_rewind 5 = .ok (.aload_n 0, 1) := by decide +kernel
theorem dd_Te_rewind_6 : decode cb_Te_rewind 6 = .ok (.iconst 0, 1) := by decide +kernel
theorem dd_Te_rewind_7 : decode cb_Te_rewind 7 = .ok (.putfield 31, 3) := by decide +kernel
theorem dd_Te_rewind_10 : decode cb_Te_rewind 10 = .ok (.aload_n 0, 1) := by decide +kernel
theorem dd_Te_rewind_11 : decode cb_Te_rewind 11 = .ok (.invokevirtual 34, 3) := by decide +kernel
theorem dd_Te_rewind_14 : decode cb_Te_rewind 14 = .ok (.return_, 1) := by decide +kernel
theorem dd_Te_isNumber_0 : decode cb_Te_isNumber 0 = .ok (.aload_n 0, 1) := by decide +kernel
theorem dd_Te_isNumber_1 : decode cb_Te_isNumber 1 = .ok (.getfield 49, 3) := by decide +kernel
theorem dd_Te_isNumber_4 : decode cb_Te_isNumber 4 = .ok (.aload_n 0, 1) := by decide +kernel
theorem dd_Te_isNumber_5 : decode cb_Te_isNumber 5 = .ok (.getfield 31, 3) := by decide +kernel
theorem dd_Te_isNumber_8 : decode cb_Te_isNumber 8 = .ok (.if_icmp .ge 21, 3) := by decide +kernel
theorem dd_Te_isNumber_11 : decode cb_Te_isNumber 11 = .ok (.aload_n 0, 1) := by decide +kernel
theorem dd_Te_isNumber_12 : decode cb_Te_isNumber 12 = .ok (.getfield 9, 3) := by decide +kernel
theorem dd_Te_isNumber_15 : decode cb_Te_isNumber 15 = .ok (.aload_n 0, 1) := by decide +kernel
theorem dd_Te_isNumber_16 : decode cb_Te_isNumber 16 = .ok (.getfield 49, 3) := by decide +kernel
theorem dd_Te_isNumber_19 : decode cb_Te_isNumber 19 = .ok (.caload, 1) := by decide +kernel
theorem dd_Te_isNumber_20 : decode cb_Te_isNumber 20 = .ok (.bipush 45, 2) := by decide +kernel
theorem dd_Te_isNumber_22 : decode cb_Te_isNumber 22 = .ok (.if_icmp .ne 7, 3) := by decide +kernel
theorem dd_Te_isNumber_25 : decode cb_Te_isNumber 25 = .ok (.iconst 1, 1) := by decide +kernel
theorem dd_Te_isNumber_26 : decode cb_Te_isNumber 26 = .ok (.goto 4, 3) := by decide +kernel
theorem dd_Te_isNumber_29 : decode cb_Te_isNumber 29 = .ok (.iconst 0, 1) := by decide +kernel
theorem dd_Te_isNumber_30 : decode cb_Te_isNumber 30 = .ok (.istore_n 3, 1) := by decide +kernel
theorem dd_Te_isNumber_31 : decode cb_Te_isNumber 31 = .ok (.iload_n 3, 1) := by decide +kernel
theorem dd_Te_isNumber_32 : decode cb_Te_isNumber 32 = .ok (.ifCond .eq 12, 3) := by decide +kernel
theorem dd_Te_isNumber_35 : decode cb_Te_isNumber 35 = .ok (.aload_n 0, 1) := by decide +kernel
theorem dd_Te_isNumber_36 : decode cb_Te_isNumber 36 = .ok (.getfield 49, 3) := by decide +kernel
theorem dd_Te_isNumber_39 : decode cb_Te_isNumber 39 = .ok (.iconst 1, 1) := by decide +kernel
theorem dd_Te_isNumber_40 : decode cb_Te_isNumber 40 = .ok (.iadd, 1) := by decide +kernel
theorem dd_Te_isNumber_41 : decode cb_Te_isNumber 41 = .ok (.goto 7, 3) := by decide +kernel
theorem dd_Te_isNumber_44 : decode cb_Te_isNumber 44 = .ok (.aload_n 0, 1) := by decide +kernel
theorem dd_Te_isNumber_45 : decode cb_Te_isNumber 45 = .ok (.getfield 49, 3) := by decide +kernel
theorem dd_Te_isNumber_48 : decode cb_Te_isNumber 48 = .ok (.istore 4, 2) := by decide +kernel
theorem dd_Te_isNumber_50 : decode cb_Te_isNumber 50 = .ok (.iload 4, 2) := by decide +kernel
theorem dd_Te_isNumber_52 : decode cb_Te_isNumber 52 = .ok (.aload_n 0, 1) := by decide +kernel
theorem dd_Te_isNumber_53 : decode cb_Te_isNumber 53 = .ok (.getfield 31, 3) := by decide +kernel
theorem dd_Te_isNumber_56 : decode cb_Te_isNumber 56 = .ok (.if_icmp .ge 14, 3) := by decide +kernel
theorem dd_Te_isNumber_59 : decode cb_Te_isNumber 59 = .ok (.aload_n 0, 1) := by decide +kernel
theorem dd_Te_isNumber_60 : decode cb_Te_isNumber 60 = .ok (.getfield 31, 3) := by decide +kernel
theorem dd_Te_isNumber_63 : decode cb_Te_isNumber 63 = .ok (.iload 4, 2) := by decide +kernel
theorem dd_Te_isNumber_65 : decode cb_Te_isNumber 65 = .ok (.isub, 1) := by decide +kernel
theorem dd_Te_isNumber_66 : decode cb_Te_isNumber 66 = .ok (.iconst 4, 1) := by decide +kernel
theorem dd_Te_isNumber_67 : decode cb_Te_isNumber 67 = .ok (.if_icmp .le 5, 3) := by decide +kernel
theorem dd_Te_isNumber_70 : decode cb_Te_isNumber 70 = .ok (.iconst 0, 1) := by decide +kernel
theorem dd_Te_isNumber_71 : decode cb_Te_isNumber 71 = .ok (.ireturn, 1) := by decide +kernel
theorem dd_Te_isNumber_72 : decode cb_Te_isNumber 72 = .ok (.iconst 0, 1) := by decide +kernel
theorem dd_Te_isNumber_73 : decode cb_Te_isNumber 73 = .ok (.istore 5, 2) := by decide +kernel
theorem dd_Te_isNumber_75 : decode cb_Te_isNumber 75 = .ok (.iload 4, 2) := by decide +kernel
theorem dd_Te_isNumber_77 : decode cb_Te_isNumber 77 = .ok (.istore 6, 2) := by decide +kernel
theorem dd_Te_isNumber_79 : decode cb_Te_isNumber 79 = .ok (.iload 6, 2) := by decide +kernel
theorem dd_Te_isNumber_81 : decode cb_Te_isNumber 81 = .ok (.aload_n 0, 1) := by decide +kernel
theorem dd_Te_isNumber_82 : decode cb_Te_isNumber 82 = .ok (.getfield 31, 3) := by decide +kernel
theorem dd_Te_isNumber_85 : decode cb_Te_isNumber 85 = .ok (.if_icmp .ge 53, 3) := by decide +kernel
theorem dd_Te_isNumber_88 : decode cb_Te_isNumber 88 = .ok (.aload_n 0, 1) := by decide +kernel
theorem dd_Te_isNumber_89 : decode cb_Te_isNumber 89 = .ok (.getfield 9, 3) := by decide +kernel
theorem dd_Te_isNumber_92 : decode cb_Te_isNumber 92 = .ok (.iload 6, 2) := by decide +kernel
theorem dd_Te_isNumber_94 : decode cb_Te_isNumber 94 = .ok (.caload, 1) := by decide +kernel
theorem dd_Te_isNumber_95 : decode cb_Te_isNumber 95 = .ok (.bipush 48, 2) := by decide +kernel
theorem dd_Te_isNumber_97 : decode cb_Te_isNumber 97 = .ok (.if_icmp .lt 15, 3) := by decide +kernel
theorem dd_Te_isNumber_100 : decode cb_Te_isNumber 100 = .ok (.aload_n 0, 1) := by decide +kernel
theorem dd_Te_isNumber_101 : decode cb_Te_isNumber 101 = .ok (.getfield 9, 3) := by decide +kernel
theorem dd_Te_isNumber_104 : decode cb_Te_isNumber 104 = .ok (.iload 6, 2) := by decide +kernel
theorem dd_Te_isNumber_106 : decode cb_Te_isNumber 106 = .ok (.caload, 1) := by decide +kernel
theorem dd_Te_isNumber_107 : decode cb_Te_isNumber 107 = .ok (.bipush 57, 2) := by decide +kernel
theorem dd_Te_isNumber_109 : decode cb_Te_isNumber 109 = .ok (.if_icmp .le 5, 3) := by decide +kernel
theorem dd_Te_isNumber_112 : decode cb_Te_isNumber 112 = .ok (.iconst 0, 1) := by decide +kernel
theorem dd_Te_isNumber_113 : decode cb_Te_isNumber 113 = .ok (.ireturn, 1) := by decide +kernel
theorem dd_Te_isNumber_114 : decode cb_Te_isNumber 114 = .ok (.bipush 10, 2) := by decide +kernel
theorem dd_Te_isNumber_116 : decode cb_Te_isNumber 116 = .ok (.iload 5, 2) := by decide +kernel
theorem dd_Te_isNumber_118 : decode cb_Te_isNumber 118 = .ok (.imul, 1) := by decide +kernel
theorem dd_Te_isNumber_119 : decode cb_Te_isNumber 119 = .ok (.aload_n 0, 1) := by decide +kernel
theorem dd_Te_isNumber_120 : decode cb_Te_isNumber 120 = .ok (.getfield 9, 3) := by decide +kernel
theorem dd_Te_isNumber_123 : decode cb_Te_isNumber 123 = .ok (.iload 6, 2) := by decide +kernel
theorem dd_Te_isNumber_125 : decode cb_Te_isNumber 125 = .ok (.caload, 1) := by decide +kernel
theorem dd_Te_isNumber_126 : decode cb_Te_isNumber 126 = .ok (.bipush 48, 2) := by decide +kernel
theorem dd_Te_isNumber_128 : decode cb_Te_isNumber 128 = .ok (.isub, 1) := by decide +kernel
theorem dd_Te_isNumber_129 : decode cb_Te_isNumber 129 = .ok (.iadd, 1) := by decide +kernel
theorem dd_Te_isNumber_130 : decode cb_Te_isNumber 130 = .ok (.istore 5, 2) := by decide +kernel
theorem dd_Te_isNumber_132 : decode cb_Te_isNumber 132 = .ok (.iinc 6 1, 3) := by decide +kernel
theorem dd_Te_isNumber_135 : decode cb_Te_isNumber 135 = .ok (.goto (-56), 3) := by decide +kernel
theorem dd_Te_isNumber_138 : decode cb_Te_isNumber 138 = .ok (.aload_n 0, 1) := by decide +kernel
theorem dd_Te_isNumber_139 : decode cb_Te_isNumber 139 = .ok (.iload_n 3, 1) := by decide +kernel
theorem dd_Te_isNumber_140 : decode cb_Te_isNumber 140 = .ok (.ifCond .eq 9, 3) := by decide +kernel
theorem dd_Te_isNumber_143 : decode cb_Te_isNumber 143 = .ok (.iload 5, 2) := by decide +kernel
theorem dd_Te_isNumber_145 : decode cb_Te_isNumber 145 = .ok (.ineg, 1) := by decide +kernel
theorem dd_Te_isNumber_146 : decode cb_Te_isNumber 146 = .ok (.goto 5, 3) := by decide +kernel
theorem dd_Te_isNumber_149 : decode cb_Te_isNumber 149 = .ok (.iload 5, 2) := by decide +kernel
theorem dd_Te_isNumber_151 : decode cb_Te_isNumber 151 = .ok (.putfield 60, 3) := by decide +kernel
theorem dd_Te_isNumber_154 : decode cb_Te_isNumber 154 = .ok (.iload_n 1, 1) := by decide +kernel
theorem dd_Te_isNumber_155 : decode cb_Te_isNumber 155 = .ok (.aload_n 0, 1) := by decide +kernel
theorem dd_Te_isNumber_156 : decode cb_Te_isNumber 156 = .ok (.getfield 60, 3) := by decide +kernel
theorem dd_Te_isNumber_159 : decode cb_Te_isNumber 159 = .ok (.if_icmp .gt 15, 3) := by decide +kernel
theorem dd_Te_isNumber_162 : decode cb_Te_isNumber 162 = .ok (.aload_n 0, 1) := by decide +kernel
theorem dd_Te_isNumber_163 : decode cb_Te_isNumber 163 = .ok (.getfield 60, 3) := by decide +kernel
theorem dd_Te_isNumber_166 : decode cb_Te_isNumber 166 = .ok (.iload_n 2, 1) := by decide +kernel
theorem dd_Te_isNumber_167 : decode cb_Te_isNumber 167 = .ok (.if_icmp .gt 7, 3) := by decide +kernel
theorem dd_Te_isNumber_170 : decode cb_Te_isNumber 170 = .ok (.iconst 1, 1) := by decide +kernel
theorem dd_Te_isNumber_171 : decode cb_Te_isNumber 171 = .ok (.goto 4, 3) := by decide +kernel
theorem dd_Te_isNumber_174 : decode cb_Te_isNumber 174 = .ok (.iconst 0, 1) := by decide +kernel
theorem dd_Te_isNumber_175 : decode cb_Te_isNumber 175 = .ok (.ireturn, 1) := by decide +kernel
theorem dd_Te_passesNumber_0 : decode cb_Te_passesNumber 0 = .ok (.aload_n 0, 1) := by decide +kernel
theorem dd_Te_passesNumber_1 : decode cb_Te_passesNumber 1 = .ok (.iload_n 1, 1) := by decide +kernel
theorem dd_Te_passesNumber_2 : decode cb_Te_passesNumber 2 = .ok (.iload_n 2, 1) := by decide +kernel
theorem dd_Te_passesNumber_3 : decode cb_Te_passesNumber 3 = .ok (.invokevirtual 67, 3) := by decide +kernel
theorem dd_Te_passesNumber_6 : decode cb_Te_passesNumber 6 = .ok (.ifCond .ne 5, 3) := by decide +kernel
theorem dd_Te_passesNumber_9 : decode cb_Te_passesNumber 9 = .ok (.iconst 0, 1) := by decide +kernel
theorem dd_Te_passesNumber_10 : decode cb_Te_passesNumber 10 = .ok (.ireturn, 1) := by decide +kernel
theorem dd_Te_passesNumber_11 : decode cb_Te_passesNumber 11 = .ok (.aload_n 0, 1) := by decide +kernel
theorem dd_Te_passesNumber_12 : decode cb_Te_passesNumber 12 = .ok (.invokevirtual 34, 3) := by decide +kernel
theorem dd_Te_passesNumber_15 : decode cb_Te_passesNumber 15 = .ok (.iconst 1, 1) := by decide +kernel
theorem dd_Te_passesNumber_16 : decode cb_Te_passesNumber 16 = .ok (.ireturn, 1) := by decide +kernel
theorem dd_Te_passesWord_0 : decode cb_Te_passesWord 0 = .ok (.aload_n 0, 1) := by decide +kernel
theorem dd_Te_passesWord_1 : decode cb_Te_passesWord 1 = .ok (.aload_n 1, 1) := by decide +kernel
theorem dd_Te_passesWord_2 : decode cb_Te_passesWord 2 = .ok (.invokevirtual 63, 3) := by decide +kernel
theorem dd_Te_passesWord_5 : decode cb_Te_passesWord 5 = .ok (.ifCond .ne 5, 3) := by decide +kernel
theorem dd_Te_passesWord_8 : decode cb_Te_passesWord 8 = .ok (.iconst 0, 1) := by decide +kernel
theorem dd_Te_passesWord_9 : decode cb_Te_passesWord 9 = .ok (.ireturn, 1) := by decide +kernel
theorem dd_Te_passesWord_10 : decode cb_Te_passesWord 10 = .ok (.aload_n 0, 1) := by decide +kernel
theorem dd_Te_passesWord_11 : decode cb_Te_passesWord 11 = .ok (.invokevirtual 34, 3) := by decide +kernel
theorem dd_Te_passesWord_14 : decode cb_Te_passesWord 14 = .ok (.iconst 1, 1) := by decide +kernel
theorem dd_Te_passesWord_15 : decode cb_Te_passesWord 15 = .ok (.ireturn, 1) := by decide +kernel
theorem dd_Te_init_0 : decode cb_Te_init 0 = .ok (.aload_n 0, 1) := by decide +kernel
theorem dd_Te_init_1 : decode cb_Te_init 1 = .ok (.invokespecial 3, 3) := by decide +kernel
theorem dd_Te_init_4 : decode cb_Te_init 4 = .ok (.aload_n 0, 1) := by decide +kernel
theorem dd_Te_init_5 : decode cb_Te_init 5 = .ok (.sipush 160, 3) := by decide +kernel
theorem dd_Te_init_8 : decode cb_Te_init 8 = .ok (.newarray .char, 2) := by decide +kernel
theorem dd_Te_init_10 : decode cb_Te_init 10 = .ok (.putfield 9, 3) := by decide +kernel
theorem dd_Te_init_13 : decode cb_Te_init 13 = .ok (.return_, 1) := by decide +kernel
theorem dd_In_bitCount_0 : decode cb_In_bitCount 0 = .ok (.iload_n 0, 1) := by decide +kernel
theorem dd_In_bitCount_1 : decode cb_In_bitCount 1 = .ok (.iload_n 0, 1) := by decide +kernel
theorem dd_In_bitCount_2 : decode cb_In_bitCount 2 = .ok (.iconst 1, 1) := by decide +kernel
theorem dd_In_bitCount_3 : decode cb_In_bitCount 3 = .ok (.iushr, 1) := by decide +kernel
theorem dd_In_bitCount_4 : decode cb_In_bitCount 4 = .ok (.ldc_w 265, 3) := by decide +kernel
theorem dd_In_bitCount_7 : decode cb_In_bitCount 7 = .ok (.iand, 1) := by decide +kernel
theorem dd_In_bitCount_8 : decode cb_In_bitCount 8 = .ok (.isub, 1) := by decide +kernel
theorem dd_In_bitCount_9 : decode cb_In_bitCount 9 = .ok (.istore_n 0, 1) := by decide +kernel
theorem dd_In_bitCount_10 : decode cb_In_bitCount 10 = .ok (.iload_n 0, 1) := by decide +kernel
theorem dd_In_bitCount_11 : decode cb_In_bitCount 11 = .ok (.ldc_w 266, 3) := by decide +kernel
theorem dd_In_bitCount_14 : decode cb_In_bitCount 14 = .ok (.iand, 1) := by decide +kernel
theorem dd_In_bitCount_15 : decode cb_In_bitCount 15 = .ok (.iload_n 0, 1) := by decide +kernel
theorem dd_In_bitCount_16 : decode cb_In_bitCount 16 = .ok (.iconst 2, 1) := by decide +kernel
theorem dd_In_bitCount_17 : decode cb_In_bitCount 17 = .ok (.iushr, 1) := by decide +kernel
theorem dd_In_bitCount_18 : decode cb_In_bitCount 18 = .ok (.ldc_w 266, 3) := by decide +kernel
theorem dd_In_bitCount_21 : decode cb_In_bitCount 21 = .ok (.iand, 1) := by decide +kernel
theorem dd_In_bitCount_22 : decode cb_In_bitCount 22 = .ok (.iadd, 1) := by decide +kernel
theorem dd_In_bitCount_23 : decode cb_In_bitCount 23 = .ok (.istore_n 0, 1) := by decide +kernel
theorem dd_In_bitCount_24 : decode cb_In_bitCount 24 = .ok (.iload_n 0, 1) := by decide +kernel
theorem dd_In_bitCount_25 : decode cb_In_bitCount 25 = .ok (.iload_n 0, 1) := by decide +kernel
theorem dd_In_bitCount_26 : decode cb_In_bitCount 26 = .ok (.iconst 4, 1) := by decide +kernel
theorem dd_In_bitCount_27 : decode cb_In_bitCount 27 = .ok (.iushr, 1) := by decide +kernel
theorem dd_In_bitCount_28 : decode cb_In_bitCount 28 = .ok (.iadd, 1) := by decide +kernel
theorem dd_In_bitCount_29 : decode cb_In_bitCount 29 = .ok (.ldc_w 267, 3) := by decide +kernel
theorem dd_In_bitCount_32 : decode cb_In_bitCount 32 = .ok (.iand, 1) := by decide +kernel
theorem dd_In_bitCount_33 : decode cb_In_bitCount 33 = .ok (.istore_n 0, 1) := by decide +kernel
theorem dd_In_bitCount_34 : decode cb_In_bitCount 34 = .ok (.iload_n 0, 1) := by decide +kernel
theorem dd_In_bitCount_35 : decode cb_In_bitCount 35 = .ok (.iload_n 0, 1) := by decide +kernel
theorem dd_In_bitCount_36 : decode cb_In_bitCount 36 = .ok (.bipush 8, 2) := by decide +kernel
theorem dd_In_bitCount_38 : decode cb_In_bitCount 38 = .ok (.iushr, 1) := by decide +kernel
theorem dd_In_bitCount_39 : decode cb_In_bitCount 39 = .ok (.iadd, 1) := by decide +kernel
theorem dd_In_bitCount_40 : decode cb_In_bitCount 40 = .ok (.istore_n 0, 1) := by decide +kernel
theorem dd_In_bitCount_41 : decode cb_In_bitCount 41 = .ok (.iload_n 0, 1) := by decide +kernel
theorem dd_In_bitCount_42 : decode cb_In_bitCount 42 = .ok (.iload_n 0, 1) := by decide +kernel
theorem dd_In_bitCount_43 : decode cb_In_bitCount 43 = .ok (.bipush 16, 2) := by decide +kernel
theorem dd_In_bitCount_45 : decode cb_In_bitCount 45 = .ok (.iushr, 1) := by decide +kernel
theorem dd_In_bitCount_46 : decode cb_In_bitCount 46 = .ok (.iadd, 1) := by decide +kernel
theorem dd_In_bitCount_47 : decode cb_In_bitCount 47 = .ok (.istore_n 0, 1) := by decide +kernel
theorem dd_In_bitCount_48 : decode cb_In_bitCount 48 = .ok (.iload_n 0, 1) := by decide +kernel
theorem dd_In_bitCount_49 : decode cb_In_bitCount 49 = .ok (.bipush 63, 2) := by decide +kernel
theorem dd_In_bitCount_51 : decode cb_In_bitCount 51 = .ok (.iand, 1) := by decide +kernel
theorem dd_In_bitCount_52 : decode cb_In_bitCount 52 = .ok (.ireturn, 1) := by decide +kernel
theorem dd_St_length_0 : decode cb_St_length 0 = .ok (.aload_n 0, 1) := by decide +kernel
theorem dd_St_length_1 : decode cb_St_length 1 = .ok (.getfield 9, 3) := by decide +kernel
theorem dd_St_length_4 : decode cb_St_length 4 = .ok (.arraylength, 1) := by decide +kernel
theorem dd_St_length_5 : decode cb_St_length 5 = .ok (.aload_n 0, 1) := by decide +kernel
theorem dd_St_length_6 : decode cb_St_length 6 = .ok (.invokevirtual 335, 3) := by decide +kernel
theorem dd_St_length_9 : decode cb_St_length 9 = .ok (.ishr, 1) := by decide +kernel
theorem dd_St_length_10 : decode cb_St_length 10 = .ok (.ireturn, 1) := by decide +kernel
theorem dd_St_coder_0 : decode cb_St_coder 0 = .ok (.getstatic 38, 3) := by decide +kernel
theorem dd_St_coder_3 : decode cb_St_coder 3 = .ok (.ifCond .eq 10, 3) := by decide +kernel
theorem dd_St_coder_6 : decode cb_St_coder 6 = .ok (.aload_n 0, 1) := by decide +kernel
theorem dd_St_coder_7 : decode cb_St_coder 7 = .ok (.getfield 15, 3) := by decide +kernel
theorem dd_St_coder_10 : decode cb_St_coder 10 = .ok (.goto 4, 3) := by decide +kernel
theorem dd_St_coder_13 : decode cb_St_coder 13 = .ok (.iconst 1, 1) := by decide +kernel
theorem dd_St_coder_14 : decode cb_St_coder 14 = .ok (.ireturn, 1) := by decide +kernel
theorem dd_St_charAt_0 : decode cb_St_charAt 0 = .ok (.aload_n 0, 1) := by decide +kernel
theorem dd_St_charAt_1 : decode cb_St_charAt 1 = .ok (.invokevirtual 492, 3) := by decide +kernel
theorem dd_St_charAt_4 : decode cb_St_charAt 4 = .ok (.ifCond .eq 12, 3) := by decide +kernel
theorem dd_St_charAt_7 : decode cb_St_charAt 7 = .ok (.aload_n 0, 1) := by decide +kernel
theorem dd_St_charAt_8 : decode cb_St_charAt 8 = .ok (.getfield 9, 3) := by decide +kernel
theorem dd_St_charAt_11 : decode cb_St_charAt 11 = .ok (.iload_n 1, 1) := by decide +kernel
theorem dd_St_charAt_12 : decode cb_St_charAt 12 = .ok (.invokestatic 495, 3) := by decide +kernel
theorem dd_St_charAt_15 : decode cb_St_charAt 15 = .ok (.ireturn, 1) := by decide +kernel
theorem dd_St_charAt_16 : decode cb_St_charAt 16 = .ok (.aload_n 0, 1) := by decide +kernel
theorem dd_St_charAt_17 : decode cb_St_charAt 17 = .ok (.getfield 9, 3) := by decide +kernel
theorem dd_St_charAt_20 : decode cb_St_charAt 20 = .ok (.iload_n 1, 1) := by decide +kernel
theorem dd_St_charAt_21 : decode cb_St_charAt 21 = .ok (.invokestatic 498, 3) := by decide +kernel
theorem dd_St_charAt_24 : decode cb_St_charAt 24 = .ok (.ireturn, 1) := by decide +kernel
theorem dd_St_isLatin1_0 : decode cb_St_isLatin1 0 = .ok (.getstatic 38, 3) := by decide +kernel
theorem dd_St_isLatin1_3 : decode cb_St_isLatin1 3 = .ok (.ifCond .eq 14, 3) := by decide +kernel
theorem dd_St_isLatin1_6 : decode cb_St_isLatin1 6 = .ok (.aload_n 0, 1) := by decide +kernel
theorem dd_St_isLatin1_7 : decode cb_St_isLatin1 7 = .ok (.getfield 15, 3) := by decide +kernel
theorem dd_St_isLatin1_10 : decode cb_St_isLatin1 10 = .ok (.ifCond .ne 7, 3) := by decide +kernel
theorem dd_St_isLatin1_13 : decode cb_St_isLatin1 13 = .ok (.iconst 1, 1) := by decide +kernel
theorem dd_St_isLatin1_14 : decode cb_St_isLatin1 14 = .ok (.goto 4, 3) := by decide +kernel
theorem dd_St_isLatin1_17 : decode cb_St_isLatin1 17 = .ok (.iconst 0, 1) := by decide +kernel
theorem dd_St_isLatin1_18 : decode cb_St_isLatin1 18 = .ok (.ireturn, 1) := by decide +kernel
theorem dd_St_checkIndex_0 : decode cb_St_checkIndex 0 = .ok (.iload_n 0, 1) := by decide +kernel
theorem dd_St_checkIndex_1 : decode cb_St_checkIndex 1 = .ok (.iload_n 1, 1) := by decide +kernel
theorem dd_St_checkIndex_2 : decode cb_St_checkIndex 2 = .ok (.getstatic 1053, 3) := by decide +kernel
theorem dd_St_checkIndex_5 : decode cb_St_checkIndex 5 = .ok (.invokestatic 1059, 3) := by decide +kernel
theorem dd_St_checkIndex_8 : decode cb_St_checkIndex 8 = .ok (.pop, 1) := by decide +kernel
theorem dd_St_checkIndex_9 : decode cb_St_checkIndex 9 = .ok (.return_, 1) := by decide +kernel
theorem dd_Sl_charAt_0 : decode cb_Sl_charAt 0 = .ok (.iload_n 1, 1) := by decide +kernel
theorem dd_Sl_charAt_1 : decode cb_Sl_charAt 1 = .ok (.aload_n 0, 1) := by decide +kernel
theorem dd_Sl_charAt_2 : decode cb_Sl_charAt 2 = .ok (.arraylength, 1) := by decide +kernel
theorem dd_Sl_charAt_3 : decode cb_Sl_charAt 3 = .ok (.invokestatic 9, 3) := by decide +kernel
theorem dd_Sl_charAt_6 : decode cb_Sl_charAt 6 = .ok (.aload_n 0, 1) := by decide +kernel
theorem dd_Sl_charAt_7 : decode cb_Sl_charAt 7 = .ok (.iload_n 1, 1) := by decide +kernel
theorem dd_Sl_charAt_8 : decode cb_Sl_charAt 8 = .ok (.baload, 1) := by decide +kernel
theorem dd_Sl_charAt_9 : decode cb_Sl_charAt 9 = .ok (.sipush 255, 3) := by decide +kernel
theorem dd_Sl_charAt_12 : decode cb_Sl_charAt 12 = .ok (.iand, 1) := by decide +kernel
theorem dd_Sl_charAt_13 : decode cb_Sl_charAt 13 = .ok (.i2c, 1) := by decide +kernel
theorem dd_Sl_charAt_14 : decode cb_Sl_charAt 14 = .ok (.ireturn, 1) := by decide +kernel
theorem dd_Pc_checkIndex_0 : decode cb_Pc_checkIndex 0 = .ok (.iload_n 0, 1) := by decide +kernel
theorem dd_Pc_checkIndex_1 : decode cb_Pc_checkIndex 1 = .ok (.ifCond .lt 8, 3) := by decide +kernel
theorem dd_Pc_checkIndex_4 : decode cb_Pc_checkIndex 4 = .ok (.iload_n 0, 1) := by decide +kernel
theorem dd_Pc_checkIndex_5 : decode cb_Pc_checkIndex 5 = .ok (.iload_n 1, 1) := by decide +kernel
theorem dd_Pc_checkIndex_6 : decode cb_Pc_checkIndex 6 = .ok (.if_icmp .lt 10, 3) := by decide +kernel
theorem dd_Pc_checkIndex_9 : decode cb_Pc_checkIndex 9 = .ok (.aload_n 2, 1) := by decide +kernel
theorem dd_Pc_checkIndex_10 : decode cb_Pc_checkIndex 10 = .ok (.iload_n 0, 1) := by decide +kernel
theorem dd_Pc_checkIndex_11 : decode cb_Pc_checkIndex 11 = .ok (.iload_n 1, 1) := by decide +kernel
theorem dd_Pc_checkIndex_12 : decode cb_Pc_checkIndex 12 = .ok (.invokestatic 95, 3) := by decide +kernel
theorem dd_Pc_checkIndex_15 : decode cb_Pc_checkIndex 15 = .ok (.athrow, 1) := by decide +kernel
theorem dd_Pc_checkIndex_16 : decode cb_Pc_checkIndex 16 = .ok (.iload_n 0, 1) := by decide +kernel
theorem dd_Pc_checkIndex_17 : decode cb_Pc_checkIndex 17 = .ok (.ireturn, 1) := by decide +kernel
theorem dd_Co_init_0 : decode cb_Co_init 0 = .ok (.aload_n 0, 1) := by decide +kernel
theorem dd_Co_init_1 : decode cb_Co_init 1 = .ok (.invokespecial 3, 3) := by decide +kernel
theorem dd_Co_init_4 : decode cb_Co_init 4 = .ok (.aload_n 0, 1) := by decide +kernel
theorem dd_Co_init_5 : decode cb_Co_init 5 = .ok (.new 9, 3) := by decide +kernel
theorem dd_Co_init_8 : decode cb_Co_init 8 = .ok (.dup, 1) := by decide +kernel
theorem dd_Co_init_9 : decode cb_Co_init 9 = .ok (.invokespecial 11, 3) := by decide +kernel
theorem dd_Co_init_12 : decode cb_Co_init 12 = .ok (.putfield 12, 3) := by decide +kernel
theorem dd_Co_init_15 : decode cb_Co_init 15 = .ok (.aload_n 0, 1) := by decide +kernel
theorem dd_Co_init_16 : decode cb_Co_init 16 = .ok (.new 16, 3) := by decide +kernel
theorem dd_Co_init_19 : decode cb_Co_init 19 = .ok (.dup, 1) := by decide +kernel
theorem dd_Co_init_20 : decode cb_Co_init 20 = .ok (.invokespecial 18, 3) := by decide +kernel
theorem dd_Co_init_23 : decode cb_Co_init 23 = .ok (.putfield 19, 3) := by decide +kernel
theorem dd_Co_init_26 : decode cb_Co_init 26 = .ok (.aload_n 0, 1) := by decide +kernel
theorem dd_Co_init_27 : decode cb_Co_init 27 = .ok (.new 23, 3) := by decide +kernel
theorem dd_Co_init_30 : decode cb_Co_init 30 = .ok (.dup, 1) := by decide +kernel
theorem dd_Co_init_31 : decode cb_Co_init 31 = .ok (.invokespecial 25, 3) := by decide +kernel
theorem dd_Co_init_34 : decode cb_Co_init 34 = .ok (.putfield 26, 3) := by decide +kernel
theorem dd_Co_init_37 : decode cb_Co_init 37 = .ok (.aload_n 0, 1) := by decide +kernel
theorem dd_Co_init_38 : decode cb_Co_init 38 = .ok (.new 30, 3) := by decide +kernel
theorem dd_Co_init_41 : decode cb_Co_init 41 = .ok (.dup, 1) := by decide +kernel
theorem dd_Co_init_42 : decode cb_Co_init 42 = .ok (.iconst 0, 1) := by decide +kernel
theorem dd_Co_init_43 : decode cb_Co_init 43 = .ok (.invokespecial 32, 3) := by decide +kernel
theorem dd_Co_init_46 : decode cb_Co_init 46 = .ok (.invokevirtual 35, 3) := by decide +kernel
theorem dd_Co_init_49 : decode cb_Co_init 49 = .ok (.return_, 1) := by decide +kernel
theorem dd_Co_type_0 : decode cb_Co_type 0 = .ok (.aload_n 0, 1) := by decide +kernel
theorem dd_Co_type_1 : decode cb_Co_type 1 = .ok (.getfield 12, 3) := by decide +kernel
theorem dd_Co_type_4 : decode cb_Co_type 4 = .ok (.iload_n 1, 1) := by decide +kernel
theorem dd_Co_type_5 : decode cb_Co_type 5 = .ok (.iload_n 2, 1) := by decide +kernel
theorem dd_Co_type_6 : decode cb_Co_type 6 = .ok (.invokevirtual 39, 3) := by decide +kernel
theorem dd_Co_type_9 : decode cb_Co_type 9 = .ok (.ireturn, 1) := by decide +kernel
theorem dd_Co_read_0 : decode cb_Co_read 0 = .ok (.aload_n 0, 1) := by decide +kernel
theorem dd_Co_read_1 : decode cb_Co_read 1 = .ok (.getfield 12, 3) := by decide +kernel
theorem dd_Co_read_4 : decode cb_Co_read 4 = .ok (.invokestatic 43, 3) := by decide +kernel
theorem dd_Co_read_7 : decode cb_Co_read 7 = .ok (.astore_n 1, 1) := by decide +kernel
theorem dd_Co_read_8 : decode cb_Co_read 8 = .ok (.aload_n 0, 1) := by decide +kernel
theorem dd_Co_read_9 : decode cb_Co_read 9 = .ok (.getfield 12, 3) := by decide +kernel
theorem dd_Co_read_12 : decode cb_Co_read 12 = .ok (.getfield 47, 3) := by decide +kernel
theorem dd_Co_read_15 : decode cb_Co_read 15 = .ok (.istore_n 2, 1) := by decide +kernel
theorem dd_Co_read_16 : decode cb_Co_read 16 = .ok (.aload_n 0, 1) := by decide +kernel
theorem dd_Co_read_17 : decode cb_Co_read 17 = .ok (.getfield 12, 3) := by decide +kernel
theorem dd_Co_read_20 : decode cb_Co_read 20 = .ok (.invokevirtual 51, 3) := by decide +kernel
theorem dd_Co_read_23 : decode cb_Co_read 23 = .ok (.aload_n 1, 1) := by decide +kernel
theorem dd_Co_read_24 : decode cb_Co_read 24 = .ok (.ifnonnull 7, 3) := by decide +kernel
theorem dd_Co_read_27 : decode cb_Co_read 27 = .ok (.iconst (-1), 1) := by decide +kernel
theorem dd_Co_read_28 : decode cb_Co_read 28 = .ok (.iload_n 2, 1) := by decide +kernel
theorem dd_Co_read_29 : decode cb_Co_read 29 = .ok (.isub, 1) := by decide +kernel
theorem dd_Co_read_30 : decode cb_Co_read 30 = .ok (.ireturn, 1) := by decide +kernel
theorem dd_Co_read_31 : decode cb_Co_read 31 = .ok (.aload_n 0, 1) := by decide +kernel
theorem dd_Co_read_32 : decode cb_Co_read 32 = .ok (.aload_n 1, 1) := by decide +kernel
theorem dd_Co_read_33 : decode cb_Co_read 33 = .ok (.invokevirtual 35, 3) := by decide +kernel
theorem dd_Co_read_36 : decode cb_Co_read 36 = .ok (.aload_n 1, 1) := by decide +kernel
theorem dd_Co_read_37 : decode cb_Co_read 37 = .ok (.getfield 54, 3) := by decide +kernel
theorem dd_Co_read_40 : decode cb_Co_read 40 = .ok (.ireturn, 1) := by decide +kernel
theorem dd_Co_variables_0 : decode cb_Co_variables 0 = .ok (.aload_n 0, 1) := by decide +kernel
theorem dd_Co_variables_1 : decode cb_Co_variables 1 = .ok (.getfield 57, 3) := by decide +kernel
theorem dd_Co_variables_4 : decode cb_Co_variables 4 = .ok (.getfield 61, 3) := by decide +kernel
theorem dd_Co_variables_7 : decode cb_Co_variables 7 = .ok (.ireturn, 1) := by decide +kernel
theorem dd_Co_live_0 : decode cb_Co_live 0 = .ok (.aload_n 0, 1) := by decide +kernel
theorem dd_Co_live_1 : decode cb_Co_live 1 = .ok (.getfield 19, 3) := by decide +kernel
theorem dd_Co_live_4 : decode cb_Co_live 4 = .ok (.getfield 64, 3) := by decide +kernel
theorem dd_Co_live_7 : decode cb_Co_live 7 = .ok (.ireturn, 1) := by decide +kernel
theorem dd_Co_literal_0 : decode cb_Co_literal 0 = .ok (.aload_n 0, 1) := by decide +kernel
theorem dd_Co_literal_1 : decode cb_Co_literal 1 = .ok (.getfield 19, 3) := by decide +kernel
theorem dd_Co_literal_4 : decode cb_Co_literal 4 = .ok (.iload_n 1, 1) := by decide +kernel
theorem dd_Co_literal_5 : decode cb_Co_literal 5 = .ok (.invokevirtual 65, 3) := by decide +kernel
theorem dd_Co_literal_8 : decode cb_Co_literal 8 = .ok (.astore_n 3, 1) := by decide +kernel
theorem dd_Co_literal_9 : decode cb_Co_literal 9 = .ok (.aload_n 3, 1) := by decide +kernel
theorem dd_Co_literal_10 : decode cb_Co_literal 10 = .ok (.ifnull 15, 3) := by decide +kernel
theorem dd_Co_literal_13 : decode cb_Co_literal 13 = .ok (.iload_n 2, 1) := by decide +kernel
theorem dd_Co_literal_14 : decode cb_Co_literal 14 = .ok (.ifCond .lt 11, 3) := by decide +kernel
theorem dd_Co_literal_17 : decode cb_Co_literal 17 = .ok (.iload_n 2, 1) := by decide +kernel
theorem dd_Co_literal_18 : decode cb_Co_literal 18 = .ok (.aload_n 3, 1) := by decide +kernel
theorem dd_Co_literal_19 : decode cb_Co_literal 19 = .ok (.getfield 69, 3) := by decide +kernel
theorem dd_Co_literal_22 : decode cb_Co_literal 22 = .ok (.if_icmp .lt 7, 3) := by decide +kernel
theorem dd_Co_literal_25 : decode cb_Co_literal 25 = .ok (.iconst 0, 1) := by decide +kernel
theorem dd_Co_literal_26 : decode cb_Co_literal 26 = .ok (.goto 9, 3) := by decide +kernel
theorem dd_Co_literal_29 : decode cb_Co_literal 29 = .ok (.aload_n 3, 1) := by decide +kernel
theorem dd_Co_literal_30 : decode cb_Co_literal 30 = .ok (.getfield 72, 3) := by decide +kernel
theorem dd_Co_literal_33 : decode cb_Co_literal 33 = .ok (.iload_n 2, 1) := by decide +kernel
theorem dd_Co_literal_34 : decode cb_Co_literal 34 = .ok (.iaload, 1) := by decide +kernel
theorem dd_Co_literal_35 : decode cb_Co_literal 35 = .ok (.ireturn, 1) := by decide +kernel
theorem dd_Co_solve_0 : decode cb_Co_solve 0 = .ok (.aload_n 0, 1) := by decide +kernel
theorem dd_Co_solve_1 : decode cb_Co_solve 1 = .ok (.getfield 26, 3) := by decide +kernel
theorem dd_Co_solve_4 : decode cb_Co_solve 4 = .ok (.invokevirtual 76, 3) := by decide +kernel
theorem dd_Co_solve_7 : decode cb_Co_solve 7 = .ok (.ifCond .eq 7, 3) := by decide +kernel
theorem dd_Co_solve_10 : decode cb_Co_solve 10 = .ok (.iconst 1, 1) := by decide +kernel
theorem dd_Co_solve_11 : decode cb_Co_solve 11 = .ok (.goto 4, 3) := by decide +kernel
theorem dd_Co_solve_14 : decode cb_Co_solve 14 = .ok (.iconst 0, 1) := by decide +kernel
theorem dd_Co_solve_15 : decode cb_Co_solve 15 = .ok (.ireturn, 1) := by decide +kernel
theorem dd_Co_value_0 : decode cb_Co_value 0 = .ok (.iload_n 1, 1) := by decide +kernel
theorem dd_Co_value_1 : decode cb_Co_value 1 = .ok (.iconst 1, 1) := by decide +kernel
theorem dd_Co_value_2 : decode cb_Co_value 2 = .ok (.if_icmp .lt 24, 3) := by decide +kernel
theorem dd_Co_value_5 : decode cb_Co_value 5 = .ok (.iload_n 1, 1) := by decide +kernel
theorem dd_Co_value_6 : decode cb_Co_value 6 = .ok (.aload_n 0, 1) := by decide +kernel
theorem dd_Co_value_7 : decode cb_Co_value 7 = .ok (.getfield 57, 3) := by decide +kernel
theorem dd_Co_value_10 : decode cb_Co_value 10 = .ok (.getfield 61, 3) := by decide +kernel
theorem dd_Co_value_13 : decode cb_Co_value 13 = .ok (.if_icmp .gt 13, 3) := by decide +kernel
theorem dd_Co_value_16 : decode cb_Co_value 16 = .ok (.aload_n 0, 1) := by decide +kernel
theorem dd_Co_value_17 : decode cb_Co_value 17 = .ok (.getfield 26, 3) := by decide +kernel
theorem dd_Co_value_20 : decode cb_Co_value 20 = .ok (.invokevirtual 76, 3) := by decide +kernel
theorem dd_Co_value_23 : decode cb_Co_value 23 = .ok (.ifCond .ne 5, 3) := by decide +kernel
theorem dd_Co_value_26 : decode cb_Co_value 26 = .ok (.iconst (-1), 1) := by decide +kernel
theorem dd_Co_value_27 : decode cb_Co_value 27 = .ok (.ireturn, 1) := by decide +kernel
theorem dd_Co_value_28 : decode cb_Co_value 28 = .ok (.aload_n 0, 1) := by decide +kernel
theorem dd_Co_value_29 : decode cb_Co_value 29 = .ok (.getfield 26, 3) := by decide +kernel
theorem dd_Co_value_32 : decode cb_Co_value 32 = .ok (.getfield 80, 3) := by decide +kernel
theorem dd_Co_value_35 : decode cb_Co_value 35 = .ok (.iload_n 1, 1) := by decide +kernel
theorem dd_Co_value_36 : decode cb_Co_value 36 = .ok (.invokestatic 83, 3) := by decide +kernel
theorem dd_Co_value_39 : decode cb_Co_value 39 = .ok (.iand, 1) := by decide +kernel
theorem dd_Co_value_40 : decode cb_Co_value 40 = .ok (.ifCond .eq 7, 3) := by decide +kernel
theorem dd_Co_value_43 : decode cb_Co_value 43 = .ok (.iconst 1, 1) := by decide +kernel
theorem dd_Co_value_44 : decode cb_Co_value 44 = .ok (.goto 4, 3) := by decide +kernel
theorem dd_Co_value_47 : decode cb_Co_value 47 = .ok (.iconst 0, 1) := by decide +kernel
theorem dd_Co_value_48 : decode cb_Co_value 48 = .ok (.ireturn, 1) := by decide +kernel
theorem dd_Co_count_0 : decode cb_Co_count 0 = .ok (.aload_n 0, 1) := by decide +kernel
theorem dd_Co_count_1 : decode cb_Co_count 1 = .ok (.getfield 57, 3) := by decide +kernel
theorem dd_Co_count_4 : decode cb_Co_count 4 = .ok (.invokevirtual 87, 3) := by decide +kernel
theorem dd_Co_count_7 : decode cb_Co_count 7 = .ok (.ireturn, 1) := by decide +kernel
theorem dd_Co_forced_0 : decode cb_Co_forced 0 = .ok (.aload_n 0, 1) := by decide +kernel
theorem dd_Co_forced_1 : decode cb_Co_forced 1 = .ok (.iload_n 1, 1) := by decide +kernel
theorem dd_Co_forced_2 : decode cb_Co_forced 2 = .ok (.invokevirtual 91, 3) := by decide +kernel
theorem dd_Co_forced_5 : decode cb_Co_forced 5 = .ok (.ifCond .eq 21, 3) := by decide +kernel
theorem dd_Co_forced_8 : decode cb_Co_forced 8 = .ok (.aload_n 0, 1) := by decide +kernel
theorem dd_Co_forced_9 : decode cb_Co_forced 9 = .ok (.iload_n 2, 1) := by decide +kernel
theorem dd_Co_forced_10 : decode cb_Co_forced 10 = .ok (.invokevirtual 91, 3) := by decide +kernel
theorem dd_Co_forced_13 : decode cb_Co_forced 13 = .ok (.ifCond .eq 13, 3) := by decide +kernel
theorem dd_Co_forced_16 : decode cb_Co_forced 16 = .ok (.iload_n 1, 1) := by decide +kernel
theorem dd_Co_forced_17 : decode cb_Co_forced 17 = .ok (.ifCond .eq 12, 3) := by decide +kernel
theorem dd_Co_forced_20 : decode cb_Co_forced 20 = .ok (.iload_n 1, 1) := by decide +kernel
theorem dd_Co_forced_21 : decode cb_Co_forced 21 = .ok (.iload_n 2, 1) := by decide +kernel
theorem dd_Co_forced_22 : decode cb_Co_forced 22 = .ok (.ineg, 1) := by decide +kernel
theorem dd_Co_forced_23 : decode cb_Co_forced 23 = .ok (.if_icmp .ne 6, 3) := by decide +kernel
theorem dd_Co_forced_26 : decode cb_Co_forced 26 = .ok (.bipush (-2), 2) := by decide +kernel
theorem dd_Co_forced_28 : decode cb_Co_forced 28 = .ok (.ireturn, 1) := by decide +kernel
theorem dd_Co_forced_29 : decode cb_Co_forced 29 = .ok (.aload_n 0, 1) := by decide +kernel
theorem dd_Co_forced_30 : decode cb_Co_forced 30 = .ok (.getfield 57, 3) := by decide +kernel
theorem dd_Co_forced_33 : decode cb_Co_forced 33 = .ok (.iload_n 1, 1) := by decide +kernel
theorem dd_Co_forced_34 : decode cb_Co_forced 34 = .ok (.invokestatic 83, 3) := by decide +kernel
theorem dd_Co_forced_37 : decode cb_Co_forced 37 = .ok (.iload_n 2, 1) := by decide +kernel
theorem dd_Co_forced_38 : decode cb_Co_forced 38 = .ok (.invokestatic 83, 3) := by decide +kernel
theorem dd_Co_forced_41 : decode cb_Co_forced 41 = .ok (.ior, 1) := by decide +kernel
theorem dd_Co_forced_42 : decode cb_Co_forced 42 = .ok (.invokevirtual 95, 3) := by decide +kernel
theorem dd_Co_forced_45 : decode cb_Co_forced 45 = .ok (.istore_n 3, 1) := by decide +kernel
theorem dd_Co_forced_46 : decode cb_Co_forced 46 = .ok (.iload_n 3, 1) := by decide +kernel
theorem dd_Co_forced_47 : decode cb_Co_forced 47 = .ok (.iconst (-1), 1) := by decide +kernel
theorem dd_Co_forced_48 : decode cb_Co_forced 48 = .ok (.if_icmp .ne 7, 3) := by decide +kernel
theorem dd_Co_forced_51 : decode cb_Co_forced 51 = .ok (.iconst (-1), 1) := by decide +kernel
theorem dd_Co_forced_52 : decode cb_Co_forced 52 = .ok (.goto 7, 3) := by decide +kernel
theorem dd_Co_forced_55 : decode cb_Co_forced 55 = .ok (.iload_n 3, 1) := by decide +kernel
theorem dd_Co_forced_56 : decode cb_Co_forced 56 = .ok (.invokestatic 98, 3) := by decide +kernel
theorem dd_Co_forced_59 : decode cb_Co_forced 59 = .ok (.ireturn, 1) := by decide +kernel
theorem dd_Co_line_0 : decode cb_Co_line 0 = .ok (.aload_n 0, 1) := by decide +kernel
theorem dd_Co_line_1 : decode cb_Co_line 1 = .ok (.getfield 12, 3) := by decide +kernel
theorem dd_Co_line_4 : decode cb_Co_line 4 = .ok (.aload_n 0, 1) := by decide +kernel
theorem dd_Co_line_5 : decode cb_Co_line 5 = .ok (.getfield 57, 3) := by decide +kernel
theorem dd_Co_line_8 : decode cb_Co_line 8 = .ok (.getfield 61, 3) := by decide +kernel
theorem dd_Co_line_11 : decode cb_Co_line 11 = .ok (.invokestatic 103, 3) := by decide +kernel
theorem dd_Co_line_14 : decode cb_Co_line 14 = .ok (.astore_n 1, 1) := by decide +kernel
theorem dd_Co_line_15 : decode cb_Co_line 15 = .ok (.aload_n 0, 1) := by decide +kernel
theorem dd_Co_line_16 : decode cb_Co_line 16 = .ok (.getfield 12, 3) := by decide +kernel
theorem dd_Co_line_19 : decode cb_Co_line 19 = .ok (.getfield 47, 3) := by decide +kernel
theorem dd_Co_line_22 : decode cb_Co_line 22 = .ok (.istore_n 2, 1) := by decide +kernel
theorem dd_Co_line_23 : decode cb_Co_line 23 = .ok (.aload_n 0, 1) := by decide +kernel
theorem dd_Co_line_24 : decode cb_Co_line 24 = .ok (.getfield 12, 3) := by decide +kernel
theorem dd_Co_line_27 : decode cb_Co_line 27 = .ok (.invokevirtual 51, 3) := by decide +kernel
theorem dd_Co_line_30 : decode cb_Co_line 30 = .ok (.aload_n 1, 1) := by decide +kernel
theorem dd_Co_line_31 : decode cb_Co_line 31 = .ok (.ifnonnull 7, 3) := by decide +kernel
theorem dd_Co_line_34 : decode cb_Co_line 34 = .ok (.iconst (-1), 1) := by decide +kernel
theorem dd_Co_line_35 : decode cb_Co_line 35 = .ok (.iload_n 2, 1) := by decide +kernel
theorem dd_Co_line_36 : decode cb_Co_line 36 = .ok (.isub, 1) := by decide +kernel
theorem dd_Co_line_37 : decode cb_Co_line 37 = .ok (.ireturn, 1) := by decide +kernel
theorem dd_Co_line_38 : decode cb_Co_line 38 = .ok (.aload_n 1, 1) := by decide +kernel
theorem dd_Co_line_39 : decode cb_Co_line 39 = .ok (.getfield 109, 3) := by decide +kernel
theorem dd_Co_line_42 : decode cb_Co_line 42 = .ok (.ifnonnull 14, 3) := by decide +kernel
theorem dd_Co_line_45 : decode cb_Co_line 45 = .ok (.aload_n 0, 1) := by decide +kernel
theorem dd_Co_line_46 : decode cb_Co_line 46 = .ok (.getfield 19, 3) := by decide +kernel
theorem dd_Co_line_49 : decode cb_Co_line 49 = .ok (.aload_n 1, 1) := by decide +kernel
theorem dd_Co_line_50 : decode cb_Co_line 50 = .ok (.invokevirtual 113, 3) := by decide +kernel
theorem dd_Co_line_53 : decode cb_Co_line 53 = .ok (.goto 11, 3) := by decide +kernel
theorem dd_Co_line_56 : decode cb_Co_line 56 = .ok (.aload_n 0, 1) := by decide +kernel
theorem dd_Co_line_57 : decode cb_Co_line 57 = .ok (.getfield 19, 3) := by decide +kernel
theorem dd_Co_line_60 : decode cb_Co_line 60 = .ok (.aload_n 1, 1) := by decide +kernel
theorem dd_Co_line_61 : decode cb_Co_line 61 = .ok (.invokevirtual 117, 3) := by decide +kernel
theorem dd_Co_line_64 : decode cb_Co_line 64 = .ok (.ireturn, 1) := by decide +kernel
theorem dd_Co_refuted_0 : decode cb_Co_refuted 0 = .ok (.aload_n 0, 1) := by decide +kernel
theorem dd_Co_refuted_1 : decode cb_Co_refuted 1 = .ok (.getfield 19, 3) := by decide +kernel
theorem dd_Co_refuted_4 : decode cb_Co_refuted 4 = .ok (.getfield 120, 3) := by decide +kernel
theorem dd_Co_refuted_7 : decode cb_Co_refuted 7 = .ok (.ireturn, 1) := by decide +kernel
theorem dd_Co_proves_0 : decode cb_Co_proves 0 = .ok (.aload_n 0, 1) := by decide +kernel
theorem dd_Co_proves_1 : decode cb_Co_proves 1 = .ok (.getfield 26, 3) := by decide +kernel
theorem dd_Co_proves_4 : decode cb_Co_proves 4 = .ok (.invokevirtual 76, 3) := by decide +kernel
theorem dd_Co_proves_7 : decode cb_Co_proves 7 = .ok (.ifCond .ne 27, 3) := by decide +kernel
theorem dd_Co_proves_10 : decode cb_Co_proves 10 = .ok (.aload_n 0, 1) := by decide +kernel
theorem dd_Co_proves_11 : decode cb_Co_proves 11 = .ok (.getfield 26, 3) := by decide +kernel
theorem dd_Co_proves_14 : decode cb_Co_proves 14 = .ok (.getfield 124, 3) := by decide +kernel
theorem dd_Co_proves_17 : decode cb_Co_proves 17 = .ok (.ifCond .eq 17, 3) := by decide +kernel
theorem dd_Co_proves_20 : decode cb_Co_proves 20 = .ok (.aload_n 0, 1) := by decide +kernel
theorem dd_Co_proves_21 : decode cb_Co_proves 21 = .ok (.getfield 26, 3) := by decide +kernel
theorem dd_Co_proves_24 : decode cb_Co_proves 24 = .ok (.getfield 127, 3) := by decide +kernel
theorem dd_Co_proves_27 : decode cb_Co_proves 27 = .ok (.ifCond .eq 7, 3) := by decide +kernel
theorem dd_Co_proves_30 : decode cb_Co_proves 30 = .ok (.iconst 1, 1) := by decide +kernel
theorem dd_Co_proves_31 : decode cb_Co_proves 31 = .ok (.goto 4, 3) := by decide +kernel
theorem dd_Co_proves_34 : decode cb_Co_proves 34 = .ok (.iconst 0, 1) := by decide +kernel
theorem dd_Co_proves_35 : decode cb_Co_proves 35 = .ok (.ireturn, 1) := by decide +kernel
theorem dd_Co_take_0 : decode cb_Co_take 0 = .ok (.aload_n 0, 1) := by decide +kernel
theorem dd_Co_take_1 : decode cb_Co_take 1 = .ok (.aload_n 1, 1) := by decide +kernel
theorem dd_Co_take_2 : decode cb_Co_take 2 = .ok (.putfield 57, 3) := by decide +kernel
theorem dd_Co_take_5 : decode cb_Co_take 5 = .ok (.aload_n 0, 1) := by decide +kernel
theorem dd_Co_take_6 : decode cb_Co_take 6 = .ok (.getfield 19, 3) := by decide +kernel
theorem dd_Co_take_9 : decode cb_Co_take 9 = .ok (.aload_n 1, 1) := by decide +kernel
theorem dd_Co_take_10 : decode cb_Co_take 10 = .ok (.invokevirtual 130, 3) := by decide +kernel
theorem dd_Co_take_13 : decode cb_Co_take 13 = .ok (.aload_n 0, 1) := by decide +kernel
theorem dd_Co_take_14 : decode cb_Co_take 14 = .ok (.getfield 26, 3) := by decide +kernel
theorem dd_Co_take_17 : decode cb_Co_take 17 = .ok (.aload_n 1, 1) := by decide +kernel
theorem dd_Co_take_18 : decode cb_Co_take 18 = .ok (.invokevirtual 133, 3) := by decide +kernel
theorem dd_Co_take_21 : decode cb_Co_take 21 = .ok (.return_, 1) := by decide +kernel
theorem dd_Co_isLiteralOrNone_0 : decode cb_Co_isLiteralOrNone 0 = .ok (.aload_n 0, 1) := by decide +kernel
theorem dd_Co_isLiteralOrNone_1 : decode cb_Co_isLiteralOrNone 1 = .ok (.getfield 57, 3) := by decide +kernel
theorem dd_Co_isLiteralOrNone_4 : decode cb_Co_isLiteralOrNone 4 = .ok (.getfield 61, 3) := by decide +kernel
theorem dd_Co_isLiteralOrNone_7 : decode cb_Co_isLiteralOrNone 7 = .ok (.ineg, 1) := by decide +kernel
theorem dd_Co_isLiteralOrNone_8 : decode cb_Co_isLiteralOrNone 8 = .ok (.iload_n 1, 1) := by decide +kernel
theorem dd_Co_isLiteralOrNone_9 : decode cb_Co_isLiteralOrNone 9 = .ok (.if_icmp .gt 18, 3) := by decide +kernel
theorem dd_Co_isLiteralOrNone_12 : decode cb_Co_isLiteralOrNone 12 = .ok (.iload_n 1, 1) := by decide +kernel
theorem dd_Co_isLiteralOrNone_13 : decode cb_Co_isLiteralOrNone 13 = .ok (.aload_n 0, 1) := by decide +kernel
theorem dd_Co_isLiteralOrNone_14 : decode cb_Co_isLiteralOrNone 14 = .ok (.getfield 57, 3) := by decide +kernel
theorem dd_Co_isLiteralOrNone_17 : decode cb_Co_isLiteralOrNone 17 = .ok (.getfield 61, 3) := by decide +kernel
theorem dd_Co_isLiteralOrNone_20 : decode cb_Co_isLiteralOrNone 20 = .ok (.if_icmp .gt 7, 3) := by decide +kernel
theorem dd_Co_isLiteralOrNone_23 : decode cb_Co_isLiteralOrNone 23 = .ok (.iconst 1, 1) := by decide +kernel
theorem dd_Co_isLiteralOrNone_24 : decode cb_Co_isLiteralOrNone 24 = .ok (.goto 4, 3) := by decide +kernel
theorem dd_Co_isLiteralOrNone_27 : decode cb_Co_isLiteralOrNone 27 = .ok (.iconst 0, 1) := by decide +kernel
theorem dd_Co_isLiteralOrNone_28 : decode cb_Co_isLiteralOrNone 28 = .ok (.ireturn, 1) := by decide +kernel
theorem dd_Co_bit_0 : decode cb_Co_bit 0 = .ok (.iload_n 0, 1) := by decide +kernel
theorem dd_Co_bit_1 : decode cb_Co_bit 1 = .ok (.ifCond .ne 5, 3) := by decide +kernel
theorem dd_Co_bit_4 : decode cb_Co_bit 4 = .ok (.iconst 0, 1) := by decide +kernel
theorem dd_Co_bit_5 : decode cb_Co_bit 5 = .ok (.ireturn, 1) := by decide +kernel
theorem dd_Co_bit_6 : decode cb_Co_bit 6 = .ok (.iload_n 0, 1) := by decide +kernel
theorem dd_Co_bit_7 : decode cb_Co_bit 7 = .ok (.ifCond .le 11, 3) := by decide +kernel
theorem dd_Co_bit_10 : decode cb_Co_bit 10 = .ok (.iconst 1, 1) := by decide +kernel
theorem dd_Co_bit_11 : decode cb_Co_bit 11 = .ok (.iload_n 0, 1) := by decide +kernel
theorem dd_Co_bit_12 : decode cb_Co_bit 12 = .ok (.iconst 1, 1) := by decide +kernel
theorem dd_Co_bit_13 : decode cb_Co_bit 13 = .ok (.isub, 1) := by decide +kernel
theorem dd_Co_bit_14 : decode cb_Co_bit 14 = .ok (.ishl, 1) := by decide +kernel
theorem dd_Co_bit_15 : decode cb_Co_bit 15 = .ok (.goto 9, 3) := by decide +kernel
theorem dd_Co_bit_18 : decode cb_Co_bit 18 = .ok (.iconst 1, 1) := by decide +kernel
theorem dd_Co_bit_19 : decode cb_Co_bit 19 = .ok (.bipush 9, 2) := by decide +kernel
theorem dd_Co_bit_21 : decode cb_Co_bit 21 = .ok (.iload_n 0, 1) := by decide +kernel
theorem dd_Co_bit_22 : decode cb_Co_bit 22 = .ok (.isub, 1) := by decide +kernel
theorem dd_Co_bit_23 : decode cb_Co_bit 23 = .ok (.ishl, 1) := by decide +kernel
theorem dd_Co_bit_24 : decode cb_Co_bit 24 = .ok (.ireturn, 1) := by decide +kernel
theorem dd_Co_opposites_0 : decode cb_Co_opposites 0 = .ok (.iload_n 0, 1) := by decide +kernel
theorem dd_Co_opposites_1 : decode cb_Co_opposites 1 = .ok (.bipush 10, 2) := by decide +kernel
theorem dd_Co_opposites_3 : decode cb_Co_opposites 3 = .ok (.ishl, 1) := by decide +kernel
theorem dd_Co_opposites_4 : decode cb_Co_opposites 4 = .ok (.iload_n 0, 1) := by decide +kernel
theorem dd_Co_opposites_5 : decode cb_Co_opposites 5 = .ok (.bipush 10, 2) := by decide +kernel
theorem dd_Co_opposites_7 : decode cb_Co_opposites 7 = .ok (.ishr, 1) := by decide +kernel
theorem dd_Co_opposites_8 : decode cb_Co_opposites 8 = .ok (.ior, 1) := by decide +kernel
theorem dd_Co_opposites_9 : decode cb_Co_opposites 9 = .ok (.ldc 134, 2) := by decide +kernel
theorem dd_Co_opposites_11 : decode cb_Co_opposites 11 = .ok (.iand, 1) := by decide +kernel
theorem dd_Co_opposites_12 : decode cb_Co_opposites 12 = .ok (.ireturn, 1) := by decide +kernel
theorem dd_Co_follow_0 : decode cb_Co_follow 0 = .ok (.iload_n 0, 1) := by decide +kernel
theorem dd_Co_follow_1 : decode cb_Co_follow 1 = .ok (.iload_n 1, 1) := by decide +kernel
theorem dd_Co_follow_2 : decode cb_Co_follow 2 = .ok (.invokestatic 135, 3) := by decide +kernel
theorem dd_Co_follow_5 : decode cb_Co_follow 5 = .ok (.iconst (-1), 1) := by decide +kernel
theorem dd_Co_follow_6 : decode cb_Co_follow 6 = .ok (.ixor, 1) := by decide +kernel
theorem dd_Co_follow_7 : decode cb_Co_follow 7 = .ok (.iand, 1) := by decide +kernel
theorem dd_Co_follow_8 : decode cb_Co_follow 8 = .ok (.istore_n 2, 1) := by decide +kernel
theorem dd_Co_follow_9 : decode cb_Co_follow 9 = .ok (.iload_n 2, 1) := by decide +kernel
theorem dd_Co_follow_10 : decode cb_Co_follow 10 = .ok (.ifCond .ne 5, 3) := by decide +kernel
theorem dd_Co_follow_13 : decode cb_Co_follow 13 = .ok (.iconst (-1), 1) := by decide +kernel
theorem dd_Co_follow_14 : decode cb_Co_follow 14 = .ok (.ireturn, 1) := by decide +kernel
theorem dd_Co_follow_15 : decode cb_Co_follow 15 = .ok (.iload_n 2, 1) := by decide +kernel
theorem dd_Co_follow_16 : decode cb_Co_follow 16 = .ok (.invokestatic 98, 3) := by decide +kernel
theorem dd_Co_follow_19 : decode cb_Co_follow 19 = .ok (.iconst 1, 1) := by decide +kernel
theorem dd_Co_follow_20 : decode cb_Co_follow 20 = .ok (.if_icmp .ne 15, 3) := by decide +kernel
theorem dd_Co_follow_23 : decode cb_Co_follow 23 = .ok (.iload_n 2, 1) := by decide +kernel
theorem dd_Co_follow_24 : decode cb_Co_follow 24 = .ok (.iload_n 1, 1) := by decide +kernel
theorem dd_Co_follow_25 : decode cb_Co_follow 25 = .ok (.iand, 1) := by decide +kernel
theorem dd_Co_follow_26 : decode cb_Co_follow 26 = .ok (.ifCond .ne 9, 3) := by decide +kernel
theorem dd_Co_follow_29 : decode cb_Co_follow 29 = .ok (.iload_n 1, 1) := by decide +kernel
theorem dd_Co_follow_30 : decode cb_Co_follow 30 = .ok (.iload_n 2, 1) := by decide +kernel
theorem dd_Co_follow_31 : decode cb_Co_follow 31 = .ok (.ior, 1) := by decide +kernel
theorem dd_Co_follow_32 : decode cb_Co_follow 32 = .ok (.goto 5, 3) := by decide +kernel
theorem dd_Co_follow_35 : decode cb_Co_follow 35 = .ok (.bipush (-2), 2) := by decide +kernel
theorem dd_Co_follow_37 : decode cb_Co_follow 37 = .ok (.ireturn, 1) := by decide +kernel
theorem dd_Cl_init_0 : decode cb_Cl_init 0 = .ok (.aload_n 0, 1) := by decide +kernel
theorem dd_Cl_init_1 : decode cb_Cl_init 1 = .ok (.invokespecial 3, 3) := by decide +kernel
theorem dd_Cl_init_4 : decode cb_Cl_init 4 = .ok (.aload_n 0, 1) := by decide +kernel
theorem dd_Cl_init_5 : decode cb_Cl_init 5 = .ok (.bipush 6, 2) := by decide +kernel
theorem dd_Cl_init_7 : decode cb_Cl_init 7 = .ok (.newarray .int, 2) := by decide +kernel
theorem dd_Cl_init_9 : decode cb_Cl_init 9 = .ok (.putfield 9, 3) := by decide +kernel
theorem dd_Cl_init_12 : decode cb_Cl_init 12 = .ok (.aload_n 0, 1) := by decide +kernel
theorem dd_Cl_init_13 : decode cb_Cl_init 13 = .ok (.iload_n 1, 1) := by decide +kernel
theorem dd_Cl_init_14 : decode cb_Cl_init 14 = .ok (.putfield 15, 3) := by decide +kernel
theorem dd_Cl_init_17 : decode cb_Cl_init 17 = .ok (.return_, 1) := by decide +kernel
theorem dd_Cl_clauseIn_0 : decode cb_Cl_clauseIn 0 = .ok (.new 10, 3) := by decide +kernel
theorem dd_Cl_clauseIn_3 : decode cb_Cl_clauseIn 3 = .ok (.dup, 1) := by decide +kernel
theorem dd_Cl_clauseIn_4 : decode cb_Cl_clauseIn 4 = .ok (.iload_n 1, 1) := by decide +kernel
theorem dd_Cl_clauseIn_5 : decode cb_Cl_clauseIn 5 = .ok (.invokespecial 19, 3) := by decide +kernel
theorem dd_Cl_clauseIn_8 : decode cb_Cl_clauseIn 8 = .ok (.astore_n 3, 1) := by decide +kernel
theorem dd_Cl_clauseIn_9 : decode cb_Cl_clauseIn 9 = .ok (.iconst 0, 1) := by decide +kernel
theorem dd_Cl_clauseIn_10 : decode cb_Cl_clauseIn 10 = .ok (.istore 4, 2) := by decide +kernel
theorem dd_Cl_clauseIn_12 : decode cb_Cl_clauseIn 12 = .ok (.iload 4, 2) := by decide +kernel
theorem dd_Cl_clauseIn_14 : decode cb_Cl_clauseIn 14 = .ok (.sipush 160, 3) := by decide +kernel
theorem dd_Cl_clauseIn_17 : decode cb_Cl_clauseIn 17 = .ok (.if_icmp .ge 52, 3) := by decide +kernel
theorem dd_Cl_clauseIn_20 : decode cb_Cl_clauseIn 20 = .ok (.aload_n 0, 1) := by decide +kernel
theorem dd_Cl_clauseIn_21 : decode cb_Cl_clauseIn 21 = .ok (.iload_n 2, 1) := by decide +kernel
theorem dd_Cl_clauseIn_22 : decode cb_Cl_clauseIn 22 = .ok (.ineg, 1) := by decide +kernel
theorem dd_Cl_clauseIn_23 : decode cb_Cl_clauseIn 23 = .ok (.iload_n 2, 1) := by decide +kernel
theorem dd_Cl_clauseIn_24 : decode cb_Cl_clauseIn 24 = .ok (.invokevirtual 22, 3) := by decide +kernel
theorem dd_Cl_clauseIn_27 : decode cb_Cl_clauseIn 27 = .ok (.ifCond .eq 42, 3) := by decide +kernel
theorem dd_Cl_clauseIn_30 : decode cb_Cl_clauseIn 30 = .ok (.aload_n 0, 1) := by decide +kernel
theorem dd_Cl_clauseIn_31 : decode cb_Cl_clauseIn 31 = .ok (.getfield 28, 3) := by decide +kernel
theorem dd_Cl_clauseIn_34 : decode cb_Cl_clauseIn 34 = .ok (.istore 5, 2) := by decide +kernel
theorem dd_Cl_clauseIn_36 : decode cb_Cl_clauseIn 36 = .ok (.iload 5, 2) := by decide +kernel
theorem dd_Cl_clauseIn_38 : decode cb_Cl_clauseIn 38 = .ok (.ifCond .eq 14, 3) := by decide +kernel
theorem dd_Cl_clauseIn_41 : decode cb_Cl_clauseIn 41 = .ok (.aload_n 3, 1) := by decide +kernel
theorem dd_Cl_clauseIn_42 : decode cb_Cl_clauseIn 42 = .ok (.iload 5, 2) := by decide +kernel
theorem dd_Cl_clauseIn_44 : decode cb_Cl_clauseIn 44 = .ok (.invokevirtual 29, 3) := by decide +kernel
theorem dd_Cl_clauseIn_47 : decode cb_Cl_clauseIn 47 = .ok (.ifCond .ne 5, 3) := by decide +kernel
theorem dd_Cl_clauseIn_50 : decode cb_Cl_clauseIn 50 = .ok (.aconst_null, 1) := by decide +kernel
theorem dd_Cl_clauseIn_51 : decode cb_Cl_clauseIn 51 = .ok (.areturn, 1) := by decide +kernel
theorem dd_Cl_clauseIn_52 : decode cb_Cl_clauseIn 52 = .ok (.aload_n 0, 1) := by decide +kernel
theorem dd_Cl_clauseIn_53 : decode cb_Cl_clauseIn 53 = .ok (.invokevirtual 33, 3) := by decide +kernel
theorem dd_Cl_clauseIn_56 : decode cb_Cl_clauseIn 56 = .ok (.iload 5, 2) := by decide +kernel
theorem dd_Cl_clauseIn_58 : decode cb_Cl_clauseIn 58 = .ok (.ifCond .ne 5, 3) := by decide +kernel
theorem dd_Cl_clauseIn_61 : decode cb_Cl_clauseIn 61 = .ok (.aload_n 3, 1) := by decide +kernel
theorem dd_Cl_clauseIn_62 : decode cb_Cl_clauseIn 62 = .ok (.areturn, 1) := by decide +kernel
theorem dd_Cl_clauseIn_63 : decode cb_Cl_clauseIn 63 = .ok (.iinc 4 1, 3) := by decide +kernel
theorem dd_Cl_clauseIn_66 : decode cb_Cl_clauseIn 66 = .ok (.goto (-54), 3) := by decide +kernel
theorem dd_Cl_clauseIn_69 : decode cb_Cl_clauseIn 69 = .ok (.aconst_null, 1) := by decide +kernel
theorem dd_Cl_clauseIn_70 : decode cb_Cl_clauseIn 70 = .ok (.areturn, 1) := by decide +kernel
theorem dd_Cl_accept_0 : decode cb_Cl_accept 0 = .ok (.aload_n 0, 1) := by decide +kernel
theorem dd_Cl_accept_1 : decode cb_Cl_accept 1 = .ok (.getfield 36, 3) := by decide +kernel
theorem dd_Cl_accept_4 : decode cb_Cl_accept 4 = .ok (.iload_n 1, 1) := by decide +kernel
theorem dd_Cl_accept_5 : decode cb_Cl_accept 5 = .ok (.invokestatic 39, 3) := by decide +kernel
theorem dd_Cl_accept_8 : decode cb_Cl_accept 8 = .ok (.iand, 1) := by decide +kernel
theorem dd_Cl_accept_9 : decode cb_Cl_accept 9 = .ok (.ifCond .eq 5, 3) := by decide +kernel
theorem dd_Cl_accept_12 : decode cb_Cl_accept 12 = .ok (.iconst 1, 1) := by decide +kernel
theorem dd_Cl_accept_13 : decode cb_Cl_accept 13 = .ok (.ireturn, 1) := by decide +kernel
theorem dd_Cl_accept_14 : decode cb_Cl_accept 14 = .ok (.aload_n 0, 1) := by decide +kernel
theorem dd_Cl_accept_15 : decode cb_Cl_accept 15 = .ok (.getfield 43, 3) := by decide +kernel
theorem dd_Cl_accept_18 : decode cb_Cl_accept 18 = .ok (.bipush 6, 2) := by decide +kernel
theorem dd_Cl_accept_20 : decode cb_Cl_accept 20 = .ok (.if_icmp .lt 5, 3) := by decide +kernel
theorem dd_Cl_accept_23 : decode cb_Cl_accept 23 = .ok (.iconst 0, 1) := by decide +kernel
theorem dd_Cl_accept_24 : decode cb_Cl_accept 24 = .ok (.ireturn, 1) := by decide +kernel
theorem dd_Cl_accept_25 : decode cb_Cl_accept 25 = .ok (.aload_n 0, 1) := by decide +kernel
theorem dd_Cl_accept_26 : decode cb_Cl_accept 26 = .ok (.getfield 9, 3) := by decide +kernel
theorem dd_Cl_accept_29 : decode cb_Cl_accept 29 = .ok (.aload_n 0, 1) := by decide +kernel
theorem dd_Cl_accept_30 : decode cb_Cl_accept 30 = .ok (.getfield 43, 3) := by decide +kernel
theorem dd_Cl_accept_33 : decode cb_Cl_accept 33 = .ok (.iload_n 1, 1) := by decide +kernel
theorem dd_Cl_accept_34 : decode cb_Cl_accept 34 = .ok (.iastore, 1) := by decide +kernel
theorem dd_Cl_accept_35 : decode cb_Cl_accept 35 = .ok (.aload_n 0, 1) := by decide +kernel
theorem dd_Cl_accept_36 : decode cb_Cl_accept 36 = .ok (.dup, 1) := by decide +kernel
theorem dd_Cl_accept_37 : decode cb_Cl_accept 37 = .ok (.getfield 43, 3) := by decide +kernel
theorem dd_Cl_accept_40 : decode cb_Cl_accept 40 = .ok (.iconst 1, 1) := by decide +kernel
theorem dd_Cl_accept_41 : decode cb_Cl_accept 41 = .ok (.iadd, 1) := by decide +kernel
theorem dd_Cl_accept_42 : decode cb_Cl_accept 42 = .ok (.putfield 43, 3) := by decide +kernel
theorem dd_Cl_accept_45 : decode cb_Cl_accept 45 = .ok (.aload_n 0, 1) := by decide +kernel
theorem dd_Cl_accept_46 : decode cb_Cl_accept 46 = .ok (.dup, 1) := by decide +kernel
theorem dd_Cl_accept_47 : decode cb_Cl_accept 47 = .ok (.getfield 36, 3) := by decide +kernel
theorem dd_Cl_accept_50 : decode cb_Cl_accept 50 = .ok (.iload_n 1, 1) := by decide +kernel
theorem dd_Cl_accept_51 : decode cb_Cl_accept 51 = .ok (.invokestatic 39, 3) := by decide +kernel
theorem dd_Cl_accept_54 : decode cb_Cl_accept 54 = .ok (.ior, 1) := by decide +kernel
theorem dd_Cl_accept_55 : decode cb_Cl_accept 55 = .ok (.putfield 36, 3) := by decide +kernel
theorem dd_Cl_accept_58 : decode cb_Cl_accept 58 = .ok (.iconst 1, 1) := by decide +kernel
theorem dd_Cl_accept_59 : decode cb_Cl_accept 59 = .ok (.ireturn, 1) := by decide +kernel
theorem dd_Fo_init_0 : decode cb_Fo_init 0 = .ok (.aload_n 0, 1) := by decide +kernel
theorem dd_Fo_init_1 : decode cb_Fo_init 1 = .ok (.invokespecial 3, 3) := by decide +kernel
theorem dd_Fo_init_4 : decode cb_Fo_init 4 = .ok (.aload_n 0, 1) := by decide +kernel
theorem dd_Fo_init_5 : decode cb_Fo_init 5 = .ok (.bipush 24, 2) := by decide +kernel
theorem dd_Fo_init_7 : decode cb_Fo_init 7 = .ok (.anewarray 9, 3) := by decide +kernel
theorem dd_Fo_init_10 : decode cb_Fo_init 10 = .ok (.putfield 11, 3) := by decide +kernel
theorem dd_Fo_init_13 : decode cb_Fo_init 13 = .ok (.aload_n 0, 1) := by decide +kernel
theorem dd_Fo_init_14 : decode cb_Fo_init 14 = .ok (.iconst (-1), 1) := by decide +kernel
theorem dd_Fo_init_15 : decode cb_Fo_init 15 = .ok (.putfield 17, 3) := by decide +kernel
theorem dd_Fo_init_18 : decode cb_Fo_init 18 = .ok (.aload_n 0, 1) := by decide +kernel
theorem dd_Fo_init_19 : decode cb_Fo_init 19 = .ok (.iload_n 1, 1) := by decide +kernel
theorem dd_Fo_init_20 : decode cb_Fo_init 20 = .ok (.putfield 21, 3) := by decide +kernel
theorem dd_Fo_init_23 : decode cb_Fo_init 23 = .ok (.return_, 1) := by decide +kernel
theorem dd_Fo_formulaIn_0 : decode cb_Fo_formulaIn 0 = .ok (.aload_n 0, 1) := by decide +kernel
theorem dd_Fo_formulaIn_1 : decode cb_Fo_formulaIn 1 = .ok (.iconst 1, 1) := by decide +kernel
theorem dd_Fo_formulaIn_2 : decode cb_Fo_formulaIn 2 = .ok (.invokevirtual 24, 3) := by decide +kernel
theorem dd_Fo_formulaIn_5 : decode cb_Fo_formulaIn 5 = .ok (.aload_n 0, 1) := by decide +kernel
theorem dd_Fo_formulaIn_6 : decode cb_Fo_formulaIn 6 = .ok (.ldc 30, 2) := by decide +kernel
theorem dd_Fo_formulaIn_8 : decode cb_Fo_formulaIn 8 = .ok (.invokevirtual 32, 3) := by decide +kernel
theorem dd_Fo_formulaIn_11 : decode cb_Fo_formulaIn 11 = .ok (.ifCond .eq 22, 3) := by decide +kernel
theorem dd_Fo_formulaIn_14 : decode cb_Fo_formulaIn 14 = .ok (.aload_n 0, 1) := by decide +kernel
theorem dd_Fo_formulaIn_15 : decode cb_Fo_formulaIn 15 = .ok (.ldc 36, 2) := by decide +kernel
theorem dd_Fo_formulaIn_17 : decode cb_Fo_formulaIn 17 = .ok (.invokevirtual 32, 3) := by decide +kernel
theorem dd_Fo_formulaIn_20 : decode cb_Fo_formulaIn 20 = .ok (.ifCond .eq 13, 3) := by decide +kernel
theorem dd_Fo_formulaIn_23 : decode cb_Fo_formulaIn 23 = .ok (.aload_n 0, 1) := by decide +kernel
theorem dd_Fo_formulaIn_24 : decode cb_Fo_formulaIn 24 = .ok (.iconst 1, 1) := by decide +kernel
theorem dd_Fo_formulaIn_25 : decode cb_Fo_formulaIn 25 = .ok (.bipush 10, 2) := by decide +kernel
theorem dd_Fo_formulaIn_27 : decode cb_Fo_formulaIn 27 = .ok (.invokevirtual 38, 3) := by decide +kernel
theorem dd_Fo_formulaIn_30 : decode cb_Fo_formulaIn 30 = .ok (.ifCond .ne 5, 3) := by decide +kernel
theorem dd_Fo_formulaIn_33 : decode cb_Fo_formulaIn 33 = .ok (.aconst_null, 1) := by decide +kernel
theorem dd_Fo_formulaIn_34 : decode cb_Fo_formulaIn 34 = .ok (.areturn, 1) := by decide +kernel
theorem dd_Fo_formulaIn_35 : decode cb_Fo_formulaIn 35 = .ok (.new 12, 3) := by decide +kernel
theorem dd_Fo_formulaIn_38 : decode cb_Fo_formulaIn 38 = .ok (.dup, 1) := by decide +kernel
theorem dd_Fo_formulaIn_39 : decode cb_Fo_formulaIn 39 = .ok (.aload_n 0, 1) := by decide +kernel
theorem dd_Fo_formulaIn_40 : decode cb_Fo_formulaIn 40 = .ok (.getfield 42, 3) := by decide +kernel
theorem dd_Fo_formulaIn_43 : decode cb_Fo_formulaIn 43 = .ok (.invokespecial 45, 3) := by decide +kernel
theorem dd_Fo_formulaIn_46 : decode cb_Fo_formulaIn 46 = .ok (.astore_n 1, 1) := by decide +kernel
theorem dd_Fo_formulaIn_47 : decode cb_Fo_formulaIn 47 = .ok (.aload_n 0, 1) := by decide +kernel
theorem dd_Fo_formulaIn_48 : decode cb_Fo_formulaIn 48 = .ok (.iconst 0, 1) := by decide +kernel
theorem dd_Fo_formulaIn_49 : decode cb_Fo_formulaIn 49 = .ok (.bipush 24, 2) := by decide +kernel
theorem dd_Fo_formulaIn_51 : decode cb_Fo_formulaIn 51 = .ok (.invokevirtual 38, 3) := by decide +kernel
theorem dd_Fo_formulaIn_54 : decode cb_Fo_formulaIn 54 = .ok (.ifCond .eq 15, 3) := by decide +kernel
theorem dd_Fo_formulaIn_57 : decode cb_Fo_formulaIn 57 = .ok (.aload_n 1, 1) := by decide +kernel
theorem dd_Fo_formulaIn_58 : decode cb_Fo_formulaIn 58 = .ok (.aload_n 0, 1) := by decide +kernel
theorem dd_Fo_formulaIn_59 : decode cb_Fo_formulaIn 59 = .ok (.aload_n 0, 1) := by decide +kernel
theorem dd_Fo_formulaIn_60 : decode cb_Fo_formulaIn 60 = .ok (.getfield 42, 3) := by decide +kernel
theorem dd_Fo_formulaIn_63 : decode cb_Fo_formulaIn 63 = .ok (.invokevirtual 48, 3) := by decide +kernel
theorem dd_Fo_formulaIn_66 : decode cb_Fo_formulaIn 66 = .ok (.ifCond .ne 5, 3) := by decide +kernel
theorem dd_Fo_formulaIn_69 : decode cb_Fo_formulaIn 69 = .ok (.aconst_null, 1) := by decide +kernel
theorem dd_Fo_formulaIn_70 : decode cb_Fo_formulaIn 70 = .ok (.areturn, 1) := by decide +kernel
theorem dd_Fo_formulaIn_71 : decode cb_Fo_formulaIn 71 = .ok (.aload_n 0, 1) := by decide +kernel
theorem dd_Fo_formulaIn_72 : decode cb_Fo_formulaIn 72 = .ok (.invokevirtual 52, 3) := by decide +kernel
theorem dd_Fo_formulaIn_75 : decode cb_Fo_formulaIn 75 = .ok (.ifCond .eq 7, 3) := by decide +kernel
theorem dd_Fo_formulaIn_78 : decode cb_Fo_formulaIn 78 = .ok (.aload_n 1, 1) := by decide +kernel
theorem dd_Fo_formulaIn_79 : decode cb_Fo_formulaIn 79 = .ok (.goto 4, 3) := by decide +kernel
theorem dd_Fo_formulaIn_82 : decode cb_Fo_formulaIn 82 = .ok (.aconst_null, 1) := by decide +kernel
theorem dd_Fo_formulaIn_83 : decode cb_Fo_formulaIn 83 = .ok (.areturn, 1) := by decide +kernel
theorem dd_Fo_takesClauses_0 : decode cb_Fo_takesClauses 0 = .ok (.iconst 0, 1) := by decide +kernel
theorem dd_Fo_takesClauses_1 : decode cb_Fo_takesClauses 1 = .ok (.istore_n 3, 1) := by decide +kernel
theorem dd_Fo_takesClauses_2 : decode cb_Fo_takesClauses 2 = .ok (.iload_n 3, 1) := by decide +kernel
theorem dd_Fo_takesClauses_3 : decode cb_Fo_takesClauses 3 = .ok (.iload_n 2, 1) := by decide +kernel
theorem dd_Fo_takesClauses_4 : decode cb_Fo_takesClauses 4 = .ok (.if_icmp .ge 50, 3) := by decide +kernel
theorem dd_Fo_takesClauses_7 : decode cb_Fo_takesClauses 7 = .ok (.iload_n 3, 1) := by decide +kernel
theorem dd_Fo_takesClauses_8 : decode cb_Fo_takesClauses 8 = .ok (.bipush 24, 2) := by decide +kernel
theorem dd_Fo_takesClauses_10 : decode cb_Fo_takesClauses 10 = .ok (.if_icmp .ge 44, 3) := by decide +kernel
theorem dd_Fo_takesClauses_13 : decode cb_Fo_takesClauses 13 = .ok (.aload_n 1, 1) := by decide +kernel
theorem dd_Fo_takesClauses_14 : decode cb_Fo_takesClauses 14 = .ok (.iload_n 3, 1) := by decide +kernel
theorem dd_Fo_takesClauses_15 : decode cb_Fo_takesClauses 15 = .ok (.iconst 1, 1) := by decide +kernel
theorem dd_Fo_takesClauses_16 : decode cb_Fo_takesClauses 16 = .ok (.iadd, 1) := by decide +kernel
theorem dd_Fo_takesClauses_17 : decode cb_Fo_takesClauses 17 = .ok (.aload_n 0, 1) := by decide +kernel
theorem dd_Fo_takesClauses_18 : decode cb_Fo_takesClauses 18 = .ok (.getfield 21, 3) := by decide +kernel
theorem dd_Fo_takesClauses_21 : decode cb_Fo_takesClauses 21 = .ok (.invokestatic 56, 3) := by decide +kernel
theorem dd_Fo_takesClauses_24 : decode cb_Fo_takesClauses 24 = .ok (.astore 4, 2) := by decide +kernel
theorem dd_Fo_takesClauses_26 : decode cb_Fo_takesClauses 26 = .ok (.aload 4, 2) := by decide +kernel
theorem dd_Fo_takesClauses_28 : decode cb_Fo_takesClauses 28 = .ok (.ifnonnull 5, 3) := by decide +kernel
theorem dd_Fo_takesClauses_31 : decode cb_Fo_takesClauses 31 = .ok (.iconst 0, 1) := by decide +kernel
theorem dd_Fo_takesClauses_32 : decode cb_Fo_takesClauses 32 = .ok (.ireturn, 1) := by decide +kernel
theorem dd_Fo_takesClauses_33 : decode cb_Fo_takesClauses 33 = .ok (.aload_n 0, 1) := by decide +kernel
theorem dd_Fo_takesClauses_34 : decode cb_Fo_takesClauses 34 = .ok (.getfield 11, 3) := by decide +kernel
theorem dd_Fo_takesClauses_37 : decode cb_Fo_takesClauses 37 = .ok (.iload_n 3, 1) := by decide +kernel
theorem dd_Fo_takesClauses_38 : decode cb_Fo_takesClauses 38 = .ok (.aload 4, 2) := by decide +kernel
theorem dd_Fo_takesClauses_40 : decode cb_Fo_takesClauses 40 = .ok (.aastore, 1) := by decide +kernel
theorem dd_Fo_takesClauses_41 : decode cb_Fo_takesClauses 41 = .ok (.aload_n 0, 1) := by decide +kernel
theorem dd_Fo_takesClauses_42 : decode cb_Fo_takesClauses 42 = .ok (.iload_n 3, 1) := by decide +kernel
theorem dd_Fo_takesClauses_43 : decode cb_Fo_takesClauses 43 = .ok (.iconst 1, 1) := by decide +kernel
theorem dd_Fo_takesClauses_44 : decode cb_Fo_takesClauses 44 = .ok (.iadd, 1) := by decide +kernel
theorem dd_Fo_takesClauses_45 : decode cb_Fo_takesClauses 45 = .ok (.putfield 60, 3) := by decide +kernel
theorem dd_Fo_takesClauses_48 : decode cb_Fo_takesClauses 48 = .ok (.iinc 3 1, 3) := by decide +kernel
theorem dd_Fo_takesClauses_51 : decode cb_Fo_takesClauses 51 = .ok (.goto (-49), 3) := by decide +kernel
theorem dd_Fo_takesClauses_54 : decode cb_Fo_takesClauses 54 = .ok (.iconst 1, 1) := by decide +kernel
theorem dd_Fo_takesClauses_55 : decode cb_Fo_takesClauses 55 = .ok (.ireturn, 1) := by decide +kernel
theorem dd_Fo_satisfying_0 : decode cb_Fo_satisfying 0 = .ok (.aload_n 0, 1) := by decide +kernel
theorem dd_Fo_satisfying_1 : decode cb_Fo_satisfying 1 = .ok (.getfield 17, 3) := by decide +kernel
theorem dd_Fo_satisfying_4 : decode cb_Fo_satisfying 4 = .ok (.iconst (-1), 1) := by decide +kernel
theorem dd_Fo_satisfying_5 : decode cb_Fo_satisfying 5 = .ok (.if_icmp .ne 60, 3) := by decide +kernel
theorem dd_Fo_satisfying_8 : decode cb_Fo_satisfying 8 = .ok (.aload_n 0, 1) := by decide +kernel
theorem dd_Fo_satisfying_9 : decode cb_Fo_satisfying 9 = .ok (.iconst 0, 1) := by decide +kernel
theorem dd_Fo_satisfying_10 : decode cb_Fo_satisfying 10 = .ok (.putfield 17, 3) := by decide +kernel
theorem dd_Fo_satisfying_13 : decode cb_Fo_satisfying 13 = .ok (.iconst 0, 1) := by decide +kernel
theorem dd_Fo_satisfying_14 : decode cb_Fo_satisfying 14 = .ok (.istore_n 1, 1) := by decide +kernel
theorem dd_Fo_satisfying_15 : decode cb_Fo_satisfying 15 = .ok (.iload_n 1, 1) := by decide +kernel
theorem dd_Fo_satisfying_16 : decode cb_Fo_satisfying 16 = .ok (.iconst 1, 1) := by decide +kernel
theorem dd_Fo_satisfying_17 : decode cb_Fo_satisfying 17 = .ok (.aload_n 0, 1) := by decide +kernel
theorem dd_Fo_satisfying_18 : decode cb_Fo_satisfying 18 = .ok (.getfield 21, 3) := by decide +kernel
theorem dd_Fo_satisfying_21 : decode cb_Fo_satisfying 21 = .ok (.ishl, 1) := by decide +kernel
theorem dd_Fo_satisfying_22 : decode cb_Fo_satisfying 22 = .ok (.if_icmp .ge 43, 3) := by decide +kernel
theorem dd_Fo_satisfying_25 : decode cb_Fo_satisfying 25 = .ok (.iconst 1, 1) := by decide +kernel
theorem dd_Fo_satisfying_26 : decode cb_Fo_satisfying 26 = .ok (.aload_n 0, 1) := by decide +kernel
theorem dd_Fo_satisfying_27 : decode cb_Fo_satisfying 27 = .ok (.getfield 21, 3) := by decide +kernel
theorem dd_Fo_satisfying_30 : decode cb_Fo_satisfying 30 = .ok (.ishl, 1) := by decide +kernel
theorem dd_Fo_satisfying_31 : decode cb_Fo_satisfying 31 = .ok (.iconst 1, 1) := by decide +kernel
theorem dd_Fo_satisfying_32 : decode cb_Fo_satisfying 32 = .ok (.isub, 1) := by decide +kernel
theorem dd_Fo_satisfying_33 : decode cb_Fo_satisfying 33 = .ok (.iload_n 1, 1) := by decide +kernel
theorem dd_Fo_satisfying_34 : decode cb_Fo_satisfying 34 = .ok (.isub, 1) := by decide +kernel
theorem dd_Fo_satisfying_35 : decode cb_Fo_satisfying 35 = .ok (.istore_n 2, 1) := by decide +kernel
theorem dd_Fo_satisfying_36 : decode cb_Fo_satisfying 36 = .ok (.aload_n 0, 1) := by decide +kernel
theorem dd_Fo_satisfying_37 : decode cb_Fo_satisfying 37 = .ok (.iload_n 1, 1) := by decide +kernel
theorem dd_Fo_satisfying_38 : decode cb_Fo_satisfying 38 = .ok (.iload_n 2, 1) := by decide +kernel
theorem dd_Fo_satisfying_39 : decode cb_Fo_satisfying 39 = .ok (.bipush 10, 2) := by decide +kernel
theorem dd_Fo_satisfying_41 : decode cb_Fo_satisfying 41 = .ok (.ishl, 1) := by decide +kernel
theorem dd_Fo_satisfying_42 : decode cb_Fo_satisfying 42 = .ok (.ior, 1) := by decide +kernel
theorem dd_Fo_satisfying_43 : decode cb_Fo_satisfying 43 = .ok (.invokevirtual 63, 3) := by decide +kernel
theorem dd_Fo_satisfying_46 : decode cb_Fo_satisfying 46 = .ok (.ifCond .eq 13, 3) := by decide +kernel
theorem dd_Fo_satisfying_49 : decode cb_Fo_satisfying 49 = .ok (.aload_n 0, 1) := by decide +kernel
theorem dd_Fo_satisfying_50 : decode cb_Fo_satisfying 50 = .ok (.dup, 1) := by decide +kernel
theorem dd_Fo_satisfying_51 : decode cb_Fo_satisfying 51 = .ok (.getfield 17, 3) := by decide +kernel
theorem dd_Fo_satisfying_54 : decode cb_Fo_satisfying 54 = .ok (.iconst 1, 1) := by decide +kernel
theorem dd_Fo_satisfying_55 : decode cb_Fo_satisfying 55 = .ok (.iadd, 1) := by decide +kernel
theorem dd_Fo_satisfying_56 : decode cb_Fo_satisfying 56 = .ok (.putfield 17, 3) := by decide +kernel
theorem dd_Fo_satisfying_59 : decode cb_Fo_satisfying 59 = .ok (.iinc 1 1, 3) := by decide +kernel
theorem dd_Fo_satisfying_62 : decode cb_Fo_satisfying 62 = .ok (.goto (-47), 3) := by decide +kernel
theorem dd_Fo_satisfying_65 : decode cb_Fo_satisfying 65 = .ok (.aload_n 0, 1) := by decide +kernel
theorem dd_Fo_satisfying_66 : decode cb_Fo_satisfying 66 = .ok (.getfield 17, 3) := by decide +kernel
theorem dd_Fo_satisfying_69 : decode cb_Fo_satisfying 69 = .ok (.ireturn, 1) := by decide +kernel
theorem dd_Fo_isSatisfied_0 : decode cb_Fo_isSatisfied 0 = .ok (.iconst 0, 1) := by decide +kernel
theorem dd_Fo_isSatisfied_1 : decode cb_Fo_isSatisfied 1 = .ok (.istore_n 2, 1) := by decide +kernel
theorem dd_Fo_isSatisfied_2 : decode cb_Fo_isSatisfied 2 = .ok (.iload_n 2, 1) := by decide +kernel
theorem dd_Fo_isSatisfied_3 : decode cb_Fo_isSatisfied 3 = .ok (.aload_n 0, 1) := by decide +kernel
theorem dd_Fo_isSatisfied_4 : decode cb_Fo_isSatisfied 4 = .ok (.getfield 60, 3) := by decide +kernel
theorem dd_Fo_isSatisfied_7 : decode cb_Fo_isSatisfied 7 = .ok (.if_icmp .ge 25, 3) := by decide +kernel
theorem dd_Fo_isSatisfied_10 : decode cb_Fo_isSatisfied 10 = .ok (.aload_n 0, 1) := by decide +kernel
theorem dd_Fo_isSatisfied_11 : decode cb_Fo_isSatisfied 11 = .ok (.getfield 11, 3) := by decide +kernel
theorem dd_Fo_isSatisfied_14 : decode cb_Fo_isSatisfied 14 = .ok (.iload_n 2, 1) := by decide +kernel
theorem dd_Fo_isSatisfied_15 : decode cb_Fo_isSatisfied 15 = .ok (.aaload, 1) := by decide +kernel
theorem dd_Fo_isSatisfied_16 : decode cb_Fo_isSatisfied 16 = .ok (.getfield 67, 3) := by decide +kernel
theorem dd_Fo_isSatisfied_19 : decode cb_Fo_isSatisfied 19 = .ok (.iload_n 1, 1) := by decide +kernel
theorem dd_Fo_isSatisfied_20 : decode cb_Fo_isSatisfied 20 = .ok (.iand, 1) := by decide +kernel
theorem dd_Fo_isSatisfied_21 : decode cb_Fo_isSatisfied 21 = .ok (.ifCond .ne 5, 3) := by decide +kernel
theorem dd_Fo_isSatisfied_24 : decode cb_Fo_isSatisfied 24 = .ok (.iconst 0, 1) := by decide +kernel
theorem dd_Fo_isSatisfied_25 : decode cb_Fo_isSatisfied 25 = .ok (.ireturn, 1) := by decide +kernel
theorem dd_Fo_isSatisfied_26 : decode cb_Fo_isSatisfied 26 = .ok (.iinc 2 1, 3) := by decide +kernel
theorem dd_Fo_isSatisfied_29 : decode cb_Fo_isSatisfied 29 = .ok (.goto (-27), 3) := by decide +kernel
theorem dd_Fo_isSatisfied_32 : decode cb_Fo_isSatisfied 32 = .ok (.iconst 1, 1) := by decide +kernel
theorem dd_Fo_isSatisfied_33 : decode cb_Fo_isSatisfied 33 = .ok (.ireturn, 1) := by decide +kernel
theorem dd_Fo_forcedBy_0 : decode cb_Fo_forcedBy 0 = .ok (.iload_n 1, 1) := by decide +kernel
theorem dd_Fo_forcedBy_1 : decode cb_Fo_forcedBy 1 = .ok (.istore_n 2, 1) := by decide +kernel
theorem dd_Fo_forcedBy_2 : decode cb_Fo_forcedBy 2 = .ok (.iconst 0, 1) := by decide +kernel
theorem dd_Fo_forcedBy_3 : decode cb_Fo_forcedBy 3 = .ok (.istore_n 3, 1) := by decide +kernel
theorem dd_Fo_forcedBy_4 : decode cb_Fo_forcedBy 4 = .ok (.iload_n 3, 1) := by decide +kernel
theorem dd_Fo_forcedBy_5 : decode cb_Fo_forcedBy 5 = .ok (.aload_n 0, 1) := by decide +kernel
theorem dd_Fo_forcedBy_6 : decode cb_Fo_forcedBy 6 = .ok (.getfield 21, 3) := by decide +kernel
theorem dd_Fo_forcedBy_9 : decode cb_Fo_forcedBy 9 = .ok (.if_icmp .gt 76, 3) := by decide +kernel
theorem dd_Fo_forcedBy_12 : decode cb_Fo_forcedBy 12 = .ok (.iload_n 2, 1) := by decide +kernel
theorem dd_Fo_forcedBy_13 : decode cb_Fo_forcedBy 13 = .ok (.istore 4, 2) := by decide +kernel
theorem dd_Fo_forcedBy_15 : decode cb_Fo_forcedBy 15 = .ok (.iconst 0, 1) := by decide +kernel
theorem dd_Fo_forcedBy_16 : decode cb_Fo_forcedBy 16 = .ok (.istore 5, 2) := by decide +kernel
theorem dd_Fo_forcedBy_18 : decode cb_Fo_forcedBy 18 = .ok (.iload 5, 2) := by decide +kernel
theorem dd_Fo_forcedBy_20 : decode cb_Fo_forcedBy 20 = .ok (.aload_n 0, 1) := by decide +kernel
theorem dd_Fo_forcedBy_21 : decode cb_Fo_forcedBy 21 = .ok (.getfield 60, 3) := by decide +kernel
theorem dd_Fo_forcedBy_24 : decode cb_Fo_forcedBy 24 = .ok (.if_icmp .ge 47, 3) := by decide +kernel
theorem dd_Fo_forcedBy_27 : decode cb_Fo_forcedBy 27 = .ok (.aload_n 0, 1) := by decide +kernel
theorem dd_Fo_forcedBy_28 : decode cb_Fo_forcedBy 28 = .ok (.getfield 11, 3) := by decide +kernel
theorem dd_Fo_forcedBy_31 : decode cb_Fo_forcedBy 31 = .ok (.iload 5, 2) := by decide +kernel
theorem dd_Fo_forcedBy_33 : decode cb_Fo_forcedBy 33 = .ok (.aaload, 1) := by decide +kernel
theorem dd_Fo_forcedBy_34 : decode cb_Fo_forcedBy 34 = .ok (.getfield 67, 3) := by decide +kernel
theorem dd_Fo_forcedBy_37 : decode cb_Fo_forcedBy 37 = .ok (.iload_n 2, 1) := by decide +kernel
theorem dd_Fo_forcedBy_38 : decode cb_Fo_forcedBy 38 = .ok (.invokestatic 70, 3) := by decide +kernel
theorem dd_Fo_forcedBy_41 : decode cb_Fo_forcedBy 41 = .ok (.istore 6, 2) := by decide +kernel
theorem dd_Fo_forcedBy_43 : decode cb_Fo_forcedBy 43 = .ok (.iload 6, 2) := by decide +kernel
theorem dd_Fo_forcedBy_45 : decode cb_Fo_forcedBy 45 = .ok (.iconst (-1), 1) := by decide +kernel
theorem dd_Fo_forcedBy_46 : decode cb_Fo_forcedBy 46 = .ok (.if_icmp .ne 5, 3) := by decide +kernel
theorem dd_Fo_forcedBy_49 : decode cb_Fo_forcedBy 49 = .ok (.iconst (-1), 1) := by decide +kernel
theorem dd_Fo_forcedBy_50 : decode cb_Fo_forcedBy 50 = .ok (.ireturn, 1) := by decide +kernel
theorem dd_Fo_forcedBy_51 : decode cb_Fo_forcedBy 51 = .ok (.iload 6, 2) := by decide +kernel
theorem dd_Fo_forcedBy_53 : decode cb_Fo_forcedBy 53 = .ok (.bipush (-2), 2) := by decide +kernel
theorem dd_Fo_forcedBy_55 : decode cb_Fo_forcedBy 55 = .ok (.if_icmp .ne 7, 3) := by decide +kernel
theorem dd_Fo_forcedBy_58 : decode cb_Fo_forcedBy 58 = .ok (.iload_n 2, 1) := by decide +kernel
theorem dd_Fo_forcedBy_59 : decode cb_Fo_forcedBy 59 = .ok (.goto 5, 3) := by decide +kernel
theorem dd_Fo_forcedBy_62 : decode cb_Fo_forcedBy 62 = .ok (.iload 6, 2) := by decide +kernel
theorem dd_Fo_forcedBy_64 : decode cb_Fo_forcedBy 64 = .ok (.istore_n 2, 1) := by decide +kernel
theorem dd_Fo_forcedBy_65 : decode cb_Fo_forcedBy 65 = .ok (.iinc 5 1, 3) := by decide +kernel
theorem dd_Fo_forcedBy_68 : decode cb_Fo_forcedBy 68 = .ok (.goto (-50), 3) := by decide +kernel
theorem dd_Fo_forcedBy_71 : decode cb_Fo_forcedBy 71 = .ok (.iload_n 2, 1) := by decide +kernel
theorem dd_Fo_forcedBy_72 : decode cb_Fo_forcedBy 72 = .ok (.iload 4, 2) := by decide +kernel
theorem dd_Fo_forcedBy_74 : decode cb_Fo_forcedBy 74 = .ok (.if_icmp .ne 5, 3) := by decide +kernel
theorem dd_Fo_forcedBy_77 : decode cb_Fo_forcedBy 77 = .ok (.iload_n 2, 1) := by decide +kernel
theorem dd_Fo_forcedBy_78 : decode cb_Fo_forcedBy 78 = .ok (.ireturn, 1) := by decide +kernel
theorem dd_Fo_forcedBy_79 : decode cb_Fo_forcedBy 79 = .ok (.iinc 3 1, 3) := by decide +kernel
theorem dd_Fo_forcedBy_82 : decode cb_Fo_forcedBy 82 = .ok (.goto (-78), 3) := by decide +kernel
theorem dd_Fo_forcedBy_85 : decode cb_Fo_forcedBy 85 = .ok (.iload_n 2, 1) := by decide +kernel
theorem dd_Fo_forcedBy_86 : decode cb_Fo_forcedBy 86 = .ok (.ireturn, 1) := by decide +kernel
theorem dd_Li_init_0 : decode cb_Li_init 0 = .ok (.aload_n 0, 1) := by decide +kernel
theorem dd_Li_init_1 : decode cb_Li_init 1 = .ok (.invokespecial 3, 3) := by decide +kernel
theorem dd_Li_init_4 : decode cb_Li_init 4 = .ok (.aload_n 0, 1) := by decide +kernel
theorem dd_Li_init_5 : decode cb_Li_init 5 = .ok (.bipush 12, 2) := by decide +kernel
theorem dd_Li_init_7 : decode cb_Li_init 7 = .ok (.newarray .int, 2) := by decide +kernel
theorem dd_Li_init_9 : decode cb_Li_init 9 = .ok (.putfield 9, 3) := by decide +kernel
theorem dd_Li_init_12 : decode cb_Li_init 12 = .ok (.aload_n 0, 1) := by decide +kernel
theorem dd_Li_init_13 : decode cb_Li_init 13 = .ok (.iload_n 1, 1) := by decide +kernel
theorem dd_Li_init_14 : decode cb_Li_init 14 = .ok (.putfield 15, 3) := by decide +kernel
theorem dd_Li_init_17 : decode cb_Li_init 17 = .ok (.return_, 1) := by decide +kernel
theorem dd_Li_lineIn_0 : decode cb_Li_lineIn 0 = .ok (.aload_n 0, 1) := by decide +kernel
theorem dd_Li_lineIn_1 : decode cb_Li_lineIn 1 = .ok (.iconst 0, 1) := by decide +kernel
theorem dd_Li_lineIn_2 : decode cb_Li_lineIn 2 = .ok (.invokevirtual 19, 3) := by decide +kernel
theorem dd_Li_lineIn_5 : decode cb_Li_lineIn 5 = .ok (.aload_n 0, 1) := by decide +kernel
theorem dd_Li_lineIn_6 : decode cb_Li_lineIn 6 = .ok (.iconst 1, 1) := by decide +kernel
theorem dd_Li_lineIn_7 : decode cb_Li_lineIn 7 = .ok (.sipush 999, 3) := by decide +kernel
theorem dd_Li_lineIn_10 : decode cb_Li_lineIn 10 = .ok (.invokevirtual 25, 3) := by decide +kernel
theorem dd_Li_lineIn_13 : decode cb_Li_lineIn 13 = .ok (.ifCond .ne 5, 3) := by decide +kernel
theorem dd_Li_lineIn_16 : decode cb_Li_lineIn 16 = .ok (.aconst_null, 1) := by decide +kernel
theorem dd_Li_lineIn_17 : decode cb_Li_lineIn 17 = .ok (.areturn, 1) := by decide +kernel
theorem dd_Li_lineIn_18 : decode cb_Li_lineIn 18 = .ok (.new 10, 3) := by decide +kernel
theorem dd_Li_lineIn_21 : decode cb_Li_lineIn 21 = .ok (.dup, 1) := by decide +kernel
theorem dd_Li_lineIn_22 : decode cb_Li_lineIn 22 = .ok (.aload_n 0, 1) := by decide +kernel
theorem dd_Li_lineIn_23 : decode cb_Li_lineIn 23 = .ok (.getfield 29, 3) := by decide +kernel
theorem dd_Li_lineIn_26 : decode cb_Li_lineIn 26 = .ok (.invokespecial 30, 3) := by decide +kernel
theorem dd_Li_lineIn_29 : decode cb_Li_lineIn 29 = .ok (.astore_n 2, 1) := by decide +kernel
theorem dd_Li_lineIn_30 : decode cb_Li_lineIn 30 = .ok (.aload_n 0, 1) := by decide +kernel
theorem dd_Li_lineIn_31 : decode cb_Li_lineIn 31 = .ok (.ldc 33, 2) := by decide +kernel
theorem dd_Li_lineIn_33 : decode cb_Li_lineIn 33 = .ok (.invokevirtual 35, 3) := by decide +kernel
theorem dd_Li_lineIn_36 : decode cb_Li_lineIn 36 = .ok (.ifCond .eq 12, 3) := by decide +kernel
theorem dd_Li_lineIn_39 : decode cb_Li_lineIn 39 = .ok (.aload_n 2, 1) := by decide +kernel
theorem dd_Li_lineIn_40 : decode cb_Li_lineIn 40 = .ok (.aload_n 0, 1) := by decide +kernel
theorem dd_Li_lineIn_41 : decode cb_Li_lineIn 41 = .ok (.iconst 0, 1) := by decide +kernel
theorem dd_Li_lineIn_42 : decode cb_Li_lineIn 42 = .ok (.invokevirtual 39, 3) := by decide +kernel
theorem dd_Li_lineIn_45 : decode cb_Li_lineIn 45 = .ok (.goto 28, 3) := by decide +kernel
theorem dd_Li_lineIn_48 : decode cb_Li_lineIn 48 = .ok (.aload_n 2, 1) := by decide +kernel
theorem dd_Li_lineIn_49 : decode cb_Li_lineIn 49 = .ok (.aload_n 0, 1) := by decide +kernel
theorem dd_Li_lineIn_50 : decode cb_Li_lineIn 50 = .ok (.iload_n 1, 1) := by decide +kernel
theorem dd_Li_lineIn_51 : decode cb_Li_lineIn 51 = .ok (.invokevirtual 43, 3) := by decide +kernel
theorem dd_Li_lineIn_54 : decode cb_Li_lineIn 54 = .ok (.ifCond .eq 18, 3) := by decide +kernel
theorem dd_Li_lineIn_57 : decode cb_Li_lineIn 57 = .ok (.aload_n 2, 1) := by decide +kernel
theorem dd_Li_lineIn_58 : decode cb_Li_lineIn 58 = .ok (.aload_n 0, 1) := by decide +kernel
theorem dd_Li_lineIn_59 : decode cb_Li_lineIn 59 = .ok (.sipush (-999), 3) := by decide +kernel
theorem dd_Li_lineIn_62 : decode cb_Li_lineIn 62 = .ok (.invokevirtual 39, 3) := by decide +kernel
theorem dd_Li_lineIn_65 : decode cb_Li_lineIn 65 = .ok (.ifCond .eq 7, 3) := by decide +kernel
theorem dd_Li_lineIn_68 : decode cb_Li_lineIn 68 = .ok (.iconst 1, 1) := by decide +kernel
theorem dd_Li_lineIn_69 : decode cb_Li_lineIn 69 = .ok (.goto 4, 3) := by decide +kernel
theorem dd_Li_lineIn_72 : decode cb_Li_lineIn 72 = .ok (.iconst 0, 1) := by decide +kernel
theorem dd_Li_lineIn_73 : decode cb_Li_lineIn 73 = .ok (.istore_n 3, 1) := by decide +kernel
theorem dd_Li_lineIn_74 : decode cb_Li_lineIn 74 = .ok (.iload_n 3, 1) := by decide +kernel
theorem dd_Li_lineIn_75 : decode cb_Li_lineIn 75 = .ok (.ifCond .eq 14, 3) := by decide +kernel
theorem dd_Li_lineIn_78 : decode cb_Li_lineIn 78 = .ok (.aload_n 0, 1) := by decide +kernel
theorem dd_Li_lineIn_79 : decode cb_Li_lineIn 79 = .ok (.invokevirtual 46, 3) := by decide +kernel
theorem dd_Li_lineIn_82 : decode cb_Li_lineIn 82 = .ok (.ifCond .eq 7, 3) := by decide +kernel
theorem dd_Li_lineIn_85 : decode cb_Li_lineIn 85 = .ok (.aload_n 2, 1) := by decide +kernel
theorem dd_Li_lineIn_86 : decode cb_Li_lineIn 86 = .ok (.goto 4, 3) := by decide +kernel
theorem dd_Li_lineIn_89 : decode cb_Li_lineIn 89 = .ok (.aconst_null, 1) := by decide +kernel
theorem dd_Li_lineIn_90 : decode cb_Li_lineIn 90 = .ok (.areturn, 1) := by decide +kernel
theorem dd_Li_takesClause_0 : decode cb_Li_takesClause 0 = .ok (.aload_n 0, 1) := by decide +kernel
theorem dd_Li_takesClause_1 : decode cb_Li_takesClause 1 = .ok (.aload_n 1, 1) := by decide +kernel
theorem dd_Li_takesClause_2 : decode cb_Li_takesClause 2 = .ok (.aload_n 0, 1) := by decide +kernel
theorem dd_Li_takesClause_3 : decode cb_Li_takesClause 3 = .ok (.getfield 15, 3) := by decide +kernel
theorem dd_Li_takesClause_6 : decode cb_Li_takesClause 6 = .ok (.iload_n 2, 1) := by decide +kernel
theorem dd_Li_takesClause_7 : decode cb_Li_takesClause 7 = .ok (.invokestatic 50, 3) := by decide +kernel
theorem dd_Li_takesClause_10 : decode cb_Li_takesClause 10 = .ok (.putfield 56, 3) := by decide +kernel
theorem dd_Li_takesClause_13 : decode cb_Li_takesClause 13 = .ok (.aload_n 0, 1) := by decide +kernel
theorem dd_Li_takesClause_14 : decode cb_Li_takesClause 14 = .ok (.getfield 56, 3) := by decide +kernel
theorem dd_Li_takesClause_17 : decode cb_Li_takesClause 17 = .ok (.ifnull 7, 3) := by decide +kernel
theorem dd_Li_takesClause_20 : decode cb_Li_takesClause 20 = .ok (.iconst 1, 1) := by decide +kernel
theorem dd_Li_takesClause_21 : decode cb_Li_takesClause 21 = .ok (.goto 4, 3) := by decide +kernel
theorem dd_Li_takesClause_24 : decode cb_Li_takesClause 24 = .ok (.iconst 0, 1) := by decide +kernel
theorem dd_Li_takesClause_25 : decode cb_Li_takesClause 25 = .ok (.ireturn, 1) := by decide +kernel
theorem dd_Li_takesNamed_0 : decode cb_Li_takesNamed 0 = .ok (.iconst 0, 1) := by decide +kernel
theorem dd_Li_takesNamed_1 : decode cb_Li_takesNamed 1 = .ok (.istore_n 3, 1) := by decide +kernel
theorem dd_Li_takesNamed_2 : decode cb_Li_takesNamed 2 = .ok (.iload_n 3, 1) := by decide +kernel
theorem dd_Li_takesNamed_3 : decode cb_Li_takesNamed 3 = .ok (.bipush 12, 2) := by decide +kernel
theorem dd_Li_takesNamed_5 : decode cb_Li_takesNamed 5 = .ok (.if_icmp .gt 74, 3) := by decide +kernel
theorem dd_Li_takesNamed_8 : decode cb_Li_takesNamed 8 = .ok (.aload_n 1, 1) := by decide +kernel
theorem dd_Li_takesNamed_9 : decode cb_Li_takesNamed 9 = .ok (.iload_n 2, 1) := by decide +kernel
theorem dd_Li_takesNamed_10 : decode cb_Li_takesNamed 10 = .ok (.sipush 999, 3) := by decide +kernel
theorem dd_Li_takesNamed_13 : decode cb_Li_takesNamed 13 = .ok (.invokevirtual 60, 3) := by decide +kernel
theorem dd_Li_takesNamed_16 : decode cb_Li_takesNamed 16 = .ok (.ifCond .eq 63, 3) := by decide +kernel
theorem dd_Li_takesNamed_19 : decode cb_Li_takesNamed 19 = .ok (.aload_n 1, 1) := by decide +kernel
theorem dd_Li_takesNamed_20 : decode cb_Li_takesNamed 20 = .ok (.getfield 29, 3) := by decide +kernel
theorem dd_Li_takesNamed_23 : decode cb_Li_takesNamed 23 = .ok (.istore 4, 2) := by decide +kernel
theorem dd_Li_takesNamed_25 : decode cb_Li_takesNamed 25 = .ok (.iload 4, 2) := by decide +kernel
theorem dd_Li_takesNamed_27 : decode cb_Li_takesNamed 27 = .ok (.ifCond .eq 14, 3) := by decide +kernel
theorem dd_Li_takesNamed_30 : decode cb_Li_takesNamed 30 = .ok (.aload_n 0, 1) := by decide +kernel
theorem dd_Li_takesNamed_31 : decode cb_Li_takesNamed 31 = .ok (.getfield 63, 3) := by decide +kernel
theorem dd_Li_takesNamed_34 : decode cb_Li_takesNamed 34 = .ok (.bipush 12, 2) := by decide +kernel
theorem dd_Li_takesNamed_36 : decode cb_Li_takesNamed 36 = .ok (.if_icmp .lt 5, 3) := by decide +kernel
theorem dd_Li_takesNamed_39 : decode cb_Li_takesNamed 39 = .ok (.iconst 0, 1) := by decide +kernel
theorem dd_Li_takesNamed_40 : decode cb_Li_takesNamed 40 = .ok (.ireturn, 1) := by decide +kernel
theorem dd_Li_takesNamed_41 : decode cb_Li_takesNamed 41 = .ok (.aload_n 1, 1) := by decide +kernel
theorem dd_Li_takesNamed_42 : decode cb_Li_takesNamed 42 = .ok (.invokevirtual 66, 3) := by decide +kernel
theorem dd_Li_takesNamed_45 : decode cb_Li_takesNamed 45 = .ok (.iload 4, 2) := by decide +kernel
theorem dd_Li_takesNamed_47 : decode cb_Li_takesNamed 47 = .ok (.ifCond .ne 5, 3) := by decide +kernel
theorem dd_Li_takesNamed_50 : decode cb_Li_takesNamed 50 = .ok (.iconst 1, 1) := by decide +kernel
theorem dd_Li_takesNamed_51 : decode cb_Li_takesNamed 51 = .ok (.ireturn, 1) := by decide +kernel
theorem dd_Li_takesNamed_52 : decode cb_Li_takesNamed 52 = .ok (.aload_n 0, 1) := by decide +kernel
theorem dd_Li_takesNamed_53 : decode cb_Li_takesNamed 53 = .ok (.getfield 9, 3) := by decide +kernel
theorem dd_Li_takesNamed_56 : decode cb_Li_takesNamed 56 = .ok (.aload_n 0, 1) := by decide +kernel
theorem dd_Li_takesNamed_57 : decode cb_Li_takesNamed 57 = .ok (.getfield 63, 3) := by decide +kernel
theorem dd_Li_takesNamed_60 : decode cb_Li_takesNamed 60 = .ok (.iload 4, 2) := by decide +kernel
theorem dd_Li_takesNamed_62 : decode cb_Li_takesNamed 62 = .ok (.iastore, 1) := by decide +kernel
theorem dd_Li_takesNamed_63 : decode cb_Li_takesNamed 63 = .ok (.aload_n 0, 1) := by decide +kernel
theorem dd_Li_takesNamed_64 : decode cb_Li_takesNamed 64 = .ok (.dup, 1) := by decide +kernel
theorem dd_Li_takesNamed_65 : decode cb_Li_takesNamed 65 = .ok (.getfield 63, 3) := by decide +kernel
theorem dd_Li_takesNamed_68 : decode cb_Li_takesNamed 68 = .ok (.iconst 1, 1) := by decide +kernel
theorem dd_Li_takesNamed_69 : decode cb_Li_takesNamed 69 = .ok (.iadd, 1) := by decide +kernel
theorem dd_Li_takesNamed_70 : decode cb_Li_takesNamed 70 = .ok (.putfield 63, 3) := by decide +kernel
theorem dd_Li_takesNamed_73 : decode cb_Li_takesNamed 73 = .ok (.iinc 3 1, 3) := by decide +kernel
theorem dd_Li_takesNamed_76 : decode cb_Li_takesNamed 76 = .ok (.goto (-74), 3) := by decide +kernel
theorem dd_Li_takesNamed_79 : decode cb_Li_takesNamed 79 = .ok (.iconst 0, 1) := by decide +kernel
theorem dd_Li_takesNamed_80 : decode cb_Li_takesNamed 80 = .ok (.ireturn, 1) := by decide +kernel
theorem dd_Li_names_0 : decode cb_Li_names 0 = .ok (.iconst 0, 1) := by decide +kernel
theorem dd_Li_names_1 : decode cb_Li_names 1 = .ok (.istore_n 3, 1) := by decide +kernel
theorem dd_Li_names_2 : decode cb_Li_names 2 = .ok (.iload_n 3, 1) := by decide +kernel
theorem dd_Li_names_3 : decode cb_Li_names 3 = .ok (.iload_n 2, 1) := by decide +kernel
theorem dd_Li_names_4 : decode cb_Li_names 4 = .ok (.if_icmp .ge 29, 3) := by decide +kernel
theorem dd_Li_names_7 : decode cb_Li_names 7 = .ok (.iload_n 3, 1) := by decide +kernel
theorem dd_Li_names_8 : decode cb_Li_names 8 = .ok (.aload_n 0, 1) := by decide +kernel
theorem dd_Li_names_9 : decode cb_Li_names 9 = .ok (.getfield 63, 3) := by decide +kernel
theorem dd_Li_names_12 : decode cb_Li_names 12 = .ok (.if_icmp .ge 21, 3) := by decide +kernel
theorem dd_Li_names_15 : decode cb_Li_names 15 = .ok (.aload_n 0, 1) := by decide +kernel
theorem dd_Li_names_16 : decode cb_Li_names 16 = .ok (.getfield 9, 3) := by decide +kernel
theorem dd_Li_names_19 : decode cb_Li_names 19 = .ok (.iload_n 3, 1) := by decide +kernel
theorem dd_Li_names_20 : decode cb_Li_names 20 = .ok (.iaload, 1) := by decide +kernel
theorem dd_Li_names_21 : decode cb_Li_names 21 = .ok (.iload_n 1, 1) := by decide +kernel
theorem dd_Li_names_22 : decode cb_Li_names 22 = .ok (.if_icmp .ne 5, 3) := by decide +kernel
theorem dd_Li_names_25 : decode cb_Li_names 25 = .ok (.iconst 1, 1) := by decide +kernel
theorem dd_Li_names_26 : decode cb_Li_names 26 = .ok (.ireturn, 1) := by decide +kernel
theorem dd_Li_names_27 : decode cb_Li_names 27 = .ok (.iinc 3 1, 3) := by decide +kernel
theorem dd_Li_names_30 : decode cb_Li_names 30 = .ok (.goto (-28), 3) := by decide +kernel
theorem dd_Li_names_33 : decode cb_Li_names 33 = .ok (.iconst 0, 1) := by decide +kernel
theorem dd_Li_names_34 : decode cb_Li_names 34 = .ok (.ireturn, 1) := by decide +kernel
theorem dd_Pr_init_0 : decode cb_Pr_init 0 = .ok (.aload_n 0, 1) := by decide +kernel
theorem dd_Pr_init_1 : decode cb_Pr_init 1 = .ok (.invokespecial 3, 3) := by decide +kernel
theorem dd_Pr_init_4 : decode cb_Pr_init 4 = .ok (.aload_n 0, 1) := by decide +kernel
theorem dd_Pr_init_5 : decode cb_Pr_init 5 = .ok (.bipush 40, 2) := by decide +kernel
theorem dd_Pr_init_7 : decode cb_Pr_init 7 = .ok (.anewarray 9, 3) := by decide +kernel
theorem dd_Pr_init_10 : decode cb_Pr_init 10 = .ok (.putfield 11, 3) := by decide +kernel
theorem dd_Pr_init_13 : decode cb_Pr_init 13 = .ok (.return_, 1) := by decide +kernel
theorem dd_Pr_begin_0 : decode cb_Pr_begin 0 = .ok (.iconst 0, 1) := by decide +kernel
theorem dd_Pr_begin_1 : decode cb_Pr_begin 1 = .ok (.istore_n 2, 1) := by decide +kernel
theorem dd_Pr_begin_2 : decode cb_Pr_begin 2 = .ok (.iload_n 2, 1) := by decide +kernel
theorem dd_Pr_begin_3 : decode cb_Pr_begin 3 = .ok (.aload_n 1, 1) := by decide +kernel
theorem dd_Pr_begin_4 : decode cb_Pr_begin 4 = .ok (.getfield 17, 3) := by decide +kernel
theorem dd_Pr_begin_7 : decode cb_Pr_begin 7 = .ok (.if_icmp .ge 21, 3) := by decide +kernel
theorem dd_Pr_begin_10 : decode cb_Pr_begin 10 = .ok (.aload_n 0, 1) := by decide +kernel
theorem dd_Pr_begin_11 : decode cb_Pr_begin 11 = .ok (.getfield 11, 3) := by decide +kernel
theorem dd_Pr_begin_14 : decode cb_Pr_begin 14 = .ok (.iload_n 2, 1) := by decide +kernel
theorem dd_Pr_begin_15 : decode cb_Pr_begin 15 = .ok (.aload_n 1, 1) := by decide +kernel
theorem dd_Pr_begin_16 : decode cb_Pr_begin 16 = .ok (.getfield 23, 3) := by decide +kernel
theorem dd_Pr_begin_19 : decode cb_Pr_begin 19 = .ok (.iload_n 2, 1) := by decide +kernel
theorem dd_Pr_begin_20 : decode cb_Pr_begin 20 = .ok (.aaload, 1) := by decide +kernel
theorem dd_Pr_begin_21 : decode cb_Pr_begin 21 = .ok (.aastore, 1) := by decide +kernel
theorem dd_Pr_begin_22 : decode cb_Pr_begin 22 = .ok (.iinc 2 1, 3) := by decide +kernel
theorem dd_Pr_begin_25 : decode cb_Pr_begin 25 = .ok (.goto (-23), 3) := by decide +kernel
theorem dd_Pr_begin_28 : decode cb_Pr_begin 28 = .ok (.aload_n 0, 1) := by decide +kernel
theorem dd_Pr_begin_29 : decode cb_Pr_begin 29 = .ok (.aload_n 1, 1) := by decide +kernel
theorem dd_Pr_begin_30 : decode cb_Pr_begin 30 = .ok (.getfield 17, 3) := by decide +kernel
theorem dd_Pr_begin_33 : decode cb_Pr_begin 33 = .ok (.putfield 24, 3) := by decide +kernel
theorem dd_Pr_begin_36 : decode cb_Pr_begin 36 = .ok (.aload_n 0, 1) := by decide +kernel
theorem dd_Pr_begin_37 : decode cb_Pr_begin 37 = .ok (.aload_n 1, 1) := by decide +kernel
theorem dd_Pr_begin_38 : decode cb_Pr_begin 38 = .ok (.getfield 17, 3) := by decide +kernel
theorem dd_Pr_begin_41 : decode cb_Pr_begin 41 = .ok (.putfield 25, 3) := by decide +kernel
theorem dd_Pr_begin_44 : decode cb_Pr_begin 44 = .ok (.aload_n 0, 1) := by decide +kernel
theorem dd_Pr_begin_45 : decode cb_Pr_begin 45 = .ok (.iconst 0, 1) := by decide +kernel
theorem dd_Pr_begin_46 : decode cb_Pr_begin 46 = .ok (.putfield 28, 3) := by decide +kernel
theorem dd_Pr_begin_49 : decode cb_Pr_begin 49 = .ok (.return_, 1) := by decide +kernel
theorem dd_Pr_find_0 : decode cb_Pr_find 0 = .ok (.iconst 0, 1) := by decide +kernel
theorem dd_Pr_find_1 : decode cb_Pr_find 1 = .ok (.istore_n 2, 1) := by decide +kernel
theorem dd_Pr_find_2 : decode cb_Pr_find 2 = .ok (.iload_n 2, 1) := by decide +kernel
theorem dd_Pr_find_3 : decode cb_Pr_find 3 = .ok (.aload_n 0, 1) := by decide +kernel
theorem dd_Pr_find_4 : decode cb_Pr_find 4 = .ok (.getfield 24, 3) := by decide +kernel
theorem dd_Pr_find_7 : decode cb_Pr_find 7 = .ok (.if_icmp .ge 29, 3) := by decide +kernel
theorem dd_Pr_find_10 : decode cb_Pr_find 10 = .ok (.aload_n 0, 1) := by decide +kernel
theorem dd_Pr_find_11 : decode cb_Pr_find 11 = .ok (.getfield 11, 3) := by decide +kernel
theorem dd_Pr_find_14 : decode cb_Pr_find 14 = .ok (.iload_n 2, 1) := by decide +kernel
theorem dd_Pr_find_15 : decode cb_Pr_find 15 = .ok (.aaload, 1) := by decide +kernel
theorem dd_Pr_find_16 : decode cb_Pr_find 16 = .ok (.getfield 32, 3) := by decide +kernel
theorem dd_Pr_find_19 : decode cb_Pr_find 19 = .ok (.iload_n 1, 1) := by decide +kernel
theorem dd_Pr_find_20 : decode cb_Pr_find 20 = .ok (.if_icmp .ne 10, 3) := by decide +kernel
theorem dd_Pr_find_23 : decode cb_Pr_find 23 = .ok (.aload_n 0, 1) := by decide +kernel
theorem dd_Pr_find_24 : decode cb_Pr_find 24 = .ok (.getfield 11, 3) := by decide +kernel
theorem dd_Pr_find_27 : decode cb_Pr_find 27 = .ok (.iload_n 2, 1) := by decide +kernel
theorem dd_Pr_find_28 : decode cb_Pr_find 28 = .ok (.aaload, 1) := by decide +kernel
theorem dd_Pr_find_29 : decode cb_Pr_find 29 = .ok (.areturn, 1) := by decide +kernel
theorem dd_Pr_find_30 : decode cb_Pr_find 30 = .ok (.iinc 2 1, 3) := by decide +kernel
theorem dd_Pr_find_33 : decode cb_Pr_find 33 = .ok (.goto (-31), 3) := by decide +kernel
theorem dd_Pr_find_36 : decode cb_Pr_find 36 = .ok (.aconst_null, 1) := by decide +kernel
theorem dd_Pr_find_37 : decode cb_Pr_find 37 = .ok (.areturn, 1) := by decide +kernel
theorem dd_Pr_delete_0 : decode cb_Pr_delete 0 = .ok (.iconst 0, 1) := by decide +kernel
theorem dd_Pr_delete_1 : decode cb_Pr_delete 1 = .ok (.istore_n 2, 1) := by decide +kernel
theorem dd_Pr_delete_2 : decode cb_Pr_delete 2 = .ok (.iload_n 2, 1) := by decide +kernel
theorem dd_Pr_delete_3 : decode cb_Pr_delete 3 = .ok (.aload_n 1, 1) := by decide +kernel
theorem dd_Pr_delete_4 : decode cb_Pr_delete 4 = .ok (.getfield 35, 3) := by decide +kernel
theorem dd_Pr_delete_7 : decode cb_Pr_delete 7 = .ok (.if_icmp .ge 40, 3) := by decide +kernel
theorem dd_Pr_delete_10 : decode cb_Pr_delete 10 = .ok (.aload_n 0, 1) := by decide +kernel
theorem dd_Pr_delete_11 : decode cb_Pr_delete 11 = .ok (.aload_n 1, 1) := by decide +kernel
theorem dd_Pr_delete_12 : decode cb_Pr_delete 12 = .ok (.getfield 38, 3) := by decide +kernel
theorem dd_Pr_delete_15 : decode cb_Pr_delete 15 = .ok (.iload_n 2, 1) := by decide +kernel
theorem dd_Pr_delete_16 : decode cb_Pr_delete 16 = .ok (.iaload, 1) := by decide +kernel
theorem dd_Pr_delete_17 : decode cb_Pr_delete 17 = .ok (.invokevirtual 42, 3) := by decide +kernel
theorem dd_Pr_delete_20 : decode cb_Pr_delete 20 = .ok (.ifnull 17, 3) := by decide +kernel
theorem dd_Pr_delete_23 : decode cb_Pr_delete 23 = .ok (.aload_n 1, 1) := by decide +kernel
theorem dd_Pr_delete_24 : decode cb_Pr_delete 24 = .ok (.aload_n 1, 1) := by decide +kernel
theorem dd_Pr_delete_25 : decode cb_Pr_delete 25 = .ok (.getfield 38, 3) := by decide +kernel
theorem dd_Pr_delete_28 : decode cb_Pr_delete 28 = .ok (.iload_n 2, 1) := by decide +kernel
theorem dd_Pr_delete_29 : decode cb_Pr_delete 29 = .ok (.iaload, 1) := by decide +kernel
theorem dd_Pr_delete_30 : decode cb_Pr_delete 30 = .ok (.iload_n 2, 1) := by decide +kernel
theorem dd_Pr_delete_31 : decode cb_Pr_delete 31 = .ok (.invokevirtual 46, 3) := by decide +kernel
theorem dd_Pr_delete_34 : decode cb_Pr_delete 34 = .ok (.ifCond .eq 7, 3) := by decide +kernel
theorem dd_Pr_delete_37 : decode cb_Pr_delete 37 = .ok (.sipush (-2000), 3) := by decide +kernel
theorem dd_Pr_delete_40 : decode cb_Pr_delete 40 = .ok (.ireturn, 1) := by decide +kernel
theorem dd_Pr_delete_41 : decode cb_Pr_delete 41 = .ok (.iinc 2 1, 3) := by decide +kernel
theorem dd_Pr_delete_44 : decode cb_Pr_delete 44 = .ok (.goto (-42), 3) := by decide +kernel
theorem dd_Pr_delete_47 : decode cb_Pr_delete 47 = .ok (.iconst 0, 1) := by decide +kernel
theorem dd_Pr_delete_48 : decode cb_Pr_delete 48 = .ok (.istore_n 2, 1) := by decide +kernel
theorem dd_Pr_delete_49 : decode cb_Pr_delete 49 = .ok (.iconst 0, 1) := by decide +kernel
theorem dd_Pr_delete_50 : decode cb_Pr_delete 50 = .ok (.istore_n 3, 1) := by decide +kernel
theorem dd_Pr_delete_51 : decode cb_Pr_delete 51 = .ok (.iload_n 3, 1) := by decide +kernel
theorem dd_Pr_delete_52 : decode cb_Pr_delete 52 = .ok (.aload_n 0, 1) := by decide +kernel
theorem dd_Pr_delete_53 : decode cb_Pr_delete 53 = .ok (.getfield 24, 3) := by decide +kernel
theorem dd_Pr_delete_56 : decode cb_Pr_delete 56 = .ok (.if_icmp .ge 44, 3) := by decide +kernel
theorem dd_Pr_delete_59 : decode cb_Pr_delete 59 = .ok (.aload_n 1, 1) := by decide +kernel
theorem dd_Pr_delete_60 : decode cb_Pr_delete 60 = .ok (.aload_n 0, 1) := by decide +kernel
theorem dd_Pr_delete_61 : decode cb_Pr_delete 61 = .ok (.getfield 11, 3) := by decide +kernel
theorem dd_Pr_delete_64 : decode cb_Pr_delete 64 = .ok (.iload_n 3, 1) := by decide +kernel
theorem dd_Pr_delete_65 : decode cb_Pr_delete 65 = .ok (.aaload, 1) := by decide +kernel
theorem dd_Pr_delete_66 : decode cb_Pr_delete 66 = .ok (.getfield 32, 3) := by decide +kernel
theorem dd_Pr_delete_69 : decode cb_Pr_delete 69 = .ok (.aload_n 1, 1) := by decide +kernel
theorem dd_Pr_delete_70 : decode cb_Pr_delete 70 = .ok (.getfield 35, 3) := by decide +kernel
theorem dd_Pr_delete_73 : decode cb_Pr_delete 73 = .ok (.invokevirtual 46, 3) := by decide +kernel
theorem dd_Pr_delete_76 : decode cb_Pr_delete 76 = .ok (.ifCond .ne 18, 3) := by decide +kernel
theorem dd_Pr_delete_79 : decode cb_Pr_delete 79 = .ok (.aload_n 0, 1) := by decide +kernel
theorem dd_Pr_delete_80 : decode cb_Pr_delete 80 = .ok (.getfield 11, 3) := by decide +kernel
theorem dd_Pr_delete_83 : decode cb_Pr_delete 83 = .ok (.iload_n 2, 1) := by decide +kernel
theorem dd_Pr_delete_84 : decode cb_Pr_delete 84 = .ok (.aload_n 0, 1) := by decide +kernel
theorem dd_Pr_delete_85 : decode cb_Pr_delete 85 = .ok (.getfield 11, 3) := by decide +kernel
theorem dd_Pr_delete_88 : decode cb_Pr_delete 88 = .ok (.iload_n 3, 1) := by decide +kernel
theorem dd_Pr_delete_89 : decode cb_Pr_delete 89 = .ok (.aaload, 1) := by decide +kernel
theorem dd_Pr_delete_90 : decode cb_Pr_delete 90 = .ok (.aastore, 1) := by decide +kernel
theorem dd_Pr_delete_91 : decode cb_Pr_delete 91 = .ok (.iinc 2 1, 3) := by decide +kernel
theorem dd_Pr_delete_94 : decode cb_Pr_delete 94 = .ok (.iinc 3 1, 3) := by decide +kernel
theorem dd_Pr_delete_97 : decode cb_Pr_delete 97 = .ok (.goto (-46), 3) := by decide +kernel
theorem dd_Pr_delete_100 : decode cb_Pr_delete 100 = .ok (.aload_n 0, 1) := by decide +kernel
theorem dd_Pr_delete_101 : decode cb_Pr_delete 101 = .ok (.iload_n 2, 1) := by decide +kernel
theorem dd_Pr_delete_102 : decode cb_Pr_delete 102 = .ok (.putfield 24, 3) := by decide +kernel
theorem dd_Pr_delete_105 : decode cb_Pr_delete 105 = .ok (.iconst 1, 1) := by decide +kernel
theorem dd_Pr_delete_106 : decode cb_Pr_delete 106 = .ok (.ireturn, 1) := by decide +kernel
theorem dd_Pr_add_0 : decode cb_Pr_add 0 = .ok (.aload_n 1, 1) := by decide +kernel
theorem dd_Pr_add_1 : decode cb_Pr_add 1 = .ok (.getfield 50, 3) := by decide +kernel
theorem dd_Pr_add_4 : decode cb_Pr_add 4 = .ok (.aload_n 0, 1) := by decide +kernel
theorem dd_Pr_add_5 : decode cb_Pr_add 5 = .ok (.getfield 25, 3) := by decide +kernel
theorem dd_Pr_add_8 : decode cb_Pr_add 8 = .ok (.if_icmp .le 12, 3) := by decide +kernel
theorem dd_Pr_add_11 : decode cb_Pr_add 11 = .ok (.aload_n 0, 1) := by decide +kernel
theorem dd_Pr_add_12 : decode cb_Pr_add 12 = .ok (.getfield 24, 3) := by decide +kernel
theorem dd_Pr_add_15 : decode cb_Pr_add 15 = .ok (.bipush 40, 2) := by decide +kernel
theorem dd_Pr_add_17 : decode cb_Pr_add 17 = .ok (.if_icmp .lt 7, 3) := by decide +kernel
theorem dd_Pr_add_20 : decode cb_Pr_add 20 = .ok (.sipush (-2000), 3) := by decide +kernel
theorem dd_Pr_add_23 : decode cb_Pr_add 23 = .ok (.ireturn, 1) := by decide +kernel
theorem dd_Pr_add_24 : decode cb_Pr_add 24 = .ok (.new 51, 3) := by decide +kernel
theorem dd_Pr_add_27 : decode cb_Pr_add 27 = .ok (.dup, 1) := by decide +kernel
theorem dd_Pr_add_28 : decode cb_Pr_add 28 = .ok (.aload_n 0, 1) := by decide +kernel
theorem dd_Pr_add_29 : decode cb_Pr_add 29 = .ok (.aload_n 1, 1) := by decide +kernel
theorem dd_Pr_add_30 : decode cb_Pr_add 30 = .ok (.invokespecial 53, 3) := by decide +kernel
theorem dd_Pr_add_33 : decode cb_Pr_add 33 = .ok (.invokevirtual 56, 3) := by decide +kernel
theorem dd_Pr_add_36 : decode cb_Pr_add 36 = .ok (.istore_n 2, 1) := by decide +kernel
theorem dd_Pr_add_37 : decode cb_Pr_add 37 = .ok (.iload_n 2, 1) := by decide +kernel
theorem dd_Pr_add_38 : decode cb_Pr_add 38 = .ok (.bipush (-3), 2) := by decide +kernel
theorem dd_Pr_add_40 : decode cb_Pr_add 40 = .ok (.if_icmp .eq 9, 3) := by decide +kernel
theorem dd_Pr_add_43 : decode cb_Pr_add 43 = .ok (.sipush (-1000), 3) := by decide +kernel
theorem dd_Pr_add_46 : decode cb_Pr_add 46 = .ok (.iload_n 2, 1) := by decide +kernel
theorem dd_Pr_add_47 : decode cb_Pr_add 47 = .ok (.isub, 1) := by decide +kernel
theorem dd_Pr_add_48 : decode cb_Pr_add 48 = .ok (.ireturn, 1) := by decide +kernel
theorem dd_Pr_add_49 : decode cb_Pr_add 49 = .ok (.aload_n 0, 1) := by decide +kernel
theorem dd_Pr_add_50 : decode cb_Pr_add 50 = .ok (.getfield 11, 3) := by decide +kernel
theorem dd_Pr_add_53 : decode cb_Pr_add 53 = .ok (.aload_n 0, 1) := by decide +kernel
theorem dd_Pr_add_54 : decode cb_Pr_add 54 = .ok (.getfield 24, 3) := by decide +kernel
theorem dd_Pr_add_57 : decode cb_Pr_add 57 = .ok (.aload_n 1, 1) := by decide +kernel
theorem dd_Pr_add_58 : decode cb_Pr_add 58 = .ok (.getfield 60, 3) := by decide +kernel
theorem dd_Pr_add_61 : decode cb_Pr_add 61 = .ok (.aastore, 1) := by decide +kernel
theorem dd_Pr_add_62 : decode cb_Pr_add 62 = .ok (.aload_n 0, 1) := by decide +kernel
theorem dd_Pr_add_63 : decode cb_Pr_add 63 = .ok (.dup, 1) := by decide +kernel
theorem dd_Pr_add_64 : decode cb_Pr_add 64 = .ok (.getfield 24, 3) := by decide +kernel
theorem dd_Pr_add_67 : decode cb_Pr_add 67 = .ok (.iconst 1, 1) := by decide +kernel
theorem dd_Pr_add_68 : decode cb_Pr_add 68 = .ok (.iadd, 1) := by decide +kernel
theorem dd_Pr_add_69 : decode cb_Pr_add 69 = .ok (.putfield 24, 3) := by decide +kernel
theorem dd_Pr_add_72 : decode cb_Pr_add 72 = .ok (.aload_n 0, 1) := by decide +kernel
theorem dd_Pr_add_73 : decode cb_Pr_add 73 = .ok (.aload_n 1, 1) := by decide +kernel
theorem dd_Pr_add_74 : decode cb_Pr_add 74 = .ok (.getfield 50, 3) := by decide +kernel
theorem dd_Pr_add_77 : decode cb_Pr_add 77 = .ok (.putfield 25, 3) := by decide +kernel
theorem dd_Pr_add_80 : decode cb_Pr_add 80 = .ok (.aload_n 0, 1) := by decide +kernel
theorem dd_Pr_add_81 : decode cb_Pr_add 81 = .ok (.aload_n 0, 1) := by decide +kernel
theorem dd_Pr_add_82 : decode cb_Pr_add 82 = .ok (.getfield 28, 3) := by decide +kernel
theorem dd_Pr_add_85 : decode cb_Pr_add 85 = .ok (.ifCond .ne 13, 3) := by decide +kernel
theorem dd_Pr_add_88 : decode cb_Pr_add 88 = .ok (.aload_n 1, 1) := by decide +kernel
theorem dd_Pr_add_89 : decode cb_Pr_add 89 = .ok (.getfield 60, 3) := by decide +kernel
theorem dd_Pr_add_92 : decode cb_Pr_add 92 = .ok (.getfield 64, 3) := by decide +kernel
theorem dd_Pr_add_95 : decode cb_Pr_add 95 = .ok (.ifCond .ne 7, 3) := by decide +kernel
theorem dd_Pr_add_98 : decode cb_Pr_add 98 = .ok (.iconst 1, 1) := by decide +kernel
theorem dd_Pr_add_99 : decode cb_Pr_add 99 = .ok (.goto 4, 3) := by decide +kernel
theorem dd_Pr_add_102 : decode cb_Pr_add 102 = .ok (.iconst 0, 1) := by decide +kernel
theorem dd_Pr_add_103 : decode cb_Pr_add 103 = .ok (.putfield 28, 3) := by decide +kernel
theorem dd_Pr_add_106 : decode cb_Pr_add 106 = .ok (.iconst 1, 1) := by decide +kernel
theorem dd_Pr_add_107 : decode cb_Pr_add 107 = .ok (.ireturn, 1) := by decide +kernel
theorem dd_Ck_init_0 : decode cb_Ck_init 0 = .ok (.aload_n 0, 1) := by decide +kernel
theorem dd_Ck_init_1 : decode cb_Ck_init 1 = .ok (.invokespecial 3, 3) := by decide +kernel
theorem dd_Ck_init_4 : decode cb_Ck_init 4 = .ok (.aload_n 0, 1) := by decide +kernel
theorem dd_Ck_init_5 : decode cb_Ck_init 5 = .ok (.aload_n 1, 1) := by decide +kernel
theorem dd_Ck_init_6 : decode cb_Ck_init 6 = .ok (.putfield 9, 3) := by decide +kernel
theorem dd_Ck_init_9 : decode cb_Ck_init 9 = .ok (.aload_n 0, 1) := by decide +kernel
theorem dd_Ck_init_10 : decode cb_Ck_init 10 = .ok (.aload_n 2, 1) := by decide +kernel
theorem dd_Ck_init_11 : decode cb_Ck_init 11 = .ok (.putfield 15, 3) := by decide +kernel
theorem dd_Ck_init_14 : decode cb_Ck_init 14 = .ok (.return_, 1) := by decide +kernel
theorem dd_Ck_outcome_0 : decode cb_Ck_outcome 0 = .ok (.aload_n 0, 1) := by decide +kernel
theorem dd_Ck_outcome_1 : decode cb_Ck_outcome 1 = .ok (.getfield 15, 3) := by decide +kernel
theorem dd_Ck_outcome_4 : decode cb_Ck_outcome 4 = .ok (.getfield 19, 3) := by decide +kernel
theorem dd_Ck_outcome_7 : decode cb_Ck_outcome 7 = .ok (.getfield 25, 3) := by decide +kernel
theorem dd_Ck_outcome_10 : decode cb_Ck_outcome 10 = .ok (.istore_n 1, 1) := by decide +kernel
theorem dd_Ck_outcome_11 : decode cb_Ck_outcome 11 = .ok (.aload_n 0, 1) := by decide +kernel
theorem dd_Ck_outcome_12 : decode cb_Ck_outcome 12 = .ok (.iload_n 1, 1) := by decide +kernel
theorem dd_Ck_outcome_13 : decode cb_Ck_outcome 13 = .ok (.invokestatic 31, 3) := by decide +kernel
theorem dd_Ck_outcome_16 : decode cb_Ck_outcome 16 = .ok (.putfield 35, 3) := by decide +kernel
theorem dd_Ck_outcome_19 : decode cb_Ck_outcome 19 = .ok (.iload_n 1, 1) := by decide +kernel
theorem dd_Ck_outcome_20 : decode cb_Ck_outcome 20 = .ok (.aload_n 0, 1) := by decide +kernel
theorem dd_Ck_outcome_21 : decode cb_Ck_outcome 21 = .ok (.getfield 35, 3) := by decide +kernel
theorem dd_Ck_outcome_24 : decode cb_Ck_outcome 24 = .ok (.iand, 1) := by decide +kernel
theorem dd_Ck_outcome_25 : decode cb_Ck_outcome 25 = .ok (.ifCond .eq 6, 3) := by decide +kernel
theorem dd_Ck_outcome_28 : decode cb_Ck_outcome 28 = .ok (.bipush (-3), 2) := by decide +kernel
theorem dd_Ck_outcome_30 : decode cb_Ck_outcome 30 = .ok (.ireturn, 1) := by decide +kernel
theorem dd_Ck_outcome_31 : decode cb_Ck_outcome 31 = .ok (.aload_n 0, 1) := by decide +kernel
theorem dd_Ck_outcome_32 : decode cb_Ck_outcome 32 = .ok (.invokevirtual 38, 3) := by decide +kernel
theorem dd_Ck_outcome_35 : decode cb_Ck_outcome 35 = .ok (.istore_n 2, 1) := by decide +kernel
theorem dd_Ck_outcome_36 : decode cb_Ck_outcome 36 = .ok (.iload_n 2, 1) := by decide +kernel
theorem dd_Ck_outcome_37 : decode cb_Ck_outcome 37 = .ok (.iconst (-1), 1) := by decide +kernel
theorem dd_Ck_outcome_38 : decode cb_Ck_outcome 38 = .ok (.if_icmp .ne 6, 3) := by decide +kernel
theorem dd_Ck_outcome_41 : decode cb_Ck_outcome 41 = .ok (.bipush (-3), 2) := by decide +kernel
theorem dd_Ck_outcome_43 : decode cb_Ck_outcome 43 = .ok (.ireturn, 1) := by decide +kernel
theorem dd_Ck_outcome_44 : decode cb_Ck_outcome 44 = .ok (.iload_n 2, 1) := by decide +kernel
theorem dd_Ck_outcome_45 : decode cb_Ck_outcome 45 = .ok (.bipush (-2), 2) := by decide +kernel
theorem dd_Ck_outcome_47 : decode cb_Ck_outcome 47 = .ok (.if_icmp .eq 28, 3) := by decide +kernel
theorem dd_Ck_outcome_50 : decode cb_Ck_outcome 50 = .ok (.aload_n 0, 1) := by decide +kernel
theorem dd_Ck_outcome_51 : decode cb_Ck_outcome 51 = .ok (.getfield 15, 3) := by decide +kernel
theorem dd_Ck_outcome_54 : decode cb_Ck_outcome 54 = .ok (.getfield 19, 3) := by decide +kernel
theorem dd_Ck_outcome_57 : decode cb_Ck_outcome 57 = .ok (.getfield 42, 3) := by decide +kernel
theorem dd_Ck_outcome_60 : decode cb_Ck_outcome 60 = .ok (.ifCond .le 15, 3) := by decide +kernel
theorem dd_Ck_outcome_63 : decode cb_Ck_outcome 63 = .ok (.aload_n 0, 1) := by decide +kernel
theorem dd_Ck_outcome_64 : decode cb_Ck_outcome 64 = .ok (.invokevirtual 45, 3) := by decide +kernel
theorem dd_Ck_outcome_67 : decode cb_Ck_outcome 67 = .ok (.ifCond .eq 8, 3) := by decide +kernel
theorem dd_Ck_outcome_70 : decode cb_Ck_outcome 70 = .ok (.bipush (-3), 2) := by decide +kernel
theorem dd_Ck_outcome_72 : decode cb_Ck_outcome 72 = .ok (.goto 7, 3) := by decide +kernel
theorem dd_Ck_outcome_75 : decode cb_Ck_outcome 75 = .ok (.aload_n 0, 1) := by decide +kernel
theorem dd_Ck_outcome_76 : decode cb_Ck_outcome 76 = .ok (.getfield 49, 3) := by decide +kernel
theorem dd_Ck_outcome_79 : decode cb_Ck_outcome 79 = .ok (.ireturn, 1) := by decide +kernel
theorem dd_Ck_followHints_0 : decode cb_Ck_followHints 0 = .ok (.aload_n 0, 1) := by decide +kernel
theorem dd_Ck_followHints_1 : decode cb_Ck_followHints 1 = .ok (.getfield 49, 3) := by decide +kernel
theorem dd_Ck_followHints_4 : decode cb_Ck_followHints 4 = .ok (.aload_n 0, 1) := by decide +kernel
theorem dd_Ck_followHints_5 : decode cb_Ck_followHints 5 = .ok (.getfield 15, 3) := by decide +kernel
theorem dd_Ck_followHints_8 : decode cb_Ck_followHints 8 = .ok (.getfield 52, 3) := by decide +kernel
theorem dd_Ck_followHints_11 : decode cb_Ck_followHints 11 = .ok (.if_icmp .ge 83, 3) := by decide +kernel
theorem dd_Ck_followHints_14 : decode cb_Ck_followHints 14 = .ok (.aload_n 0, 1) := by decide +kernel
theorem dd_Ck_followHints_15 : decode cb_Ck_followHints 15 = .ok (.getfield 15, 3) := by decide +kernel
theorem dd_Ck_followHints_18 : decode cb_Ck_followHints 18 = .ok (.getfield 53, 3) := by decide +kernel
theorem dd_Ck_followHints_21 : decode cb_Ck_followHints 21 = .ok (.aload_n 0, 1) := by decide +kernel
theorem dd_Ck_followHints_22 : decode cb_Ck_followHints 22 = .ok (.getfield 49, 3) := by decide +kernel
theorem dd_Ck_followHints_25 : decode cb_Ck_followHints 25 = .ok (.iaload, 1) := by decide +kernel
theorem dd_Ck_followHints_26 : decode cb_Ck_followHints 26 = .ok (.ifCond .le 68, 3) := by decide +kernel
theorem dd_Ck_followHints_29 : decode cb_Ck_followHints 29 = .ok (.aload_n 0, 1) := by decide +kernel
theorem dd_Ck_followHints_30 : decode cb_Ck_followHints 30 = .ok (.getfield 9, 3) := by decide +kernel
theorem dd_Ck_followHints_33 : decode cb_Ck_followHints 33 = .ok (.aload_n 0, 1) := by decide +kernel
theorem dd_Ck_followHints_34 : decode cb_Ck_followHints 34 = .ok (.getfield 15, 3) := by decide +kernel
theorem dd_Ck_followHints_37 : decode cb_Ck_followHints 37 = .ok (.getfield 53, 3) := by decide +kernel
theorem dd_Ck_followHints_40 : decode cb_Ck_followHints 40 = .ok (.aload_n 0, 1) := by decide +kernel
theorem dd_Ck_followHints_41 : decode cb_Ck_followHints 41 = .ok (.getfield 49, 3) := by decide +kernel
theorem dd_Ck_followHints_44 : decode cb_Ck_followHints 44 = .ok (.iaload, 1) := by decide +kernel
theorem dd_Ck_followHints_45 : decode cb_Ck_followHints 45 = .ok (.invokevirtual 57, 3) := by decide +kernel
theorem dd_Ck_followHints_48 : decode cb_Ck_followHints 48 = .ok (.astore_n 1, 1) := by decide +kernel
theorem dd_Ck_followHints_49 : decode cb_Ck_followHints 49 = .ok (.aload_n 1, 1) := by decide +kernel
theorem dd_Ck_followHints_50 : decode cb_Ck_followHints 50 = .ok (.ifnonnull 8, 3) := by decide +kernel
theorem dd_Ck_followHints_53 : decode cb_Ck_followHints 53 = .ok (.bipush (-2), 2) := by decide +kernel
theorem dd_Ck_followHints_55 : decode cb_Ck_followHints 55 = .ok (.goto 14, 3) := by decide +kernel
theorem dd_Ck_followHints_58 : decode cb_Ck_followHints 58 = .ok (.aload_n 1, 1) := by decide +kernel
theorem dd_Ck_followHints_59 : decode cb_Ck_followHints 59 = .ok (.getfield 25, 3) := by decide +kernel
theorem dd_Ck_followHints_62 : decode cb_Ck_followHints 62 = .ok (.aload_n 0, 1) := by decide +kernel
theorem dd_Ck_followHints_63 : decode cb_Ck_followHints 63 = .ok (.getfield 35, 3) := by decide +kernel
theorem dd_Ck_followHints_66 : decode cb_Ck_followHints 66 = .ok (.invokestatic 63, 3) := by decide +kernel
theorem dd_Ck_followHints_69 : decode cb_Ck_followHints 69 = .ok (.istore_n 2, 1) := by decide +kernel
theorem dd_Ck_followHints_70 : decode cb_Ck_followHints 70 = .ok (.iload_n 2, 1) := by decide +kernel
theorem dd_Ck_followHints_71 : decode cb_Ck_followHints 71 = .ok (.ifCond .ge 5, 3) := by decide +kernel
theorem dd_Ck_followHints_74 : decode cb_Ck_followHints 74 = .ok (.iload_n 2, 1) := by decide +kernel
theorem dd_Ck_followHints_75 : decode cb_Ck_followHints 75 = .ok (.ireturn, 1) := by decide +kernel
theorem dd_Ck_followHints_76 : decode cb_Ck_followHints 76 = .ok (.aload_n 0, 1) := by decide +kernel
theorem dd_Ck_followHints_77 : decode cb_Ck_followHints 77 = .ok (.iload_n 2, 1) := by decide +kernel
theorem dd_Ck_followHints_78 : decode cb_Ck_followHints 78 = .ok (.putfield 35, 3) := by decide +kernel
theorem dd_Ck_followHints_81 : decode cb_Ck_followHints 81 = .ok (.aload_n 0, 1) := by decide +kernel
theorem dd_Ck_followHints_82 : decode cb_Ck_followHints 82 = .ok (.dup, 1) := by decide +kernel
theorem dd_Ck_followHints_83 : decode cb_Ck_followHints 83 = .ok (.getfield 49, 3) := by decide +kernel
theorem dd_Ck_followHints_86 : decode cb_Ck_followHints 86 = .ok (.iconst 1, 1) := by decide +kernel
theorem dd_Ck_followHints_87 : decode cb_Ck_followHints 87 = .ok (.iadd, 1) := by decide +kernel
theorem dd_Ck_followHints_88 : decode cb_Ck_followHints 88 = .ok (.putfield 49, 3) := by decide +kernel
theorem dd_Ck_followHints_91 : decode cb_Ck_followHints 91 = .ok (.goto (-91), 3) := by decide +kernel
theorem dd_Ck_followHints_94 : decode cb_Ck_followHints 94 = .ok (.aload_n 0, 1) := by decide +kernel
theorem dd_Ck_followHints_95 : decode cb_Ck_followHints 95 = .ok (.getfield 35, 3) := by decide +kernel
theorem dd_Ck_followHints_98 : decode cb_Ck_followHints 98 = .ok (.ireturn, 1) := by decide +kernel
theorem dd_Ck_groupsHold_0 : decode cb_Ck_groupsHold 0 = .ok (.aload_n 0, 1) := by decide +kernel
theorem dd_Ck_groupsHold_1 : decode cb_Ck_groupsHold 1 = .ok (.getfield 15, 3) := by decide +kernel
theorem dd_Ck_groupsHold_4 : decode cb_Ck_groupsHold 4 = .ok (.getfield 19, 3) := by decide +kernel
theorem dd_Ck_groupsHold_7 : decode cb_Ck_groupsHold 7 = .ok (.getfield 67, 3) := by decide +kernel
theorem dd_Ck_groupsHold_10 : decode cb_Ck_groupsHold 10 = .ok (.iconst 0, 1) := by decide +kernel
theorem dd_Ck_groupsHold_11 : decode cb_Ck_groupsHold 11 = .ok (.iaload, 1) := by decide +kernel
theorem dd_Ck_groupsHold_12 : decode cb_Ck_groupsHold 12 = .ok (.ineg, 1) := by decide +kernel
theorem dd_Ck_groupsHold_13 : decode cb_Ck_groupsHold 13 = .ok (.invokestatic 70, 3) := by decide +kernel
theorem dd_Ck_groupsHold_16 : decode cb_Ck_groupsHold 16 = .ok (.istore_n 1, 1) := by decide +kernel
theorem dd_Ck_groupsHold_17 : decode cb_Ck_groupsHold 17 = .ok (.aload_n 0, 1) := by decide +kernel
theorem dd_Ck_groupsHold_18 : decode cb_Ck_groupsHold 18 = .ok (.getfield 35, 3) := by decide +kernel
theorem dd_Ck_groupsHold_21 : decode cb_Ck_groupsHold 21 = .ok (.istore_n 2, 1) := by decide +kernel
theorem dd_Ck_groupsHold_22 : decode cb_Ck_groupsHold 22 = .ok (.iconst 0, 1) := by decide +kernel
theorem dd_Ck_groupsHold_23 : decode cb_Ck_groupsHold 23 = .ok (.istore_n 3, 1) := by decide +kernel
theorem dd_Ck_groupsHold_24 : decode cb_Ck_groupsHold 24 = .ok (.iload_n 3, 1) := by decide +kernel
theorem dd_Ck_groupsHold_25 : decode cb_Ck_groupsHold 25 = .ok (.aload_n 0, 1) := by decide +kernel
theorem dd_Ck_groupsHold_26 : decode cb_Ck_groupsHold 26 = .ok (.getfield 9, 3) := by decide +kernel
theorem dd_Ck_groupsHold_29 : decode cb_Ck_groupsHold 29 = .ok (.getfield 73, 3) := by decide +kernel
theorem dd_Ck_groupsHold_32 : decode cb_Ck_groupsHold 32 = .ok (.if_icmp .ge 126, 3) := by decide +kernel
theorem dd_Ck_groupsHold_35 : decode cb_Ck_groupsHold 35 = .ok (.aload_n 0, 1) := by decide +kernel
theorem dd_Ck_groupsHold_36 : decode cb_Ck_groupsHold 36 = .ok (.getfield 9, 3) := by decide +kernel
theorem dd_Ck_groupsHold_39 : decode cb_Ck_groupsHold 39 = .ok (.getfield 74, 3) := by decide +kernel
theorem dd_Ck_groupsHold_42 : decode cb_Ck_groupsHold 42 = .ok (.iload_n 3, 1) := by decide +kernel
theorem dd_Ck_groupsHold_43 : decode cb_Ck_groupsHold 43 = .ok (.aaload, 1) := by decide +kernel
theorem dd_Ck_groupsHold_44 : decode cb_Ck_groupsHold 44 = .ok (.astore 4, 2) := by decide +kernel
theorem dd_Ck_groupsHold_46 : decode cb_Ck_groupsHold 46 = .ok (.aload 4, 2) := by decide +kernel
theorem dd_Ck_groupsHold_48 : decode cb_Ck_groupsHold 48 = .ok (.getfield 25, 3) := by decide +kernel
theorem dd_Ck_groupsHold_51 : decode cb_Ck_groupsHold 51 = .ok (.iload_n 1, 1) := by decide +kernel
theorem dd_Ck_groupsHold_52 : decode cb_Ck_groupsHold 52 = .ok (.iand, 1) := by decide +kernel
theorem dd_Ck_groupsHold_53 : decode cb_Ck_groupsHold 53 = .ok (.ifCond .ne 6, 3) := by decide +kernel
theorem dd_Ck_groupsHold_56 : decode cb_Ck_groupsHold 56 = .ok (.goto 96, 3) := by decide +kernel
theorem dd_Ck_groupsHold_59 : decode cb_Ck_groupsHold 59 = .ok (.aload_n 0, 1) := by decide +kernel
theorem dd_Ck_groupsHold_60 : decode cb_Ck_groupsHold 60 = .ok (.getfield 49, 3) := by decide +kernel
theorem dd_Ck_groupsHold_63 : decode cb_Ck_groupsHold 63 = .ok (.aload_n 0, 1) := by decide +kernel
theorem dd_Ck_groupsHold_64 : decode cb_Ck_groupsHold 64 = .ok (.getfield 15, 3) := by decide +kernel
theorem dd_Ck_groupsHold_67 : decode cb_Ck_groupsHold 67 = .ok (.getfield 52, 3) := by decide +kernel
theorem dd_Ck_groupsHold_70 : decode cb_Ck_groupsHold 70 = .ok (.if_icmp .ge 24, 3) := by decide +kernel
theorem dd_Ck_groupsHold_73 : decode cb_Ck_groupsHold 73 = .ok (.aload_n 0, 1) := by decide +kernel
theorem dd_Ck_groupsHold_74 : decode cb_Ck_groupsHold 74 = .ok (.getfield 15, 3) := by decide +kernel
theorem dd_Ck_groupsHold_77 : decode cb_Ck_groupsHold 77 = .ok (.getfield 53, 3) := by decide +kernel
theorem dd_Ck_groupsHold_80 : decode cb_Ck_groupsHold 80 = .ok (.aload_n 0, 1) := by decide +kernel
theorem dd_Ck_groupsHold_81 : decode cb_Ck_groupsHold 81 = .ok (.getfield 49, 3) := by decide +kernel
theorem dd_Ck_groupsHold_84 : decode cb_Ck_groupsHold 84 = .ok (.iaload, 1) := by decide +kernel
theorem dd_Ck_groupsHold_85 : decode cb_Ck_groupsHold 85 = .ok (.aload 4, 2) := by decide +kernel
theorem dd_Ck_groupsHold_87 : decode cb_Ck_groupsHold 87 = .ok (.getfield 78, 3) := by decide +kernel
theorem dd_Ck_groupsHold_90 : decode cb_Ck_groupsHold 90 = .ok (.ineg, 1) := by decide +kernel
theorem dd_Ck_groupsHold_91 : decode cb_Ck_groupsHold 91 = .ok (.if_icmp .eq 5, 3) := by decide +kernel
theorem dd_Ck_groupsHold_94 : decode cb_Ck_groupsHold 94 = .ok (.iconst 0, 1) := by decide +kernel
theorem dd_Ck_groupsHold_95 : decode cb_Ck_groupsHold 95 = .ok (.ireturn, 1) := by decide +kernel
theorem dd_Ck_groupsHold_96 : decode cb_Ck_groupsHold 96 = .ok (.aload_n 0, 1) := by decide +kernel
theorem dd_Ck_groupsHold_97 : decode cb_Ck_groupsHold 97 = .ok (.dup, 1) := by decide +kernel
theorem dd_Ck_groupsHold_98 : decode cb_Ck_groupsHold 98 = .ok (.getfield 49, 3) := by decide +kernel
theorem dd_Ck_groupsHold_101 : decode cb_Ck_groupsHold 101 = .ok (.iconst 1, 1) := by decide +kernel
theorem dd_Ck_groupsHold_102 : decode cb_Ck_groupsHold 102 = .ok (.iadd, 1) := by decide +kernel
theorem dd_Ck_groupsHold_103 : decode cb_Ck_groupsHold 103 = .ok (.putfield 49, 3) := by decide +kernel
theorem dd_Ck_groupsHold_106 : decode cb_Ck_groupsHold 106 = .ok (.aload 4, 2) := by decide +kernel
theorem dd_Ck_groupsHold_108 : decode cb_Ck_groupsHold 108 = .ok (.getfield 25, 3) := by decide +kernel
theorem dd_Ck_groupsHold_111 : decode cb_Ck_groupsHold 111 = .ok (.iload_n 1, 1) := by decide +kernel
theorem dd_Ck_groupsHold_112 : decode cb_Ck_groupsHold 112 = .ok (.iconst (-1), 1) := by decide +kernel
theorem dd_Ck_groupsHold_113 : decode cb_Ck_groupsHold 113 = .ok (.ixor, 1) := by decide +kernel
theorem dd_Ck_groupsHold_114 : decode cb_Ck_groupsHold 114 = .ok (.iand, 1) := by decide +kernel
theorem dd_Ck_groupsHold_115 : decode cb_Ck_groupsHold 115 = .ok (.istore 5, 2) := by decide +kernel
theorem dd_Ck_groupsHold_117 : decode cb_Ck_groupsHold 117 = .ok (.aload_n 0, 1) := by decide +kernel
theorem dd_Ck_groupsHold_118 : decode cb_Ck_groupsHold 118 = .ok (.iload_n 2, 1) := by decide +kernel
theorem dd_Ck_groupsHold_119 : decode cb_Ck_groupsHold 119 = .ok (.iload 5, 2) := by decide +kernel
theorem dd_Ck_groupsHold_121 : decode cb_Ck_groupsHold 121 = .ok (.invokestatic 31, 3) := by decide +kernel
theorem dd_Ck_groupsHold_124 : decode cb_Ck_groupsHold 124 = .ok (.ior, 1) := by decide +kernel
theorem dd_Ck_groupsHold_125 : decode cb_Ck_groupsHold 125 = .ok (.putfield 35, 3) := by decide +kernel
theorem dd_Ck_groupsHold_128 : decode cb_Ck_groupsHold 128 = .ok (.iload 5, 2) := by decide +kernel
theorem dd_Ck_groupsHold_130 : decode cb_Ck_groupsHold 130 = .ok (.aload_n 0, 1) := by decide +kernel
theorem dd_Ck_groupsHold_131 : decode cb_Ck_groupsHold 131 = .ok (.getfield 35, 3) := by decide +kernel
theorem dd_Ck_groupsHold_134 : decode cb_Ck_groupsHold 134 = .ok (.iand, 1) := by decide +kernel
theorem dd_Ck_groupsHold_135 : decode cb_Ck_groupsHold 135 = .ok (.ifCond .ne 13, 3) := by decide +kernel
theorem dd_Ck_groupsHold_138 : decode cb_Ck_groupsHold 138 = .ok (.aload_n 0, 1) := by decide +kernel
theorem dd_Ck_groupsHold_139 : decode cb_Ck_groupsHold 139 = .ok (.invokevirtual 38, 3) := by decide +kernel
theorem dd_Ck_groupsHold_142 : decode cb_Ck_groupsHold 142 = .ok (.iconst (-1), 1) := by decide +kernel
theorem dd_Ck_groupsHold_143 : decode cb_Ck_groupsHold 143 = .ok (.if_icmp .eq 5, 3) := by decide +kernel
theorem dd_Ck_groupsHold_146 : decode cb_Ck_groupsHold 146 = .ok (.iconst 0, 1) := by decide +kernel
theorem dd_Ck_groupsHold_147 : decode cb_Ck_groupsHold 147 = .ok (.ireturn, 1) := by decide +kernel
theorem dd_Ck_groupsHold_148 : decode cb_Ck_groupsHold 148 = .ok (.aload_n 0, 1) := by decide +kernel
theorem dd_Ck_groupsHold_149 : decode cb_Ck_groupsHold 149 = .ok (.invokevirtual 81, 3) := by decide +kernel
theorem dd_Ck_groupsHold_152 : decode cb_Ck_groupsHold 152 = .ok (.iinc 3 1, 3) := by decide +kernel
theorem dd_Ck_groupsHold_155 : decode cb_Ck_groupsHold 155 = .ok (.goto (-131), 3) := by decide +kernel
theorem dd_Ck_groupsHold_158 : decode cb_Ck_groupsHold 158 = .ok (.aload_n 0, 1) := by decide +kernel
theorem dd_Ck_groupsHold_159 : decode cb_Ck_groupsHold 159 = .ok (.getfield 49, 3) := by decide +kernel
theorem dd_Ck_groupsHold_162 : decode cb_Ck_groupsHold 162 = .ok (.aload_n 0, 1) := by decide +kernel
theorem dd_Ck_groupsHold_163 : decode cb_Ck_groupsHold 163 = .ok (.getfield 15, 3) := by decide +kernel
theorem dd_Ck_groupsHold_166 : decode cb_Ck_groupsHold 166 = .ok (.getfield 52, 3) := by decide +kernel
theorem dd_Ck_groupsHold_169 : decode cb_Ck_groupsHold 169 = .ok (.if_icmp .lt 7, 3) := by decide +kernel
theorem dd_Ck_groupsHold_172 : decode cb_Ck_groupsHold 172 = .ok (.iconst 1, 1) := by decide +kernel
theorem dd_Ck_groupsHold_173 : decode cb_Ck_groupsHold 173 = .ok (.goto 4, 3) := by decide +kernel
theorem dd_Ck_groupsHold_176 : decode cb_Ck_groupsHold 176 = .ok (.iconst 0, 1) := by decide +kernel
theorem dd_Ck_groupsHold_177 : decode cb_Ck_groupsHold 177 = .ok (.ireturn, 1) := by decide +kernel
theorem dd_Ck_skipHints_0 : decode cb_Ck_skipHints 0 = .ok (.aload_n 0, 1) := by decide +kernel
theorem dd_Ck_skipHints_1 : decode cb_Ck_skipHints 1 = .ok (.getfield 49, 3) := by decide +kernel
theorem dd_Ck_skipHints_4 : decode cb_Ck_skipHints 4 = .ok (.aload_n 0, 1) := by decide +kernel
theorem dd_Ck_skipHints_5 : decode cb_Ck_skipHints 5 = .ok (.getfield 15, 3) := by decide +kernel
theorem dd_Ck_skipHints_8 : decode cb_Ck_skipHints 8 = .ok (.getfield 52, 3) := by decide +kernel
theorem dd_Ck_skipHints_11 : decode cb_Ck_skipHints 11 = .ok (.if_icmp .ge 31, 3) := by decide +kernel
theorem dd_Ck_skipHints_14 : decode cb_Ck_skipHints 14 = .ok (.aload_n 0, 1) := by decide +kernel
theorem dd_Ck_skipHints_15 : decode cb_Ck_skipHints 15 = .ok (.getfield 15, 3) := by decide +kernel
theorem dd_Ck_skipHints_18 : decode cb_Ck_skipHints 18 = .ok (.getfield 53, 3) := by decide +kernel
theorem dd_Ck_skipHints_21 : decode cb_Ck_skipHints 21 = .ok (.aload_n 0, 1) := by decide +kernel
theorem dd_Ck_skipHints_22 : decode cb_Ck_skipHints 22 = .ok (.getfield 49, 3) := by decide +kernel
theorem dd_Ck_skipHints_25 : decode cb_Ck_skipHints 25 = .ok (.iaload, 1) := by decide +kernel
theorem dd_Ck_skipHints_26 : decode cb_Ck_skipHints 26 = .ok (.ifCond .le 16, 3) := by decide +kernel
theorem dd_Ck_skipHints_29 : decode cb_Ck_skipHints 29 = .ok (.aload_n 0, 1) := by decide +kernel
theorem dd_Ck_skipHints_30 : decode cb_Ck_skipHints 30 = .ok (.dup, 1) := by decide +kernel
theorem dd_Ck_skipHints_31 : decode cb_Ck_skipHints 31 = .ok (.getfield 49, 3) := by decide +kernel
theorem dd_Ck_skipHints_34 : decode cb_Ck_skipHints 34 = .ok (.iconst 1, 1) := by decide +kernel
theorem dd_Ck_skipHints_35 : decode cb_Ck_skipHints 35 = .ok (.iadd, 1) := by decide +kernel
theorem dd_Ck_skipHints_36 : decode cb_Ck_skipHints 36 = .ok (.putfield 49, 3) := by decide +kernel
theorem dd_Ck_skipHints_39 : decode cb_Ck_skipHints 39 = .ok (.goto (-39), 3) := by decide +kernel
theorem dd_Ck_skipHints_42 : decode cb_Ck_skipHints 42 = .ok (.return_, 1) := by decide +kernel
theorem dd_Se_init_0 : decode cb_Se_init 0 = .ok (.aload_n 0, 1) := by decide +kernel
theorem dd_Se_init_1 : decode cb_Se_init 1 = .ok (.invokespecial 3, 3) := by decide +kernel
theorem dd_Se_init_4 : decode cb_Se_init 4 = .ok (.aload_n 0, 1) := by decide +kernel
theorem dd_Se_init_5 : decode cb_Se_init 5 = .ok (.sipush 2072, 3) := by decide +kernel
theorem dd_Se_init_8 : decode cb_Se_init 8 = .ok (.newarray .int, 2) := by decide +kernel
theorem dd_Se_init_10 : decode cb_Se_init 10 = .ok (.putfield 9, 3) := by decide +kernel
theorem dd_Se_init_13 : decode cb_Se_init 13 = .ok (.aload_n 0, 1) := by decide +kernel
theorem dd_Se_init_14 : decode cb_Se_init 14 = .ok (.bipush 10, 2) := by decide +kernel
theorem dd_Se_init_16 : decode cb_Se_init 16 = .ok (.newarray .int, 2) := by decide +kernel
theorem dd_Se_init_18 : decode cb_Se_init 18 = .ok (.putfield 15, 3) := by decide +kernel
theorem dd_Se_init_21 : decode cb_Se_init 21 = .ok (.aload_n 0, 1) := by decide +kernel
theorem dd_Se_init_22 : decode cb_Se_init 22 = .ok (.bipush 10, 2) := by decide +kernel
theorem dd_Se_init_24 : decode cb_Se_init 24 = .ok (.newarray .int, 2) := by decide +kernel
theorem dd_Se_init_26 : decode cb_Se_init 26 = .ok (.putfield 18, 3) := by decide +kernel
theorem dd_Se_init_29 : decode cb_Se_init 29 = .ok (.aload_n 0, 1) := by decide +kernel
theorem dd_Se_init_30 : decode cb_Se_init 30 = .ok (.bipush 11, 2) := by decide +kernel
theorem dd_Se_init_32 : decode cb_Se_init 32 = .ok (.newarray .int, 2) := by decide +kernel
theorem dd_Se_init_34 : decode cb_Se_init 34 = .ok (.putfield 21, 3) := by decide +kernel
theorem dd_Se_init_37 : decode cb_Se_init 37 = .ok (.aload_n 0, 1) := by decide +kernel
theorem dd_Se_init_38 : decode cb_Se_init 38 = .ok (.bipush 11, 2) := by decide +kernel
theorem dd_Se_init_40 : decode cb_Se_init 40 = .ok (.newarray .int, 2) := by decide +kernel
theorem dd_Se_init_42 : decode cb_Se_init 42 = .ok (.putfield 24, 3) := by decide +kernel
theorem dd_Se_init_45 : decode cb_Se_init 45 = .ok (.return_, 1) := by decide +kernel
theorem dd_Se_begin_0 : decode cb_Se_begin 0 = .ok (.aload_n 0, 1) := by decide +kernel
theorem dd_Se_begin_1 : decode cb_Se_begin 1 = .ok (.aload_n 1, 1) := by decide +kernel
theorem dd_Se_begin_2 : decode cb_Se_begin 2 = .ok (.getfield 27, 3) := by decide +kernel
theorem dd_Se_begin_5 : decode cb_Se_begin 5 = .ok (.putfield 33, 3) := by decide +kernel
theorem dd_Se_begin_8 : decode cb_Se_begin 8 = .ok (.iconst 0, 1) := by decide +kernel
theorem dd_Se_begin_9 : decode cb_Se_begin 9 = .ok (.istore_n 2, 1) := by decide +kernel
theorem dd_Se_begin_10 : decode cb_Se_begin 10 = .ok (.iload_n 2, 1) := by decide +kernel
theorem dd_Se_begin_11 : decode cb_Se_begin 11 = .ok (.aload_n 0, 1) := by decide +kernel
theorem dd_Se_begin_12 : decode cb_Se_begin 12 = .ok (.getfield 33, 3) := by decide +kernel
theorem dd_Se_begin_15 : decode cb_Se_begin 15 = .ok (.if_icmp .ge 24, 3) := by decide +kernel
theorem dd_Se_begin_18 : decode cb_Se_begin 18 = .ok (.aload_n 0, 1) := by decide +kernel
theorem dd_Se_begin_19 : decode cb_Se_begin 19 = .ok (.getfield 9, 3) := by decide +kernel
theorem dd_Se_begin_22 : decode cb_Se_begin 22 = .ok (.iload_n 2, 1) := by decide +kernel
theorem dd_Se_begin_23 : decode cb_Se_begin 23 = .ok (.aload_n 1, 1) := by decide +kernel
theorem dd_Se_begin_24 : decode cb_Se_begin 24 = .ok (.getfield 34, 3) := by decide +kernel
theorem dd_Se_begin_27 : decode cb_Se_begin 27 = .ok (.iload_n 2, 1) := by decide +kernel
theorem dd_Se_begin_28 : decode cb_Se_begin 28 = .ok (.aaload, 1) := by decide +kernel
theorem dd_Se_begin_29 : decode cb_Se_begin 29 = .ok (.getfield 37, 3) := by decide +kernel
theorem dd_Se_begin_32 : decode cb_Se_begin 32 = .ok (.iastore, 1) := by decide +kernel
theorem dd_Se_begin_33 : decode cb_Se_begin 33 = .ok (.iinc 2 1, 3) := by decide +kernel
theorem dd_Se_begin_36 : decode cb_Se_begin 36 = .ok (.goto (-26), 3) := by decide +kernel
theorem dd_Se_begin_39 : decode cb_Se_begin 39 = .ok (.aload_n 0, 1) := by decide +kernel
theorem dd_Se_begin_40 : decode cb_Se_begin 40 = .ok (.aload_n 1, 1) := by decide +kernel
theorem dd_Se_begin_41 : decode cb_Se_begin 41 = .ok (.getfield 42, 3) := by decide +kernel
theorem dd_Se_begin_44 : decode cb_Se_begin 44 = .ok (.putfield 45, 3) := by decide +kernel
theorem dd_Se_begin_47 : decode cb_Se_begin 47 = .ok (.aload_n 0, 1) := by decide +kernel
theorem dd_Se_begin_48 : decode cb_Se_begin 48 = .ok (.iconst 0, 1) := by decide +kernel
theorem dd_Se_begin_49 : decode cb_Se_begin 49 = .ok (.putfield 46, 3) := by decide +kernel
theorem dd_Se_begin_52 : decode cb_Se_begin 52 = .ok (.aload_n 0, 1) := by decide +kernel
theorem dd_Se_begin_53 : decode cb_Se_begin 53 = .ok (.iconst 0, 1) := by decide +kernel
theorem dd_Se_begin_54 : decode cb_Se_begin 54 = .ok (.putfield 50, 3) := by decide +kernel
theorem dd_Se_begin_57 : decode cb_Se_begin 57 = .ok (.aload_n 0, 1) := by decide +kernel
theorem dd_Se_begin_58 : decode cb_Se_begin 58 = .ok (.iconst 0, 1) := by decide +kernel
theorem dd_Se_begin_59 : decode cb_Se_begin 59 = .ok (.putfield 53, 3) := by decide +kernel
theorem dd_Se_begin_62 : decode cb_Se_begin 62 = .ok (.aload_n 0, 1) := by decide +kernel
theorem dd_Se_begin_63 : decode cb_Se_begin 63 = .ok (.iconst 1, 1) := by decide +kernel
theorem dd_Se_begin_64 : decode cb_Se_begin 64 = .ok (.putfield 56, 3) := by decide +kernel
theorem dd_Se_begin_67 : decode cb_Se_begin 67 = .ok (.aload_n 0, 1) := by decide +kernel
theorem dd_Se_begin_68 : decode cb_Se_begin 68 = .ok (.iconst 0, 1) := by decide +kernel
theorem dd_Se_begin_69 : decode cb_Se_begin 69 = .ok (.putfield 59, 3) := by decide +kernel
theorem dd_Se_begin_72 : decode cb_Se_begin 72 = .ok (.aload_n 0, 1) := by decide +kernel
theorem dd_Se_begin_73 : decode cb_Se_begin 73 = .ok (.iconst 0, 1) := by decide +kernel
theorem dd_Se_begin_74 : decode cb_Se_begin 74 = .ok (.putfield 62, 3) := by decide +kernel
theorem dd_Se_begin_77 : decode cb_Se_begin 77 = .ok (.aload_n 0, 1) := by decide +kernel
theorem dd_Se_begin_78 : decode cb_Se_begin 78 = .ok (.iconst 0, 1) := by decide +kernel
theorem dd_Se_begin_79 : decode cb_Se_begin 79 = .ok (.putfield 65, 3) := by decide +kernel
theorem dd_Se_begin_82 : decode cb_Se_begin 82 = .ok (.return_, 1) := by decide +kernel
theorem dd_Se_finds_0 : decode cb_Se_finds 0 = .ok (.iconst 0, 1) := by decide +kernel
theorem dd_Se_finds_1 : decode cb_Se_finds 1 = .ok (.istore_n 1, 1) := by decide +kernel
theorem dd_Se_finds_2 : decode cb_Se_finds 2 = .ok (.iload_n 1, 1) := by decide +kernel
theorem dd_Se_finds_3 : decode cb_Se_finds 3 = .ok (.sipush 22539, 3) := by decide +kernel
theorem dd_Se_finds_6 : decode cb_Se_finds 6 = .ok (.if_icmp .ge 62, 3) := by decide +kernel
theorem dd_Se_finds_9 : decode cb_Se_finds 9 = .ok (.aload_n 0, 1) := by decide +kernel
theorem dd_Se_finds_10 : decode cb_Se_finds 10 = .ok (.getfield 46, 3) := by decide +kernel
theorem dd_Se_finds_13 : decode cb_Se_finds 13 = .ok (.ifCond .ne 55, 3) := by decide +kernel
theorem dd_Se_finds_16 : decode cb_Se_finds 16 = .ok (.aload_n 0, 1) := by decide +kernel
theorem dd_Se_finds_17 : decode cb_Se_finds 17 = .ok (.invokevirtual 68, 3) := by decide +kernel
theorem dd_Se_finds_20 : decode cb_Se_finds 20 = .ok (.istore_n 2, 1) := by decide +kernel
theorem dd_Se_finds_21 : decode cb_Se_finds 21 = .ok (.iload_n 2, 1) := by decide +kernel
theorem dd_Se_finds_22 : decode cb_Se_finds 22 = .ok (.iconst (-1), 1) := by decide +kernel
theorem dd_Se_finds_23 : decode cb_Se_finds 23 = .ok (.if_icmp .eq 11, 3) := by decide +kernel
theorem dd_Se_finds_26 : decode cb_Se_finds 26 = .ok (.aload_n 0, 1) := by decide +kernel
theorem dd_Se_finds_27 : decode cb_Se_finds 27 = .ok (.iload_n 2, 1) := by decide +kernel
theorem dd_Se_finds_28 : decode cb_Se_finds 28 = .ok (.invokevirtual 72, 3) := by decide +kernel
theorem dd_Se_finds_31 : decode cb_Se_finds 31 = .ok (.goto 31, 3) := by decide +kernel
theorem dd_Se_finds_34 : decode cb_Se_finds 34 = .ok (.aload_n 0, 1) := by decide +kernel
theorem dd_Se_finds_35 : decode cb_Se_finds 35 = .ok (.getfield 62, 3) := by decide +kernel
theorem dd_Se_finds_38 : decode cb_Se_finds 38 = .ok (.aload_n 0, 1) := by decide +kernel
theorem dd_Se_finds_39 : decode cb_Se_finds 39 = .ok (.getfield 45, 3) := by decide +kernel
theorem dd_Se_finds_42 : decode cb_Se_finds 42 = .ok (.if_icmp .ge 10, 3) := by decide +kernel
theorem dd_Se_finds_45 : decode cb_Se_finds 45 = .ok (.aload_n 0, 1) := by decide +kernel
theorem dd_Se_finds_46 : decode cb_Se_finds 46 = .ok (.invokevirtual 76, 3) := by decide +kernel
theorem dd_Se_finds_49 : decode cb_Se_finds 49 = .ok (.goto 13, 3) := by decide +kernel
theorem dd_Se_finds_52 : decode cb_Se_finds 52 = .ok (.aload_n 0, 1) := by decide +kernel
theorem dd_Se_finds_53 : decode cb_Se_finds 53 = .ok (.iconst 1, 1) := by decide +kernel
theorem dd_Se_finds_54 : decode cb_Se_finds 54 = .ok (.putfield 50, 3) := by decide +kernel
theorem dd_Se_finds_57 : decode cb_Se_finds 57 = .ok (.aload_n 0, 1) := by decide +kernel
theorem dd_Se_finds_58 : decode cb_Se_finds 58 = .ok (.iconst 1, 1) := by decide +kernel
theorem dd_Se_finds_59 : decode cb_Se_finds 59 = .ok (.putfield 46, 3) := by decide +kernel
theorem dd_Se_finds_62 : decode cb_Se_finds 62 = .ok (.iinc 1 1, 3) := by decide +kernel
theorem dd_Se_finds_65 : decode cb_Se_finds 65 = .ok (.goto (-63), 3) := by decide +kernel
theorem dd_Se_finds_68 : decode cb_Se_finds 68 = .ok (.aload_n 0, 1) := by decide +kernel
theorem dd_Se_finds_69 : decode cb_Se_finds 69 = .ok (.getfield 50, 3) := by decide +kernel
theorem dd_Se_finds_72 : decode cb_Se_finds 72 = .ok (.ireturn, 1) := by decide +kernel
theorem dd_Se_propagate_0 : decode cb_Se_propagate 0 = .ok (.iconst 0, 1) := by decide +kernel
theorem dd_Se_propagate_1 : decode cb_Se_propagate 1 = .ok (.istore_n 1, 1) := by decide +kernel
theorem dd_Se_propagate_2 : decode cb_Se_propagate 2 = .ok (.iload_n 1, 1) := by decide +kernel
theorem dd_Se_propagate_3 : decode cb_Se_propagate 3 = .ok (.aload_n 0, 1) := by decide +kernel
theorem dd_Se_propagate_4 : decode cb_Se_propagate 4 = .ok (.getfield 45, 3) := by decide +kernel
theorem dd_Se_propagate_7 : decode cb_Se_propagate 7 = .ok (.if_icmp .gt 84, 3) := by decide +kernel
theorem dd_Se_propagate_10 : decode cb_Se_propagate 10 = .ok (.aload_n 0, 1) := by decide +kernel
theorem dd_Se_propagate_11 : decode cb_Se_propagate 11 = .ok (.getfield 59, 3) := by decide +kernel
theorem dd_Se_propagate_14 : decode cb_Se_propagate 14 = .ok (.istore_n 2, 1) := by decide +kernel
theorem dd_Se_propagate_15 : decode cb_Se_propagate 15 = .ok (.iconst 0, 1) := by decide +kernel
theorem dd_Se_propagate_16 : decode cb_Se_propagate 16 = .ok (.istore_n 3, 1) := by decide +kernel
theorem dd_Se_propagate_17 : decode cb_Se_propagate 17 = .ok (.iload_n 3, 1) := by decide +kernel
theorem dd_Se_propagate_18 : decode cb_Se_propagate 18 = .ok (.aload_n 0, 1) := by decide +kernel
theorem dd_Se_propagate_19 : decode cb_Se_propagate 19 = .ok (.getfield 33, 3) := by decide +kernel
theorem dd_Se_propagate_22 : decode cb_Se_propagate 22 = .ok (.if_icmp .ge 53, 3) := by decide +kernel
theorem dd_Se_propagate_25 : decode cb_Se_propagate 25 = .ok (.aload_n 0, 1) := by decide +kernel
theorem dd_Se_propagate_26 : decode cb_Se_propagate 26 = .ok (.getfield 9, 3) := by decide +kernel
theorem dd_Se_propagate_29 : decode cb_Se_propagate 29 = .ok (.iload_n 3, 1) := by decide +kernel
theorem dd_Se_propagate_30 : decode cb_Se_propagate 30 = .ok (.iaload, 1) := by decide +kernel
theorem dd_Se_propagate_31 : decode cb_Se_propagate 31 = .ok (.aload_n 0, 1) := by decide +kernel
theorem dd_Se_propagate_32 : decode cb_Se_propagate 32 = .ok (.getfield 59, 3) := by decide +kernel
theorem dd_Se_propagate_35 : decode cb_Se_propagate 35 = .ok (.invokestatic 79, 3) := by decide +kernel
theorem dd_Se_propagate_38 : decode cb_Se_propagate 38 = .ok (.istore 4, 2) := by decide +kernel
theorem dd_Se_propagate_40 : decode cb_Se_propagate 40 = .ok (.iload 4, 2) := by decide +kernel
theorem dd_Se_propagate_42 : decode cb_Se_propagate 42 = .ok (.iconst (-1), 1) := by decide +kernel
theorem dd_Se_propagate_43 : decode cb_Se_propagate 43 = .ok (.if_icmp .ne 5, 3) := by decide +kernel
theorem dd_Se_propagate_46 : decode cb_Se_propagate 46 = .ok (.iload_n 3, 1) := by decide +kernel
theorem dd_Se_propagate_47 : decode cb_Se_propagate 47 = .ok (.ireturn, 1) := by decide +kernel
theorem dd_Se_propagate_48 : decode cb_Se_propagate 48 = .ok (.iload 4, 2) := by decide +kernel
theorem dd_Se_propagate_50 : decode cb_Se_propagate 50 = .ok (.bipush (-2), 2) := by decide +kernel
theorem dd_Se_propagate_52 : decode cb_Se_propagate 52 = .ok (.if_icmp .eq 17, 3) := by decide +kernel
theorem dd_Se_propagate_55 : decode cb_Se_propagate 55 = .ok (.aload_n 0, 1) := by decide +kernel
theorem dd_Se_propagate_56 : decode cb_Se_propagate 56 = .ok (.iload 4, 2) := by decide +kernel
theorem dd_Se_propagate_58 : decode cb_Se_propagate 58 = .ok (.aload_n 0, 1) := by decide +kernel
theorem dd_Se_propagate_59 : decode cb_Se_propagate 59 = .ok (.getfield 59, 3) := by decide +kernel
theorem dd_Se_propagate_62 : decode cb_Se_propagate 62 = .ok (.iconst (-1), 1) := by decide +kernel
theorem dd_Se_propagate_63 : decode cb_Se_propagate 63 = .ok (.ixor, 1) := by decide +kernel
theorem dd_Se_propagate_64 : decode cb_Se_propagate 64 = .ok (.iand, 1) := by decide +kernel
theorem dd_Se_propagate_65 : decode cb_Se_propagate 65 = .ok (.iload_n 3, 1) := by decide +kernel
theorem dd_Se_propagate_66 : decode cb_Se_propagate 66 = .ok (.invokevirtual 83, 3) := by decide +kernel
theorem dd_Se_propagate_69 : decode cb_Se_propagate 69 = .ok (.iinc 3 1, 3) := by decide +kernel
theorem dd_Se_propagate_72 : decode cb_Se_propagate 72 = .ok (.goto (-55), 3) := by decide +kernel
theorem dd_Se_propagate_75 : decode cb_Se_propagate 75 = .ok (.aload_n 0, 1) := by decide +kernel
theorem dd_Se_propagate_76 : decode cb_Se_propagate 76 = .ok (.getfield 59, 3) := by decide +kernel
theorem dd_Se_propagate_79 : decode cb_Se_propagate 79 = .ok (.iload_n 2, 1) := by decide +kernel
theorem dd_Se_propagate_80 : decode cb_Se_propagate 80 = .ok (.if_icmp .ne 5, 3) := by decide +kernel
theorem dd_Se_propagate_83 : decode cb_Se_propagate 83 = .ok (.iconst (-1), 1) := by decide +kernel
theorem dd_Se_propagate_84 : decode cb_Se_propagate 84 = .ok (.ireturn, 1) := by decide +kernel
theorem dd_Se_propagate_85 : decode cb_Se_propagate 85 = .ok (.iinc 1 1, 3) := by decide +kernel
theorem dd_Se_propagate_88 : decode cb_Se_propagate 88 = .ok (.goto (-86), 3) := by decide +kernel
theorem dd_Se_propagate_91 : decode cb_Se_propagate 91 = .ok (.iconst (-1), 1) := by decide +kernel
theorem dd_Se_propagate_92 : decode cb_Se_propagate 92 = .ok (.ireturn, 1) := by decide +kernel
theorem dd_Se_assume_0 : decode cb_Se_assume 0 = .ok (.aload_n 0, 1) := by decide +kernel
theorem dd_Se_assume_1 : decode cb_Se_assume 1 = .ok (.getfield 62, 3) := by decide +kernel
theorem dd_Se_assume_4 : decode cb_Se_assume 4 = .ok (.bipush 10, 2) := by decide +kernel
theorem dd_Se_assume_6 : decode cb_Se_assume 6 = .ok (.if_icmp .ge 43, 3) := by decide +kernel
theorem dd_Se_assume_9 : decode cb_Se_assume 9 = .ok (.aload_n 0, 1) := by decide +kernel
theorem dd_Se_assume_10 : decode cb_Se_assume 10 = .ok (.getfield 15, 3) := by decide +kernel
theorem dd_Se_assume_13 : decode cb_Se_assume 13 = .ok (.aload_n 0, 1) := by decide +kernel
theorem dd_Se_assume_14 : decode cb_Se_assume 14 = .ok (.getfield 62, 3) := by decide +kernel
theorem dd_Se_assume_17 : decode cb_Se_assume 17 = .ok (.iload_n 1, 1) := by decide +kernel
theorem dd_Se_assume_18 : decode cb_Se_assume 18 = .ok (.iastore, 1) := by decide +kernel
theorem dd_Se_assume_19 : decode cb_Se_assume 19 = .ok (.aload_n 0, 1) := by decide +kernel
theorem dd_Se_assume_20 : decode cb_Se_assume 20 = .ok (.getfield 18, 3) := by decide +kernel
theorem dd_Se_assume_23 : decode cb_Se_assume 23 = .ok (.aload_n 0, 1) := by decide +kernel
theorem dd_Se_assume_24 : decode cb_Se_assume 24 = .ok (.getfield 62, 3) := by decide +kernel
theorem dd_Se_assume_27 : decode cb_Se_assume 27 = .ok (.iload_n 2, 1) := by decide +kernel
theorem dd_Se_assume_28 : decode cb_Se_assume 28 = .ok (.iastore, 1) := by decide +kernel
theorem dd_Se_assume_29 : decode cb_Se_assume 29 = .ok (.aload_n 0, 1) := by decide +kernel
theorem dd_Se_assume_30 : decode cb_Se_assume 30 = .ok (.dup, 1) := by decide +kernel
theorem dd_Se_assume_31 : decode cb_Se_assume 31 = .ok (.getfield 62, 3) := by decide +kernel
theorem dd_Se_assume_34 : decode cb_Se_assume 34 = .ok (.iconst 1, 1) := by decide +kernel
theorem dd_Se_assume_35 : decode cb_Se_assume 35 = .ok (.iadd, 1) := by decide +kernel
theorem dd_Se_assume_36 : decode cb_Se_assume 36 = .ok (.putfield 62, 3) := by decide +kernel
theorem dd_Se_assume_39 : decode cb_Se_assume 39 = .ok (.aload_n 0, 1) := by decide +kernel
theorem dd_Se_assume_40 : decode cb_Se_assume 40 = .ok (.dup, 1) := by decide +kernel
theorem dd_Se_assume_41 : decode cb_Se_assume 41 = .ok (.getfield 59, 3) := by decide +kernel
theorem dd_Se_assume_44 : decode cb_Se_assume 44 = .ok (.iload_n 1, 1) := by decide +kernel
theorem dd_Se_assume_45 : decode cb_Se_assume 45 = .ok (.ior, 1) := by decide +kernel
theorem dd_Se_assume_46 : decode cb_Se_assume 46 = .ok (.putfield 59, 3) := by decide +kernel
theorem dd_Se_assume_49 : decode cb_Se_assume 49 = .ok (.return_, 1) := by decide +kernel
theorem dd_Se_decide_0 : decode cb_Se_decide 0 = .ok (.iconst 1, 1) := by decide +kernel
theorem dd_Se_decide_1 : decode cb_Se_decide 1 = .ok (.istore_n 1, 1) := by decide +kernel
theorem dd_Se_decide_2 : decode cb_Se_decide 2 = .ok (.iload_n 1, 1) := by decide +kernel
theorem dd_Se_decide_3 : decode cb_Se_decide 3 = .ok (.aload_n 0, 1) := by decide +kernel
theorem dd_Se_decide_4 : decode cb_Se_decide 4 = .ok (.getfield 45, 3) := by decide +kernel
theorem dd_Se_decide_7 : decode cb_Se_decide 7 = .ok (.if_icmp .ge 27, 3) := by decide +kernel
theorem dd_Se_decide_10 : decode cb_Se_decide 10 = .ok (.aload_n 0, 1) := by decide +kernel
theorem dd_Se_decide_11 : decode cb_Se_decide 11 = .ok (.getfield 59, 3) := by decide +kernel
theorem dd_Se_decide_14 : decode cb_Se_decide 14 = .ok (.iload_n 1, 1) := by decide +kernel
theorem dd_Se_decide_15 : decode cb_Se_decide 15 = .ok (.invokestatic 87, 3) := by decide +kernel
theorem dd_Se_decide_18 : decode cb_Se_decide 18 = .ok (.iload_n 1, 1) := by decide +kernel
theorem dd_Se_decide_19 : decode cb_Se_decide 19 = .ok (.ineg, 1) := by decide +kernel
theorem dd_Se_decide_20 : decode cb_Se_decide 20 = .ok (.invokestatic 87, 3) := by decide +kernel
theorem dd_Se_decide_23 : decode cb_Se_decide 23 = .ok (.ior, 1) := by decide +kernel
theorem dd_Se_decide_24 : decode cb_Se_decide 24 = .ok (.iand, 1) := by decide +kernel
theorem dd_Se_decide_25 : decode cb_Se_decide 25 = .ok (.ifCond .eq 9, 3) := by decide +kernel
theorem dd_Se_decide_28 : decode cb_Se_decide 28 = .ok (.iinc 1 1, 3) := by decide +kernel
theorem dd_Se_decide_31 : decode cb_Se_decide 31 = .ok (.goto (-29), 3) := by decide +kernel
theorem dd_Se_decide_34 : decode cb_Se_decide 34 = .ok (.aload_n 0, 1) := by decide +kernel
theorem dd_Se_decide_35 : decode cb_Se_decide 35 = .ok (.getfield 65, 3) := by decide +kernel
theorem dd_Se_decide_38 : decode cb_Se_decide 38 = .ok (.bipush 10, 2) := by decide +kernel
theorem dd_Se_decide_40 : decode cb_Se_decide 40 = .ok (.if_icmp .ge 36, 3) := by decide +kernel
theorem dd_Se_decide_43 : decode cb_Se_decide 43 = .ok (.aload_n 0, 1) := by decide +kernel
theorem dd_Se_decide_44 : decode cb_Se_decide 44 = .ok (.dup, 1) := by decide +kernel
theorem dd_Se_decide_45 : decode cb_Se_decide 45 = .ok (.getfield 65, 3) := by decide +kernel
theorem dd_Se_decide_48 : decode cb_Se_decide 48 = .ok (.iconst 1, 1) := by decide +kernel
theorem dd_Se_decide_49 : decode cb_Se_decide 49 = .ok (.iadd, 1) := by decide +kernel
theorem dd_Se_decide_50 : decode cb_Se_decide 50 = .ok (.putfield 65, 3) := by decide +kernel
theorem dd_Se_decide_53 : decode cb_Se_decide 53 = .ok (.aload_n 0, 1) := by decide +kernel
theorem dd_Se_decide_54 : decode cb_Se_decide 54 = .ok (.getfield 21, 3) := by decide +kernel
theorem dd_Se_decide_57 : decode cb_Se_decide 57 = .ok (.aload_n 0, 1) := by decide +kernel
theorem dd_Se_decide_58 : decode cb_Se_decide 58 = .ok (.getfield 65, 3) := by decide +kernel
theorem dd_Se_decide_61 : decode cb_Se_decide 61 = .ok (.aload_n 0, 1) := by decide +kernel
theorem dd_Se_decide_62 : decode cb_Se_decide 62 = .ok (.getfield 59, 3) := by decide +kernel
theorem dd_Se_decide_65 : decode cb_Se_decide 65 = .ok (.iastore, 1) := by decide +kernel
theorem dd_Se_decide_66 : decode cb_Se_decide 66 = .ok (.aload_n 0, 1) := by decide +kernel
theorem dd_Se_decide_67 : decode cb_Se_decide 67 = .ok (.iload_n 1, 1) := by decide +kernel
theorem dd_Se_decide_68 : decode cb_Se_decide 68 = .ok (.ineg, 1) := by decide +kernel
theorem dd_Se_decide_69 : decode cb_Se_decide 69 = .ok (.invokestatic 87, 3) := by decide +kernel
theorem dd_Se_decide_72 : decode cb_Se_decide 72 = .ok (.iconst (-1), 1) := by decide +kernel
theorem dd_Se_decide_73 : decode cb_Se_decide 73 = .ok (.invokevirtual 83, 3) := by decide +kernel
theorem dd_Se_decide_76 : decode cb_Se_decide 76 = .ok (.return_, 1) := by decide +kernel
theorem dd_Se_resolve_0 : decode cb_Se_resolve 0 = .ok (.aload_n 0, 1) := by decide +kernel
theorem dd_Se_resolve_1 : decode cb_Se_resolve 1 = .ok (.iload_n 1, 1) := by decide +kernel
theorem dd_Se_resolve_2 : decode cb_Se_resolve 2 = .ok (.invokevirtual 91, 3) := by decide +kernel
theorem dd_Se_resolve_5 : decode cb_Se_resolve 5 = .ok (.istore_n 2, 1) := by decide +kernel
theorem dd_Se_resolve_6 : decode cb_Se_resolve 6 = .ok (.aload_n 0, 1) := by decide +kernel
theorem dd_Se_resolve_7 : decode cb_Se_resolve 7 = .ok (.aload_n 0, 1) := by decide +kernel
theorem dd_Se_resolve_8 : decode cb_Se_resolve 8 = .ok (.getfield 56, 3) := by decide +kernel
theorem dd_Se_resolve_11 : decode cb_Se_resolve 11 = .ok (.ifCond .eq 15, 3) := by decide +kernel
theorem dd_Se_resolve_14 : decode cb_Se_resolve 14 = .ok (.aload_n 0, 1) := by decide +kernel
theorem dd_Se_resolve_15 : decode cb_Se_resolve 15 = .ok (.iload_n 2, 1) := by decide +kernel
theorem dd_Se_resolve_16 : decode cb_Se_resolve 16 = .ok (.invokevirtual 94, 3) := by decide +kernel
theorem dd_Se_resolve_19 : decode cb_Se_resolve 19 = .ok (.ifCond .eq 7, 3) := by decide +kernel
theorem dd_Se_resolve_22 : decode cb_Se_resolve 22 = .ok (.iconst 1, 1) := by decide +kernel
theorem dd_Se_resolve_23 : decode cb_Se_resolve 23 = .ok (.goto 4, 3) := by decide +kernel
theorem dd_Se_resolve_26 : decode cb_Se_resolve 26 = .ok (.iconst 0, 1) := by decide +kernel
theorem dd_Se_resolve_27 : decode cb_Se_resolve 27 = .ok (.putfield 56, 3) := by decide +kernel
theorem dd_Se_resolve_30 : decode cb_Se_resolve 30 = .ok (.iload_n 2, 1) := by decide +kernel
theorem dd_Se_resolve_31 : decode cb_Se_resolve 31 = .ok (.ifCond .eq 22, 3) := by decide +kernel
theorem dd_Se_resolve_34 : decode cb_Se_resolve 34 = .ok (.aload_n 0, 1) := by decide +kernel
theorem dd_Se_resolve_35 : decode cb_Se_resolve 35 = .ok (.getfield 65, 3) := by decide +kernel
theorem dd_Se_resolve_38 : decode cb_Se_resolve 38 = .ok (.ifCond .eq 15, 3) := by decide +kernel
theorem dd_Se_resolve_41 : decode cb_Se_resolve 41 = .ok (.aload_n 0, 1) := by decide +kernel
theorem dd_Se_resolve_42 : decode cb_Se_resolve 42 = .ok (.getfield 33, 3) := by decide +kernel
theorem dd_Se_resolve_45 : decode cb_Se_resolve 45 = .ok (.aload_n 0, 1) := by decide +kernel
theorem dd_Se_resolve_46 : decode cb_Se_resolve 46 = .ok (.getfield 9, 3) := by decide +kernel
theorem dd_Se_resolve_49 : decode cb_Se_resolve 49 = .ok (.arraylength, 1) := by decide +kernel
theorem dd_Se_resolve_50 : decode cb_Se_resolve 50 = .ok (.if_icmp .lt 22, 3) := by decide +kernel
theorem dd_Se_resolve_53 : decode cb_Se_resolve 53 = .ok (.aload_n 0, 1) := by decide +kernel
theorem dd_Se_resolve_54 : decode cb_Se_resolve 54 = .ok (.iload_n 2, 1) := by decide +kernel
theorem dd_Se_resolve_55 : decode cb_Se_resolve 55 = .ok (.ifCond .ne 7, 3) := by decide +kernel
theorem dd_Se_resolve_58 : decode cb_Se_resolve 58 = .ok (.iconst 1, 1) := by decide +kernel
theorem dd_Se_resolve_59 : decode cb_Se_resolve 59 = .ok (.goto 4, 3) := by decide +kernel
theorem dd_Se_resolve_62 : decode cb_Se_resolve 62 = .ok (.iconst 0, 1) := by decide +kernel
theorem dd_Se_resolve_63 : decode cb_Se_resolve 63 = .ok (.putfield 53, 3) := by decide +kernel
theorem dd_Se_resolve_66 : decode cb_Se_resolve 66 = .ok (.aload_n 0, 1) := by decide +kernel
theorem dd_Se_resolve_67 : decode cb_Se_resolve 67 = .ok (.iconst 1, 1) := by decide +kernel
theorem dd_Se_resolve_68 : decode cb_Se_resolve 68 = .ok (.putfield 46, 3) := by decide +kernel
theorem dd_Se_resolve_71 : decode cb_Se_resolve 71 = .ok (.return_, 1) := by decide +kernel
theorem dd_Se_resolve_72 : decode cb_Se_resolve 72 = .ok (.aload_n 0, 1) := by decide +kernel
theorem dd_Se_resolve_73 : decode cb_Se_resolve 73 = .ok (.iload_n 2, 1) := by decide +kernel
theorem dd_Se_resolve_74 : decode cb_Se_resolve 74 = .ok (.invokevirtual 98, 3) := by decide +kernel
theorem dd_Se_resolve_77 : decode cb_Se_resolve 77 = .ok (.aload_n 0, 1) := by decide +kernel
theorem dd_Se_resolve_78 : decode cb_Se_resolve 78 = .ok (.getfield 9, 3) := by decide +kernel
theorem dd_Se_resolve_81 : decode cb_Se_resolve 81 = .ok (.aload_n 0, 1) := by decide +kernel
theorem dd_Se_resolve_82 : decode cb_Se_resolve 82 = .ok (.getfield 33, 3) := by decide +kernel
theorem dd_Se_resolve_85 : decode cb_Se_resolve 85 = .ok (.iload_n 2, 1) := by decide +kernel
theorem dd_Se_resolve_86 : decode cb_Se_resolve 86 = .ok (.iastore, 1) := by decide +kernel
theorem dd_Se_resolve_87 : decode cb_Se_resolve 87 = .ok (.aload_n 0, 1) := by decide +kernel
theorem dd_Se_resolve_88 : decode cb_Se_resolve 88 = .ok (.dup, 1) := by decide +kernel
theorem dd_Se_resolve_89 : decode cb_Se_resolve 89 = .ok (.getfield 33, 3) := by decide +kernel
theorem dd_Se_resolve_92 : decode cb_Se_resolve 92 = .ok (.iconst 1, 1) := by decide +kernel
theorem dd_Se_resolve_93 : decode cb_Se_resolve 93 = .ok (.iadd, 1) := by decide +kernel
theorem dd_Se_resolve_94 : decode cb_Se_resolve 94 = .ok (.putfield 33, 3) := by decide +kernel
theorem dd_Se_resolve_97 : decode cb_Se_resolve 97 = .ok (.return_, 1) := by decide +kernel
theorem dd_Se_learn_0 : decode cb_Se_learn 0 = .ok (.aload_n 0, 1) := by decide +kernel
theorem dd_Se_learn_1 : decode cb_Se_learn 1 = .ok (.getfield 24, 3) := by decide +kernel
theorem dd_Se_learn_4 : decode cb_Se_learn 4 = .ok (.iconst 0, 1) := by decide +kernel
theorem dd_Se_learn_5 : decode cb_Se_learn 5 = .ok (.iload_n 1, 1) := by decide +kernel
theorem dd_Se_learn_6 : decode cb_Se_learn 6 = .ok (.iastore, 1) := by decide +kernel
theorem dd_Se_learn_7 : decode cb_Se_learn 7 = .ok (.aload_n 0, 1) := by decide +kernel
theorem dd_Se_learn_8 : decode cb_Se_learn 8 = .ok (.iconst 1, 1) := by decide +kernel
theorem dd_Se_learn_9 : decode cb_Se_learn 9 = .ok (.putfield 101, 3) := by decide +kernel
theorem dd_Se_learn_12 : decode cb_Se_learn 12 = .ok (.aload_n 0, 1) := by decide +kernel
theorem dd_Se_learn_13 : decode cb_Se_learn 13 = .ok (.getfield 9, 3) := by decide +kernel
theorem dd_Se_learn_16 : decode cb_Se_learn 16 = .ok (.iload_n 1, 1) := by decide +kernel
theorem dd_Se_learn_17 : decode cb_Se_learn 17 = .ok (.iaload, 1) := by decide +kernel
theorem dd_Se_learn_18 : decode cb_Se_learn 18 = .ok (.invokestatic 104, 3) := by decide +kernel
theorem dd_Se_learn_21 : decode cb_Se_learn 21 = .ok (.istore_n 2, 1) := by decide +kernel
theorem dd_Se_learn_22 : decode cb_Se_learn 22 = .ok (.aload_n 0, 1) := by decide +kernel
theorem dd_Se_learn_23 : decode cb_Se_learn 23 = .ok (.getfield 62, 3) := by decide +kernel
theorem dd_Se_learn_26 : decode cb_Se_learn 26 = .ok (.iconst 1, 1) := by decide +kernel
theorem dd_Se_learn_27 : decode cb_Se_learn 27 = .ok (.isub, 1) := by decide +kernel
theorem dd_Se_learn_28 : decode cb_Se_learn 28 = .ok (.istore_n 3, 1) := by decide +kernel
theorem dd_Se_learn_29 : decode cb_Se_learn 29 = .ok (.iload_n 3, 1) := by decide +kernel
theorem dd_Se_learn_30 : decode cb_Se_learn 30 = .ok (.ifCond .lt 104, 3) := by decide +kernel
theorem dd_Se_learn_33 : decode cb_Se_learn 33 = .ok (.iload_n 2, 1) := by decide +kernel
theorem dd_Se_learn_34 : decode cb_Se_learn 34 = .ok (.aload_n 0, 1) := by decide +kernel
theorem dd_Se_learn_35 : decode cb_Se_learn 35 = .ok (.getfield 15, 3) := by decide +kernel
theorem dd_Se_learn_38 : decode cb_Se_learn 38 = .ok (.iload_n 3, 1) := by decide +kernel
theorem dd_Se_learn_39 : decode cb_Se_learn 39 = .ok (.iaload, 1) := by decide +kernel
theorem dd_Se_learn_40 : decode cb_Se_learn 40 = .ok (.iand, 1) := by decide +kernel
theorem dd_Se_learn_41 : decode cb_Se_learn 41 = .ok (.ifCond .eq 87, 3) := by decide +kernel
theorem dd_Se_learn_44 : decode cb_Se_learn 44 = .ok (.aload_n 0, 1) := by decide +kernel
theorem dd_Se_learn_45 : decode cb_Se_learn 45 = .ok (.iload_n 3, 1) := by decide +kernel
theorem dd_Se_learn_46 : decode cb_Se_learn 46 = .ok (.iload_n 2, 1) := by decide +kernel
theorem dd_Se_learn_47 : decode cb_Se_learn 47 = .ok (.invokevirtual 107, 3) := by decide +kernel
theorem dd_Se_learn_50 : decode cb_Se_learn 50 = .ok (.ifCond .ne 78, 3) := by decide +kernel
theorem dd_Se_learn_53 : decode cb_Se_learn 53 = .ok (.aload_n 0, 1) := by decide +kernel
theorem dd_Se_learn_54 : decode cb_Se_learn 54 = .ok (.getfield 101, 3) := by decide +kernel
theorem dd_Se_learn_57 : decode cb_Se_learn 57 = .ok (.aload_n 0, 1) := by decide +kernel
theorem dd_Se_learn_58 : decode cb_Se_learn 58 = .ok (.getfield 24, 3) := by decide +kernel
theorem dd_Se_learn_61 : decode cb_Se_learn 61 = .ok (.arraylength, 1) := by decide +kernel
theorem dd_Se_learn_62 : decode cb_Se_learn 62 = .ok (.if_icmp .lt 6, 3) := by decide +kernel
theorem dd_Se_learn_65 : decode cb_Se_learn 65 = .ok (.goto 63, 3) := by decide +kernel
theorem dd_Se_learn_68 : decode cb_Se_learn 68 = .ok (.aload_n 0, 1) := by decide +kernel
theorem dd_Se_learn_69 : decode cb_Se_learn 69 = .ok (.getfield 18, 3) := by decide +kernel
theorem dd_Se_learn_72 : decode cb_Se_learn 72 = .ok (.iload_n 3, 1) := by decide +kernel
theorem dd_Se_learn_73 : decode cb_Se_learn 73 = .ok (.iaload, 1) := by decide +kernel
theorem dd_Se_learn_74 : decode cb_Se_learn 74 = .ok (.istore 4, 2) := by decide +kernel
theorem dd_Se_learn_76 : decode cb_Se_learn 76 = .ok (.aload_n 0, 1) := by decide +kernel
theorem dd_Se_learn_77 : decode cb_Se_learn 77 = .ok (.getfield 24, 3) := by decide +kernel
theorem dd_Se_learn_80 : decode cb_Se_learn 80 = .ok (.aload_n 0, 1) := by decide +kernel
theorem dd_Se_learn_81 : decode cb_Se_learn 81 = .ok (.getfield 101, 3) := by decide +kernel
theorem dd_Se_learn_84 : decode cb_Se_learn 84 = .ok (.iload 4, 2) := by decide +kernel
theorem dd_Se_learn_86 : decode cb_Se_learn 86 = .ok (.iastore, 1) := by decide +kernel
theorem dd_Se_learn_87 : decode cb_Se_learn 87 = .ok (.aload_n 0, 1) := by decide +kernel
theorem dd_Se_learn_88 : decode cb_Se_learn 88 = .ok (.dup, 1) := by decide +kernel
theorem dd_Se_learn_89 : decode cb_Se_learn 89 = .ok (.getfield 101, 3) := by decide +kernel
theorem dd_Se_learn_92 : decode cb_Se_learn 92 = .ok (.iconst 1, 1) := by decide +kernel
theorem dd_Se_learn_93 : decode cb_Se_learn 93 = .ok (.iadd, 1) := by decide +kernel
theorem dd_Se_learn_94 : decode cb_Se_learn 94 = .ok (.putfield 101, 3) := by decide +kernel
theorem dd_Se_learn_97 : decode cb_Se_learn 97 = .ok (.iload_n 2, 1) := by decide +kernel
theorem dd_Se_learn_98 : decode cb_Se_learn 98 = .ok (.aload_n 0, 1) := by decide +kernel
theorem dd_Se_learn_99 : decode cb_Se_learn 99 = .ok (.getfield 15, 3) := by decide +kernel
theorem dd_Se_learn_102 : decode cb_Se_learn 102 = .ok (.iload_n 3, 1) := by decide +kernel
theorem dd_Se_learn_103 : decode cb_Se_learn 103 = .ok (.iaload, 1) := by decide +kernel
theorem dd_Se_learn_104 : decode cb_Se_learn 104 = .ok (.iconst (-1), 1) := by decide +kernel
theorem dd_Se_learn_105 : decode cb_Se_learn 105 = .ok (.ixor, 1) := by decide +kernel
theorem dd_Se_learn_106 : decode cb_Se_learn 106 = .ok (.iand, 1) := by decide +kernel
theorem dd_Se_learn_107 : decode cb_Se_learn 107 = .ok (.aload_n 0, 1) := by decide +kernel
theorem dd_Se_learn_108 : decode cb_Se_learn 108 = .ok (.getfield 9, 3) := by decide +kernel
theorem dd_Se_learn_111 : decode cb_Se_learn 111 = .ok (.iload 4, 2) := by decide +kernel
theorem dd_Se_learn_113 : decode cb_Se_learn 113 = .ok (.iaload, 1) := by decide +kernel
theorem dd_Se_learn_114 : decode cb_Se_learn 114 = .ok (.aload_n 0, 1) := by decide +kernel
theorem dd_Se_learn_115 : decode cb_Se_learn 115 = .ok (.getfield 15, 3) := by decide +kernel
theorem dd_Se_learn_118 : decode cb_Se_learn 118 = .ok (.iload_n 3, 1) := by decide +kernel
theorem dd_Se_learn_119 : decode cb_Se_learn 119 = .ok (.iaload, 1) := by decide +kernel
theorem dd_Se_learn_120 : decode cb_Se_learn 120 = .ok (.iconst (-1), 1) := by decide +kernel
theorem dd_Se_learn_121 : decode cb_Se_learn 121 = .ok (.ixor, 1) := by decide +kernel
theorem dd_Se_learn_122 : decode cb_Se_learn 122 = .ok (.iand, 1) := by decide +kernel
theorem dd_Se_learn_123 : decode cb_Se_learn 123 = .ok (.invokestatic 104, 3) := by decide +kernel
theorem dd_Se_learn_126 : decode cb_Se_learn 126 = .ok (.ior, 1) := by decide +kernel
theorem dd_Se_learn_127 : decode cb_Se_learn 127 = .ok (.istore_n 2, 1) := by decide +kernel
theorem dd_Se_learn_128 : decode cb_Se_learn 128 = .ok (.iinc 3 (-1), 3) := by decide +kernel
theorem dd_Se_learn_131 : decode cb_Se_learn 131 = .ok (.goto (-102), 3) := by decide +kernel
theorem dd_Se_learn_134 : decode cb_Se_learn 134 = .ok (.iload_n 2, 1) := by decide +kernel
theorem dd_Se_learn_135 : decode cb_Se_learn 135 = .ok (.invokestatic 104, 3) := by decide +kernel
theorem dd_Se_learn_138 : decode cb_Se_learn 138 = .ok (.ireturn, 1) := by decide +kernel
theorem dd_Se_isKept_0 : decode cb_Se_isKept 0 = .ok (.aload_n 0, 1) := by decide +kernel
theorem dd_Se_isKept_1 : decode cb_Se_isKept 1 = .ok (.getfield 18, 3) := by decide +kernel
theorem dd_Se_isKept_4 : decode cb_Se_isKept 4 = .ok (.iload_n 1, 1) := by decide +kernel
theorem dd_Se_isKept_5 : decode cb_Se_isKept 5 = .ok (.iaload, 1) := by decide +kernel
theorem dd_Se_isKept_6 : decode cb_Se_isKept 6 = .ok (.iconst (-1), 1) := by decide +kernel
theorem dd_Se_isKept_7 : decode cb_Se_isKept 7 = .ok (.if_icmp .ne 5, 3) := by decide +kernel
theorem dd_Se_isKept_10 : decode cb_Se_isKept 10 = .ok (.iconst 1, 1) := by decide +kernel
theorem dd_Se_isKept_11 : decode cb_Se_isKept 11 = .ok (.ireturn, 1) := by decide +kernel
theorem dd_Se_isKept_12 : decode cb_Se_isKept 12 = .ok (.aload_n 0, 1) := by decide +kernel
theorem dd_Se_isKept_13 : decode cb_Se_isKept 13 = .ok (.getfield 65, 3) := by decide +kernel
theorem dd_Se_isKept_16 : decode cb_Se_isKept 16 = .ok (.ifCond .eq 19, 3) := by decide +kernel
theorem dd_Se_isKept_19 : decode cb_Se_isKept 19 = .ok (.aload_n 0, 1) := by decide +kernel
theorem dd_Se_isKept_20 : decode cb_Se_isKept 20 = .ok (.getfield 21, 3) := by decide +kernel
theorem dd_Se_isKept_23 : decode cb_Se_isKept 23 = .ok (.iconst 1, 1) := by decide +kernel
theorem dd_Se_isKept_24 : decode cb_Se_isKept 24 = .ok (.iaload, 1) := by decide +kernel
theorem dd_Se_isKept_25 : decode cb_Se_isKept 25 = .ok (.aload_n 0, 1) := by decide +kernel
theorem dd_Se_isKept_26 : decode cb_Se_isKept 26 = .ok (.getfield 15, 3) := by decide +kernel
theorem dd_Se_isKept_29 : decode cb_Se_isKept 29 = .ok (.iload_n 1, 1) := by decide +kernel
theorem dd_Se_isKept_30 : decode cb_Se_isKept 30 = .ok (.iaload, 1) := by decide +kernel
theorem dd_Se_isKept_31 : decode cb_Se_isKept 31 = .ok (.iand, 1) := by decide +kernel
theorem dd_Se_isKept_32 : decode cb_Se_isKept 32 = .ok (.ifCond .eq 5, 3) := by decide +kernel
theorem dd_Se_isKept_35 : decode cb_Se_isKept 35 = .ok (.iconst 0, 1) := by decide +kernel
theorem dd_Se_isKept_36 : decode cb_Se_isKept 36 = .ok (.ireturn, 1) := by decide +kernel
theorem dd_Se_isKept_37 : decode cb_Se_isKept 37 = .ok (.iload_n 2, 1) := by decide +kernel
theorem dd_Se_isKept_38 : decode cb_Se_isKept 38 = .ok (.aload_n 0, 1) := by decide +kernel
theorem dd_Se_isKept_39 : decode cb_Se_isKept 39 = .ok (.getfield 21, 3) := by decide +kernel
theorem dd_Se_isKept_42 : decode cb_Se_isKept 42 = .ok (.aload_n 0, 1) := by decide +kernel
theorem dd_Se_isKept_43 : decode cb_Se_isKept 43 = .ok (.getfield 65, 3) := by decide +kernel
theorem dd_Se_isKept_46 : decode cb_Se_isKept 46 = .ok (.iaload, 1) := by decide +kernel
theorem dd_Se_isKept_47 : decode cb_Se_isKept 47 = .ok (.iconst (-1), 1) := by decide +kernel
theorem dd_Se_isKept_48 : decode cb_Se_isKept 48 = .ok (.ixor, 1) := by decide +kernel
theorem dd_Se_isKept_49 : decode cb_Se_isKept 49 = .ok (.iand, 1) := by decide +kernel
theorem dd_Se_isKept_50 : decode cb_Se_isKept 50 = .ok (.istore_n 3, 1) := by decide +kernel
theorem dd_Se_isKept_51 : decode cb_Se_isKept 51 = .ok (.aload_n 0, 1) := by decide +kernel
theorem dd_Se_isKept_52 : decode cb_Se_isKept 52 = .ok (.getfield 21, 3) := by decide +kernel
theorem dd_Se_isKept_55 : decode cb_Se_isKept 55 = .ok (.aload_n 0, 1) := by decide +kernel
theorem dd_Se_isKept_56 : decode cb_Se_isKept 56 = .ok (.getfield 65, 3) := by decide +kernel
theorem dd_Se_isKept_59 : decode cb_Se_isKept 59 = .ok (.iaload, 1) := by decide +kernel
theorem dd_Se_isKept_60 : decode cb_Se_isKept 60 = .ok (.aload_n 0, 1) := by decide +kernel
theorem dd_Se_isKept_61 : decode cb_Se_isKept 61 = .ok (.getfield 15, 3) := by decide +kernel
theorem dd_Se_isKept_64 : decode cb_Se_isKept 64 = .ok (.iload_n 1, 1) := by decide +kernel
theorem dd_Se_isKept_65 : decode cb_Se_isKept 65 = .ok (.iaload, 1) := by decide +kernel
theorem dd_Se_isKept_66 : decode cb_Se_isKept 66 = .ok (.iand, 1) := by decide +kernel
theorem dd_Se_isKept_67 : decode cb_Se_isKept 67 = .ok (.ifCond .ne 13, 3) := by decide +kernel
theorem dd_Se_isKept_70 : decode cb_Se_isKept 70 = .ok (.iload_n 3, 1) := by decide +kernel
theorem dd_Se_isKept_71 : decode cb_Se_isKept 71 = .ok (.aload_n 0, 1) := by decide +kernel
theorem dd_Se_isKept_72 : decode cb_Se_isKept 72 = .ok (.getfield 15, 3) := by decide +kernel
theorem dd_Se_isKept_75 : decode cb_Se_isKept 75 = .ok (.iload_n 1, 1) := by decide +kernel
theorem dd_Se_isKept_76 : decode cb_Se_isKept 76 = .ok (.iaload, 1) := by decide +kernel
theorem dd_Se_isKept_77 : decode cb_Se_isKept 77 = .ok (.if_icmp .ne 7, 3) := by decide +kernel
theorem dd_Se_isKept_80 : decode cb_Se_isKept 80 = .ok (.iconst 1, 1) := by decide +kernel
theorem dd_Se_isKept_81 : decode cb_Se_isKept 81 = .ok (.goto 4, 3) := by decide +kernel
theorem dd_Se_isKept_84 : decode cb_Se_isKept 84 = .ok (.iconst 0, 1) := by decide +kernel
theorem dd_Se_isKept_85 : decode cb_Se_isKept 85 = .ok (.ireturn, 1) := by decide +kernel
theorem dd_Se_stepHolds_0 : decode cb_Se_stepHolds 0 = .ok (.iload_n 1, 1) := by decide +kernel
theorem dd_Se_stepHolds_1 : decode cb_Se_stepHolds 1 = .ok (.invokestatic 104, 3) := by decide +kernel
theorem dd_Se_stepHolds_4 : decode cb_Se_stepHolds 4 = .ok (.istore_n 2, 1) := by decide +kernel
theorem dd_Se_stepHolds_5 : decode cb_Se_stepHolds 5 = .ok (.aload_n 0, 1) := by decide +kernel
theorem dd_Se_stepHolds_6 : decode cb_Se_stepHolds 6 = .ok (.getfield 101, 3) := by decide +kernel
theorem dd_Se_stepHolds_9 : decode cb_Se_stepHolds 9 = .ok (.iconst 1, 1) := by decide +kernel
theorem dd_Se_stepHolds_10 : decode cb_Se_stepHolds 10 = .ok (.isub, 1) := by decide +kernel
theorem dd_Se_stepHolds_11 : decode cb_Se_stepHolds 11 = .ok (.istore_n 3, 1) := by decide +kernel
theorem dd_Se_stepHolds_12 : decode cb_Se_stepHolds 12 = .ok (.iload_n 3, 1) := by decide +kernel
theorem dd_Se_stepHolds_13 : decode cb_Se_stepHolds 13 = .ok (.ifCond .lt 46, 3) := by decide +kernel
theorem dd_Se_stepHolds_16 : decode cb_Se_stepHolds 16 = .ok (.aload_n 0, 1) := by decide +kernel
theorem dd_Se_stepHolds_17 : decode cb_Se_stepHolds 17 = .ok (.getfield 9, 3) := by decide +kernel
theorem dd_Se_stepHolds_20 : decode cb_Se_stepHolds 20 = .ok (.aload_n 0, 1) := by decide +kernel
theorem dd_Se_stepHolds_21 : decode cb_Se_stepHolds 21 = .ok (.getfield 24, 3) := by decide +kernel
theorem dd_Se_stepHolds_24 : decode cb_Se_stepHolds 24 = .ok (.iload_n 3, 1) := by decide +kernel
theorem dd_Se_stepHolds_25 : decode cb_Se_stepHolds 25 = .ok (.iaload, 1) := by decide +kernel
theorem dd_Se_stepHolds_26 : decode cb_Se_stepHolds 26 = .ok (.iaload, 1) := by decide +kernel
theorem dd_Se_stepHolds_27 : decode cb_Se_stepHolds 27 = .ok (.iload_n 2, 1) := by decide +kernel
theorem dd_Se_stepHolds_28 : decode cb_Se_stepHolds 28 = .ok (.invokestatic 79, 3) := by decide +kernel
theorem dd_Se_stepHolds_31 : decode cb_Se_stepHolds 31 = .ok (.istore 4, 2) := by decide +kernel
theorem dd_Se_stepHolds_33 : decode cb_Se_stepHolds 33 = .ok (.iload 4, 2) := by decide +kernel
theorem dd_Se_stepHolds_35 : decode cb_Se_stepHolds 35 = .ok (.ifCond .ge 15, 3) := by decide +kernel
theorem dd_Se_stepHolds_38 : decode cb_Se_stepHolds 38 = .ok (.iload 4, 2) := by decide +kernel
theorem dd_Se_stepHolds_40 : decode cb_Se_stepHolds 40 = .ok (.iconst (-1), 1) := by decide +kernel
theorem dd_Se_stepHolds_41 : decode cb_Se_stepHolds 41 = .ok (.if_icmp .ne 7, 3) := by decide +kernel
theorem dd_Se_stepHolds_44 : decode cb_Se_stepHolds 44 = .ok (.iconst 1, 1) := by decide +kernel
theorem dd_Se_stepHolds_45 : decode cb_Se_stepHolds 45 = .ok (.goto 4, 3) := by decide +kernel
theorem dd_Se_stepHolds_48 : decode cb_Se_stepHolds 48 = .ok (.iconst 0, 1) := by decide +kernel
theorem dd_Se_stepHolds_49 : decode cb_Se_stepHolds 49 = .ok (.ireturn, 1) := by decide +kernel
theorem dd_Se_stepHolds_50 : decode cb_Se_stepHolds 50 = .ok (.iload 4, 2) := by decide +kernel
theorem dd_Se_stepHolds_52 : decode cb_Se_stepHolds 52 = .ok (.istore_n 2, 1) := by decide +kernel
theorem dd_Se_stepHolds_53 : decode cb_Se_stepHolds 53 = .ok (.iinc 3 (-1), 3) := by decide +kernel
theorem dd_Se_stepHolds_56 : decode cb_Se_stepHolds 56 = .ok (.goto (-44), 3) := by decide +kernel
theorem dd_Se_stepHolds_59 : decode cb_Se_stepHolds 59 = .ok (.iconst 0, 1) := by decide +kernel
theorem dd_Se_stepHolds_60 : decode cb_Se_stepHolds 60 = .ok (.ireturn, 1) := by decide +kernel
theorem dd_Se_jumpBack_0 : decode cb_Se_jumpBack 0 = .ok (.iload_n 1, 1) := by decide +kernel
theorem dd_Se_jumpBack_1 : decode cb_Se_jumpBack 1 = .ok (.invokestatic 104, 3) := by decide +kernel
theorem dd_Se_jumpBack_4 : decode cb_Se_jumpBack 4 = .ok (.aload_n 0, 1) := by decide +kernel
theorem dd_Se_jumpBack_5 : decode cb_Se_jumpBack 5 = .ok (.getfield 21, 3) := by decide +kernel
theorem dd_Se_jumpBack_8 : decode cb_Se_jumpBack 8 = .ok (.aload_n 0, 1) := by decide +kernel
theorem dd_Se_jumpBack_9 : decode cb_Se_jumpBack 9 = .ok (.getfield 65, 3) := by decide +kernel
theorem dd_Se_jumpBack_12 : decode cb_Se_jumpBack 12 = .ok (.iaload, 1) := by decide +kernel
theorem dd_Se_jumpBack_13 : decode cb_Se_jumpBack 13 = .ok (.iand, 1) := by decide +kernel
theorem dd_Se_jumpBack_14 : decode cb_Se_jumpBack 14 = .ok (.istore_n 2, 1) := by decide +kernel
theorem dd_Se_jumpBack_15 : decode cb_Se_jumpBack 15 = .ok (.iconst 0, 1) := by decide +kernel
theorem dd_Se_jumpBack_16 : decode cb_Se_jumpBack 16 = .ok (.istore_n 3, 1) := by decide +kernel
theorem dd_Se_jumpBack_17 : decode cb_Se_jumpBack 17 = .ok (.iload_n 3, 1) := by decide +kernel
theorem dd_Se_jumpBack_18 : decode cb_Se_jumpBack 18 = .ok (.aload_n 0, 1) := by decide +kernel
theorem dd_Se_jumpBack_19 : decode cb_Se_jumpBack 19 = .ok (.getfield 65, 3) := by decide +kernel
theorem dd_Se_jumpBack_22 : decode cb_Se_jumpBack 22 = .ok (.iconst 1, 1) := by decide +kernel
theorem dd_Se_jumpBack_23 : decode cb_Se_jumpBack 23 = .ok (.isub, 1) := by decide +kernel
theorem dd_Se_jumpBack_24 : decode cb_Se_jumpBack 24 = .ok (.if_icmp .ge 24, 3) := by decide +kernel
theorem dd_Se_jumpBack_27 : decode cb_Se_jumpBack 27 = .ok (.iload_n 2, 1) := by decide +kernel
theorem dd_Se_jumpBack_28 : decode cb_Se_jumpBack 28 = .ok (.aload_n 0, 1) := by decide +kernel
theorem dd_Se_jumpBack_29 : decode cb_Se_jumpBack 29 = .ok (.getfield 21, 3) := by decide +kernel
theorem dd_Se_jumpBack_32 : decode cb_Se_jumpBack 32 = .ok (.iload_n 3, 1) := by decide +kernel
theorem dd_Se_jumpBack_33 : decode cb_Se_jumpBack 33 = .ok (.iconst 1, 1) := by decide +kernel
theorem dd_Se_jumpBack_34 : decode cb_Se_jumpBack 34 = .ok (.iadd, 1) := by decide +kernel
theorem dd_Se_jumpBack_35 : decode cb_Se_jumpBack 35 = .ok (.iaload, 1) := by decide +kernel
theorem dd_Se_jumpBack_36 : decode cb_Se_jumpBack 36 = .ok (.iconst (-1), 1) := by decide +kernel
theorem dd_Se_jumpBack_37 : decode cb_Se_jumpBack 37 = .ok (.ixor, 1) := by decide +kernel
theorem dd_Se_jumpBack_38 : decode cb_Se_jumpBack 38 = .ok (.iand, 1) := by decide +kernel
theorem dd_Se_jumpBack_39 : decode cb_Se_jumpBack 39 = .ok (.ifCond .eq 9, 3) := by decide +kernel
theorem dd_Se_jumpBack_42 : decode cb_Se_jumpBack 42 = .ok (.iinc 3 1, 3) := by decide +kernel
theorem dd_Se_jumpBack_45 : decode cb_Se_jumpBack 45 = .ok (.goto (-28), 3) := by decide +kernel
theorem dd_Se_jumpBack_48 : decode cb_Se_jumpBack 48 = .ok (.aload_n 0, 1) := by decide +kernel
theorem dd_Se_jumpBack_49 : decode cb_Se_jumpBack 49 = .ok (.aload_n 0, 1) := by decide +kernel
theorem dd_Se_jumpBack_50 : decode cb_Se_jumpBack 50 = .ok (.getfield 21, 3) := by decide +kernel
theorem dd_Se_jumpBack_53 : decode cb_Se_jumpBack 53 = .ok (.iload_n 3, 1) := by decide +kernel
theorem dd_Se_jumpBack_54 : decode cb_Se_jumpBack 54 = .ok (.iconst 1, 1) := by decide +kernel
theorem dd_Se_jumpBack_55 : decode cb_Se_jumpBack 55 = .ok (.iadd, 1) := by decide +kernel
theorem dd_Se_jumpBack_56 : decode cb_Se_jumpBack 56 = .ok (.iaload, 1) := by decide +kernel
theorem dd_Se_jumpBack_57 : decode cb_Se_jumpBack 57 = .ok (.putfield 59, 3) := by decide +kernel
theorem dd_Se_jumpBack_60 : decode cb_Se_jumpBack 60 = .ok (.aload_n 0, 1) := by decide +kernel
theorem dd_Se_jumpBack_61 : decode cb_Se_jumpBack 61 = .ok (.aload_n 0, 1) := by decide +kernel
theorem dd_Se_jumpBack_62 : decode cb_Se_jumpBack 62 = .ok (.getfield 59, 3) := by decide +kernel
theorem dd_Se_jumpBack_65 : decode cb_Se_jumpBack 65 = .ok (.invokestatic 111, 3) := by decide +kernel
theorem dd_Se_jumpBack_68 : decode cb_Se_jumpBack 68 = .ok (.putfield 62, 3) := by decide +kernel
theorem dd_Se_jumpBack_71 : decode cb_Se_jumpBack 71 = .ok (.aload_n 0, 1) := by decide +kernel
theorem dd_Se_jumpBack_72 : decode cb_Se_jumpBack 72 = .ok (.iload_n 3, 1) := by decide +kernel
theorem dd_Se_jumpBack_73 : decode cb_Se_jumpBack 73 = .ok (.putfield 65, 3) := by decide +kernel
theorem dd_Se_jumpBack_76 : decode cb_Se_jumpBack 76 = .ok (.return_, 1) := by decide +kernel
theorem dd_Mo_init_0 : decode cb_Mo_init 0 = .ok (.aload_n 0, 1) := by decide +kernel
theorem dd_Mo_init_1 : decode cb_Mo_init 1 = .ok (.invokespecial 1, 3) := by decide +kernel
theorem dd_Mo_init_4 : decode cb_Mo_init 4 = .ok (.aload_n 0, 1) := by decide +kernel
theorem dd_Mo_init_5 : decode cb_Mo_init 5 = .ok (.sipush 160, 3) := by decide +kernel
theorem dd_Mo_init_8 : decode cb_Mo_init 8 = .ok (.newarray .int, 2) := by decide +kernel
theorem dd_Mo_init_10 : decode cb_Mo_init 10 = .ok (.putfield 7, 3) := by decide +kernel
theorem dd_Mo_init_13 : decode cb_Mo_init 13 = .ok (.aload_n 0, 1) := by decide +kernel
theorem dd_Mo_init_14 : decode cb_Mo_init 14 = .ok (.bipush 90, 2) := by decide +kernel
theorem dd_Mo_init_16 : decode cb_Mo_init 16 = .ok (.newarray .int, 2) := by decide +kernel
theorem dd_Mo_init_18 : decode cb_Mo_init 18 = .ok (.putfield 13, 3) := by decide +kernel
theorem dd_Mo_init_21 : decode cb_Mo_init 21 = .ok (.aload_n 0, 1) := by decide +kernel
theorem dd_Mo_init_22 : decode cb_Mo_init 22 = .ok (.bipush 90, 2) := by decide +kernel
theorem dd_Mo_init_24 : decode cb_Mo_init 24 = .ok (.newarray .int, 2) := by decide +kernel
theorem dd_Mo_init_26 : decode cb_Mo_init 26 = .ok (.putfield 16, 3) := by decide +kernel
theorem dd_Mo_init_29 : decode cb_Mo_init 29 = .ok (.aload_n 0, 1) := by decide +kernel
theorem dd_Mo_init_30 : decode cb_Mo_init 30 = .ok (.bipush 89, 2) := by decide +kernel
theorem dd_Mo_init_32 : decode cb_Mo_init 32 = .ok (.newarray .int, 2) := by decide +kernel
theorem dd_Mo_init_34 : decode cb_Mo_init 34 = .ok (.putfield 19, 3) := by decide +kernel
theorem dd_Mo_init_37 : decode cb_Mo_init 37 = .ok (.aload_n 0, 1) := by decide +kernel
theorem dd_Mo_init_38 : decode cb_Mo_init 38 = .ok (.sipush 534, 3) := by decide +kernel
theorem dd_Mo_init_41 : decode cb_Mo_init 41 = .ok (.newarray .int, 2) := by decide +kernel
theorem dd_Mo_init_43 : decode cb_Mo_init 43 = .ok (.putfield 22, 3) := by decide +kernel
theorem dd_Mo_init_46 : decode cb_Mo_init 46 = .ok (.aload_n 0, 1) := by decide +kernel
theorem dd_Mo_init_47 : decode cb_Mo_init 47 = .ok (.bipush 40, 2) := by decide +kernel
theorem dd_Mo_init_49 : decode cb_Mo_init 49 = .ok (.newarray .int, 2) := by decide +kernel
theorem dd_Mo_init_51 : decode cb_Mo_init 51 = .ok (.putfield 25, 3) := by decide +kernel
theorem dd_Mo_init_54 : decode cb_Mo_init 54 = .ok (.aload_n 0, 1) := by decide +kernel
theorem dd_Mo_init_55 : decode cb_Mo_init 55 = .ok (.bipush 12, 2) := by decide +kernel
theorem dd_Mo_init_57 : decode cb_Mo_init 57 = .ok (.newarray .int, 2) := by decide +kernel
theorem dd_Mo_init_59 : decode cb_Mo_init 59 = .ok (.putfield 28, 3) := by decide +kernel
theorem dd_Mo_init_62 : decode cb_Mo_init 62 = .ok (.aload_n 0, 1) := by decide +kernel
theorem dd_Mo_init_63 : decode cb_Mo_init 63 = .ok (.bipush 21, 2) := by decide +kernel
theorem dd_Mo_init_65 : decode cb_Mo_init 65 = .ok (.newarray .boolean, 2) := by decide +kernel
theorem dd_Mo_init_67 : decode cb_Mo_init 67 = .ok (.putfield 31, 3) := by decide +kernel
theorem dd_Mo_init_70 : decode cb_Mo_init 70 = .ok (.aload_n 0, 1) := by decide +kernel
theorem dd_Mo_init_71 : decode cb_Mo_init 71 = .ok (.bipush 21, 2) := by decide +kernel
theorem dd_Mo_init_73 : decode cb_Mo_init 73 = .ok (.newarray .boolean, 2) := by decide +kernel
theorem dd_Mo_init_75 : decode cb_Mo_init 75 = .ok (.putfield 35, 3) := by decide +kernel
theorem dd_Mo_init_78 : decode cb_Mo_init 78 = .ok (.return_, 1) := by decide +kernel
theorem dd_Mo_in_0 : decode cb_Mo_in 0 = .ok (.iload_n 0, 1) := by decide +kernel
theorem dd_Mo_in_1 : decode cb_Mo_in 1 = .ok (.iload_n 1, 1) := by decide +kernel
theorem dd_Mo_in_2 : decode cb_Mo_in 2 = .ok (.if_icmp .lt 12, 3) := by decide +kernel
theorem dd_Mo_in_5 : decode cb_Mo_in 5 = .ok (.iload_n 0, 1) := by decide +kernel
theorem dd_Mo_in_6 : decode cb_Mo_in 6 = .ok (.iload_n 2, 1) := by decide +kernel
theorem dd_Mo_in_7 : decode cb_Mo_in 7 = .ok (.if_icmp .gt 7, 3) := by decide +kernel
theorem dd_Mo_in_10 : decode cb_Mo_in 10 = .ok (.iconst 1, 1) := by decide +kernel
theorem dd_Mo_in_11 : decode cb_Mo_in 11 = .ok (.goto 4, 3) := by decide +kernel
theorem dd_Mo_in_14 : decode cb_Mo_in 14 = .ok (.iconst 0, 1) := by decide +kernel
theorem dd_Mo_in_15 : decode cb_Mo_in 15 = .ok (.ireturn, 1) := by decide +kernel
theorem dd_Mo_type_0 : decode cb_Mo_type 0 = .ok (.iload_n 2, 1) := by decide +kernel
theorem dd_Mo_type_1 : decode cb_Mo_type 1 = .ok (.iconst 1, 1) := by decide +kernel
theorem dd_Mo_type_2 : decode cb_Mo_type 2 = .ok (.iconst 4, 1) := by decide +kernel
theorem dd_Mo_type_3 : decode cb_Mo_type 3 = .ok (.invokestatic 38, 3) := by decide +kernel
theorem dd_Mo_type_6 : decode cb_Mo_type 6 = .ok (.ifCond .eq 19, 3) := by decide +kernel
theorem dd_Mo_type_9 : decode cb_Mo_type 9 = .ok (.aload_n 0, 1) := by decide +kernel
theorem dd_Mo_type_10 : decode cb_Mo_type 10 = .ok (.getfield 42, 3) := by decide +kernel
theorem dd_Mo_type_13 : decode cb_Mo_type 13 = .ok (.iload_n 2, 1) := by decide +kernel
theorem dd_Mo_type_14 : decode cb_Mo_type 14 = .ok (.iadd, 1) := by decide +kernel
theorem dd_Mo_type_15 : decode cb_Mo_type 15 = .ok (.sipush 160, 3) := by decide +kernel
theorem dd_Mo_type_18 : decode cb_Mo_type 18 = .ok (.if_icmp .gt 7, 3) := by decide +kernel
theorem dd_Mo_type_21 : decode cb_Mo_type 21 = .ok (.iconst 1, 1) := by decide +kernel
theorem dd_Mo_type_22 : decode cb_Mo_type 22 = .ok (.goto 4, 3) := by decide +kernel
theorem dd_Mo_type_25 : decode cb_Mo_type 25 = .ok (.iconst 0, 1) := by decide +kernel
theorem dd_Mo_type_26 : decode cb_Mo_type 26 = .ok (.istore_n 3, 1) := by decide +kernel
theorem dd_Mo_type_27 : decode cb_Mo_type 27 = .ok (.iconst 0, 1) := by decide +kernel
theorem dd_Mo_type_28 : decode cb_Mo_type 28 = .ok (.istore 4, 2) := by decide +kernel
theorem dd_Mo_type_30 : decode cb_Mo_type 30 = .ok (.iload 4, 2) := by decide +kernel
theorem dd_Mo_type_32 : decode cb_Mo_type 32 = .ok (.iload_n 2, 1) := by decide +kernel
theorem dd_Mo_type_33 : decode cb_Mo_type 33 = .ok (.if_icmp .ge 51, 3) := by decide +kernel
theorem dd_Mo_type_36 : decode cb_Mo_type 36 = .ok (.iload_n 3, 1) := by decide +kernel
theorem dd_Mo_type_37 : decode cb_Mo_type 37 = .ok (.ifCond .eq 47, 3) := by decide +kernel
theorem dd_Mo_type_40 : decode cb_Mo_type 40 = .ok (.iload_n 1, 1) := by decide +kernel
theorem dd_Mo_type_41 : decode cb_Mo_type 41 = .ok (.bipush 8, 2) := by decide +kernel
theorem dd_Mo_type_43 : decode cb_Mo_type 43 = .ok (.iload 4, 2) := by decide +kernel
theorem dd_Mo_type_45 : decode cb_Mo_type 45 = .ok (.imul, 1) := by decide +kernel
theorem dd_Mo_type_46 : decode cb_Mo_type 46 = .ok (.ishr, 1) := by decide +kernel
theorem dd_Mo_type_47 : decode cb_Mo_type 47 = .ok (.sipush 255, 3) := by decide +kernel
theorem dd_Mo_type_50 : decode cb_Mo_type 50 = .ok (.iand, 1) := by decide +kernel
theorem dd_Mo_type_51 : decode cb_Mo_type 51 = .ok (.istore 5, 2) := by decide +kernel
theorem dd_Mo_type_53 : decode cb_Mo_type 53 = .ok (.iload 5, 2) := by decide +kernel
theorem dd_Mo_type_55 : decode cb_Mo_type 55 = .ok (.bipush 10, 2) := by decide +kernel
theorem dd_Mo_type_57 : decode cb_Mo_type 57 = .ok (.if_icmp .eq 15, 3) := by decide +kernel
theorem dd_Mo_type_60 : decode cb_Mo_type 60 = .ok (.iload 5, 2) := by decide +kernel
theorem dd_Mo_type_62 : decode cb_Mo_type 62 = .ok (.bipush 32, 2) := by decide +kernel
theorem dd_Mo_type_64 : decode cb_Mo_type 64 = .ok (.bipush 126, 2) := by decide +kernel
theorem dd_Mo_type_66 : decode cb_Mo_type 66 = .ok (.invokestatic 38, 3) := by decide +kernel
theorem dd_Mo_type_69 : decode cb_Mo_type 69 = .ok (.ifCond .eq 7, 3) := by decide +kernel
theorem dd_Mo_type_72 : decode cb_Mo_type 72 = .ok (.iconst 1, 1) := by decide +kernel
theorem dd_Mo_type_73 : decode cb_Mo_type 73 = .ok (.goto 4, 3) := by decide +kernel
theorem dd_Mo_type_76 : decode cb_Mo_type 76 = .ok (.iconst 0, 1) := by decide +kernel
theorem dd_Mo_type_77 : decode cb_Mo_type 77 = .ok (.istore_n 3, 1) := by decide +kernel
theorem dd_Mo_type_78 : decode cb_Mo_type 78 = .ok (.iinc 4 1, 3) := by decide +kernel
theorem dd_Mo_type_81 : decode cb_Mo_type 81 = .ok (.goto (-51), 3) := by decide +kernel
theorem dd_Mo_type_84 : decode cb_Mo_type 84 = .ok (.iload_n 2, 1) := by decide +kernel
theorem dd_Mo_type_85 : decode cb_Mo_type 85 = .ok (.iconst 1, 1) := by decide +kernel
theorem dd_Mo_type_86 : decode cb_Mo_type 86 = .ok (.isub, 1) := by decide +kernel
theorem dd_Mo_type_87 : decode cb_Mo_type 87 = .ok (.istore 4, 2) := by decide +kernel
theorem dd_Mo_type_89 : decode cb_Mo_type 89 = .ok (.iload 4, 2) := by decide +kernel
theorem dd_Mo_type_91 : decode cb_Mo_type 91 = .ok (.ifCond .lt 43, 3) := by decide +kernel
theorem dd_Mo_type_94 : decode cb_Mo_type 94 = .ok (.iload_n 3, 1) := by decide +kernel
theorem dd_Mo_type_95 : decode cb_Mo_type 95 = .ok (.ifCond .eq 39, 3) := by decide +kernel
theorem dd_Mo_type_98 : decode cb_Mo_type 98 = .ok (.aload_n 0, 1) := by decide +kernel
theorem dd_Mo_type_99 : decode cb_Mo_type 99 = .ok (.getfield 7, 3) := by decide +kernel
theorem dd_Mo_type_102 : decode cb_Mo_type 102 = .ok (.aload_n 0, 1) := by decide +kernel
theorem dd_Mo_type_103 : decode cb_Mo_type 103 = .ok (.getfield 42, 3) := by decide +kernel
theorem dd_Mo_type_106 : decode cb_Mo_type 106 = .ok (.iload_n 1, 1) := by decide +kernel
theorem dd_Mo_type_107 : decode cb_Mo_type 107 = .ok (.bipush 8, 2) := by decide +kernel
theorem dd_Mo_type_109 : decode cb_Mo_type 109 = .ok (.iload 4, 2) := by decide +kernel
theorem dd_Mo_type_111 : decode cb_Mo_type 111 = .ok (.imul, 1) := by decide +kernel
theorem dd_Mo_type_112 : decode cb_Mo_type 112 = .ok (.ishr, 1) := by decide +kernel
theorem dd_Mo_type_113 : decode cb_Mo_type 113 = .ok (.sipush 255, 3) := by decide +kernel
theorem dd_Mo_type_116 : decode cb_Mo_type 116 = .ok (.iand, 1) := by decide +kernel
theorem dd_Mo_type_117 : decode cb_Mo_type 117 = .ok (.iastore, 1) := by decide +kernel
theorem dd_Mo_type_118 : decode cb_Mo_type 118 = .ok (.aload_n 0, 1) := by decide +kernel
theorem dd_Mo_type_119 : decode cb_Mo_type 119 = .ok (.aload_n 0, 1) := by decide +kernel
theorem dd_Mo_type_120 : decode cb_Mo_type 120 = .ok (.getfield 42, 3) := by decide +kernel
theorem dd_Mo_type_123 : decode cb_Mo_type 123 = .ok (.iconst 1, 1) := by decide +kernel
theorem dd_Mo_type_124 : decode cb_Mo_type 124 = .ok (.iadd, 1) := by decide +kernel
theorem dd_Mo_type_125 : decode cb_Mo_type 125 = .ok (.putfield 42, 3) := by decide +kernel
theorem dd_Mo_type_128 : decode cb_Mo_type 128 = .ok (.iinc 4 (-1), 3) := by decide +kernel
theorem dd_Mo_type_131 : decode cb_Mo_type 131 = .ok (.goto (-42), 3) := by decide +kernel
theorem dd_Mo_type_134 : decode cb_Mo_type 134 = .ok (.iload_n 3, 1) := by decide +kernel
theorem dd_Mo_type_135 : decode cb_Mo_type 135 = .ok (.ireturn, 1) := by decide +kernel
theorem dd_Mo_isGap_0 : decode cb_Mo_isGap 0 = .ok (.aload_n 0, 1) := by decide +kernel
theorem dd_Mo_isGap_1 : decode cb_Mo_isGap 1 = .ok (.getfield 7, 3) := by decide +kernel
theorem dd_Mo_isGap_4 : decode cb_Mo_isGap 4 = .ok (.iload_n 1, 1) := by decide +kernel
theorem dd_Mo_isGap_5 : decode cb_Mo_isGap 5 = .ok (.iaload, 1) := by decide +kernel
theorem dd_Mo_isGap_6 : decode cb_Mo_isGap 6 = .ok (.bipush 32, 2) := by decide +kernel
theorem dd_Mo_isGap_8 : decode cb_Mo_isGap 8 = .ok (.if_icmp .eq 14, 3) := by decide +kernel
theorem dd_Mo_isGap_11 : decode cb_Mo_isGap 11 = .ok (.aload_n 0, 1) := by decide +kernel
theorem dd_Mo_isGap_12 : decode cb_Mo_isGap 12 = .ok (.getfield 7, 3) := by decide +kernel
theorem dd_Mo_isGap_15 : decode cb_Mo_isGap 15 = .ok (.iload_n 1, 1) := by decide +kernel
theorem dd_Mo_isGap_16 : decode cb_Mo_isGap 16 = .ok (.iaload, 1) := by decide +kernel
theorem dd_Mo_isGap_17 : decode cb_Mo_isGap 17 = .ok (.bipush 10, 2) := by decide +kernel
theorem dd_Mo_isGap_19 : decode cb_Mo_isGap 19 = .ok (.if_icmp .ne 7, 3) := by decide +kernel
theorem dd_Mo_isGap_22 : decode cb_Mo_isGap 22 = .ok (.iconst 1, 1) := by decide +kernel
theorem dd_Mo_isGap_23 : decode cb_Mo_isGap 23 = .ok (.goto 4, 3) := by decide +kernel
theorem dd_Mo_isGap_26 : decode cb_Mo_isGap 26 = .ok (.iconst 0, 1) := by decide +kernel
theorem dd_Mo_isGap_27 : decode cb_Mo_isGap 27 = .ok (.ireturn, 1) := by decide +kernel
theorem dd_Mo_cut_0 : decode cb_Mo_cut 0 = .ok (.aload_n 0, 1) := by decide +kernel
theorem dd_Mo_cut_1 : decode cb_Mo_cut 1 = .ok (.iconst 0, 1) := by decide +kernel
theorem dd_Mo_cut_2 : decode cb_Mo_cut 2 = .ok (.putfield 46, 3) := by decide +kernel
theorem dd_Mo_cut_5 : decode cb_Mo_cut 5 = .ok (.aload_n 0, 1) := by decide +kernel
theorem dd_Mo_cut_6 : decode cb_Mo_cut 6 = .ok (.iconst 0, 1) := by decide +kernel
theorem dd_Mo_cut_7 : decode cb_Mo_cut 7 = .ok (.putfield 49, 3) := by decide +kernel
theorem dd_Mo_cut_10 : decode cb_Mo_cut 10 = .ok (.aload_n 0, 1) := by decide +kernel
theorem dd_Mo_cut_11 : decode cb_Mo_cut 11 = .ok (.iconst (-1), 1) := by decide +kernel
theorem dd_Mo_cut_12 : decode cb_Mo_cut 12 = .ok (.putfield 52, 3) := by decide +kernel
theorem dd_Mo_cut_15 : decode cb_Mo_cut 15 = .ok (.aload_n 0, 1) := by decide +kernel
theorem dd_Mo_cut_16 : decode cb_Mo_cut 16 = .ok (.aload_n 0, 1) := by decide +kernel
theorem dd_Mo_cut_17 : decode cb_Mo_cut 17 = .ok (.getfield 42, 3) := by decide +kernel
theorem dd_Mo_cut_20 : decode cb_Mo_cut 20 = .ok (.putfield 55, 3) := by decide +kernel
theorem dd_Mo_cut_23 : decode cb_Mo_cut 23 = .ok (.aload_n 0, 1) := by decide +kernel
theorem dd_Mo_cut_24 : decode cb_Mo_cut 24 = .ok (.iconst 0, 1) := by decide +kernel
theorem dd_Mo_cut_25 : decode cb_Mo_cut 25 = .ok (.putfield 42, 3) := by decide +kernel
theorem dd_Mo_cut_28 : decode cb_Mo_cut 28 = .ok (.iconst 1, 1) := by decide +kernel
theorem dd_Mo_cut_29 : decode cb_Mo_cut 29 = .ok (.istore_n 2, 1) := by decide +kernel
theorem dd_Mo_cut_30 : decode cb_Mo_cut 30 = .ok (.iconst 0, 1) := by decide +kernel
theorem dd_Mo_cut_31 : decode cb_Mo_cut 31 = .ok (.istore_n 3, 1) := by decide +kernel
theorem dd_Mo_cut_32 : decode cb_Mo_cut 32 = .ok (.iconst 0, 1) := by decide +kernel
theorem dd_Mo_cut_33 : decode cb_Mo_cut 33 = .ok (.istore 4, 2) := by decide +kernel
theorem dd_Mo_cut_35 : decode cb_Mo_cut 35 = .ok (.iload 4, 2) := by decide +kernel
theorem dd_Mo_cut_37 : decode cb_Mo_cut 37 = .ok (.aload_n 0, 1) := by decide +kernel
theorem dd_Mo_cut_38 : decode cb_Mo_cut 38 = .ok (.getfield 55, 3) := by decide +kernel
theorem dd_Mo_cut_41 : decode cb_Mo_cut 41 = .ok (.if_icmp .ge 180, 3) := by decide +kernel
theorem dd_Mo_cut_44 : decode cb_Mo_cut 44 = .ok (.aload_n 0, 1) := by decide +kernel
theorem dd_Mo_cut_45 : decode cb_Mo_cut 45 = .ok (.iload 4, 2) := by decide +kernel
theorem dd_Mo_cut_47 : decode cb_Mo_cut 47 = .ok (.invokevirtual 58, 3) := by decide +kernel
theorem dd_Mo_cut_50 : decode cb_Mo_cut 50 = .ok (.ifCond .eq 56, 3) := by decide +kernel
theorem dd_Mo_cut_53 : decode cb_Mo_cut 53 = .ok (.iload_n 2, 1) := by decide +kernel
theorem dd_Mo_cut_54 : decode cb_Mo_cut 54 = .ok (.ifCond .ne 15, 3) := by decide +kernel
theorem dd_Mo_cut_57 : decode cb_Mo_cut 57 = .ok (.aload_n 0, 1) := by decide +kernel
theorem dd_Mo_cut_58 : decode cb_Mo_cut 58 = .ok (.getfield 7, 3) := by decide +kernel
theorem dd_Mo_cut_61 : decode cb_Mo_cut 61 = .ok (.iload 4, 2) := by decide +kernel
theorem dd_Mo_cut_63 : decode cb_Mo_cut 63 = .ok (.iaload, 1) := by decide +kernel
theorem dd_Mo_cut_64 : decode cb_Mo_cut 64 = .ok (.bipush 10, 2) := by decide +kernel
theorem dd_Mo_cut_66 : decode cb_Mo_cut 66 = .ok (.if_icmp .ne 7, 3) := by decide +kernel
theorem dd_Mo_cut_69 : decode cb_Mo_cut 69 = .ok (.iconst 1, 1) := by decide +kernel
theorem dd_Mo_cut_70 : decode cb_Mo_cut 70 = .ok (.goto 4, 3) := by decide +kernel
theorem dd_Mo_cut_73 : decode cb_Mo_cut 73 = .ok (.iconst 0, 1) := by decide +kernel
theorem dd_Mo_cut_74 : decode cb_Mo_cut 74 = .ok (.istore_n 2, 1) := by decide +kernel
theorem dd_Mo_cut_75 : decode cb_Mo_cut 75 = .ok (.iload_n 3, 1) := by decide +kernel
theorem dd_Mo_cut_76 : decode cb_Mo_cut 76 = .ok (.ifCond .eq 19, 3) := by decide +kernel
theorem dd_Mo_cut_79 : decode cb_Mo_cut 79 = .ok (.aload_n 0, 1) := by decide +kernel
theorem dd_Mo_cut_80 : decode cb_Mo_cut 80 = .ok (.getfield 7, 3) := by decide +kernel
theorem dd_Mo_cut_83 : decode cb_Mo_cut 83 = .ok (.iload 4, 2) := by decide +kernel
theorem dd_Mo_cut_85 : decode cb_Mo_cut 85 = .ok (.iaload, 1) := by decide +kernel
theorem dd_Mo_cut_86 : decode cb_Mo_cut 86 = .ok (.bipush 10, 2) := by decide +kernel
theorem dd_Mo_cut_88 : decode cb_Mo_cut 88 = .ok (.if_icmp .eq 7, 3) := by decide +kernel
theorem dd_Mo_cut_91 : decode cb_Mo_cut 91 = .ok (.iconst 1, 1) := by decide +kernel
theorem dd_Mo_cut_92 : decode cb_Mo_cut 92 = .ok (.goto 4, 3) := by decide +kernel
theorem dd_Mo_cut_95 : decode cb_Mo_cut 95 = .ok (.iconst 0, 1) := by decide +kernel
theorem dd_Mo_cut_96 : decode cb_Mo_cut 96 = .ok (.istore_n 3, 1) := by decide +kernel
theorem dd_Mo_cut_97 : decode cb_Mo_cut 97 = .ok (.iload 4, 2) := by decide +kernel
theorem dd_Mo_cut_99 : decode cb_Mo_cut 99 = .ok (.iconst 1, 1) := by decide +kernel
theorem dd_Mo_cut_100 : decode cb_Mo_cut 100 = .ok (.iadd, 1) := by decide +kernel
theorem dd_Mo_cut_101 : decode cb_Mo_cut 101 = .ok (.istore 4, 2) := by decide +kernel
theorem dd_Mo_cut_103 : decode cb_Mo_cut 103 = .ok (.goto (-68), 3) := by decide +kernel
theorem dd_Mo_cut_106 : decode cb_Mo_cut 106 = .ok (.iload 4, 2) := by decide +kernel
theorem dd_Mo_cut_108 : decode cb_Mo_cut 108 = .ok (.istore 5, 2) := by decide +kernel
theorem dd_Mo_cut_110 : decode cb_Mo_cut 110 = .ok (.iload 5, 2) := by decide +kernel
theorem dd_Mo_cut_112 : decode cb_Mo_cut 112 = .ok (.aload_n 0, 1) := by decide +kernel
theorem dd_Mo_cut_113 : decode cb_Mo_cut 113 = .ok (.getfield 55, 3) := by decide +kernel
theorem dd_Mo_cut_116 : decode cb_Mo_cut 116 = .ok (.if_icmp .ge 21, 3) := by decide +kernel
theorem dd_Mo_cut_119 : decode cb_Mo_cut 119 = .ok (.aload_n 0, 1) := by decide +kernel
theorem dd_Mo_cut_120 : decode cb_Mo_cut 120 = .ok (.iload 5, 2) := by decide +kernel
theorem dd_Mo_cut_122 : decode cb_Mo_cut 122 = .ok (.invokevirtual 58, 3) := by decide +kernel
theorem dd_Mo_cut_125 : decode cb_Mo_cut 125 = .ok (.ifCond .ne 12, 3) := by decide +kernel
theorem dd_Mo_cut_128 : decode cb_Mo_cut 128 = .ok (.iload 5, 2) := by decide +kernel
theorem dd_Mo_cut_130 : decode cb_Mo_cut 130 = .ok (.iconst 1, 1) := by decide +kernel
theorem dd_Mo_cut_131 : decode cb_Mo_cut 131 = .ok (.iadd, 1) := by decide +kernel
theorem dd_Mo_cut_132 : decode cb_Mo_cut 132 = .ok (.istore 5, 2) := by decide +kernel
theorem dd_Mo_cut_134 : decode cb_Mo_cut 134 = .ok (.goto (-24), 3) := by decide +kernel
theorem dd_Mo_cut_137 : decode cb_Mo_cut 137 = .ok (.iload_n 3, 1) := by decide +kernel
theorem dd_Mo_cut_138 : decode cb_Mo_cut 138 = .ok (.ifCond .ne 32, 3) := by decide +kernel
theorem dd_Mo_cut_141 : decode cb_Mo_cut 141 = .ok (.iload_n 1, 1) := by decide +kernel
theorem dd_Mo_cut_142 : decode cb_Mo_cut 142 = .ok (.ifCond .eq 32, 3) := by decide +kernel
theorem dd_Mo_cut_145 : decode cb_Mo_cut 145 = .ok (.iload_n 2, 1) := by decide +kernel
theorem dd_Mo_cut_146 : decode cb_Mo_cut 146 = .ok (.ifCond .eq 28, 3) := by decide +kernel
theorem dd_Mo_cut_149 : decode cb_Mo_cut 149 = .ok (.iload 5, 2) := by decide +kernel
theorem dd_Mo_cut_151 : decode cb_Mo_cut 151 = .ok (.iload 4, 2) := by decide +kernel
theorem dd_Mo_cut_153 : decode cb_Mo_cut 153 = .ok (.iconst 1, 1) := by decide +kernel
theorem dd_Mo_cut_154 : decode cb_Mo_cut 154 = .ok (.iadd, 1) := by decide +kernel
theorem dd_Mo_cut_155 : decode cb_Mo_cut 155 = .ok (.if_icmp .ne 19, 3) := by decide +kernel
theorem dd_Mo_cut_158 : decode cb_Mo_cut 158 = .ok (.aload_n 0, 1) := by decide +kernel
theorem dd_Mo_cut_159 : decode cb_Mo_cut 159 = .ok (.getfield 7, 3) := by decide +kernel
theorem dd_Mo_cut_162 : decode cb_Mo_cut 162 = .ok (.iload 4, 2) := by decide +kernel
theorem dd_Mo_cut_164 : decode cb_Mo_cut 164 = .ok (.iaload, 1) := by decide +kernel
theorem dd_Mo_cut_165 : decode cb_Mo_cut 165 = .ok (.bipush 99, 2) := by decide +kernel
theorem dd_Mo_cut_167 : decode cb_Mo_cut 167 = .ok (.if_icmp .ne 7, 3) := by decide +kernel
theorem dd_Mo_cut_170 : decode cb_Mo_cut 170 = .ok (.iconst 1, 1) := by decide +kernel
theorem dd_Mo_cut_171 : decode cb_Mo_cut 171 = .ok (.goto 4, 3) := by decide +kernel
theorem dd_Mo_cut_174 : decode cb_Mo_cut 174 = .ok (.iconst 0, 1) := by decide +kernel
theorem dd_Mo_cut_175 : decode cb_Mo_cut 175 = .ok (.istore_n 3, 1) := by decide +kernel
theorem dd_Mo_cut_176 : decode cb_Mo_cut 176 = .ok (.iload_n 3, 1) := by decide +kernel
theorem dd_Mo_cut_177 : decode cb_Mo_cut 177 = .ok (.ifCond .ne 35, 3) := by decide +kernel
theorem dd_Mo_cut_180 : decode cb_Mo_cut 180 = .ok (.aload_n 0, 1) := by decide +kernel
theorem dd_Mo_cut_181 : decode cb_Mo_cut 181 = .ok (.getfield 13, 3) := by decide +kernel
theorem dd_Mo_cut_184 : decode cb_Mo_cut 184 = .ok (.aload_n 0, 1) := by decide +kernel
theorem dd_Mo_cut_185 : decode cb_Mo_cut 185 = .ok (.getfield 46, 3) := by decide +kernel
theorem dd_Mo_cut_188 : decode cb_Mo_cut 188 = .ok (.iload 4, 2) := by decide +kernel
theorem dd_Mo_cut_190 : decode cb_Mo_cut 190 = .ok (.iastore, 1) := by decide +kernel
theorem dd_Mo_cut_191 : decode cb_Mo_cut 191 = .ok (.aload_n 0, 1) := by decide +kernel
theorem dd_Mo_cut_192 : decode cb_Mo_cut 192 = .ok (.getfield 16, 3) := by decide +kernel
theorem dd_Mo_cut_195 : decode cb_Mo_cut 195 = .ok (.aload_n 0, 1) := by decide +kernel
theorem dd_Mo_cut_196 : decode cb_Mo_cut 196 = .ok (.getfield 46, 3) := by decide +kernel
theorem dd_Mo_cut_199 : decode cb_Mo_cut 199 = .ok (.iload 5, 2) := by decide +kernel
theorem dd_Mo_cut_201 : decode cb_Mo_cut 201 = .ok (.iastore, 1) := by decide +kernel
theorem dd_Mo_cut_202 : decode cb_Mo_cut 202 = .ok (.aload_n 0, 1) := by decide +kernel
theorem dd_Mo_cut_203 : decode cb_Mo_cut 203 = .ok (.aload_n 0, 1) := by decide +kernel
theorem dd_Mo_cut_204 : decode cb_Mo_cut 204 = .ok (.getfield 46, 3) := by decide +kernel
theorem dd_Mo_cut_207 : decode cb_Mo_cut 207 = .ok (.iconst 1, 1) := by decide +kernel
theorem dd_Mo_cut_208 : decode cb_Mo_cut 208 = .ok (.iadd, 1) := by decide +kernel
theorem dd_Mo_cut_209 : decode cb_Mo_cut 209 = .ok (.putfield 46, 3) := by decide +kernel
theorem dd_Mo_cut_212 : decode cb_Mo_cut 212 = .ok (.iconst 0, 1) := by decide +kernel
theorem dd_Mo_cut_213 : decode cb_Mo_cut 213 = .ok (.istore_n 2, 1) := by decide +kernel
theorem dd_Mo_cut_214 : decode cb_Mo_cut 214 = .ok (.iload 5, 2) := by decide +kernel
theorem dd_Mo_cut_216 : decode cb_Mo_cut 216 = .ok (.istore 4, 2) := by decide +kernel
theorem dd_Mo_cut_218 : decode cb_Mo_cut 218 = .ok (.goto (-183), 3) := by decide +kernel
theorem dd_Mo_cut_221 : decode cb_Mo_cut 221 = .ok (.return_, 1) := by decide +kernel
theorem dd_Mo_fail_0 : decode cb_Mo_fail 0 = .ok (.aload_n 0, 1) := by decide +kernel
theorem dd_Mo_fail_1 : decode cb_Mo_fail 1 = .ok (.aload_n 0, 1) := by decide +kernel
theorem dd_Mo_fail_2 : decode cb_Mo_fail 2 = .ok (.getfield 52, 3) := by decide +kernel
theorem dd_Mo_fail_5 : decode cb_Mo_fail 5 = .ok (.ifCond .lt 10, 3) := by decide +kernel
theorem dd_Mo_fail_8 : decode cb_Mo_fail 8 = .ok (.aload_n 0, 1) := by decide +kernel
theorem dd_Mo_fail_9 : decode cb_Mo_fail 9 = .ok (.getfield 52, 3) := by decide +kernel
theorem dd_Mo_fail_12 : decode cb_Mo_fail 12 = .ok (.goto 30, 3) := by decide +kernel
theorem dd_Mo_fail_15 : decode cb_Mo_fail 15 = .ok (.aload_n 0, 1) := by decide +kernel
theorem dd_Mo_fail_16 : decode cb_Mo_fail 16 = .ok (.getfield 49, 3) := by decide +kernel
theorem dd_Mo_fail_19 : decode cb_Mo_fail 19 = .ok (.aload_n 0, 1) := by decide +kernel
theorem dd_Mo_fail_20 : decode cb_Mo_fail 20 = .ok (.getfield 46, 3) := by decide +kernel
theorem dd_Mo_fail_23 : decode cb_Mo_fail 23 = .ok (.if_icmp .ge 15, 3) := by decide +kernel
theorem dd_Mo_fail_26 : decode cb_Mo_fail 26 = .ok (.aload_n 0, 1) := by decide +kernel
theorem dd_Mo_fail_27 : decode cb_Mo_fail 27 = .ok (.getfield 13, 3) := by decide +kernel
theorem dd_Mo_fail_30 : decode cb_Mo_fail 30 = .ok (.aload_n 0, 1) := by decide +kernel
theorem dd_Mo_fail_31 : decode cb_Mo_fail 31 = .ok (.getfield 49, 3) := by decide +kernel
theorem dd_Mo_fail_34 : decode cb_Mo_fail 34 = .ok (.iaload, 1) := by decide +kernel
theorem dd_Mo_fail_35 : decode cb_Mo_fail 35 = .ok (.goto 7, 3) := by decide +kernel
theorem dd_Mo_fail_38 : decode cb_Mo_fail 38 = .ok (.aload_n 0, 1) := by decide +kernel
theorem dd_Mo_fail_39 : decode cb_Mo_fail 39 = .ok (.getfield 55, 3) := by decide +kernel
theorem dd_Mo_fail_42 : decode cb_Mo_fail 42 = .ok (.putfield 52, 3) := by decide +kernel
theorem dd_Mo_fail_45 : decode cb_Mo_fail 45 = .ok (.return_, 1) := by decide +kernel
theorem dd_Mo_isWord_0 : decode cb_Mo_isWord 0 = .ok (.aload_n 0, 1) := by decide +kernel
theorem dd_Mo_isWord_1 : decode cb_Mo_isWord 1 = .ok (.getfield 49, 3) := by decide +kernel
theorem dd_Mo_isWord_4 : decode cb_Mo_isWord 4 = .ok (.aload_n 0, 1) := by decide +kernel
theorem dd_Mo_isWord_5 : decode cb_Mo_isWord 5 = .ok (.getfield 46, 3) := by decide +kernel
theorem dd_Mo_isWord_8 : decode cb_Mo_isWord 8 = .ok (.if_icmp .lt 5, 3) := by decide +kernel
theorem dd_Mo_isWord_11 : decode cb_Mo_isWord 11 = .ok (.iconst 0, 1) := by decide +kernel
theorem dd_Mo_isWord_12 : decode cb_Mo_isWord 12 = .ok (.ireturn, 1) := by decide +kernel
theorem dd_Mo_isWord_13 : decode cb_Mo_isWord 13 = .ok (.aload_n 0, 1) := by decide +kernel
theorem dd_Mo_isWord_14 : decode cb_Mo_isWord 14 = .ok (.getfield 13, 3) := by decide +kernel
theorem dd_Mo_isWord_17 : decode cb_Mo_isWord 17 = .ok (.aload_n 0, 1) := by decide +kernel
theorem dd_Mo_isWord_18 : decode cb_Mo_isWord 18 = .ok (.getfield 49, 3) := by decide +kernel
theorem dd_Mo_isWord_21 : decode cb_Mo_isWord 21 = .ok (.iaload, 1) := by decide +kernel
theorem dd_Mo_isWord_22 : decode cb_Mo_isWord 22 = .ok (.istore 4, 2) := by decide +kernel
theorem dd_Mo_isWord_24 : decode cb_Mo_isWord 24 = .ok (.aload_n 0, 1) := by decide +kernel
theorem dd_Mo_isWord_25 : decode cb_Mo_isWord 25 = .ok (.getfield 16, 3) := by decide +kernel
theorem dd_Mo_isWord_28 : decode cb_Mo_isWord 28 = .ok (.aload_n 0, 1) := by decide +kernel
theorem dd_Mo_isWord_29 : decode cb_Mo_isWord 29 = .ok (.getfield 49, 3) := by decide +kernel
theorem dd_Mo_isWord_32 : decode cb_Mo_isWord 32 = .ok (.iaload, 1) := by decide +kernel
theorem dd_Mo_isWord_33 : decode cb_Mo_isWord 33 = .ok (.iload 4, 2) := by decide +kernel
theorem dd_Mo_isWord_35 : decode cb_Mo_isWord 35 = .ok (.isub, 1) := by decide +kernel
theorem dd_Mo_isWord_36 : decode cb_Mo_isWord 36 = .ok (.istore 5, 2) := by decide +kernel
theorem dd_Mo_isWord_38 : decode cb_Mo_isWord 38 = .ok (.iload 5, 2) := by decide +kernel
theorem dd_Mo_isWord_40 : decode cb_Mo_isWord 40 = .ok (.iload_n 2, 1) := by decide +kernel
theorem dd_Mo_isWord_41 : decode cb_Mo_isWord 41 = .ok (.ifCond .ne 7, 3) := by decide +kernel
theorem dd_Mo_isWord_44 : decode cb_Mo_isWord 44 = .ok (.iconst 1, 1) := by decide +kernel
theorem dd_Mo_isWord_45 : decode cb_Mo_isWord 45 = .ok (.goto 4, 3) := by decide +kernel
theorem dd_Mo_isWord_48 : decode cb_Mo_isWord 48 = .ok (.iconst 3, 1) := by decide +kernel
theorem dd_Mo_isWord_49 : decode cb_Mo_isWord 49 = .ok (.if_icmp .ne 50, 3) := by decide +kernel
theorem dd_Mo_isWord_52 : decode cb_Mo_isWord 52 = .ok (.aload_n 0, 1) := by decide +kernel
theorem dd_Mo_isWord_53 : decode cb_Mo_isWord 53 = .ok (.getfield 7, 3) := by decide +kernel
theorem dd_Mo_isWord_56 : decode cb_Mo_isWord 56 = .ok (.iload 4, 2) := by decide +kernel
theorem dd_Mo_isWord_58 : decode cb_Mo_isWord 58 = .ok (.iaload, 1) := by decide +kernel
theorem dd_Mo_isWord_59 : decode cb_Mo_isWord 59 = .ok (.iload_n 1, 1) := by decide +kernel
theorem dd_Mo_isWord_60 : decode cb_Mo_isWord 60 = .ok (.if_icmp .ne 39, 3) := by decide +kernel
theorem dd_Mo_isWord_63 : decode cb_Mo_isWord 63 = .ok (.iload 5, 2) := by decide +kernel
theorem dd_Mo_isWord_65 : decode cb_Mo_isWord 65 = .ok (.iconst 1, 1) := by decide +kernel
theorem dd_Mo_isWord_66 : decode cb_Mo_isWord 66 = .ok (.if_icmp .eq 29, 3) := by decide +kernel
theorem dd_Mo_isWord_69 : decode cb_Mo_isWord 69 = .ok (.aload_n 0, 1) := by decide +kernel
theorem dd_Mo_isWord_70 : decode cb_Mo_isWord 70 = .ok (.getfield 7, 3) := by decide +kernel
theorem dd_Mo_isWord_73 : decode cb_Mo_isWord 73 = .ok (.iload 4, 2) := by decide +kernel
theorem dd_Mo_isWord_75 : decode cb_Mo_isWord 75 = .ok (.iconst 1, 1) := by decide +kernel
theorem dd_Mo_isWord_76 : decode cb_Mo_isWord 76 = .ok (.iadd, 1) := by decide +kernel
theorem dd_Mo_isWord_77 : decode cb_Mo_isWord 77 = .ok (.iaload, 1) := by decide +kernel
theorem dd_Mo_isWord_78 : decode cb_Mo_isWord 78 = .ok (.iload_n 2, 1) := by decide +kernel
theorem dd_Mo_isWord_79 : decode cb_Mo_isWord 79 = .ok (.if_icmp .ne 20, 3) := by decide +kernel
theorem dd_Mo_isWord_82 : decode cb_Mo_isWord 82 = .ok (.aload_n 0, 1) := by decide +kernel
theorem dd_Mo_isWord_83 : decode cb_Mo_isWord 83 = .ok (.getfield 7, 3) := by decide +kernel
theorem dd_Mo_isWord_86 : decode cb_Mo_isWord 86 = .ok (.iload 4, 2) := by decide +kernel
theorem dd_Mo_isWord_88 : decode cb_Mo_isWord 88 = .ok (.iconst 2, 1) := by decide +kernel
theorem dd_Mo_isWord_89 : decode cb_Mo_isWord 89 = .ok (.iadd, 1) := by decide +kernel
theorem dd_Mo_isWord_90 : decode cb_Mo_isWord 90 = .ok (.iaload, 1) := by decide +kernel
theorem dd_Mo_isWord_91 : decode cb_Mo_isWord 91 = .ok (.iload_n 3, 1) := by decide +kernel
theorem dd_Mo_isWord_92 : decode cb_Mo_isWord 92 = .ok (.if_icmp .ne 7, 3) := by decide +kernel
theorem dd_Mo_isWord_95 : decode cb_Mo_isWord 95 = .ok (.iconst 1, 1) := by decide +kernel
theorem dd_Mo_isWord_96 : decode cb_Mo_isWord 96 = .ok (.goto 4, 3) := by decide +kernel
theorem dd_Mo_isWord_99 : decode cb_Mo_isWord 99 = .ok (.iconst 0, 1) := by decide +kernel
theorem dd_Mo_isWord_100 : decode cb_Mo_isWord 100 = .ok (.ireturn, 1) := by decide +kernel
theorem dd_Mo_expect_0 : decode cb_Mo_expect 0 = .ok (.aload_n 0, 1) := by decide +kernel
theorem dd_Mo_expect_1 : decode cb_Mo_expect 1 = .ok (.iload_n 1, 1) := by decide +kernel
theorem dd_Mo_expect_2 : decode cb_Mo_expect 2 = .ok (.iload_n 2, 1) := by decide +kernel
theorem dd_Mo_expect_3 : decode cb_Mo_expect 3 = .ok (.iload_n 3, 1) := by decide +kernel
theorem dd_Mo_expect_4 : decode cb_Mo_expect 4 = .ok (.invokevirtual 62, 3) := by decide +kernel
theorem dd_Mo_expect_7 : decode cb_Mo_expect 7 = .ok (.ifCond .ne 7, 3) := by decide +kernel
theorem dd_Mo_expect_10 : decode cb_Mo_expect 10 = .ok (.aload_n 0, 1) := by decide +kernel
theorem dd_Mo_expect_11 : decode cb_Mo_expect 11 = .ok (.invokevirtual 65, 3) := by decide +kernel
theorem dd_Mo_expect_14 : decode cb_Mo_expect 14 = .ok (.aload_n 0, 1) := by decide +kernel
theorem dd_Mo_expect_15 : decode cb_Mo_expect 15 = .ok (.aload_n 0, 1) := by decide +kernel
theorem dd_Mo_expect_16 : decode cb_Mo_expect 16 = .ok (.getfield 49, 3) := by decide +kernel
theorem dd_Mo_expect_19 : decode cb_Mo_expect 19 = .ok (.iconst 1, 1) := by decide +kernel
theorem dd_Mo_expect_20 : decode cb_Mo_expect 20 = .ok (.iadd, 1) := by decide +kernel
theorem dd_Mo_expect_21 : decode cb_Mo_expect 21 = .ok (.putfield 49, 3) := by decide +kernel
theorem dd_Mo_expect_24 : decode cb_Mo_expect 24 = .ok (.return_, 1) := by decide +kernel
theorem dd_Mo_isNumber_0 : decode cb_Mo_isNumber 0 = .ok (.aload_n 0, 1) := by decide +kernel
theorem dd_Mo_isNumber_1 : decode cb_Mo_isNumber 1 = .ok (.getfield 49, 3) := by decide +kernel
theorem dd_Mo_isNumber_4 : decode cb_Mo_isNumber 4 = .ok (.aload_n 0, 1) := by decide +kernel
theorem dd_Mo_isNumber_5 : decode cb_Mo_isNumber 5 = .ok (.getfield 46, 3) := by decide +kernel
theorem dd_Mo_isNumber_8 : decode cb_Mo_isNumber 8 = .ok (.if_icmp .lt 5, 3) := by decide +kernel
theorem dd_Mo_isNumber_11 : decode cb_Mo_isNumber 11 = .ok (.iconst 0, 1) := by decide +kernel
theorem dd_Mo_isNumber_12 : decode cb_Mo_isNumber 12 = .ok (.ireturn, 1) := by decide +kernel
theorem dd_Mo_isNumber_13 : decode cb_Mo_isNumber 13 = .ok (.aload_n 0, 1) := by decide +kernel
theorem dd_Mo_isNumber_14 : decode cb_Mo_isNumber 14 = .ok (.getfield 13, 3) := by decide +kernel
theorem dd_Mo_isNumber_17 : decode cb_Mo_isNumber 17 = .ok (.aload_n 0, 1) := by decide +kernel
theorem dd_Mo_isNumber_18 : decode cb_Mo_isNumber 18 = .ok (.getfield 49, 3) := by decide +kernel
theorem dd_Mo_isNumber_21 : decode cb_Mo_isNumber 21 = .ok (.iaload, 1) := by decide +kernel
theorem dd_Mo_isNumber_22 : decode cb_Mo_isNumber 22 = .ok (.istore_n 3, 1) := by decide +kernel
theorem dd_Mo_isNumber_23 : decode cb_Mo_isNumber 23 = .ok (.aload_n 0, 1) := by decide +kernel
theorem dd_Mo_isNumber_24 : decode cb_Mo_isNumber 24 = .ok (.getfield 7, 3) := by decide +kernel
theorem dd_Mo_isNumber_27 : decode cb_Mo_isNumber 27 = .ok (.iload_n 3, 1) := by decide +kernel
theorem dd_Mo_isNumber_28 : decode cb_Mo_isNumber 28 = .ok (.iaload, 1) := by decide +kernel
theorem dd_Mo_isNumber_29 : decode cb_Mo_isNumber 29 = .ok (.bipush 45, 2) := by decide +kernel
theorem dd_Mo_isNumber_31 : decode cb_Mo_isNumber 31 = .ok (.if_icmp .ne 9, 3) := by decide +kernel
theorem dd_Mo_isNumber_34 : decode cb_Mo_isNumber 34 = .ok (.iload_n 3, 1) := by decide +kernel
theorem dd_Mo_isNumber_35 : decode cb_Mo_isNumber 35 = .ok (.iconst 1, 1) := by decide +kernel
theorem dd_Mo_isNumber_36 : decode cb_Mo_isNumber 36 = .ok (.iadd, 1) := by decide +kernel
theorem dd_Mo_isNumber_37 : decode cb_Mo_isNumber 37 = .ok (.goto 4, 3) := by decide +kernel
theorem dd_Mo_isNumber_40 : decode cb_Mo_isNumber 40 = .ok (.iload_n 3, 1) := by decide +kernel
theorem dd_Mo_isNumber_41 : decode cb_Mo_isNumber 41 = .ok (.istore 4, 2) := by decide +kernel
theorem dd_Mo_isNumber_43 : decode cb_Mo_isNumber 43 = .ok (.aload_n 0, 1) := by decide +kernel
theorem dd_Mo_isNumber_44 : decode cb_Mo_isNumber 44 = .ok (.getfield 16, 3) := by decide +kernel
theorem dd_Mo_isNumber_47 : decode cb_Mo_isNumber 47 = .ok (.aload_n 0, 1) := by decide +kernel
theorem dd_Mo_isNumber_48 : decode cb_Mo_isNumber 48 = .ok (.getfield 49, 3) := by decide +kernel
theorem dd_Mo_isNumber_51 : decode cb_Mo_isNumber 51 = .ok (.iaload, 1) := by decide +kernel
theorem dd_Mo_isNumber_52 : decode cb_Mo_isNumber 52 = .ok (.iload 4, 2) := by decide +kernel
theorem dd_Mo_isNumber_54 : decode cb_Mo_isNumber 54 = .ok (.isub, 1) := by decide +kernel
theorem dd_Mo_isNumber_55 : decode cb_Mo_isNumber 55 = .ok (.iconst 1, 1) := by decide +kernel
theorem dd_Mo_isNumber_56 : decode cb_Mo_isNumber 56 = .ok (.iconst 4, 1) := by decide +kernel
theorem dd_Mo_isNumber_57 : decode cb_Mo_isNumber 57 = .ok (.invokestatic 38, 3) := by decide +kernel
theorem dd_Mo_isNumber_60 : decode cb_Mo_isNumber 60 = .ok (.istore 5, 2) := by decide +kernel
theorem dd_Mo_isNumber_62 : decode cb_Mo_isNumber 62 = .ok (.iload 4, 2) := by decide +kernel
theorem dd_Mo_isNumber_64 : decode cb_Mo_isNumber 64 = .ok (.istore 6, 2) := by decide +kernel
theorem dd_Mo_isNumber_66 : decode cb_Mo_isNumber 66 = .ok (.iload 6, 2) := by decide +kernel
theorem dd_Mo_isNumber_68 : decode cb_Mo_isNumber 68 = .ok (.aload_n 0, 1) := by decide +kernel
theorem dd_Mo_isNumber_69 : decode cb_Mo_isNumber 69 = .ok (.getfield 16, 3) := by decide +kernel
theorem dd_Mo_isNumber_72 : decode cb_Mo_isNumber 72 = .ok (.aload_n 0, 1) := by decide +kernel
theorem dd_Mo_isNumber_73 : decode cb_Mo_isNumber 73 = .ok (.getfield 49, 3) := by decide +kernel
theorem dd_Mo_isNumber_76 : decode cb_Mo_isNumber 76 = .ok (.iaload, 1) := by decide +kernel
theorem dd_Mo_isNumber_77 : decode cb_Mo_isNumber 77 = .ok (.if_icmp .ge 38, 3) := by decide +kernel
theorem dd_Mo_isNumber_80 : decode cb_Mo_isNumber 80 = .ok (.iload 5, 2) := by decide +kernel
theorem dd_Mo_isNumber_82 : decode cb_Mo_isNumber 82 = .ok (.ifCond .eq 24, 3) := by decide +kernel
theorem dd_Mo_isNumber_85 : decode cb_Mo_isNumber 85 = .ok (.aload_n 0, 1) := by decide +kernel
theorem dd_Mo_isNumber_86 : decode cb_Mo_isNumber 86 = .ok (.getfield 7, 3) := by decide +kernel
theorem dd_Mo_isNumber_89 : decode cb_Mo_isNumber 89 = .ok (.iload 6, 2) := by decide +kernel
theorem dd_Mo_isNumber_91 : decode cb_Mo_isNumber 91 = .ok (.iaload, 1) := by decide +kernel
theorem dd_Mo_isNumber_92 : decode cb_Mo_isNumber 92 = .ok (.bipush 48, 2) := by decide +kernel
theorem dd_Mo_isNumber_94 : decode cb_Mo_isNumber 94 = .ok (.bipush 57, 2) := by decide +kernel
theorem dd_Mo_isNumber_96 : decode cb_Mo_isNumber 96 = .ok (.invokestatic 38, 3) := by decide +kernel
theorem dd_Mo_isNumber_99 : decode cb_Mo_isNumber 99 = .ok (.ifCond .eq 7, 3) := by decide +kernel
theorem dd_Mo_isNumber_102 : decode cb_Mo_isNumber 102 = .ok (.iconst 1, 1) := by decide +kernel
theorem dd_Mo_isNumber_103 : decode cb_Mo_isNumber 103 = .ok (.goto 4, 3) := by decide +kernel
theorem dd_Mo_isNumber_106 : decode cb_Mo_isNumber 106 = .ok (.iconst 0, 1) := by decide +kernel
theorem dd_Mo_isNumber_107 : decode cb_Mo_isNumber 107 = .ok (.istore 5, 2) := by decide +kernel
theorem dd_Mo_isNumber_109 : decode cb_Mo_isNumber 109 = .ok (.iinc 6 1, 3) := by decide +kernel
theorem dd_Mo_isNumber_112 : decode cb_Mo_isNumber 112 = .ok (.goto (-46), 3) := by decide +kernel
theorem dd_Mo_isNumber_115 : decode cb_Mo_isNumber 115 = .ok (.iload 5, 2) := by decide +kernel
theorem dd_Mo_isNumber_117 : decode cb_Mo_isNumber 117 = .ok (.ifCond .eq 19, 3) := by decide +kernel
theorem dd_Mo_isNumber_120 : decode cb_Mo_isNumber 120 = .ok (.aload_n 0, 1) := by decide +kernel
theorem dd_Mo_isNumber_121 : decode cb_Mo_isNumber 121 = .ok (.invokevirtual 68, 3) := by decide +kernel
theorem dd_Mo_isNumber_124 : decode cb_Mo_isNumber 124 = .ok (.iload_n 1, 1) := by decide +kernel
theorem dd_Mo_isNumber_125 : decode cb_Mo_isNumber 125 = .ok (.iload_n 2, 1) := by decide +kernel
theorem dd_Mo_isNumber_126 : decode cb_Mo_isNumber 126 = .ok (.invokestatic 38, 3) := by decide +kernel
theorem dd_Mo_isNumber_129 : decode cb_Mo_isNumber 129 = .ok (.ifCond .eq 7, 3) := by decide +kernel
theorem dd_Mo_isNumber_132 : decode cb_Mo_isNumber 132 = .ok (.iconst 1, 1) := by decide +kernel
theorem dd_Mo_isNumber_133 : decode cb_Mo_isNumber 133 = .ok (.goto 4, 3) := by decide +kernel
theorem dd_Mo_isNumber_136 : decode cb_Mo_isNumber 136 = .ok (.iconst 0, 1) := by decide +kernel
theorem dd_Mo_isNumber_137 : decode cb_Mo_isNumber 137 = .ok (.ireturn, 1) := by decide +kernel
theorem dd_Mo_worth_0 : decode cb_Mo_worth 0 = .ok (.aload_n 0, 1) := by decide +kernel
theorem dd_Mo_worth_1 : decode cb_Mo_worth 1 = .ok (.getfield 13, 3) := by decide +kernel
theorem dd_Mo_worth_4 : decode cb_Mo_worth 4 = .ok (.aload_n 0, 1) := by decide +kernel
theorem dd_Mo_worth_5 : decode cb_Mo_worth 5 = .ok (.getfield 49, 3) := by decide +kernel
theorem dd_Mo_worth_8 : decode cb_Mo_worth 8 = .ok (.iaload, 1) := by decide +kernel
theorem dd_Mo_worth_9 : decode cb_Mo_worth 9 = .ok (.istore_n 1, 1) := by decide +kernel
theorem dd_Mo_worth_10 : decode cb_Mo_worth 10 = .ok (.iconst 0, 1) := by decide +kernel
theorem dd_Mo_worth_11 : decode cb_Mo_worth 11 = .ok (.istore_n 2, 1) := by decide +kernel
theorem dd_Mo_worth_12 : decode cb_Mo_worth 12 = .ok (.iload_n 1, 1) := by decide +kernel
theorem dd_Mo_worth_13 : decode cb_Mo_worth 13 = .ok (.istore_n 3, 1) := by decide +kernel
theorem dd_Mo_worth_14 : decode cb_Mo_worth 14 = .ok (.iload_n 3, 1) := by decide +kernel
theorem dd_Mo_worth_15 : decode cb_Mo_worth 15 = .ok (.aload_n 0, 1) := by decide +kernel
theorem dd_Mo_worth_16 : decode cb_Mo_worth 16 = .ok (.getfield 16, 3) := by decide +kernel
theorem dd_Mo_worth_19 : decode cb_Mo_worth 19 = .ok (.aload_n 0, 1) := by decide +kernel
theorem dd_Mo_worth_20 : decode cb_Mo_worth 20 = .ok (.getfield 49, 3) := by decide +kernel
theorem dd_Mo_worth_23 : decode cb_Mo_worth 23 = .ok (.iaload, 1) := by decide +kernel
theorem dd_Mo_worth_24 : decode cb_Mo_worth 24 = .ok (.if_icmp .ge 39, 3) := by decide +kernel
theorem dd_Mo_worth_27 : decode cb_Mo_worth 27 = .ok (.aload_n 0, 1) := by decide +kernel
theorem dd_Mo_worth_28 : decode cb_Mo_worth 28 = .ok (.getfield 7, 3) := by decide +kernel
theorem dd_Mo_worth_31 : decode cb_Mo_worth 31 = .ok (.iload_n 3, 1) := by decide +kernel
theorem dd_Mo_worth_32 : decode cb_Mo_worth 32 = .ok (.iaload, 1) := by decide +kernel
theorem dd_Mo_worth_33 : decode cb_Mo_worth 33 = .ok (.bipush 45, 2) := by decide +kernel
theorem dd_Mo_worth_35 : decode cb_Mo_worth 35 = .ok (.if_icmp .ne 7, 3) := by decide +kernel
theorem dd_Mo_worth_38 : decode cb_Mo_worth 38 = .ok (.iload_n 2, 1) := by decide +kernel
theorem dd_Mo_worth_39 : decode cb_Mo_worth 39 = .ok (.goto 17, 3) := by decide +kernel
theorem dd_Mo_worth_42 : decode cb_Mo_worth 42 = .ok (.bipush 10, 2) := by decide +kernel
theorem dd_Mo_worth_44 : decode cb_Mo_worth 44 = .ok (.iload_n 2, 1) := by decide +kernel
theorem dd_Mo_worth_45 : decode cb_Mo_worth 45 = .ok (.imul, 1) := by decide +kernel
theorem dd_Mo_worth_46 : decode cb_Mo_worth 46 = .ok (.aload_n 0, 1) := by decide +kernel
theorem dd_Mo_worth_47 : decode cb_Mo_worth 47 = .ok (.getfield 7, 3) := by decide +kernel
theorem dd_Mo_worth_50 : decode cb_Mo_worth 50 = .ok (.iload_n 3, 1) := by decide +kernel
theorem dd_Mo_worth_51 : decode cb_Mo_worth 51 = .ok (.iaload, 1) := by decide +kernel
theorem dd_Mo_worth_52 : decode cb_Mo_worth 52 = .ok (.iadd, 1) := by decide +kernel
theorem dd_Mo_worth_53 : decode cb_Mo_worth 53 = .ok (.bipush 48, 2) := by decide +kernel
theorem dd_Mo_worth_55 : decode cb_Mo_worth 55 = .ok (.isub, 1) := by decide +kernel
theorem dd_Mo_worth_56 : decode cb_Mo_worth 56 = .ok (.istore_n 2, 1) := by decide +kernel
theorem dd_Mo_worth_57 : decode cb_Mo_worth 57 = .ok (.iinc 3 1, 3) := by decide +kernel
theorem dd_Mo_worth_60 : decode cb_Mo_worth 60 = .ok (.goto (-46), 3) := by decide +kernel
theorem dd_Mo_worth_63 : decode cb_Mo_worth 63 = .ok (.aload_n 0, 1) := by decide +kernel
theorem dd_Mo_worth_64 : decode cb_Mo_worth 64 = .ok (.getfield 7, 3) := by decide +kernel
theorem dd_Mo_worth_67 : decode cb_Mo_worth 67 = .ok (.iload_n 1, 1) := by decide +kernel
theorem dd_Mo_worth_68 : decode cb_Mo_worth 68 = .ok (.iaload, 1) := by decide +kernel
theorem dd_Mo_worth_69 : decode cb_Mo_worth 69 = .ok (.bipush 45, 2) := by decide +kernel
theorem dd_Mo_worth_71 : decode cb_Mo_worth 71 = .ok (.if_icmp .ne 8, 3) := by decide +kernel
theorem dd_Mo_worth_74 : decode cb_Mo_worth 74 = .ok (.iload_n 2, 1) := by decide +kernel
theorem dd_Mo_worth_75 : decode cb_Mo_worth 75 = .ok (.ineg, 1) := by decide +kernel
theorem dd_Mo_worth_76 : decode cb_Mo_worth 76 = .ok (.goto 4, 3) := by decide +kernel
theorem dd_Mo_worth_79 : decode cb_Mo_worth 79 = .ok (.iload_n 2, 1) := by decide +kernel
theorem dd_Mo_worth_80 : decode cb_Mo_worth 80 = .ok (.ireturn, 1) := by decide +kernel
theorem dd_Mo_take_0 : decode cb_Mo_take 0 = .ok (.aload_n 0, 1) := by decide +kernel
theorem dd_Mo_take_1 : decode cb_Mo_take 1 = .ok (.getfield 52, 3) := by decide +kernel
theorem dd_Mo_take_4 : decode cb_Mo_take 4 = .ok (.ifCond .lt 5, 3) := by decide +kernel
theorem dd_Mo_take_7 : decode cb_Mo_take 7 = .ok (.iconst 0, 1) := by decide +kernel
theorem dd_Mo_take_8 : decode cb_Mo_take 8 = .ok (.ireturn, 1) := by decide +kernel
theorem dd_Mo_take_9 : decode cb_Mo_take 9 = .ok (.aload_n 0, 1) := by decide +kernel
theorem dd_Mo_take_10 : decode cb_Mo_take 10 = .ok (.iload_n 1, 1) := by decide +kernel
theorem dd_Mo_take_11 : decode cb_Mo_take 11 = .ok (.iload_n 2, 1) := by decide +kernel
theorem dd_Mo_take_12 : decode cb_Mo_take 12 = .ok (.invokevirtual 72, 3) := by decide +kernel
theorem dd_Mo_take_15 : decode cb_Mo_take 15 = .ok (.ifCond .ne 9, 3) := by decide +kernel
theorem dd_Mo_take_18 : decode cb_Mo_take 18 = .ok (.aload_n 0, 1) := by decide +kernel
theorem dd_Mo_take_19 : decode cb_Mo_take 19 = .ok (.invokevirtual 65, 3) := by decide +kernel
theorem dd_Mo_take_22 : decode cb_Mo_take 22 = .ok (.iconst 0, 1) := by decide +kernel
theorem dd_Mo_take_23 : decode cb_Mo_take 23 = .ok (.ireturn, 1) := by decide +kernel
theorem dd_Mo_take_24 : decode cb_Mo_take 24 = .ok (.aload_n 0, 1) := by decide +kernel
theorem dd_Mo_take_25 : decode cb_Mo_take 25 = .ok (.invokevirtual 68, 3) := by decide +kernel
theorem dd_Mo_take_28 : decode cb_Mo_take 28 = .ok (.istore_n 3, 1) := by decide +kernel
theorem dd_Mo_take_29 : decode cb_Mo_take 29 = .ok (.aload_n 0, 1) := by decide +kernel
theorem dd_Mo_take_30 : decode cb_Mo_take 30 = .ok (.aload_n 0, 1) := by decide +kernel
theorem dd_Mo_take_31 : decode cb_Mo_take 31 = .ok (.getfield 49, 3) := by decide +kernel
theorem dd_Mo_take_34 : decode cb_Mo_take 34 = .ok (.iconst 1, 1) := by decide +kernel
theorem dd_Mo_take_35 : decode cb_Mo_take 35 = .ok (.iadd, 1) := by decide +kernel
theorem dd_Mo_take_36 : decode cb_Mo_take 36 = .ok (.putfield 49, 3) := by decide +kernel
theorem dd_Mo_take_39 : decode cb_Mo_take 39 = .ok (.iload_n 3, 1) := by decide +kernel
theorem dd_Mo_take_40 : decode cb_Mo_take 40 = .ok (.ireturn, 1) := by decide +kernel
theorem dd_Mo_literalOf_0 : decode cb_Mo_literalOf 0 = .ok (.aload_n 0, 1) := by decide +kernel
theorem dd_Mo_literalOf_1 : decode cb_Mo_literalOf 1 = .ok (.getfield 22, 3) := by decide +kernel
theorem dd_Mo_literalOf_4 : decode cb_Mo_literalOf 4 = .ok (.bipush 6, 2) := by decide +kernel
theorem dd_Mo_literalOf_6 : decode cb_Mo_literalOf 6 = .ok (.iload_n 1, 1) := by decide +kernel
theorem dd_Mo_literalOf_7 : decode cb_Mo_literalOf 7 = .ok (.imul, 1) := by decide +kernel
theorem dd_Mo_literalOf_8 : decode cb_Mo_literalOf 8 = .ok (.iload_n 2, 1) := by decide +kernel
theorem dd_Mo_literalOf_9 : decode cb_Mo_literalOf 9 = .ok (.iadd, 1) := by decide +kernel
theorem dd_Mo_literalOf_10 : decode cb_Mo_literalOf 10 = .ok (.iaload, 1) := by decide +kernel
theorem dd_Mo_literalOf_11 : decode cb_Mo_literalOf 11 = .ok (.ireturn, 1) := by decide +kernel
theorem dd_Mo_hasLiteral_0 : decode cb_Mo_hasLiteral 0 = .ok (.iconst 0, 1) := by decide +kernel
theorem dd_Mo_hasLiteral_1 : decode cb_Mo_hasLiteral 1 = .ok (.istore_n 3, 1) := by decide +kernel
theorem dd_Mo_hasLiteral_2 : decode cb_Mo_hasLiteral 2 = .ok (.iconst 0, 1) := by decide +kernel
theorem dd_Mo_hasLiteral_3 : decode cb_Mo_hasLiteral 3 = .ok (.istore 4, 2) := by decide +kernel
theorem dd_Mo_hasLiteral_5 : decode cb_Mo_hasLiteral 5 = .ok (.iload 4, 2) := by decide +kernel
theorem dd_Mo_hasLiteral_7 : decode cb_Mo_hasLiteral 7 = .ok (.aload_n 0, 1) := by decide +kernel
theorem dd_Mo_hasLiteral_8 : decode cb_Mo_hasLiteral 8 = .ok (.getfield 19, 3) := by decide +kernel
theorem dd_Mo_hasLiteral_11 : decode cb_Mo_hasLiteral 11 = .ok (.iload_n 1, 1) := by decide +kernel
theorem dd_Mo_hasLiteral_12 : decode cb_Mo_hasLiteral 12 = .ok (.iaload, 1) := by decide +kernel
theorem dd_Mo_hasLiteral_13 : decode cb_Mo_hasLiteral 13 = .ok (.if_icmp .ge 30, 3) := by decide +kernel
theorem dd_Mo_hasLiteral_16 : decode cb_Mo_hasLiteral 16 = .ok (.iload_n 3, 1) := by decide +kernel
theorem dd_Mo_hasLiteral_17 : decode cb_Mo_hasLiteral 17 = .ok (.ifCond .ne 14, 3) := by decide +kernel
theorem dd_Mo_hasLiteral_20 : decode cb_Mo_hasLiteral 20 = .ok (.aload_n 0, 1) := by decide +kernel
theorem dd_Mo_hasLiteral_21 : decode cb_Mo_hasLiteral 21 = .ok (.iload_n 1, 1) := by decide +kernel
theorem dd_Mo_hasLiteral_22 : decode cb_Mo_hasLiteral 22 = .ok (.iload 4, 2) := by decide +kernel
theorem dd_Mo_hasLiteral_24 : decode cb_Mo_hasLiteral 24 = .ok (.invokevirtual 76, 3) := by decide +kernel
theorem dd_Mo_hasLiteral_27 : decode cb_Mo_hasLiteral 27 = .ok (.iload_n 2, 1) := by decide +kernel
theorem dd_Mo_hasLiteral_28 : decode cb_Mo_hasLiteral 28 = .ok (.if_icmp .ne 7, 3) := by decide +kernel
theorem dd_Mo_hasLiteral_31 : decode cb_Mo_hasLiteral 31 = .ok (.iconst 1, 1) := by decide +kernel
theorem dd_Mo_hasLiteral_32 : decode cb_Mo_hasLiteral 32 = .ok (.goto 4, 3) := by decide +kernel
theorem dd_Mo_hasLiteral_35 : decode cb_Mo_hasLiteral 35 = .ok (.iconst 0, 1) := by decide +kernel
theorem dd_Mo_hasLiteral_36 : decode cb_Mo_hasLiteral 36 = .ok (.istore_n 3, 1) := by decide +kernel
theorem dd_Mo_hasLiteral_37 : decode cb_Mo_hasLiteral 37 = .ok (.iinc 4 1, 3) := by decide +kernel
theorem dd_Mo_hasLiteral_40 : decode cb_Mo_hasLiteral 40 = .ok (.goto (-35), 3) := by decide +kernel
theorem dd_Mo_hasLiteral_43 : decode cb_Mo_hasLiteral 43 = .ok (.iload_n 3, 1) := by decide +kernel
theorem dd_Mo_hasLiteral_44 : decode cb_Mo_hasLiteral 44 = .ok (.ireturn, 1) := by decide +kernel
theorem dd_Mo_copy_0 : decode cb_Mo_copy 0 = .ok (.aload_n 0, 1) := by decide +kernel
theorem dd_Mo_copy_1 : decode cb_Mo_copy 1 = .ok (.getfield 19, 3) := by decide +kernel
theorem dd_Mo_copy_4 : decode cb_Mo_copy 4 = .ok (.iload_n 2, 1) := by decide +kernel
theorem dd_Mo_copy_5 : decode cb_Mo_copy 5 = .ok (.aload_n 0, 1) := by decide +kernel
theorem dd_Mo_copy_6 : decode cb_Mo_copy 6 = .ok (.getfield 19, 3) := by decide +kernel
theorem dd_Mo_copy_9 : decode cb_Mo_copy 9 = .ok (.iload_n 1, 1) := by decide +kernel
theorem dd_Mo_copy_10 : decode cb_Mo_copy 10 = .ok (.iaload, 1) := by decide +kernel
theorem dd_Mo_copy_11 : decode cb_Mo_copy 11 = .ok (.iastore, 1) := by decide +kernel
theorem dd_Mo_copy_12 : decode cb_Mo_copy 12 = .ok (.iconst 0, 1) := by decide +kernel
theorem dd_Mo_copy_13 : decode cb_Mo_copy 13 = .ok (.istore_n 3, 1) := by decide +kernel
theorem dd_Mo_copy_14 : decode cb_Mo_copy 14 = .ok (.iload_n 3, 1) := by decide +kernel
theorem dd_Mo_copy_15 : decode cb_Mo_copy 15 = .ok (.aload_n 0, 1) := by decide +kernel
theorem dd_Mo_copy_16 : decode cb_Mo_copy 16 = .ok (.getfield 19, 3) := by decide +kernel
theorem dd_Mo_copy_19 : decode cb_Mo_copy 19 = .ok (.iload_n 1, 1) := by decide +kernel
theorem dd_Mo_copy_20 : decode cb_Mo_copy 20 = .ok (.iaload, 1) := by decide +kernel
theorem dd_Mo_copy_21 : decode cb_Mo_copy 21 = .ok (.if_icmp .ge 26, 3) := by decide +kernel
theorem dd_Mo_copy_24 : decode cb_Mo_copy 24 = .ok (.aload_n 0, 1) := by decide +kernel
theorem dd_Mo_copy_25 : decode cb_Mo_copy 25 = .ok (.getfield 22, 3) := by decide +kernel
theorem dd_Mo_copy_28 : decode cb_Mo_copy 28 = .ok (.bipush 6, 2) := by decide +kernel
theorem dd_Mo_copy_30 : decode cb_Mo_copy 30 = .ok (.iload_n 2, 1) := by decide +kernel
theorem dd_Mo_copy_31 : decode cb_Mo_copy 31 = .ok (.imul, 1) := by decide +kernel
theorem dd_Mo_copy_32 : decode cb_Mo_copy 32 = .ok (.iload_n 3, 1) := by decide +kernel
theorem dd_Mo_copy_33 : decode cb_Mo_copy 33 = .ok (.iadd, 1) := by decide +kernel
theorem dd_Mo_copy_34 : decode cb_Mo_copy 34 = .ok (.aload_n 0, 1) := by decide +kernel
theorem dd_Mo_copy_35 : decode cb_Mo_copy 35 = .ok (.iload_n 1, 1) := by decide +kernel
theorem dd_Mo_copy_36 : decode cb_Mo_copy 36 = .ok (.iload_n 3, 1) := by decide +kernel
theorem dd_Mo_copy_37 : decode cb_Mo_copy 37 = .ok (.invokevirtual 76, 3) := by decide +kernel
theorem dd_Mo_copy_40 : decode cb_Mo_copy 40 = .ok (.iastore, 1) := by decide +kernel
theorem dd_Mo_copy_41 : decode cb_Mo_copy 41 = .ok (.iinc 3 1, 3) := by decide +kernel
theorem dd_Mo_copy_44 : decode cb_Mo_copy 44 = .ok (.goto (-30), 3) := by decide +kernel
theorem dd_Mo_copy_47 : decode cb_Mo_copy 47 = .ok (.return_, 1) := by decide +kernel
theorem dd_Mo_readClause_0 : decode cb_Mo_readClause 0 = .ok (.aload_n 0, 1) := by decide +kernel
theorem dd_Mo_readClause_1 : decode cb_Mo_readClause 1 = .ok (.getfield 19, 3) := by decide +kernel
theorem dd_Mo_readClause_4 : decode cb_Mo_readClause 4 = .ok (.iload_n 1, 1) := by decide +kernel
theorem dd_Mo_readClause_5 : decode cb_Mo_readClause 5 = .ok (.iconst 0, 1) := by decide +kernel
theorem dd_Mo_readClause_6 : decode cb_Mo_readClause 6 = .ok (.iastore, 1) := by decide +kernel
theorem dd_Mo_readClause_7 : decode cb_Mo_readClause 7 = .ok (.iconst 1, 1) := by decide +kernel
theorem dd_Mo_readClause_8 : decode cb_Mo_readClause 8 = .ok (.istore_n 3, 1) := by decide +kernel
theorem dd_Mo_readClause_9 : decode cb_Mo_readClause 9 = .ok (.iload_n 3, 1) := by decide +kernel
theorem dd_Mo_readClause_10 : decode cb_Mo_readClause 10 = .ok (.ifCond .eq 109, 3) := by decide +kernel
theorem dd_Mo_readClause_13 : decode cb_Mo_readClause 13 = .ok (.aload_n 0, 1) := by decide +kernel
theorem dd_Mo_readClause_14 : decode cb_Mo_readClause 14 = .ok (.getfield 52, 3) := by decide +kernel
theorem dd_Mo_readClause_17 : decode cb_Mo_readClause 17 = .ok (.ifCond .ge 102, 3) := by decide +kernel
theorem dd_Mo_readClause_20 : decode cb_Mo_readClause 20 = .ok (.aload_n 0, 1) := by decide +kernel
theorem dd_Mo_readClause_21 : decode cb_Mo_readClause 21 = .ok (.getfield 49, 3) := by decide +kernel
theorem dd_Mo_readClause_24 : decode cb_Mo_readClause 24 = .ok (.istore 4, 2) := by decide +kernel
theorem dd_Mo_readClause_26 : decode cb_Mo_readClause 26 = .ok (.aload_n 0, 1) := by decide +kernel
theorem dd_Mo_readClause_27 : decode cb_Mo_readClause 27 = .ok (.iload_n 2, 1) := by decide +kernel
theorem dd_Mo_readClause_28 : decode cb_Mo_readClause 28 = .ok (.ineg, 1) := by decide +kernel
theorem dd_Mo_readClause_29 : decode cb_Mo_readClause 29 = .ok (.iload_n 2, 1) := by decide +kernel
theorem dd_Mo_readClause_30 : decode cb_Mo_readClause 30 = .ok (.invokevirtual 80, 3) := by decide +kernel
theorem dd_Mo_readClause_33 : decode cb_Mo_readClause 33 = .ok (.istore 5, 2) := by decide +kernel
theorem dd_Mo_readClause_35 : decode cb_Mo_readClause 35 = .ok (.iload 5, 2) := by decide +kernel
theorem dd_Mo_readClause_37 : decode cb_Mo_readClause 37 = .ok (.ifCond .eq 7, 3) := by decide +kernel
theorem dd_Mo_readClause_40 : decode cb_Mo_readClause 40 = .ok (.iconst 1, 1) := by decide +kernel
theorem dd_Mo_readClause_41 : decode cb_Mo_readClause 41 = .ok (.goto 4, 3) := by decide +kernel
theorem dd_Mo_readClause_44 : decode cb_Mo_readClause 44 = .ok (.iconst 0, 1) := by decide +kernel
theorem dd_Mo_readClause_45 : decode cb_Mo_readClause 45 = .ok (.istore_n 3, 1) := by decide +kernel
theorem dd_Mo_readClause_46 : decode cb_Mo_readClause 46 = .ok (.iload_n 3, 1) := by decide +kernel
theorem dd_Mo_readClause_47 : decode cb_Mo_readClause 47 = .ok (.ifCond .eq 69, 3) := by decide +kernel
theorem dd_Mo_readClause_50 : decode cb_Mo_readClause 50 = .ok (.aload_n 0, 1) := by decide +kernel
theorem dd_Mo_readClause_51 : decode cb_Mo_readClause 51 = .ok (.iload_n 1, 1) := by decide +kernel
theorem dd_Mo_readClause_52 : decode cb_Mo_readClause 52 = .ok (.iload 5, 2) := by decide +kernel
theorem dd_Mo_readClause_54 : decode cb_Mo_readClause 54 = .ok (.invokevirtual 83, 3) := by decide +kernel
theorem dd_Mo_readClause_57 : decode cb_Mo_readClause 57 = .ok (.ifCond .ne 59, 3) := by decide +kernel
theorem dd_Mo_readClause_60 : decode cb_Mo_readClause 60 = .ok (.aload_n 0, 1) := by decide +kernel
theorem dd_Mo_readClause_61 : decode cb_Mo_readClause 61 = .ok (.getfield 19, 3) := by decide +kernel
theorem dd_Mo_readClause_64 : decode cb_Mo_readClause 64 = .ok (.iload_n 1, 1) := by decide +kernel
theorem dd_Mo_readClause_65 : decode cb_Mo_readClause 65 = .ok (.iaload, 1) := by decide +kernel
theorem dd_Mo_readClause_66 : decode cb_Mo_readClause 66 = .ok (.bipush 6, 2) := by decide +kernel
theorem dd_Mo_readClause_68 : decode cb_Mo_readClause 68 = .ok (.if_icmp .ne 16, 3) := by decide +kernel
theorem dd_Mo_readClause_71 : decode cb_Mo_readClause 71 = .ok (.aload_n 0, 1) := by decide +kernel
theorem dd_Mo_readClause_72 : decode cb_Mo_readClause 72 = .ok (.iload 4, 2) := by decide +kernel
theorem dd_Mo_readClause_74 : decode cb_Mo_readClause 74 = .ok (.putfield 49, 3) := by decide +kernel
theorem dd_Mo_readClause_77 : decode cb_Mo_readClause 77 = .ok (.aload_n 0, 1) := by decide +kernel
theorem dd_Mo_readClause_78 : decode cb_Mo_readClause 78 = .ok (.invokevirtual 65, 3) := by decide +kernel
theorem dd_Mo_readClause_81 : decode cb_Mo_readClause 81 = .ok (.goto 35, 3) := by decide +kernel
theorem dd_Mo_readClause_84 : decode cb_Mo_readClause 84 = .ok (.aload_n 0, 1) := by decide +kernel
theorem dd_Mo_readClause_85 : decode cb_Mo_readClause 85 = .ok (.getfield 22, 3) := by decide +kernel
theorem dd_Mo_readClause_88 : decode cb_Mo_readClause 88 = .ok (.bipush 6, 2) := by decide +kernel
theorem dd_Mo_readClause_90 : decode cb_Mo_readClause 90 = .ok (.iload_n 1, 1) := by decide +kernel
theorem dd_Mo_readClause_91 : decode cb_Mo_readClause 91 = .ok (.imul, 1) := by decide +kernel
theorem dd_Mo_readClause_92 : decode cb_Mo_readClause 92 = .ok (.aload_n 0, 1) := by decide +kernel
theorem dd_Mo_readClause_93 : decode cb_Mo_readClause 93 = .ok (.getfield 19, 3) := by decide +kernel
theorem dd_Mo_readClause_96 : decode cb_Mo_readClause 96 = .ok (.iload_n 1, 1) := by decide +kernel
theorem dd_Mo_readClause_97 : decode cb_Mo_readClause 97 = .ok (.iaload, 1) := by decide +kernel
theorem dd_Mo_readClause_98 : decode cb_Mo_readClause 98 = .ok (.iadd, 1) := by decide +kernel
theorem dd_Mo_readClause_99 : decode cb_Mo_readClause 99 = .ok (.iload 5, 2) := by decide +kernel
theorem dd_Mo_readClause_101 : decode cb_Mo_readClause 101 = .ok (.iastore, 1) := by decide +kernel
theorem dd_Mo_readClause_102 : decode cb_Mo_readClause 102 = .ok (.aload_n 0, 1) := by decide +kernel
theorem dd_Mo_readClause_103 : decode cb_Mo_readClause 103 = .ok (.getfield 19, 3) := by decide +kernel
theorem dd_Mo_readClause_106 : decode cb_Mo_readClause 106 = .ok (.iload_n 1, 1) := by decide +kernel
theorem dd_Mo_readClause_107 : decode cb_Mo_readClause 107 = .ok (.aload_n 0, 1) := by decide +kernel
theorem dd_Mo_readClause_108 : decode cb_Mo_readClause 108 = .ok (.getfield 19, 3) := by decide +kernel
theorem dd_Mo_readClause_111 : decode cb_Mo_readClause 111 = .ok (.iload_n 1, 1) := by decide +kernel
theorem dd_Mo_readClause_112 : decode cb_Mo_readClause 112 = .ok (.iaload, 1) := by decide +kernel
theorem dd_Mo_readClause_113 : decode cb_Mo_readClause 113 = .ok (.iconst 1, 1) := by decide +kernel
theorem dd_Mo_readClause_114 : decode cb_Mo_readClause 114 = .ok (.iadd, 1) := by decide +kernel
theorem dd_Mo_readClause_115 : decode cb_Mo_readClause 115 = .ok (.iastore, 1) := by decide +kernel
theorem dd_Mo_readClause_116 : decode cb_Mo_readClause 116 = .ok (.goto (-107), 3) := by decide +kernel
theorem dd_Mo_readClause_119 : decode cb_Mo_readClause 119 = .ok (.return_, 1) := by decide +kernel
theorem dd_Mo_read_0 : decode cb_Mo_read 0 = .ok (.aload_n 0, 1) := by decide +kernel
theorem dd_Mo_read_1 : decode cb_Mo_read 1 = .ok (.iconst 1, 1) := by decide +kernel
theorem dd_Mo_read_2 : decode cb_Mo_read 2 = .ok (.invokevirtual 86, 3) := by decide +kernel
theorem dd_Mo_read_5 : decode cb_Mo_read 5 = .ok (.aload_n 0, 1) := by decide +kernel
theorem dd_Mo_read_6 : decode cb_Mo_read 6 = .ok (.bipush 112, 2) := by decide +kernel
theorem dd_Mo_read_8 : decode cb_Mo_read 8 = .ok (.iconst 0, 1) := by decide +kernel
theorem dd_Mo_read_9 : decode cb_Mo_read 9 = .ok (.iconst 0, 1) := by decide +kernel
theorem dd_Mo_read_10 : decode cb_Mo_read 10 = .ok (.invokevirtual 90, 3) := by decide +kernel
theorem dd_Mo_read_13 : decode cb_Mo_read 13 = .ok (.aload_n 0, 1) := by decide +kernel
theorem dd_Mo_read_14 : decode cb_Mo_read 14 = .ok (.bipush 99, 2) := by decide +kernel
theorem dd_Mo_read_16 : decode cb_Mo_read 16 = .ok (.bipush 110, 2) := by decide +kernel
theorem dd_Mo_read_18 : decode cb_Mo_read 18 = .ok (.bipush 102, 2) := by decide +kernel
theorem dd_Mo_read_20 : decode cb_Mo_read 20 = .ok (.invokevirtual 90, 3) := by decide +kernel
theorem dd_Mo_read_23 : decode cb_Mo_read 23 = .ok (.aload_n 0, 1) := by decide +kernel
theorem dd_Mo_read_24 : decode cb_Mo_read 24 = .ok (.iconst 1, 1) := by decide +kernel
theorem dd_Mo_read_25 : decode cb_Mo_read 25 = .ok (.bipush 10, 2) := by decide +kernel
theorem dd_Mo_read_27 : decode cb_Mo_read 27 = .ok (.invokevirtual 80, 3) := by decide +kernel
theorem dd_Mo_read_30 : decode cb_Mo_read 30 = .ok (.istore_n 1, 1) := by decide +kernel
theorem dd_Mo_read_31 : decode cb_Mo_read 31 = .ok (.aload_n 0, 1) := by decide +kernel
theorem dd_Mo_read_32 : decode cb_Mo_read 32 = .ok (.iconst 0, 1) := by decide +kernel
theorem dd_Mo_read_33 : decode cb_Mo_read 33 = .ok (.bipush 24, 2) := by decide +kernel
theorem dd_Mo_read_35 : decode cb_Mo_read 35 = .ok (.invokevirtual 80, 3) := by decide +kernel
theorem dd_Mo_read_38 : decode cb_Mo_read 38 = .ok (.istore_n 2, 1) := by decide +kernel
theorem dd_Mo_read_39 : decode cb_Mo_read 39 = .ok (.iconst 0, 1) := by decide +kernel
theorem dd_Mo_read_40 : decode cb_Mo_read 40 = .ok (.istore_n 3, 1) := by decide +kernel
theorem dd_Mo_read_41 : decode cb_Mo_read 41 = .ok (.iload_n 3, 1) := by decide +kernel
theorem dd_Mo_read_42 : decode cb_Mo_read 42 = .ok (.iload_n 2, 1) := by decide +kernel
theorem dd_Mo_read_43 : decode cb_Mo_read 43 = .ok (.if_icmp .ge 25, 3) := by decide +kernel
theorem dd_Mo_read_46 : decode cb_Mo_read 46 = .ok (.aload_n 0, 1) := by decide +kernel
theorem dd_Mo_read_47 : decode cb_Mo_read 47 = .ok (.getfield 52, 3) := by decide +kernel
theorem dd_Mo_read_50 : decode cb_Mo_read 50 = .ok (.ifCond .ge 18, 3) := by decide +kernel
theorem dd_Mo_read_53 : decode cb_Mo_read 53 = .ok (.aload_n 0, 1) := by decide +kernel
theorem dd_Mo_read_54 : decode cb_Mo_read 54 = .ok (.bipush 65, 2) := by decide +kernel
theorem dd_Mo_read_56 : decode cb_Mo_read 56 = .ok (.iload_n 3, 1) := by decide +kernel
theorem dd_Mo_read_57 : decode cb_Mo_read 57 = .ok (.iadd, 1) := by decide +kernel
theorem dd_Mo_read_58 : decode cb_Mo_read 58 = .ok (.iload_n 1, 1) := by decide +kernel
theorem dd_Mo_read_59 : decode cb_Mo_read 59 = .ok (.invokevirtual 94, 3) := by decide +kernel
theorem dd_Mo_read_62 : decode cb_Mo_read 62 = .ok (.iinc 3 1, 3) := by decide +kernel
theorem dd_Mo_read_65 : decode cb_Mo_read 65 = .ok (.goto (-24), 3) := by decide +kernel
theorem dd_Mo_read_68 : decode cb_Mo_read 68 = .ok (.aload_n 0, 1) := by decide +kernel
theorem dd_Mo_read_69 : decode cb_Mo_read 69 = .ok (.getfield 52, 3) := by decide +kernel
theorem dd_Mo_read_72 : decode cb_Mo_read 72 = .ok (.ifCond .ge 18, 3) := by decide +kernel
theorem dd_Mo_read_75 : decode cb_Mo_read 75 = .ok (.aload_n 0, 1) := by decide +kernel
theorem dd_Mo_read_76 : decode cb_Mo_read 76 = .ok (.getfield 49, 3) := by decide +kernel
theorem dd_Mo_read_79 : decode cb_Mo_read 79 = .ok (.aload_n 0, 1) := by decide +kernel
theorem dd_Mo_read_80 : decode cb_Mo_read 80 = .ok (.getfield 46, 3) := by decide +kernel
theorem dd_Mo_read_83 : decode cb_Mo_read 83 = .ok (.if_icmp .ge 7, 3) := by decide +kernel
theorem dd_Mo_read_86 : decode cb_Mo_read 86 = .ok (.aload_n 0, 1) := by decide +kernel
theorem dd_Mo_read_87 : decode cb_Mo_read 87 = .ok (.invokevirtual 65, 3) := by decide +kernel
theorem dd_Mo_read_90 : decode cb_Mo_read 90 = .ok (.aload_n 0, 1) := by decide +kernel
theorem dd_Mo_read_91 : decode cb_Mo_read 91 = .ok (.getfield 52, 3) := by decide +kernel
theorem dd_Mo_read_94 : decode cb_Mo_read 94 = .ok (.ifCond .lt 10, 3) := by decide +kernel
theorem dd_Mo_read_97 : decode cb_Mo_read 97 = .ok (.iconst (-1), 1) := by decide +kernel
theorem dd_Mo_read_98 : decode cb_Mo_read 98 = .ok (.aload_n 0, 1) := by decide +kernel
theorem dd_Mo_read_99 : decode cb_Mo_read 99 = .ok (.getfield 52, 3) := by decide +kernel
theorem dd_Mo_read_102 : decode cb_Mo_read 102 = .ok (.isub, 1) := by decide +kernel
theorem dd_Mo_read_103 : decode cb_Mo_read 103 = .ok (.ireturn, 1) := by decide +kernel
theorem dd_Mo_read_104 : decode cb_Mo_read 104 = .ok (.aload_n 0, 1) := by decide +kernel
theorem dd_Mo_read_105 : decode cb_Mo_read 105 = .ok (.iload_n 1, 1) := by decide +kernel
theorem dd_Mo_read_106 : decode cb_Mo_read 106 = .ok (.putfield 98, 3) := by decide +kernel
theorem dd_Mo_read_109 : decode cb_Mo_read 109 = .ok (.aload_n 0, 1) := by decide +kernel
theorem dd_Mo_read_110 : decode cb_Mo_read 110 = .ok (.iload_n 2, 1) := by decide +kernel
theorem dd_Mo_read_111 : decode cb_Mo_read 111 = .ok (.putfield 101, 3) := by decide +kernel
theorem dd_Mo_read_114 : decode cb_Mo_read 114 = .ok (.aload_n 0, 1) := by decide +kernel
theorem dd_Mo_read_115 : decode cb_Mo_read 115 = .ok (.iload_n 2, 1) := by decide +kernel
theorem dd_Mo_read_116 : decode cb_Mo_read 116 = .ok (.putfield 104, 3) := by decide +kernel
theorem dd_Mo_read_119 : decode cb_Mo_read 119 = .ok (.aload_n 0, 1) := by decide +kernel
theorem dd_Mo_read_120 : decode cb_Mo_read 120 = .ok (.iload_n 2, 1) := by decide +kernel
theorem dd_Mo_read_121 : decode cb_Mo_read 121 = .ok (.putfield 107, 3) := by decide +kernel
theorem dd_Mo_read_124 : decode cb_Mo_read 124 = .ok (.aload_n 0, 1) := by decide +kernel
theorem dd_Mo_read_125 : decode cb_Mo_read 125 = .ok (.iconst 0, 1) := by decide +kernel
theorem dd_Mo_read_126 : decode cb_Mo_read 126 = .ok (.putfield 110, 3) := by decide +kernel
theorem dd_Mo_read_129 : decode cb_Mo_read 129 = .ok (.iconst 0, 1) := by decide +kernel
theorem dd_Mo_read_130 : decode cb_Mo_read 130 = .ok (.istore_n 3, 1) := by decide +kernel
theorem dd_Mo_read_131 : decode cb_Mo_read 131 = .ok (.iload_n 3, 1) := by decide +kernel
theorem dd_Mo_read_132 : decode cb_Mo_read 132 = .ok (.iload_n 2, 1) := by decide +kernel
theorem dd_Mo_read_133 : decode cb_Mo_read 133 = .ok (.if_icmp .ge 39, 3) := by decide +kernel
theorem dd_Mo_read_136 : decode cb_Mo_read 136 = .ok (.aload_n 0, 1) := by decide +kernel
theorem dd_Mo_read_137 : decode cb_Mo_read 137 = .ok (.bipush 65, 2) := by decide +kernel
theorem dd_Mo_read_139 : decode cb_Mo_read 139 = .ok (.iload_n 3, 1) := by decide +kernel
theorem dd_Mo_read_140 : decode cb_Mo_read 140 = .ok (.iadd, 1) := by decide +kernel
theorem dd_Mo_read_141 : decode cb_Mo_read 141 = .ok (.iload_n 3, 1) := by decide +kernel
theorem dd_Mo_read_142 : decode cb_Mo_read 142 = .ok (.invokevirtual 114, 3) := by decide +kernel
theorem dd_Mo_read_145 : decode cb_Mo_read 145 = .ok (.aload_n 0, 1) := by decide +kernel
theorem dd_Mo_read_146 : decode cb_Mo_read 146 = .ok (.bipush 65, 2) := by decide +kernel
theorem dd_Mo_read_148 : decode cb_Mo_read 148 = .ok (.iload_n 3, 1) := by decide +kernel
theorem dd_Mo_read_149 : decode cb_Mo_read 149 = .ok (.iadd, 1) := by decide +kernel
theorem dd_Mo_read_150 : decode cb_Mo_read 150 = .ok (.bipush 24, 2) := by decide +kernel
theorem dd_Mo_read_152 : decode cb_Mo_read 152 = .ok (.iload_n 3, 1) := by decide +kernel
theorem dd_Mo_read_153 : decode cb_Mo_read 153 = .ok (.iadd, 1) := by decide +kernel
theorem dd_Mo_read_154 : decode cb_Mo_read 154 = .ok (.invokevirtual 114, 3) := by decide +kernel
theorem dd_Mo_read_157 : decode cb_Mo_read 157 = .ok (.aload_n 0, 1) := by decide +kernel
theorem dd_Mo_read_158 : decode cb_Mo_read 158 = .ok (.getfield 25, 3) := by decide +kernel
theorem dd_Mo_read_161 : decode cb_Mo_read 161 = .ok (.iload_n 3, 1) := by decide +kernel
theorem dd_Mo_read_162 : decode cb_Mo_read 162 = .ok (.iload_n 3, 1) := by decide +kernel
theorem dd_Mo_read_163 : decode cb_Mo_read 163 = .ok (.iconst 1, 1) := by decide +kernel
theorem dd_Mo_read_164 : decode cb_Mo_read 164 = .ok (.iadd, 1) := by decide +kernel
theorem dd_Mo_read_165 : decode cb_Mo_read 165 = .ok (.iastore, 1) := by decide +kernel
theorem dd_Mo_read_166 : decode cb_Mo_read 166 = .ok (.iinc 3 1, 3) := by decide +kernel
theorem dd_Mo_read_169 : decode cb_Mo_read 169 = .ok (.goto (-38), 3) := by decide +kernel
theorem dd_Mo_read_172 : decode cb_Mo_read 172 = .ok (.iload_n 2, 1) := by decide +kernel
theorem dd_Mo_read_173 : decode cb_Mo_read 173 = .ok (.ireturn, 1) := by decide +kernel
theorem dd_Mo_variables_0 : decode cb_Mo_variables 0 = .ok (.aload_n 0, 1) := by decide +kernel
theorem dd_Mo_variables_1 : decode cb_Mo_variables 1 = .ok (.getfield 98, 3) := by decide +kernel
theorem dd_Mo_variables_4 : decode cb_Mo_variables 4 = .ok (.ireturn, 1) := by decide +kernel
theorem dd_Mo_live_0 : decode cb_Mo_live 0 = .ok (.aload_n 0, 1) := by decide +kernel
theorem dd_Mo_live_1 : decode cb_Mo_live 1 = .ok (.getfield 104, 3) := by decide +kernel
theorem dd_Mo_live_4 : decode cb_Mo_live 4 = .ok (.ireturn, 1) := by decide +kernel
theorem dd_Mo_find_0 : decode cb_Mo_find 0 = .ok (.iconst (-1), 1) := by decide +kernel
theorem dd_Mo_find_1 : decode cb_Mo_find 1 = .ok (.istore_n 2, 1) := by decide +kernel
theorem dd_Mo_find_2 : decode cb_Mo_find 2 = .ok (.iconst 0, 1) := by decide +kernel
theorem dd_Mo_find_3 : decode cb_Mo_find 3 = .ok (.istore_n 3, 1) := by decide +kernel
theorem dd_Mo_find_4 : decode cb_Mo_find 4 = .ok (.iload_n 3, 1) := by decide +kernel
theorem dd_Mo_find_5 : decode cb_Mo_find 5 = .ok (.aload_n 0, 1) := by decide +kernel
theorem dd_Mo_find_6 : decode cb_Mo_find 6 = .ok (.getfield 104, 3) := by decide +kernel
theorem dd_Mo_find_9 : decode cb_Mo_find 9 = .ok (.if_icmp .ge 25, 3) := by decide +kernel
theorem dd_Mo_find_12 : decode cb_Mo_find 12 = .ok (.aload_n 0, 1) := by decide +kernel
theorem dd_Mo_find_13 : decode cb_Mo_find 13 = .ok (.getfield 25, 3) := by decide +kernel
theorem dd_Mo_find_16 : decode cb_Mo_find 16 = .ok (.iload_n 3, 1) := by decide +kernel
theorem dd_Mo_find_17 : decode cb_Mo_find 17 = .ok (.iaload, 1) := by decide +kernel
theorem dd_Mo_find_18 : decode cb_Mo_find 18 = .ok (.iload_n 1, 1) := by decide +kernel
theorem dd_Mo_find_19 : decode cb_Mo_find 19 = .ok (.if_icmp .ne 7, 3) := by decide +kernel
theorem dd_Mo_find_22 : decode cb_Mo_find 22 = .ok (.iload_n 3, 1) := by decide +kernel
theorem dd_Mo_find_23 : decode cb_Mo_find 23 = .ok (.goto 4, 3) := by decide +kernel
theorem dd_Mo_find_26 : decode cb_Mo_find 26 = .ok (.iload_n 2, 1) := by decide +kernel
theorem dd_Mo_find_27 : decode cb_Mo_find 27 = .ok (.istore_n 2, 1) := by decide +kernel
theorem dd_Mo_find_28 : decode cb_Mo_find 28 = .ok (.iinc 3 1, 3) := by decide +kernel
theorem dd_Mo_find_31 : decode cb_Mo_find 31 = .ok (.goto (-27), 3) := by decide +kernel
theorem dd_Mo_find_34 : decode cb_Mo_find 34 = .ok (.iload_n 2, 1) := by decide +kernel
theorem dd_Mo_find_35 : decode cb_Mo_find 35 = .ok (.ireturn, 1) := by decide +kernel
theorem dd_Mo_literal_0 : decode cb_Mo_literal 0 = .ok (.aload_n 0, 1) := by decide +kernel
theorem dd_Mo_literal_1 : decode cb_Mo_literal 1 = .ok (.iload_n 1, 1) := by decide +kernel
theorem dd_Mo_literal_2 : decode cb_Mo_literal 2 = .ok (.invokevirtual 117, 3) := by decide +kernel
theorem dd_Mo_literal_5 : decode cb_Mo_literal 5 = .ok (.istore_n 3, 1) := by decide +kernel
theorem dd_Mo_literal_6 : decode cb_Mo_literal 6 = .ok (.iload_n 3, 1) := by decide +kernel
theorem dd_Mo_literal_7 : decode cb_Mo_literal 7 = .ok (.ifCond .lt 34, 3) := by decide +kernel
theorem dd_Mo_literal_10 : decode cb_Mo_literal 10 = .ok (.iload_n 2, 1) := by decide +kernel
theorem dd_Mo_literal_11 : decode cb_Mo_literal 11 = .ok (.iconst 0, 1) := by decide +kernel
theorem dd_Mo_literal_12 : decode cb_Mo_literal 12 = .ok (.aload_n 0, 1) := by decide +kernel
theorem dd_Mo_literal_13 : decode cb_Mo_literal 13 = .ok (.getfield 19, 3) := by decide +kernel
theorem dd_Mo_literal_16 : decode cb_Mo_literal 16 = .ok (.bipush 24, 2) := by decide +kernel
theorem dd_Mo_literal_18 : decode cb_Mo_literal 18 = .ok (.iload_n 3, 1) := by decide +kernel
theorem dd_Mo_literal_19 : decode cb_Mo_literal 19 = .ok (.iadd, 1) := by decide +kernel
theorem dd_Mo_literal_20 : decode cb_Mo_literal 20 = .ok (.iaload, 1) := by decide +kernel
theorem dd_Mo_literal_21 : decode cb_Mo_literal 21 = .ok (.iconst 1, 1) := by decide +kernel
theorem dd_Mo_literal_22 : decode cb_Mo_literal 22 = .ok (.isub, 1) := by decide +kernel
theorem dd_Mo_literal_23 : decode cb_Mo_literal 23 = .ok (.invokestatic 38, 3) := by decide +kernel
theorem dd_Mo_literal_26 : decode cb_Mo_literal 26 = .ok (.ifCond .eq 15, 3) := by decide +kernel
theorem dd_Mo_literal_29 : decode cb_Mo_literal 29 = .ok (.aload_n 0, 1) := by decide +kernel
theorem dd_Mo_literal_30 : decode cb_Mo_literal 30 = .ok (.bipush 24, 2) := by decide +kernel
theorem dd_Mo_literal_32 : decode cb_Mo_literal 32 = .ok (.iload_n 3, 1) := by decide +kernel
theorem dd_Mo_literal_33 : decode cb_Mo_literal 33 = .ok (.iadd, 1) := by decide +kernel
theorem dd_Mo_literal_34 : decode cb_Mo_literal 34 = .ok (.iload_n 2, 1) := by decide +kernel
theorem dd_Mo_literal_35 : decode cb_Mo_literal 35 = .ok (.invokevirtual 76, 3) := by decide +kernel
theorem dd_Mo_literal_38 : decode cb_Mo_literal 38 = .ok (.goto 4, 3) := by decide +kernel
theorem dd_Mo_literal_41 : decode cb_Mo_literal 41 = .ok (.iconst 0, 1) := by decide +kernel
theorem dd_Mo_literal_42 : decode cb_Mo_literal 42 = .ok (.ireturn, 1) := by decide +kernel
theorem dd_Mo_isTrue_0 : decode cb_Mo_isTrue 0 = .ok (.iload_n 2, 1) := by decide +kernel
theorem dd_Mo_isTrue_1 : decode cb_Mo_isTrue 1 = .ok (.ifCond .ge 8, 3) := by decide +kernel
theorem dd_Mo_isTrue_4 : decode cb_Mo_isTrue 4 = .ok (.iload_n 2, 1) := by decide +kernel
theorem dd_Mo_isTrue_5 : decode cb_Mo_isTrue 5 = .ok (.ineg, 1) := by decide +kernel
theorem dd_Mo_isTrue_6 : decode cb_Mo_isTrue 6 = .ok (.goto 4, 3) := by decide +kernel
theorem dd_Mo_isTrue_9 : decode cb_Mo_isTrue 9 = .ok (.iload_n 2, 1) := by decide +kernel
theorem dd_Mo_isTrue_10 : decode cb_Mo_isTrue 10 = .ok (.istore_n 3, 1) := by decide +kernel
theorem dd_Mo_isTrue_11 : decode cb_Mo_isTrue 11 = .ok (.iload_n 1, 1) := by decide +kernel
theorem dd_Mo_isTrue_12 : decode cb_Mo_isTrue 12 = .ok (.aload_n 0, 1) := by decide +kernel
theorem dd_Mo_isTrue_13 : decode cb_Mo_isTrue 13 = .ok (.getfield 98, 3) := by decide +kernel
theorem dd_Mo_isTrue_16 : decode cb_Mo_isTrue 16 = .ok (.iload_n 3, 1) := by decide +kernel
theorem dd_Mo_isTrue_17 : decode cb_Mo_isTrue 17 = .ok (.isub, 1) := by decide +kernel
theorem dd_Mo_isTrue_18 : decode cb_Mo_isTrue 18 = .ok (.ishr, 1) := by decide +kernel
theorem dd_Mo_isTrue_19 : decode cb_Mo_isTrue 19 = .ok (.iconst 1, 1) := by decide +kernel
theorem dd_Mo_isTrue_20 : decode cb_Mo_isTrue 20 = .ok (.iand, 1) := by decide +kernel
theorem dd_Mo_isTrue_21 : decode cb_Mo_isTrue 21 = .ok (.iload_n 2, 1) := by decide +kernel
theorem dd_Mo_isTrue_22 : decode cb_Mo_isTrue 22 = .ok (.ifCond .le 7, 3) := by decide +kernel
theorem dd_Mo_isTrue_25 : decode cb_Mo_isTrue 25 = .ok (.iconst 1, 1) := by decide +kernel
theorem dd_Mo_isTrue_26 : decode cb_Mo_isTrue 26 = .ok (.goto 4, 3) := by decide +kernel
theorem dd_Mo_isTrue_29 : decode cb_Mo_isTrue 29 = .ok (.iconst 0, 1) := by decide +kernel
theorem dd_Mo_isTrue_30 : decode cb_Mo_isTrue 30 = .ok (.if_icmp .ne 7, 3) := by decide +kernel
theorem dd_Mo_isTrue_33 : decode cb_Mo_isTrue 33 = .ok (.iconst 1, 1) := by decide +kernel
theorem dd_Mo_isTrue_34 : decode cb_Mo_isTrue 34 = .ok (.goto 4, 3) := by decide +kernel
theorem dd_Mo_isTrue_37 : decode cb_Mo_isTrue 37 = .ok (.iconst 0, 1) := by decide +kernel
theorem dd_Mo_isTrue_38 : decode cb_Mo_isTrue 38 = .ok (.ireturn, 1) := by decide +kernel
theorem dd_Mo_satisfies_0 : decode cb_Mo_satisfies 0 = .ok (.iconst 1, 1) := by decide +kernel
theorem dd_Mo_satisfies_1 : decode cb_Mo_satisfies 1 = .ok (.istore_n 2, 1) := by decide +kernel
theorem dd_Mo_satisfies_2 : decode cb_Mo_satisfies 2 = .ok (.iconst 0, 1) := by decide +kernel
theorem dd_Mo_satisfies_3 : decode cb_Mo_satisfies 3 = .ok (.istore_n 3, 1) := by decide +kernel
theorem dd_Mo_satisfies_4 : decode cb_Mo_satisfies 4 = .ok (.iload_n 3, 1) := by decide +kernel
theorem dd_Mo_satisfies_5 : decode cb_Mo_satisfies 5 = .ok (.aload_n 0, 1) := by decide +kernel
theorem dd_Mo_satisfies_6 : decode cb_Mo_satisfies 6 = .ok (.getfield 101, 3) := by decide +kernel
theorem dd_Mo_satisfies_9 : decode cb_Mo_satisfies 9 = .ok (.if_icmp .ge 66, 3) := by decide +kernel
theorem dd_Mo_satisfies_12 : decode cb_Mo_satisfies 12 = .ok (.iload_n 2, 1) := by decide +kernel
theorem dd_Mo_satisfies_13 : decode cb_Mo_satisfies 13 = .ok (.ifCond .eq 62, 3) := by decide +kernel
theorem dd_Mo_satisfies_16 : decode cb_Mo_satisfies 16 = .ok (.iconst 0, 1) := by decide +kernel
theorem dd_Mo_satisfies_17 : decode cb_Mo_satisfies 17 = .ok (.istore 4, 2) := by decide +kernel
theorem dd_Mo_satisfies_19 : decode cb_Mo_satisfies 19 = .ok (.iconst 0, 1) := by decide +kernel
theorem dd_Mo_satisfies_20 : decode cb_Mo_satisfies 20 = .ok (.istore 5, 2) := by decide +kernel
theorem dd_Mo_satisfies_22 : decode cb_Mo_satisfies 22 = .ok (.iload 5, 2) := by decide +kernel
theorem dd_Mo_satisfies_24 : decode cb_Mo_satisfies 24 = .ok (.aload_n 0, 1) := by decide +kernel
theorem dd_Mo_satisfies_25 : decode cb_Mo_satisfies 25 = .ok (.getfield 19, 3) := by decide +kernel
theorem dd_Mo_satisfies_28 : decode cb_Mo_satisfies 28 = .ok (.iload_n 3, 1) := by decide +kernel
theorem dd_Mo_satisfies_29 : decode cb_Mo_satisfies 29 = .ok (.iaload, 1) := by decide +kernel
theorem dd_Mo_satisfies_30 : decode cb_Mo_satisfies 30 = .ok (.if_icmp .ge 36, 3) := by decide +kernel
theorem dd_Mo_satisfies_33 : decode cb_Mo_satisfies 33 = .ok (.iload 4, 2) := by decide +kernel
theorem dd_Mo_satisfies_35 : decode cb_Mo_satisfies 35 = .ok (.ifCond .ne 18, 3) := by decide +kernel
theorem dd_Mo_satisfies_38 : decode cb_Mo_satisfies 38 = .ok (.aload_n 0, 1) := by decide +kernel
theorem dd_Mo_satisfies_39 : decode cb_Mo_satisfies 39 = .ok (.iload_n 1, 1) := by decide +kernel
theorem dd_Mo_satisfies_40 : decode cb_Mo_satisfies 40 = .ok (.aload_n 0, 1) := by decide +kernel
theorem dd_Mo_satisfies_41 : decode cb_Mo_satisfies 41 = .ok (.iload_n 3, 1) := by decide +kernel
theorem dd_Mo_satisfies_42 : decode cb_Mo_satisfies 42 = .ok (.iload 5, 2) := by decide +kernel
theorem dd_Mo_satisfies_44 : decode cb_Mo_satisfies 44 = .ok (.invokevirtual 76, 3) := by decide +kernel
theorem dd_Mo_satisfies_47 : decode cb_Mo_satisfies 47 = .ok (.invokevirtual 121, 3) := by decide +kernel
theorem dd_Mo_satisfies_50 : decode cb_Mo_satisfies 50 = .ok (.ifCond .eq 7, 3) := by decide +kernel
theorem dd_Mo_satisfies_53 : decode cb_Mo_satisfies 53 = .ok (.iconst 1, 1) := by decide +kernel
theorem dd_Mo_satisfies_54 : decode cb_Mo_satisfies 54 = .ok (.goto 4, 3) := by decide +kernel
theorem dd_Mo_satisfies_57 : decode cb_Mo_satisfies 57 = .ok (.iconst 0, 1) := by decide +kernel
theorem dd_Mo_satisfies_58 : decode cb_Mo_satisfies 58 = .ok (.istore 4, 2) := by decide +kernel
theorem dd_Mo_satisfies_60 : decode cb_Mo_satisfies 60 = .ok (.iinc 5 1, 3) := by decide +kernel
theorem dd_Mo_satisfies_63 : decode cb_Mo_satisfies 63 = .ok (.goto (-41), 3) := by decide +kernel
theorem dd_Mo_satisfies_66 : decode cb_Mo_satisfies 66 = .ok (.iload 4, 2) := by decide +kernel
theorem dd_Mo_satisfies_68 : decode cb_Mo_satisfies 68 = .ok (.istore_n 2, 1) := by decide +kernel
theorem dd_Mo_satisfies_69 : decode cb_Mo_satisfies 69 = .ok (.iinc 3 1, 3) := by decide +kernel
theorem dd_Mo_satisfies_72 : decode cb_Mo_satisfies 72 = .ok (.goto (-68), 3) := by decide +kernel
theorem dd_Mo_satisfies_75 : decode cb_Mo_satisfies 75 = .ok (.iload_n 2, 1) := by decide +kernel
theorem dd_Mo_satisfies_76 : decode cb_Mo_satisfies 76 = .ok (.ireturn, 1) := by decide +kernel
theorem dd_Mo_least_0 : decode cb_Mo_least 0 = .ok (.iconst (-1), 1) := by decide +kernel
theorem dd_Mo_least_1 : decode cb_Mo_least 1 = .ok (.istore_n 1, 1) := by decide +kernel
theorem dd_Mo_least_2 : decode cb_Mo_least 2 = .ok (.iconst 0, 1) := by decide +kernel
theorem dd_Mo_least_3 : decode cb_Mo_least 3 = .ok (.istore_n 2, 1) := by decide +kernel
theorem dd_Mo_least_4 : decode cb_Mo_least 4 = .ok (.iload_n 2, 1) := by decide +kernel
theorem dd_Mo_least_5 : decode cb_Mo_least 5 = .ok (.iconst 1, 1) := by decide +kernel
theorem dd_Mo_least_6 : decode cb_Mo_least 6 = .ok (.aload_n 0, 1) := by decide +kernel
theorem dd_Mo_least_7 : decode cb_Mo_least 7 = .ok (.getfield 98, 3) := by decide +kernel
theorem dd_Mo_least_10 : decode cb_Mo_least 10 = .ok (.ishl, 1) := by decide +kernel
theorem dd_Mo_least_11 : decode cb_Mo_least 11 = .ok (.if_icmp .ge 27, 3) := by decide +kernel
theorem dd_Mo_least_14 : decode cb_Mo_least 14 = .ok (.iload_n 1, 1) := by decide +kernel
theorem dd_Mo_least_15 : decode cb_Mo_least 15 = .ok (.ifCond .ge 23, 3) := by decide +kernel
theorem dd_Mo_least_18 : decode cb_Mo_least 18 = .ok (.aload_n 0, 1) := by decide +kernel
theorem dd_Mo_least_19 : decode cb_Mo_least 19 = .ok (.iload_n 2, 1) := by decide +kernel
theorem dd_Mo_least_20 : decode cb_Mo_least 20 = .ok (.invokevirtual 124, 3) := by decide +kernel
theorem dd_Mo_least_23 : decode cb_Mo_least 23 = .ok (.ifCond .eq 7, 3) := by decide +kernel
theorem dd_Mo_least_26 : decode cb_Mo_least 26 = .ok (.iload_n 2, 1) := by decide +kernel
theorem dd_Mo_least_27 : decode cb_Mo_least 27 = .ok (.goto 4, 3) := by decide +kernel
theorem dd_Mo_least_30 : decode cb_Mo_least 30 = .ok (.iconst (-1), 1) := by decide +kernel
theorem dd_Mo_least_31 : decode cb_Mo_least 31 = .ok (.istore_n 1, 1) := by decide +kernel
theorem dd_Mo_least_32 : decode cb_Mo_least 32 = .ok (.iinc 2 1, 3) := by decide +kernel
theorem dd_Mo_least_35 : decode cb_Mo_least 35 = .ok (.goto (-31), 3) := by decide +kernel
theorem dd_Mo_least_38 : decode cb_Mo_least 38 = .ok (.iload_n 1, 1) := by decide +kernel
theorem dd_Mo_least_39 : decode cb_Mo_least 39 = .ok (.ireturn, 1) := by decide +kernel
theorem dd_Mo_solve_0 : decode cb_Mo_solve 0 = .ok (.aload_n 0, 1) := by decide +kernel
theorem dd_Mo_solve_1 : decode cb_Mo_solve 1 = .ok (.invokevirtual 127, 3) := by decide +kernel
theorem dd_Mo_solve_4 : decode cb_Mo_solve 4 = .ok (.ifCond .lt 7, 3) := by decide +kernel
theorem dd_Mo_solve_7 : decode cb_Mo_solve 7 = .ok (.iconst 1, 1) := by decide +kernel
theorem dd_Mo_solve_8 : decode cb_Mo_solve 8 = .ok (.goto 4, 3) := by decide +kernel
theorem dd_Mo_solve_11 : decode cb_Mo_solve 11 = .ok (.iconst 0, 1) := by decide +kernel
theorem dd_Mo_solve_12 : decode cb_Mo_solve 12 = .ok (.ireturn, 1) := by decide +kernel
theorem dd_Mo_value_0 : decode cb_Mo_value 0 = .ok (.aload_n 0, 1) := by decide +kernel
theorem dd_Mo_value_1 : decode cb_Mo_value 1 = .ok (.invokevirtual 127, 3) := by decide +kernel
theorem dd_Mo_value_4 : decode cb_Mo_value 4 = .ok (.istore_n 2, 1) := by decide +kernel
theorem dd_Mo_value_5 : decode cb_Mo_value 5 = .ok (.iload_n 1, 1) := by decide +kernel
theorem dd_Mo_value_6 : decode cb_Mo_value 6 = .ok (.iconst 1, 1) := by decide +kernel
theorem dd_Mo_value_7 : decode cb_Mo_value 7 = .ok (.aload_n 0, 1) := by decide +kernel
theorem dd_Mo_value_8 : decode cb_Mo_value 8 = .ok (.getfield 98, 3) := by decide +kernel
theorem dd_Mo_value_11 : decode cb_Mo_value 11 = .ok (.invokestatic 38, 3) := by decide +kernel
theorem dd_Mo_value_14 : decode cb_Mo_value 14 = .ok (.ifCond .eq 20, 3) := by decide +kernel
theorem dd_Mo_value_17 : decode cb_Mo_value 17 = .ok (.iload_n 2, 1) := by decide +kernel
theorem dd_Mo_value_18 : decode cb_Mo_value 18 = .ok (.ifCond .lt 16, 3) := by decide +kernel
theorem dd_Mo_value_21 : decode cb_Mo_value 21 = .ok (.iload_n 2, 1) := by decide +kernel
theorem dd_Mo_value_22 : decode cb_Mo_value 22 = .ok (.aload_n 0, 1) := by decide +kernel
theorem dd_Mo_value_23 : decode cb_Mo_value 23 = .ok (.getfield 98, 3) := by decide +kernel
theorem dd_Mo_value_26 : decode cb_Mo_value 26 = .ok (.iload_n 1, 1) := by decide +kernel
theorem dd_Mo_value_27 : decode cb_Mo_value 27 = .ok (.isub, 1) := by decide +kernel
theorem dd_Mo_value_28 : decode cb_Mo_value 28 = .ok (.ishr, 1) := by decide +kernel
theorem dd_Mo_value_29 : decode cb_Mo_value 29 = .ok (.iconst 1, 1) := by decide +kernel
theorem dd_Mo_value_30 : decode cb_Mo_value 30 = .ok (.iand, 1) := by decide +kernel
theorem dd_Mo_value_31 : decode cb_Mo_value 31 = .ok (.goto 4, 3) := by decide +kernel
theorem dd_Mo_value_34 : decode cb_Mo_value 34 = .ok (.iconst (-1), 1) := by decide +kernel
theorem dd_Mo_value_35 : decode cb_Mo_value 35 = .ok (.ireturn, 1) := by decide +kernel
theorem dd_Mo_count_0 : decode cb_Mo_count 0 = .ok (.iconst 0, 1) := by decide +kernel
theorem dd_Mo_count_1 : decode cb_Mo_count 1 = .ok (.istore_n 1, 1) := by decide +kernel
theorem dd_Mo_count_2 : decode cb_Mo_count 2 = .ok (.iconst 0, 1) := by decide +kernel
theorem dd_Mo_count_3 : decode cb_Mo_count 3 = .ok (.istore_n 2, 1) := by decide +kernel
theorem dd_Mo_count_4 : decode cb_Mo_count 4 = .ok (.iload_n 2, 1) := by decide +kernel
theorem dd_Mo_count_5 : decode cb_Mo_count 5 = .ok (.iconst 1, 1) := by decide +kernel
theorem dd_Mo_count_6 : decode cb_Mo_count 6 = .ok (.aload_n 0, 1) := by decide +kernel
theorem dd_Mo_count_7 : decode cb_Mo_count 7 = .ok (.getfield 98, 3) := by decide +kernel
theorem dd_Mo_count_10 : decode cb_Mo_count 10 = .ok (.ishl, 1) := by decide +kernel
theorem dd_Mo_count_11 : decode cb_Mo_count 11 = .ok (.if_icmp .ge 25, 3) := by decide +kernel
theorem dd_Mo_count_14 : decode cb_Mo_count 14 = .ok (.aload_n 0, 1) := by decide +kernel
theorem dd_Mo_count_15 : decode cb_Mo_count 15 = .ok (.iload_n 2, 1) := by decide +kernel
theorem dd_Mo_count_16 : decode cb_Mo_count 16 = .ok (.invokevirtual 124, 3) := by decide +kernel
theorem dd_Mo_count_19 : decode cb_Mo_count 19 = .ok (.ifCond .eq 9, 3) := by decide +kernel
theorem dd_Mo_count_22 : decode cb_Mo_count 22 = .ok (.iload_n 1, 1) := by decide +kernel
theorem dd_Mo_count_23 : decode cb_Mo_count 23 = .ok (.iconst 1, 1) := by decide +kernel
theorem dd_Mo_count_24 : decode cb_Mo_count 24 = .ok (.iadd, 1) := by decide +kernel
theorem dd_Mo_count_25 : decode cb_Mo_count 25 = .ok (.goto 4, 3) := by decide +kernel
theorem dd_Mo_count_28 : decode cb_Mo_count 28 = .ok (.iload_n 1, 1) := by decide +kernel
theorem dd_Mo_count_29 : decode cb_Mo_count 29 = .ok (.istore_n 1, 1) := by decide +kernel
theorem dd_Mo_count_30 : decode cb_Mo_count 30 = .ok (.iinc 2 1, 3) := by decide +kernel
theorem dd_Mo_count_33 : decode cb_Mo_count 33 = .ok (.goto (-29), 3) := by decide +kernel
theorem dd_Mo_count_36 : decode cb_Mo_count 36 = .ok (.iload_n 1, 1) := by decide +kernel
theorem dd_Mo_count_37 : decode cb_Mo_count 37 = .ok (.ireturn, 1) := by decide +kernel
theorem dd_Mo_proves_0 : decode cb_Mo_proves 0 = .ok (.aload_n 0, 1) := by decide +kernel
theorem dd_Mo_proves_1 : decode cb_Mo_proves 1 = .ok (.invokevirtual 127, 3) := by decide +kernel
theorem dd_Mo_proves_4 : decode cb_Mo_proves 4 = .ok (.ifCond .ge 7, 3) := by decide +kernel
theorem dd_Mo_proves_7 : decode cb_Mo_proves 7 = .ok (.iconst 1, 1) := by decide +kernel
theorem dd_Mo_proves_8 : decode cb_Mo_proves 8 = .ok (.goto 4, 3) := by decide +kernel
theorem dd_Mo_proves_11 : decode cb_Mo_proves 11 = .ok (.iconst 0, 1) := by decide +kernel
theorem dd_Mo_proves_12 : decode cb_Mo_proves 12 = .ok (.ireturn, 1) := by decide +kernel
theorem dd_Mo_forget_0 : decode cb_Mo_forget 0 = .ok (.iconst 0, 1) := by decide +kernel
theorem dd_Mo_forget_1 : decode cb_Mo_forget 1 = .ok (.istore_n 1, 1) := by decide +kernel
theorem dd_Mo_forget_2 : decode cb_Mo_forget 2 = .ok (.iload_n 1, 1) := by decide +kernel
theorem dd_Mo_forget_3 : decode cb_Mo_forget 3 = .ok (.bipush 21, 2) := by decide +kernel
theorem dd_Mo_forget_5 : decode cb_Mo_forget 5 = .ok (.if_icmp .ge 16, 3) := by decide +kernel
theorem dd_Mo_forget_8 : decode cb_Mo_forget 8 = .ok (.aload_n 0, 1) := by decide +kernel
theorem dd_Mo_forget_9 : decode cb_Mo_forget 9 = .ok (.getfield 31, 3) := by decide +kernel
theorem dd_Mo_forget_12 : decode cb_Mo_forget 12 = .ok (.iload_n 1, 1) := by decide +kernel
theorem dd_Mo_forget_13 : decode cb_Mo_forget 13 = .ok (.iconst 0, 1) := by decide +kernel
theorem dd_Mo_forget_14 : decode cb_Mo_forget 14 = .ok (.bastore, 1) := by decide +kernel
theorem dd_Mo_forget_15 : decode cb_Mo_forget 15 = .ok (.iinc 1 1, 3) := by decide +kernel
theorem dd_Mo_forget_18 : decode cb_Mo_forget 18 = .ok (.goto (-16), 3) := by decide +kernel
theorem dd_Mo_forget_21 : decode cb_Mo_forget 21 = .ok (.return_, 1) := by decide +kernel
theorem dd_Mo_told_0 : decode cb_Mo_told 0 = .ok (.iconst 0, 1) := by decide +kernel
theorem dd_Mo_told_1 : decode cb_Mo_told 1 = .ok (.istore_n 2, 1) := by decide +kernel
theorem dd_Mo_told_2 : decode cb_Mo_told 2 = .ok (.iconst 0, 1) := by decide +kernel
theorem dd_Mo_told_3 : decode cb_Mo_told 3 = .ok (.istore_n 3, 1) := by decide +kernel
theorem dd_Mo_told_4 : decode cb_Mo_told 4 = .ok (.iconst 0, 1) := by decide +kernel
theorem dd_Mo_told_5 : decode cb_Mo_told 5 = .ok (.istore 4, 2) := by decide +kernel
theorem dd_Mo_told_7 : decode cb_Mo_told 7 = .ok (.iload 4, 2) := by decide +kernel
theorem dd_Mo_told_9 : decode cb_Mo_told 9 = .ok (.aload_n 0, 1) := by decide +kernel
theorem dd_Mo_told_10 : decode cb_Mo_told 10 = .ok (.getfield 19, 3) := by decide +kernel
theorem dd_Mo_told_13 : decode cb_Mo_told 13 = .ok (.iload_n 1, 1) := by decide +kernel
theorem dd_Mo_told_14 : decode cb_Mo_told 14 = .ok (.iaload, 1) := by decide +kernel
theorem dd_Mo_told_15 : decode cb_Mo_told 15 = .ok (.if_icmp .ge 56, 3) := by decide +kernel
theorem dd_Mo_told_18 : decode cb_Mo_told 18 = .ok (.aload_n 0, 1) := by decide +kernel
theorem dd_Mo_told_19 : decode cb_Mo_told 19 = .ok (.getfield 31, 3) := by decide +kernel
theorem dd_Mo_told_22 : decode cb_Mo_told 22 = .ok (.bipush 10, 2) := by decide +kernel
theorem dd_Mo_told_24 : decode cb_Mo_told 24 = .ok (.aload_n 0, 1) := by decide +kernel
theorem dd_Mo_told_25 : decode cb_Mo_told 25 = .ok (.iload_n 1, 1) := by decide +kernel
theorem dd_Mo_told_26 : decode cb_Mo_told 26 = .ok (.iload 4, 2) := by decide +kernel
theorem dd_Mo_told_28 : decode cb_Mo_told 28 = .ok (.invokevirtual 76, 3) := by decide +kernel
theorem dd_Mo_told_31 : decode cb_Mo_told 31 = .ok (.isub, 1) := by decide +kernel
theorem dd_Mo_told_32 : decode cb_Mo_told 32 = .ok (.baload, 1) := by decide +kernel
theorem dd_Mo_told_33 : decode cb_Mo_told 33 = .ok (.istore 5, 2) := by decide +kernel
theorem dd_Mo_told_35 : decode cb_Mo_told 35 = .ok (.iload 5, 2) := by decide +kernel
theorem dd_Mo_told_37 : decode cb_Mo_told 37 = .ok (.ifCond .eq 7, 3) := by decide +kernel
theorem dd_Mo_told_40 : decode cb_Mo_told 40 = .ok (.iload_n 2, 1) := by decide +kernel
theorem dd_Mo_told_41 : decode cb_Mo_told 41 = .ok (.goto 6, 3) := by decide +kernel
theorem dd_Mo_told_44 : decode cb_Mo_told 44 = .ok (.iload_n 2, 1) := by decide +kernel
theorem dd_Mo_told_45 : decode cb_Mo_told 45 = .ok (.iconst 1, 1) := by decide +kernel
theorem dd_Mo_told_46 : decode cb_Mo_told 46 = .ok (.iadd, 1) := by decide +kernel
theorem dd_Mo_told_47 : decode cb_Mo_told 47 = .ok (.istore_n 2, 1) := by decide +kernel
theorem dd_Mo_told_48 : decode cb_Mo_told 48 = .ok (.iload 5, 2) := by decide +kernel
theorem dd_Mo_told_50 : decode cb_Mo_told 50 = .ok (.ifCond .eq 7, 3) := by decide +kernel
theorem dd_Mo_told_53 : decode cb_Mo_told 53 = .ok (.iload_n 3, 1) := by decide +kernel
theorem dd_Mo_told_54 : decode cb_Mo_told 54 = .ok (.goto 10, 3) := by decide +kernel
theorem dd_Mo_told_57 : decode cb_Mo_told 57 = .ok (.aload_n 0, 1) := by decide +kernel
theorem dd_Mo_told_58 : decode cb_Mo_told 58 = .ok (.iload_n 1, 1) := by decide +kernel
theorem dd_Mo_told_59 : decode cb_Mo_told 59 = .ok (.iload 4, 2) := by decide +kernel
theorem dd_Mo_told_61 : decode cb_Mo_told 61 = .ok (.invokevirtual 76, 3) := by decide +kernel
theorem dd_Mo_told_64 : decode cb_Mo_told 64 = .ok (.istore_n 3, 1) := by decide +kernel
theorem dd_Mo_told_65 : decode cb_Mo_told 65 = .ok (.iinc 4 1, 3) := by decide +kernel
theorem dd_Mo_told_68 : decode cb_Mo_told 68 = .ok (.goto (-61), 3) := by decide +kernel
theorem dd_Mo_told_71 : decode cb_Mo_told 71 = .ok (.iload_n 2, 1) := by decide +kernel
theorem dd_Mo_told_72 : decode cb_Mo_told 72 = .ok (.ifCond .ne 7, 3) := by decide +kernel
theorem dd_Mo_told_75 : decode cb_Mo_told 75 = .ok (.iconst 0, 1) := by decide +kernel
theorem dd_Mo_told_76 : decode cb_Mo_told 76 = .ok (.goto 29, 3) := by decide +kernel
theorem dd_Mo_told_79 : decode cb_Mo_told 79 = .ok (.iload_n 2, 1) := by decide +kernel
theorem dd_Mo_told_80 : decode cb_Mo_told 80 = .ok (.iconst 1, 1) := by decide +kernel
theorem dd_Mo_told_81 : decode cb_Mo_told 81 = .ok (.if_icmp .gt 15, 3) := by decide +kernel
theorem dd_Mo_told_84 : decode cb_Mo_told 84 = .ok (.aload_n 0, 1) := by decide +kernel
theorem dd_Mo_told_85 : decode cb_Mo_told 85 = .ok (.getfield 31, 3) := by decide +kernel
theorem dd_Mo_told_88 : decode cb_Mo_told 88 = .ok (.bipush 10, 2) := by decide +kernel
theorem dd_Mo_told_90 : decode cb_Mo_told 90 = .ok (.iload_n 3, 1) := by decide +kernel
theorem dd_Mo_told_91 : decode cb_Mo_told 91 = .ok (.iadd, 1) := by decide +kernel
theorem dd_Mo_told_92 : decode cb_Mo_told 92 = .ok (.baload, 1) := by decide +kernel
theorem dd_Mo_told_93 : decode cb_Mo_told 93 = .ok (.ifCond .eq 8, 3) := by decide +kernel
theorem dd_Mo_told_96 : decode cb_Mo_told 96 = .ok (.bipush 99, 2) := by decide +kernel
theorem dd_Mo_told_98 : decode cb_Mo_told 98 = .ok (.goto 7, 3) := by decide +kernel
theorem dd_Mo_told_101 : decode cb_Mo_told 101 = .ok (.iload_n 3, 1) := by decide +kernel
theorem dd_Mo_told_102 : decode cb_Mo_told 102 = .ok (.bipush 11, 2) := by decide +kernel
theorem dd_Mo_told_104 : decode cb_Mo_told 104 = .ok (.iadd, 1) := by decide +kernel
theorem dd_Mo_told_105 : decode cb_Mo_told 105 = .ok (.ireturn, 1) := by decide +kernel
theorem dd_Mo_forced_0 : decode cb_Mo_forced 0 = .ok (.iload_n 1, 1) := by decide +kernel
theorem dd_Mo_forced_1 : decode cb_Mo_forced 1 = .ok (.aload_n 0, 1) := by decide +kernel
theorem dd_Mo_forced_2 : decode cb_Mo_forced 2 = .ok (.getfield 98, 3) := by decide +kernel
theorem dd_Mo_forced_5 : decode cb_Mo_forced 5 = .ok (.ineg, 1) := by decide +kernel
theorem dd_Mo_forced_6 : decode cb_Mo_forced 6 = .ok (.aload_n 0, 1) := by decide +kernel
theorem dd_Mo_forced_7 : decode cb_Mo_forced 7 = .ok (.getfield 98, 3) := by decide +kernel
theorem dd_Mo_forced_10 : decode cb_Mo_forced 10 = .ok (.invokestatic 38, 3) := by decide +kernel
theorem dd_Mo_forced_13 : decode cb_Mo_forced 13 = .ok (.ifCond .eq 29, 3) := by decide +kernel
theorem dd_Mo_forced_16 : decode cb_Mo_forced 16 = .ok (.iload_n 2, 1) := by decide +kernel
theorem dd_Mo_forced_17 : decode cb_Mo_forced 17 = .ok (.aload_n 0, 1) := by decide +kernel
theorem dd_Mo_forced_18 : decode cb_Mo_forced 18 = .ok (.getfield 98, 3) := by decide +kernel
theorem dd_Mo_forced_21 : decode cb_Mo_forced 21 = .ok (.ineg, 1) := by decide +kernel
theorem dd_Mo_forced_22 : decode cb_Mo_forced 22 = .ok (.aload_n 0, 1) := by decide +kernel
theorem dd_Mo_forced_23 : decode cb_Mo_forced 23 = .ok (.getfield 98, 3) := by decide +kernel
theorem dd_Mo_forced_26 : decode cb_Mo_forced 26 = .ok (.invokestatic 38, 3) := by decide +kernel
theorem dd_Mo_forced_29 : decode cb_Mo_forced 29 = .ok (.ifCond .eq 13, 3) := by decide +kernel
theorem dd_Mo_forced_32 : decode cb_Mo_forced 32 = .ok (.iload_n 1, 1) := by decide +kernel
theorem dd_Mo_forced_33 : decode cb_Mo_forced 33 = .ok (.ifCond .eq 12, 3) := by decide +kernel
theorem dd_Mo_forced_36 : decode cb_Mo_forced 36 = .ok (.iload_n 1, 1) := by decide +kernel
theorem dd_Mo_forced_37 : decode cb_Mo_forced 37 = .ok (.iload_n 2, 1) := by decide +kernel
theorem dd_Mo_forced_38 : decode cb_Mo_forced 38 = .ok (.ineg, 1) := by decide +kernel
theorem dd_Mo_forced_39 : decode cb_Mo_forced 39 = .ok (.if_icmp .ne 6, 3) := by decide +kernel
theorem dd_Mo_forced_42 : decode cb_Mo_forced 42 = .ok (.bipush (-2), 2) := by decide +kernel
theorem dd_Mo_forced_44 : decode cb_Mo_forced 44 = .ok (.ireturn, 1) := by decide +kernel
theorem dd_Mo_forced_45 : decode cb_Mo_forced 45 = .ok (.aload_n 0, 1) := by decide +kernel
theorem dd_Mo_forced_46 : decode cb_Mo_forced 46 = .ok (.invokevirtual 130, 3) := by decide +kernel
theorem dd_Mo_forced_49 : decode cb_Mo_forced 49 = .ok (.aload_n 0, 1) := by decide +kernel
theorem dd_Mo_forced_50 : decode cb_Mo_forced 50 = .ok (.getfield 31, 3) := by decide +kernel
theorem dd_Mo_forced_53 : decode cb_Mo_forced 53 = .ok (.bipush 10, 2) := by decide +kernel
theorem dd_Mo_forced_55 : decode cb_Mo_forced 55 = .ok (.iload_n 1, 1) := by decide +kernel
theorem dd_Mo_forced_56 : decode cb_Mo_forced 56 = .ok (.iadd, 1) := by decide +kernel
theorem dd_Mo_forced_57 : decode cb_Mo_forced 57 = .ok (.iload_n 1, 1) := by decide +kernel
theorem dd_Mo_forced_58 : decode cb_Mo_forced 58 = .ok (.ifCond .eq 7, 3) := by decide +kernel
theorem dd_Mo_forced_61 : decode cb_Mo_forced 61 = .ok (.iconst 1, 1) := by decide +kernel
theorem dd_Mo_forced_62 : decode cb_Mo_forced 62 = .ok (.goto 4, 3) := by decide +kernel
theorem dd_Mo_forced_65 : decode cb_Mo_forced 65 = .ok (.iconst 0, 1) := by decide +kernel
theorem dd_Mo_forced_66 : decode cb_Mo_forced 66 = .ok (.bastore, 1) := by decide +kernel
theorem dd_Mo_forced_67 : decode cb_Mo_forced 67 = .ok (.aload_n 0, 1) := by decide +kernel
theorem dd_Mo_forced_68 : decode cb_Mo_forced 68 = .ok (.getfield 31, 3) := by decide +kernel
theorem dd_Mo_forced_71 : decode cb_Mo_forced 71 = .ok (.bipush 10, 2) := by decide +kernel
theorem dd_Mo_forced_73 : decode cb_Mo_forced 73 = .ok (.iload_n 2, 1) := by decide +kernel
theorem dd_Mo_forced_74 : decode cb_Mo_forced 74 = .ok (.iadd, 1) := by decide +kernel
theorem dd_Mo_forced_75 : decode cb_Mo_forced 75 = .ok (.iload_n 2, 1) := by decide +kernel
theorem dd_Mo_forced_76 : decode cb_Mo_forced 76 = .ok (.ifCond .ne 15, 3) := by decide +kernel
theorem dd_Mo_forced_79 : decode cb_Mo_forced 79 = .ok (.aload_n 0, 1) := by decide +kernel
theorem dd_Mo_forced_80 : decode cb_Mo_forced 80 = .ok (.getfield 31, 3) := by decide +kernel
theorem dd_Mo_forced_83 : decode cb_Mo_forced 83 = .ok (.bipush 10, 2) := by decide +kernel
theorem dd_Mo_forced_85 : decode cb_Mo_forced 85 = .ok (.iload_n 2, 1) := by decide +kernel
theorem dd_Mo_forced_86 : decode cb_Mo_forced 86 = .ok (.iadd, 1) := by decide +kernel
theorem dd_Mo_forced_87 : decode cb_Mo_forced 87 = .ok (.baload, 1) := by decide +kernel
theorem dd_Mo_forced_88 : decode cb_Mo_forced 88 = .ok (.ifCond .eq 7, 3) := by decide +kernel
theorem dd_Mo_forced_91 : decode cb_Mo_forced 91 = .ok (.iconst 1, 1) := by decide +kernel
theorem dd_Mo_forced_92 : decode cb_Mo_forced 92 = .ok (.goto 4, 3) := by decide +kernel
theorem dd_Mo_forced_95 : decode cb_Mo_forced 95 = .ok (.iconst 0, 1) := by decide +kernel
theorem dd_Mo_forced_96 : decode cb_Mo_forced 96 = .ok (.bastore, 1) := by decide +kernel
theorem dd_Mo_forced_97 : decode cb_Mo_forced 97 = .ok (.aload_n 0, 1) := by decide +kernel
theorem dd_Mo_forced_98 : decode cb_Mo_forced 98 = .ok (.getfield 31, 3) := by decide +kernel
theorem dd_Mo_forced_101 : decode cb_Mo_forced 101 = .ok (.bipush 10, 2) := by decide +kernel
theorem dd_Mo_forced_103 : decode cb_Mo_forced 103 = .ok (.iconst 0, 1) := by decide +kernel
theorem dd_Mo_forced_104 : decode cb_Mo_forced 104 = .ok (.bastore, 1) := by decide +kernel
theorem dd_Mo_forced_105 : decode cb_Mo_forced 105 = .ok (.iconst 1, 1) := by decide +kernel
theorem dd_Mo_forced_106 : decode cb_Mo_forced 106 = .ok (.istore_n 3, 1) := by decide +kernel
theorem dd_Mo_forced_107 : decode cb_Mo_forced 107 = .ok (.iload_n 3, 1) := by decide +kernel
theorem dd_Mo_forced_108 : decode cb_Mo_forced 108 = .ok (.ifCond .eq 60, 3) := by decide +kernel
theorem dd_Mo_forced_111 : decode cb_Mo_forced 111 = .ok (.iconst 0, 1) := by decide +kernel
theorem dd_Mo_forced_112 : decode cb_Mo_forced 112 = .ok (.istore_n 3, 1) := by decide +kernel
theorem dd_Mo_forced_113 : decode cb_Mo_forced 113 = .ok (.iconst 0, 1) := by decide +kernel
theorem dd_Mo_forced_114 : decode cb_Mo_forced 114 = .ok (.istore 4, 2) := by decide +kernel
theorem dd_Mo_forced_116 : decode cb_Mo_forced 116 = .ok (.iload 4, 2) := by decide +kernel
theorem dd_Mo_forced_118 : decode cb_Mo_forced 118 = .ok (.aload_n 0, 1) := by decide +kernel
theorem dd_Mo_forced_119 : decode cb_Mo_forced 119 = .ok (.getfield 101, 3) := by decide +kernel
theorem dd_Mo_forced_122 : decode cb_Mo_forced 122 = .ok (.if_icmp .ge 43, 3) := by decide +kernel
theorem dd_Mo_forced_125 : decode cb_Mo_forced 125 = .ok (.aload_n 0, 1) := by decide +kernel
theorem dd_Mo_forced_126 : decode cb_Mo_forced 126 = .ok (.iload 4, 2) := by decide +kernel
theorem dd_Mo_forced_128 : decode cb_Mo_forced 128 = .ok (.invokevirtual 133, 3) := by decide +kernel
theorem dd_Mo_forced_131 : decode cb_Mo_forced 131 = .ok (.istore 5, 2) := by decide +kernel
theorem dd_Mo_forced_133 : decode cb_Mo_forced 133 = .ok (.iload 5, 2) := by decide +kernel
theorem dd_Mo_forced_135 : decode cb_Mo_forced 135 = .ok (.ifCond .ne 5, 3) := by decide +kernel
theorem dd_Mo_forced_138 : decode cb_Mo_forced 138 = .ok (.iconst (-1), 1) := by decide +kernel
theorem dd_Mo_forced_139 : decode cb_Mo_forced 139 = .ok (.ireturn, 1) := by decide +kernel
theorem dd_Mo_forced_140 : decode cb_Mo_forced 140 = .ok (.iload 5, 2) := by decide +kernel
theorem dd_Mo_forced_142 : decode cb_Mo_forced 142 = .ok (.bipush 99, 2) := by decide +kernel
theorem dd_Mo_forced_144 : decode cb_Mo_forced 144 = .ok (.if_icmp .ge 15, 3) := by decide +kernel
theorem dd_Mo_forced_147 : decode cb_Mo_forced 147 = .ok (.aload_n 0, 1) := by decide +kernel
theorem dd_Mo_forced_148 : decode cb_Mo_forced 148 = .ok (.getfield 31, 3) := by decide +kernel
theorem dd_Mo_forced_151 : decode cb_Mo_forced 151 = .ok (.iload 5, 2) := by decide +kernel
theorem dd_Mo_forced_153 : decode cb_Mo_forced 153 = .ok (.iconst 1, 1) := by decide +kernel
theorem dd_Mo_forced_154 : decode cb_Mo_forced 154 = .ok (.isub, 1) := by decide +kernel
theorem dd_Mo_forced_155 : decode cb_Mo_forced 155 = .ok (.iconst 1, 1) := by decide +kernel
theorem dd_Mo_forced_156 : decode cb_Mo_forced 156 = .ok (.bastore, 1) := by decide +kernel
theorem dd_Mo_forced_157 : decode cb_Mo_forced 157 = .ok (.iconst 1, 1) := by decide +kernel
theorem dd_Mo_forced_158 : decode cb_Mo_forced 158 = .ok (.istore_n 3, 1) := by decide +kernel
theorem dd_Mo_forced_159 : decode cb_Mo_forced 159 = .ok (.iinc 4 1, 3) := by decide +kernel
theorem dd_Mo_forced_162 : decode cb_Mo_forced 162 = .ok (.goto (-46), 3) := by decide +kernel
theorem dd_Mo_forced_165 : decode cb_Mo_forced 165 = .ok (.goto (-58), 3) := by decide +kernel
theorem dd_Mo_forced_168 : decode cb_Mo_forced 168 = .ok (.iconst 0, 1) := by decide +kernel
theorem dd_Mo_forced_169 : decode cb_Mo_forced 169 = .ok (.istore 4, 2) := by decide +kernel
theorem dd_Mo_forced_171 : decode cb_Mo_forced 171 = .ok (.iconst 0, 1) := by decide +kernel
theorem dd_Mo_forced_172 : decode cb_Mo_forced 172 = .ok (.istore 5, 2) := by decide +kernel
theorem dd_Mo_forced_174 : decode cb_Mo_forced 174 = .ok (.iload 5, 2) := by decide +kernel
theorem dd_Mo_forced_176 : decode cb_Mo_forced 176 = .ok (.bipush 21, 2) := by decide +kernel
theorem dd_Mo_forced_178 : decode cb_Mo_forced 178 = .ok (.if_icmp .ge 30, 3) := by decide +kernel
theorem dd_Mo_forced_181 : decode cb_Mo_forced 181 = .ok (.aload_n 0, 1) := by decide +kernel
theorem dd_Mo_forced_182 : decode cb_Mo_forced 182 = .ok (.getfield 31, 3) := by decide +kernel
theorem dd_Mo_forced_185 : decode cb_Mo_forced 185 = .ok (.iload 5, 2) := by decide +kernel
theorem dd_Mo_forced_187 : decode cb_Mo_forced 187 = .ok (.baload, 1) := by decide +kernel
theorem dd_Mo_forced_188 : decode cb_Mo_forced 188 = .ok (.ifCond .eq 10, 3) := by decide +kernel
theorem dd_Mo_forced_191 : decode cb_Mo_forced 191 = .ok (.iload 4, 2) := by decide +kernel
theorem dd_Mo_forced_193 : decode cb_Mo_forced 193 = .ok (.iconst 1, 1) := by decide +kernel
theorem dd_Mo_forced_194 : decode cb_Mo_forced 194 = .ok (.iadd, 1) := by decide +kernel
theorem dd_Mo_forced_195 : decode cb_Mo_forced 195 = .ok (.goto 5, 3) := by decide +kernel
theorem dd_Mo_forced_198 : decode cb_Mo_forced 198 = .ok (.iload 4, 2) := by decide +kernel
theorem dd_Mo_forced_200 : decode cb_Mo_forced 200 = .ok (.istore 4, 2) := by decide +kernel
theorem dd_Mo_forced_202 : decode cb_Mo_forced 202 = .ok (.iinc 5 1, 3) := by decide +kernel
theorem dd_Mo_forced_205 : decode cb_Mo_forced 205 = .ok (.goto (-31), 3) := by decide +kernel
theorem dd_Mo_forced_208 : decode cb_Mo_forced 208 = .ok (.iload 4, 2) := by decide +kernel
theorem dd_Mo_forced_210 : decode cb_Mo_forced 210 = .ok (.ireturn, 1) := by decide +kernel
theorem dd_Mo_readHints_0 : decode cb_Mo_readHints 0 = .ok (.aload_n 0, 1) := by decide +kernel
theorem dd_Mo_readHints_1 : decode cb_Mo_readHints 1 = .ok (.iconst 0, 1) := by decide +kernel
theorem dd_Mo_readHints_2 : decode cb_Mo_readHints 2 = .ok (.putfield 136, 3) := by decide +kernel
theorem dd_Mo_readHints_5 : decode cb_Mo_readHints 5 = .ok (.iconst 1, 1) := by decide +kernel
theorem dd_Mo_readHints_6 : decode cb_Mo_readHints 6 = .ok (.istore_n 2, 1) := by decide +kernel
theorem dd_Mo_readHints_7 : decode cb_Mo_readHints 7 = .ok (.iload_n 2, 1) := by decide +kernel
theorem dd_Mo_readHints_8 : decode cb_Mo_readHints 8 = .ok (.ifCond .eq 89, 3) := by decide +kernel
theorem dd_Mo_readHints_11 : decode cb_Mo_readHints 11 = .ok (.aload_n 0, 1) := by decide +kernel
theorem dd_Mo_readHints_12 : decode cb_Mo_readHints 12 = .ok (.getfield 52, 3) := by decide +kernel
theorem dd_Mo_readHints_15 : decode cb_Mo_readHints 15 = .ok (.ifCond .ge 82, 3) := by decide +kernel
theorem dd_Mo_readHints_18 : decode cb_Mo_readHints 18 = .ok (.aload_n 0, 1) := by decide +kernel
theorem dd_Mo_readHints_19 : decode cb_Mo_readHints 19 = .ok (.getfield 49, 3) := by decide +kernel
theorem dd_Mo_readHints_22 : decode cb_Mo_readHints 22 = .ok (.istore_n 3, 1) := by decide +kernel
theorem dd_Mo_readHints_23 : decode cb_Mo_readHints 23 = .ok (.aload_n 0, 1) := by decide +kernel
theorem dd_Mo_readHints_24 : decode cb_Mo_readHints 24 = .ok (.iload_n 1, 1) := by decide +kernel
theorem dd_Mo_readHints_25 : decode cb_Mo_readHints 25 = .ok (.sipush 999, 3) := by decide +kernel
theorem dd_Mo_readHints_28 : decode cb_Mo_readHints 28 = .ok (.invokevirtual 80, 3) := by decide +kernel
theorem dd_Mo_readHints_31 : decode cb_Mo_readHints 31 = .ok (.istore 4, 2) := by decide +kernel
theorem dd_Mo_readHints_33 : decode cb_Mo_readHints 33 = .ok (.iload 4, 2) := by decide +kernel
theorem dd_Mo_readHints_35 : decode cb_Mo_readHints 35 = .ok (.ifCond .eq 7, 3) := by decide +kernel
theorem dd_Mo_readHints_38 : decode cb_Mo_readHints 38 = .ok (.iconst 1, 1) := by decide +kernel
theorem dd_Mo_readHints_39 : decode cb_Mo_readHints 39 = .ok (.goto 4, 3) := by decide +kernel
theorem dd_Mo_readHints_42 : decode cb_Mo_readHints 42 = .ok (.iconst 0, 1) := by decide +kernel
theorem dd_Mo_readHints_43 : decode cb_Mo_readHints 43 = .ok (.istore_n 2, 1) := by decide +kernel
theorem dd_Mo_readHints_44 : decode cb_Mo_readHints 44 = .ok (.iload_n 2, 1) := by decide +kernel
theorem dd_Mo_readHints_45 : decode cb_Mo_readHints 45 = .ok (.ifCond .eq 24, 3) := by decide +kernel
theorem dd_Mo_readHints_48 : decode cb_Mo_readHints 48 = .ok (.aload_n 0, 1) := by decide +kernel
theorem dd_Mo_readHints_49 : decode cb_Mo_readHints 49 = .ok (.getfield 136, 3) := by decide +kernel
theorem dd_Mo_readHints_52 : decode cb_Mo_readHints 52 = .ok (.bipush 12, 2) := by decide +kernel
theorem dd_Mo_readHints_54 : decode cb_Mo_readHints 54 = .ok (.if_icmp .ne 15, 3) := by decide +kernel
theorem dd_Mo_readHints_57 : decode cb_Mo_readHints 57 = .ok (.aload_n 0, 1) := by decide +kernel
theorem dd_Mo_readHints_58 : decode cb_Mo_readHints 58 = .ok (.iload_n 3, 1) := by decide +kernel
theorem dd_Mo_readHints_59 : decode cb_Mo_readHints 59 = .ok (.putfield 49, 3) := by decide +kernel
theorem dd_Mo_readHints_62 : decode cb_Mo_readHints 62 = .ok (.aload_n 0, 1) := by decide +kernel
theorem dd_Mo_readHints_63 : decode cb_Mo_readHints 63 = .ok (.invokevirtual 65, 3) := by decide +kernel
theorem dd_Mo_readHints_66 : decode cb_Mo_readHints 66 = .ok (.goto 28, 3) := by decide +kernel
theorem dd_Mo_readHints_69 : decode cb_Mo_readHints 69 = .ok (.iload_n 2, 1) := by decide +kernel
theorem dd_Mo_readHints_70 : decode cb_Mo_readHints 70 = .ok (.ifCond .eq 24, 3) := by decide +kernel
theorem dd_Mo_readHints_73 : decode cb_Mo_readHints 73 = .ok (.aload_n 0, 1) := by decide +kernel
theorem dd_Mo_readHints_74 : decode cb_Mo_readHints 74 = .ok (.getfield 28, 3) := by decide +kernel
theorem dd_Mo_readHints_77 : decode cb_Mo_readHints 77 = .ok (.aload_n 0, 1) := by decide +kernel
theorem dd_Mo_readHints_78 : decode cb_Mo_readHints 78 = .ok (.getfield 136, 3) := by decide +kernel
theorem dd_Mo_readHints_81 : decode cb_Mo_readHints 81 = .ok (.iload 4, 2) := by decide +kernel
theorem dd_Mo_readHints_83 : decode cb_Mo_readHints 83 = .ok (.iastore, 1) := by decide +kernel
theorem dd_Mo_readHints_84 : decode cb_Mo_readHints 84 = .ok (.aload_n 0, 1) := by decide +kernel
theorem dd_Mo_readHints_85 : decode cb_Mo_readHints 85 = .ok (.aload_n 0, 1) := by decide +kernel
theorem dd_Mo_readHints_86 : decode cb_Mo_readHints 86 = .ok (.getfield 136, 3) := by decide +kernel
theorem dd_Mo_readHints_89 : decode cb_Mo_readHints 89 = .ok (.iconst 1, 1) := by decide +kernel
theorem dd_Mo_readHints_90 : decode cb_Mo_readHints 90 = .ok (.iadd, 1) := by decide +kernel
theorem dd_Mo_readHints_91 : decode cb_Mo_readHints 91 = .ok (.putfield 136, 3) := by decide +kernel
theorem dd_Mo_readHints_94 : decode cb_Mo_readHints 94 = .ok (.goto (-87), 3) := by decide +kernel
theorem dd_Mo_readHints_97 : decode cb_Mo_readHints 97 = .ok (.return_, 1) := by decide +kernel
theorem dd_Mo_line_0 : decode cb_Mo_line 0 = .ok (.aload_n 0, 1) := by decide +kernel
theorem dd_Mo_line_1 : decode cb_Mo_line 1 = .ok (.iconst 0, 1) := by decide +kernel
theorem dd_Mo_line_2 : decode cb_Mo_line 2 = .ok (.invokevirtual 86, 3) := by decide +kernel
theorem dd_Mo_line_5 : decode cb_Mo_line 5 = .ok (.aload_n 0, 1) := by decide +kernel
theorem dd_Mo_line_6 : decode cb_Mo_line 6 = .ok (.iconst 1, 1) := by decide +kernel
theorem dd_Mo_line_7 : decode cb_Mo_line 7 = .ok (.sipush 999, 3) := by decide +kernel
theorem dd_Mo_line_10 : decode cb_Mo_line 10 = .ok (.invokevirtual 80, 3) := by decide +kernel
theorem dd_Mo_line_13 : decode cb_Mo_line 13 = .ok (.istore_n 1, 1) := by decide +kernel
theorem dd_Mo_line_14 : decode cb_Mo_line 14 = .ok (.aload_n 0, 1) := by decide +kernel
theorem dd_Mo_line_15 : decode cb_Mo_line 15 = .ok (.getfield 52, 3) := by decide +kernel
theorem dd_Mo_line_18 : decode cb_Mo_line 18 = .ok (.ifCond .ge 18, 3) := by decide +kernel
theorem dd_Mo_line_21 : decode cb_Mo_line 21 = .ok (.aload_n 0, 1) := by decide +kernel
theorem dd_Mo_line_22 : decode cb_Mo_line 22 = .ok (.bipush 100, 2) := by decide +kernel
theorem dd_Mo_line_24 : decode cb_Mo_line 24 = .ok (.iconst 0, 1) := by decide +kernel
theorem dd_Mo_line_25 : decode cb_Mo_line 25 = .ok (.iconst 0, 1) := by decide +kernel
theorem dd_Mo_line_26 : decode cb_Mo_line 26 = .ok (.invokevirtual 62, 3) := by decide +kernel
theorem dd_Mo_line_29 : decode cb_Mo_line 29 = .ok (.ifCond .eq 7, 3) := by decide +kernel
theorem dd_Mo_line_32 : decode cb_Mo_line 32 = .ok (.iconst 1, 1) := by decide +kernel
theorem dd_Mo_line_33 : decode cb_Mo_line 33 = .ok (.goto 4, 3) := by decide +kernel
theorem dd_Mo_line_36 : decode cb_Mo_line 36 = .ok (.iconst 0, 1) := by decide +kernel
theorem dd_Mo_line_37 : decode cb_Mo_line 37 = .ok (.istore_n 2, 1) := by decide +kernel
theorem dd_Mo_line_38 : decode cb_Mo_line 38 = .ok (.iload_n 2, 1) := by decide +kernel
theorem dd_Mo_line_39 : decode cb_Mo_line 39 = .ok (.ifCond .eq 21, 3) := by decide +kernel
theorem dd_Mo_line_42 : decode cb_Mo_line 42 = .ok (.aload_n 0, 1) := by decide +kernel
theorem dd_Mo_line_43 : decode cb_Mo_line 43 = .ok (.aload_n 0, 1) := by decide +kernel
theorem dd_Mo_line_44 : decode cb_Mo_line 44 = .ok (.getfield 49, 3) := by decide +kernel
theorem dd_Mo_line_47 : decode cb_Mo_line 47 = .ok (.iconst 1, 1) := by decide +kernel
theorem dd_Mo_line_48 : decode cb_Mo_line 48 = .ok (.iadd, 1) := by decide +kernel
theorem dd_Mo_line_49 : decode cb_Mo_line 49 = .ok (.putfield 49, 3) := by decide +kernel
theorem dd_Mo_line_52 : decode cb_Mo_line 52 = .ok (.aload_n 0, 1) := by decide +kernel
theorem dd_Mo_line_53 : decode cb_Mo_line 53 = .ok (.iconst 0, 1) := by decide +kernel
theorem dd_Mo_line_54 : decode cb_Mo_line 54 = .ok (.invokevirtual 139, 3) := by decide +kernel
theorem dd_Mo_line_57 : decode cb_Mo_line 57 = .ok (.goto 20, 3) := by decide +kernel
theorem dd_Mo_line_60 : decode cb_Mo_line 60 = .ok (.aload_n 0, 1) := by decide +kernel
theorem dd_Mo_line_61 : decode cb_Mo_line 61 = .ok (.bipush 64, 2) := by decide +kernel
theorem dd_Mo_line_63 : decode cb_Mo_line 63 = .ok (.aload_n 0, 1) := by decide +kernel
theorem dd_Mo_line_64 : decode cb_Mo_line 64 = .ok (.getfield 98, 3) := by decide +kernel
theorem dd_Mo_line_67 : decode cb_Mo_line 67 = .ok (.invokevirtual 94, 3) := by decide +kernel
theorem dd_Mo_line_70 : decode cb_Mo_line 70 = .ok (.aload_n 0, 1) := by decide +kernel
theorem dd_Mo_line_71 : decode cb_Mo_line 71 = .ok (.sipush (-999), 3) := by decide +kernel
theorem dd_Mo_line_74 : decode cb_Mo_line 74 = .ok (.invokevirtual 139, 3) := by decide +kernel
theorem dd_Mo_line_77 : decode cb_Mo_line 77 = .ok (.aload_n 0, 1) := by decide +kernel
theorem dd_Mo_line_78 : decode cb_Mo_line 78 = .ok (.getfield 52, 3) := by decide +kernel
theorem dd_Mo_line_81 : decode cb_Mo_line 81 = .ok (.ifCond .ge 18, 3) := by decide +kernel
theorem dd_Mo_line_84 : decode cb_Mo_line 84 = .ok (.aload_n 0, 1) := by decide +kernel
theorem dd_Mo_line_85 : decode cb_Mo_line 85 = .ok (.getfield 49, 3) := by decide +kernel
theorem dd_Mo_line_88 : decode cb_Mo_line 88 = .ok (.aload_n 0, 1) := by decide +kernel
theorem dd_Mo_line_89 : decode cb_Mo_line 89 = .ok (.getfield 46, 3) := by decide +kernel
theorem dd_Mo_line_92 : decode cb_Mo_line 92 = .ok (.if_icmp .ge 7, 3) := by decide +kernel
theorem dd_Mo_line_95 : decode cb_Mo_line 95 = .ok (.aload_n 0, 1) := by decide +kernel
theorem dd_Mo_line_96 : decode cb_Mo_line 96 = .ok (.invokevirtual 65, 3) := by decide +kernel
theorem dd_Mo_line_99 : decode cb_Mo_line 99 = .ok (.aload_n 0, 1) := by decide +kernel
theorem dd_Mo_line_100 : decode cb_Mo_line 100 = .ok (.getfield 52, 3) := by decide +kernel
theorem dd_Mo_line_103 : decode cb_Mo_line 103 = .ok (.ifCond .lt 10, 3) := by decide +kernel
theorem dd_Mo_line_106 : decode cb_Mo_line 106 = .ok (.iconst (-1), 1) := by decide +kernel
theorem dd_Mo_line_107 : decode cb_Mo_line 107 = .ok (.aload_n 0, 1) := by decide +kernel
theorem dd_Mo_line_108 : decode cb_Mo_line 108 = .ok (.getfield 52, 3) := by decide +kernel
theorem dd_Mo_line_111 : decode cb_Mo_line 111 = .ok (.isub, 1) := by decide +kernel
theorem dd_Mo_line_112 : decode cb_Mo_line 112 = .ok (.ireturn, 1) := by decide +kernel
theorem dd_Mo_line_113 : decode cb_Mo_line 113 = .ok (.iload_n 2, 1) := by decide +kernel
theorem dd_Mo_line_114 : decode cb_Mo_line 114 = .ok (.ifCond .eq 10, 3) := by decide +kernel
theorem dd_Mo_line_117 : decode cb_Mo_line 117 = .ok (.aload_n 0, 1) := by decide +kernel
theorem dd_Mo_line_118 : decode cb_Mo_line 118 = .ok (.invokevirtual 143, 3) := by decide +kernel
theorem dd_Mo_line_121 : decode cb_Mo_line 121 = .ok (.goto 8, 3) := by decide +kernel
theorem dd_Mo_line_124 : decode cb_Mo_line 124 = .ok (.aload_n 0, 1) := by decide +kernel
theorem dd_Mo_line_125 : decode cb_Mo_line 125 = .ok (.iload_n 1, 1) := by decide +kernel
theorem dd_Mo_line_126 : decode cb_Mo_line 126 = .ok (.invokevirtual 146, 3) := by decide +kernel
theorem dd_Mo_line_129 : decode cb_Mo_line 129 = .ok (.ireturn, 1) := by decide +kernel
theorem dd_Mo_delete_0 : decode cb_Mo_delete 0 = .ok (.iconst 0, 1) := by decide +kernel
theorem dd_Mo_delete_1 : decode cb_Mo_delete 1 = .ok (.istore_n 1, 1) := by decide +kernel
theorem dd_Mo_delete_2 : decode cb_Mo_delete 2 = .ok (.iload_n 1, 1) := by decide +kernel
theorem dd_Mo_delete_3 : decode cb_Mo_delete 3 = .ok (.aload_n 0, 1) := by decide +kernel
theorem dd_Mo_delete_4 : decode cb_Mo_delete 4 = .ok (.getfield 136, 3) := by decide +kernel
theorem dd_Mo_delete_7 : decode cb_Mo_delete 7 = .ok (.if_icmp .ge 74, 3) := by decide +kernel
theorem dd_Mo_delete_10 : decode cb_Mo_delete 10 = .ok (.aload_n 0, 1) := by decide +kernel
theorem dd_Mo_delete_11 : decode cb_Mo_delete 11 = .ok (.aload_n 0, 1) := by decide +kernel
theorem dd_Mo_delete_12 : decode cb_Mo_delete 12 = .ok (.getfield 28, 3) := by decide +kernel
theorem dd_Mo_delete_15 : decode cb_Mo_delete 15 = .ok (.iload_n 1, 1) := by decide +kernel
theorem dd_Mo_delete_16 : decode cb_Mo_delete 16 = .ok (.iaload, 1) := by decide +kernel
theorem dd_Mo_delete_17 : decode cb_Mo_delete 17 = .ok (.invokevirtual 117, 3) := by decide +kernel
theorem dd_Mo_delete_20 : decode cb_Mo_delete 20 = .ok (.ifCond .ge 7, 3) := by decide +kernel
theorem dd_Mo_delete_23 : decode cb_Mo_delete 23 = .ok (.iconst 1, 1) := by decide +kernel
theorem dd_Mo_delete_24 : decode cb_Mo_delete 24 = .ok (.goto 4, 3) := by decide +kernel
theorem dd_Mo_delete_27 : decode cb_Mo_delete 27 = .ok (.iconst 0, 1) := by decide +kernel
theorem dd_Mo_delete_28 : decode cb_Mo_delete 28 = .ok (.istore_n 2, 1) := by decide +kernel
theorem dd_Mo_delete_29 : decode cb_Mo_delete 29 = .ok (.iconst 0, 1) := by decide +kernel
theorem dd_Mo_delete_30 : decode cb_Mo_delete 30 = .ok (.istore_n 3, 1) := by decide +kernel
theorem dd_Mo_delete_31 : decode cb_Mo_delete 31 = .ok (.iload_n 3, 1) := by decide +kernel
theorem dd_Mo_delete_32 : decode cb_Mo_delete 32 = .ok (.iload_n 1, 1) := by decide +kernel
theorem dd_Mo_delete_33 : decode cb_Mo_delete 33 = .ok (.if_icmp .ge 34, 3) := by decide +kernel
theorem dd_Mo_delete_36 : decode cb_Mo_delete 36 = .ok (.iload_n 2, 1) := by decide +kernel
theorem dd_Mo_delete_37 : decode cb_Mo_delete 37 = .ok (.ifCond .ne 18, 3) := by decide +kernel
theorem dd_Mo_delete_40 : decode cb_Mo_delete 40 = .ok (.aload_n 0, 1) := by decide +kernel
theorem dd_Mo_delete_41 : decode cb_Mo_delete 41 = .ok (.getfield 28, 3) := by decide +kernel
theorem dd_Mo_delete_44 : decode cb_Mo_delete 44 = .ok (.iload_n 3, 1) := by decide +kernel
theorem dd_Mo_delete_45 : decode cb_Mo_delete 45 = .ok (.iaload, 1) := by decide +kernel
theorem dd_Mo_delete_46 : decode cb_Mo_delete 46 = .ok (.aload_n 0, 1) := by decide +kernel
theorem dd_Mo_delete_47 : decode cb_Mo_delete 47 = .ok (.getfield 28, 3) := by decide +kernel
theorem dd_Mo_delete_50 : decode cb_Mo_delete 50 = .ok (.iload_n 1, 1) := by decide +kernel
theorem dd_Mo_delete_51 : decode cb_Mo_delete 51 = .ok (.iaload, 1) := by decide +kernel
theorem dd_Mo_delete_52 : decode cb_Mo_delete 52 = .ok (.if_icmp .ne 7, 3) := by decide +kernel
theorem dd_Mo_delete_55 : decode cb_Mo_delete 55 = .ok (.iconst 1, 1) := by decide +kernel
theorem dd_Mo_delete_56 : decode cb_Mo_delete 56 = .ok (.goto 4, 3) := by decide +kernel
theorem dd_Mo_delete_59 : decode cb_Mo_delete 59 = .ok (.iconst 0, 1) := by decide +kernel
theorem dd_Mo_delete_60 : decode cb_Mo_delete 60 = .ok (.istore_n 2, 1) := by decide +kernel
theorem dd_Mo_delete_61 : decode cb_Mo_delete 61 = .ok (.iinc 3 1, 3) := by decide +kernel
theorem dd_Mo_delete_64 : decode cb_Mo_delete 64 = .ok (.goto (-33), 3) := by decide +kernel
theorem dd_Mo_delete_67 : decode cb_Mo_delete 67 = .ok (.iload_n 2, 1) := by decide +kernel
theorem dd_Mo_delete_68 : decode cb_Mo_delete 68 = .ok (.ifCond .eq 7, 3) := by decide +kernel
theorem dd_Mo_delete_71 : decode cb_Mo_delete 71 = .ok (.sipush (-2000), 3) := by decide +kernel
theorem dd_Mo_delete_74 : decode cb_Mo_delete 74 = .ok (.ireturn, 1) := by decide +kernel
theorem dd_Mo_delete_75 : decode cb_Mo_delete 75 = .ok (.iinc 1 1, 3) := by decide +kernel
theorem dd_Mo_delete_78 : decode cb_Mo_delete 78 = .ok (.goto (-76), 3) := by decide +kernel
theorem dd_Mo_delete_81 : decode cb_Mo_delete 81 = .ok (.iconst 0, 1) := by decide +kernel
theorem dd_Mo_delete_82 : decode cb_Mo_delete 82 = .ok (.istore_n 1, 1) := by decide +kernel
theorem dd_Mo_delete_83 : decode cb_Mo_delete 83 = .ok (.iload_n 1, 1) := by decide +kernel
theorem dd_Mo_delete_84 : decode cb_Mo_delete 84 = .ok (.aload_n 0, 1) := by decide +kernel
theorem dd_Mo_delete_85 : decode cb_Mo_delete 85 = .ok (.getfield 136, 3) := by decide +kernel
theorem dd_Mo_delete_88 : decode cb_Mo_delete 88 = .ok (.if_icmp .ge 74, 3) := by decide +kernel
theorem dd_Mo_delete_91 : decode cb_Mo_delete 91 = .ok (.aload_n 0, 1) := by decide +kernel
theorem dd_Mo_delete_92 : decode cb_Mo_delete 92 = .ok (.aload_n 0, 1) := by decide +kernel
theorem dd_Mo_delete_93 : decode cb_Mo_delete 93 = .ok (.getfield 28, 3) := by decide +kernel
theorem dd_Mo_delete_96 : decode cb_Mo_delete 96 = .ok (.iload_n 1, 1) := by decide +kernel
theorem dd_Mo_delete_97 : decode cb_Mo_delete 97 = .ok (.iaload, 1) := by decide +kernel
theorem dd_Mo_delete_98 : decode cb_Mo_delete 98 = .ok (.invokevirtual 117, 3) := by decide +kernel
theorem dd_Mo_delete_101 : decode cb_Mo_delete 101 = .ok (.istore_n 2, 1) := by decide +kernel
theorem dd_Mo_delete_102 : decode cb_Mo_delete 102 = .ok (.aload_n 0, 1) := by decide +kernel
theorem dd_Mo_delete_103 : decode cb_Mo_delete 103 = .ok (.aload_n 0, 1) := by decide +kernel
theorem dd_Mo_delete_104 : decode cb_Mo_delete 104 = .ok (.getfield 104, 3) := by decide +kernel
theorem dd_Mo_delete_107 : decode cb_Mo_delete 107 = .ok (.iconst 1, 1) := by decide +kernel
theorem dd_Mo_delete_108 : decode cb_Mo_delete 108 = .ok (.isub, 1) := by decide +kernel
theorem dd_Mo_delete_109 : decode cb_Mo_delete 109 = .ok (.putfield 104, 3) := by decide +kernel
theorem dd_Mo_delete_112 : decode cb_Mo_delete 112 = .ok (.iload_n 2, 1) := by decide +kernel
theorem dd_Mo_delete_113 : decode cb_Mo_delete 113 = .ok (.istore_n 3, 1) := by decide +kernel
theorem dd_Mo_delete_114 : decode cb_Mo_delete 114 = .ok (.iload_n 3, 1) := by decide +kernel
theorem dd_Mo_delete_115 : decode cb_Mo_delete 115 = .ok (.aload_n 0, 1) := by decide +kernel
theorem dd_Mo_delete_116 : decode cb_Mo_delete 116 = .ok (.getfield 104, 3) := by decide +kernel
theorem dd_Mo_delete_119 : decode cb_Mo_delete 119 = .ok (.if_icmp .ge 37, 3) := by decide +kernel
theorem dd_Mo_delete_122 : decode cb_Mo_delete 122 = .ok (.aload_n 0, 1) := by decide +kernel
theorem dd_Mo_delete_123 : decode cb_Mo_delete 123 = .ok (.getfield 25, 3) := by decide +kernel
theorem dd_Mo_delete_126 : decode cb_Mo_delete 126 = .ok (.iload_n 3, 1) := by decide +kernel
theorem dd_Mo_delete_127 : decode cb_Mo_delete 127 = .ok (.aload_n 0, 1) := by decide +kernel
theorem dd_Mo_delete_128 : decode cb_Mo_delete 128 = .ok (.getfield 25, 3) := by decide +kernel
theorem dd_Mo_delete_131 : decode cb_Mo_delete 131 = .ok (.iload_n 3, 1) := by decide +kernel
theorem dd_Mo_delete_132 : decode cb_Mo_delete 132 = .ok (.iconst 1, 1) := by decide +kernel
theorem dd_Mo_delete_133 : decode cb_Mo_delete 133 = .ok (.iadd, 1) := by decide +kernel
theorem dd_Mo_delete_134 : decode cb_Mo_delete 134 = .ok (.iaload, 1) := by decide +kernel
theorem dd_Mo_delete_135 : decode cb_Mo_delete 135 = .ok (.iastore, 1) := by decide +kernel
theorem dd_Mo_delete_136 : decode cb_Mo_delete 136 = .ok (.aload_n 0, 1) := by decide +kernel
theorem dd_Mo_delete_137 : decode cb_Mo_delete 137 = .ok (.bipush 24, 2) := by decide +kernel
theorem dd_Mo_delete_139 : decode cb_Mo_delete 139 = .ok (.iload_n 3, 1) := by decide +kernel
theorem dd_Mo_delete_140 : decode cb_Mo_delete 140 = .ok (.iadd, 1) := by decide +kernel
theorem dd_Mo_delete_141 : decode cb_Mo_delete 141 = .ok (.iconst 1, 1) := by decide +kernel
theorem dd_Mo_delete_142 : decode cb_Mo_delete 142 = .ok (.iadd, 1) := by decide +kernel
theorem dd_Mo_delete_143 : decode cb_Mo_delete 143 = .ok (.bipush 24, 2) := by decide +kernel
theorem dd_Mo_delete_145 : decode cb_Mo_delete 145 = .ok (.iload_n 3, 1) := by decide +kernel
theorem dd_Mo_delete_146 : decode cb_Mo_delete 146 = .ok (.iadd, 1) := by decide +kernel
theorem dd_Mo_delete_147 : decode cb_Mo_delete 147 = .ok (.invokevirtual 114, 3) := by decide +kernel
theorem dd_Mo_delete_150 : decode cb_Mo_delete 150 = .ok (.iinc 3 1, 3) := by decide +kernel
theorem dd_Mo_delete_153 : decode cb_Mo_delete 153 = .ok (.goto (-39), 3) := by decide +kernel
theorem dd_Mo_delete_156 : decode cb_Mo_delete 156 = .ok (.iinc 1 1, 3) := by decide +kernel
theorem dd_Mo_delete_159 : decode cb_Mo_delete 159 = .ok (.goto (-76), 3) := by decide +kernel
theorem dd_Mo_delete_162 : decode cb_Mo_delete 162 = .ok (.iconst 1, 1) := by decide +kernel
theorem dd_Mo_delete_163 : decode cb_Mo_delete 163 = .ok (.ireturn, 1) := by decide +kernel
theorem dd_Mo_add_0 : decode cb_Mo_add 0 = .ok (.iload_n 1, 1) := by decide +kernel
theorem dd_Mo_add_1 : decode cb_Mo_add 1 = .ok (.aload_n 0, 1) := by decide +kernel
theorem dd_Mo_add_2 : decode cb_Mo_add 2 = .ok (.getfield 107, 3) := by decide +kernel
theorem dd_Mo_add_5 : decode cb_Mo_add 5 = .ok (.if_icmp .le 12, 3) := by decide +kernel
theorem dd_Mo_add_8 : decode cb_Mo_add 8 = .ok (.aload_n 0, 1) := by decide +kernel
theorem dd_Mo_add_9 : decode cb_Mo_add 9 = .ok (.getfield 104, 3) := by decide +kernel
theorem dd_Mo_add_12 : decode cb_Mo_add 12 = .ok (.bipush 40, 2) := by decide +kernel
theorem dd_Mo_add_14 : decode cb_Mo_add 14 = .ok (.if_icmp .lt 7, 3) := by decide +kernel
theorem dd_Mo_add_17 : decode cb_Mo_add 17 = .ok (.sipush (-2000), 3) := by decide +kernel
theorem dd_Mo_add_20 : decode cb_Mo_add 20 = .ok (.ireturn, 1) := by decide +kernel
theorem dd_Mo_add_21 : decode cb_Mo_add 21 = .ok (.aload_n 0, 1) := by decide +kernel
theorem dd_Mo_add_22 : decode cb_Mo_add 22 = .ok (.invokevirtual 149, 3) := by decide +kernel
theorem dd_Mo_add_25 : decode cb_Mo_add 25 = .ok (.ifCond .ne 12, 3) := by decide +kernel
theorem dd_Mo_add_28 : decode cb_Mo_add 28 = .ok (.sipush (-1000), 3) := by decide +kernel
theorem dd_Mo_add_31 : decode cb_Mo_add 31 = .ok (.aload_n 0, 1) := by decide +kernel
theorem dd_Mo_add_32 : decode cb_Mo_add 32 = .ok (.getfield 153, 3) := by decide +kernel
theorem dd_Mo_add_35 : decode cb_Mo_add 35 = .ok (.isub, 1) := by decide +kernel
theorem dd_Mo_add_36 : decode cb_Mo_add 36 = .ok (.ireturn, 1) := by decide +kernel
theorem dd_Mo_add_37 : decode cb_Mo_add 37 = .ok (.aload_n 0, 1) := by decide +kernel
theorem dd_Mo_add_38 : decode cb_Mo_add 38 = .ok (.bipush 64, 2) := by decide +kernel
theorem dd_Mo_add_40 : decode cb_Mo_add 40 = .ok (.bipush 24, 2) := by decide +kernel
theorem dd_Mo_add_42 : decode cb_Mo_add 42 = .ok (.aload_n 0, 1) := by decide +kernel
theorem dd_Mo_add_43 : decode cb_Mo_add 43 = .ok (.getfield 104, 3) := by decide +kernel
theorem dd_Mo_add_46 : decode cb_Mo_add 46 = .ok (.iadd, 1) := by decide +kernel
theorem dd_Mo_add_47 : decode cb_Mo_add 47 = .ok (.invokevirtual 114, 3) := by decide +kernel
theorem dd_Mo_add_50 : decode cb_Mo_add 50 = .ok (.aload_n 0, 1) := by decide +kernel
theorem dd_Mo_add_51 : decode cb_Mo_add 51 = .ok (.getfield 25, 3) := by decide +kernel
theorem dd_Mo_add_54 : decode cb_Mo_add 54 = .ok (.aload_n 0, 1) := by decide +kernel
theorem dd_Mo_add_55 : decode cb_Mo_add 55 = .ok (.getfield 104, 3) := by decide +kernel
theorem dd_Mo_add_58 : decode cb_Mo_add 58 = .ok (.iload_n 1, 1) := by decide +kernel
theorem dd_Mo_add_59 : decode cb_Mo_add 59 = .ok (.iastore, 1) := by decide +kernel
theorem dd_Mo_add_60 : decode cb_Mo_add 60 = .ok (.aload_n 0, 1) := by decide +kernel
theorem dd_Mo_add_61 : decode cb_Mo_add 61 = .ok (.aload_n 0, 1) := by decide +kernel
theorem dd_Mo_add_62 : decode cb_Mo_add 62 = .ok (.getfield 104, 3) := by decide +kernel
theorem dd_Mo_add_65 : decode cb_Mo_add 65 = .ok (.iconst 1, 1) := by decide +kernel
theorem dd_Mo_add_66 : decode cb_Mo_add 66 = .ok (.iadd, 1) := by decide +kernel
theorem dd_Mo_add_67 : decode cb_Mo_add 67 = .ok (.putfield 104, 3) := by decide +kernel
theorem dd_Mo_add_70 : decode cb_Mo_add 70 = .ok (.aload_n 0, 1) := by decide +kernel
theorem dd_Mo_add_71 : decode cb_Mo_add 71 = .ok (.iload_n 1, 1) := by decide +kernel
theorem dd_Mo_add_72 : decode cb_Mo_add 72 = .ok (.putfield 107, 3) := by decide +kernel
theorem dd_Mo_add_75 : decode cb_Mo_add 75 = .ok (.aload_n 0, 1) := by decide +kernel
theorem dd_Mo_add_76 : decode cb_Mo_add 76 = .ok (.aload_n 0, 1) := by decide +kernel
theorem dd_Mo_add_77 : decode cb_Mo_add 77 = .ok (.getfield 110, 3) := by decide +kernel
theorem dd_Mo_add_80 : decode cb_Mo_add 80 = .ok (.ifCond .ne 13, 3) := by decide +kernel
theorem dd_Mo_add_83 : decode cb_Mo_add 83 = .ok (.aload_n 0, 1) := by decide +kernel
theorem dd_Mo_add_84 : decode cb_Mo_add 84 = .ok (.getfield 19, 3) := by decide +kernel
theorem dd_Mo_add_87 : decode cb_Mo_add 87 = .ok (.bipush 64, 2) := by decide +kernel
theorem dd_Mo_add_89 : decode cb_Mo_add 89 = .ok (.iaload, 1) := by decide +kernel
theorem dd_Mo_add_90 : decode cb_Mo_add 90 = .ok (.ifCond .ne 7, 3) := by decide +kernel
theorem dd_Mo_add_93 : decode cb_Mo_add 93 = .ok (.iconst 1, 1) := by decide +kernel
theorem dd_Mo_add_94 : decode cb_Mo_add 94 = .ok (.goto 4, 3) := by decide +kernel
theorem dd_Mo_add_97 : decode cb_Mo_add 97 = .ok (.iconst 0, 1) := by decide +kernel
theorem dd_Mo_add_98 : decode cb_Mo_add 98 = .ok (.putfield 110, 3) := by decide +kernel
theorem dd_Mo_add_101 : decode cb_Mo_add 101 = .ok (.iconst 1, 1) := by decide +kernel
theorem dd_Mo_add_102 : decode cb_Mo_add 102 = .ok (.ireturn, 1) := by decide +kernel
theorem dd_Mo_follow_0 : decode cb_Mo_follow 0 = .ok (.iconst 0, 1) := by decide +kernel
theorem dd_Mo_follow_1 : decode cb_Mo_follow 1 = .ok (.istore_n 1, 1) := by decide +kernel
theorem dd_Mo_follow_2 : decode cb_Mo_follow 2 = .ok (.aload_n 0, 1) := by decide +kernel
theorem dd_Mo_follow_3 : decode cb_Mo_follow 3 = .ok (.getfield 153, 3) := by decide +kernel
theorem dd_Mo_follow_6 : decode cb_Mo_follow 6 = .ok (.aload_n 0, 1) := by decide +kernel
theorem dd_Mo_follow_7 : decode cb_Mo_follow 7 = .ok (.getfield 136, 3) := by decide +kernel
theorem dd_Mo_follow_10 : decode cb_Mo_follow 10 = .ok (.if_icmp .ge 95, 3) := by decide +kernel
theorem dd_Mo_follow_13 : decode cb_Mo_follow 13 = .ok (.aload_n 0, 1) := by decide +kernel
theorem dd_Mo_follow_14 : decode cb_Mo_follow 14 = .ok (.getfield 28, 3) := by decide +kernel
theorem dd_Mo_follow_17 : decode cb_Mo_follow 17 = .ok (.aload_n 0, 1) := by decide +kernel
theorem dd_Mo_follow_18 : decode cb_Mo_follow 18 = .ok (.getfield 153, 3) := by decide +kernel
theorem dd_Mo_follow_21 : decode cb_Mo_follow 21 = .ok (.iaload, 1) := by decide +kernel
theorem dd_Mo_follow_22 : decode cb_Mo_follow 22 = .ok (.ifCond .le 83, 3) := by decide +kernel
theorem dd_Mo_follow_25 : decode cb_Mo_follow 25 = .ok (.iload_n 1, 1) := by decide +kernel
theorem dd_Mo_follow_26 : decode cb_Mo_follow 26 = .ok (.ifCond .ne 66, 3) := by decide +kernel
theorem dd_Mo_follow_29 : decode cb_Mo_follow 29 = .ok (.aload_n 0, 1) := by decide +kernel
theorem dd_Mo_follow_30 : decode cb_Mo_follow 30 = .ok (.aload_n 0, 1) := by decide +kernel
theorem dd_Mo_follow_31 : decode cb_Mo_follow 31 = .ok (.getfield 28, 3) := by decide +kernel
theorem dd_Mo_follow_34 : decode cb_Mo_follow 34 = .ok (.aload_n 0, 1) := by decide +kernel
theorem dd_Mo_follow_35 : decode cb_Mo_follow 35 = .ok (.getfield 153, 3) := by decide +kernel
theorem dd_Mo_follow_38 : decode cb_Mo_follow 38 = .ok (.iaload, 1) := by decide +kernel
theorem dd_Mo_follow_39 : decode cb_Mo_follow 39 = .ok (.invokevirtual 117, 3) := by decide +kernel
theorem dd_Mo_follow_42 : decode cb_Mo_follow 42 = .ok (.istore_n 2, 1) := by decide +kernel
theorem dd_Mo_follow_43 : decode cb_Mo_follow 43 = .ok (.iload_n 2, 1) := by decide +kernel
theorem dd_Mo_follow_44 : decode cb_Mo_follow 44 = .ok (.ifCond .ge 8, 3) := by decide +kernel
theorem dd_Mo_follow_47 : decode cb_Mo_follow 47 = .ok (.bipush 99, 2) := by decide +kernel
theorem dd_Mo_follow_49 : decode cb_Mo_follow 49 = .ok (.goto 11, 3) := by decide +kernel
theorem dd_Mo_follow_52 : decode cb_Mo_follow 52 = .ok (.aload_n 0, 1) := by decide +kernel
theorem dd_Mo_follow_53 : decode cb_Mo_follow 53 = .ok (.bipush 24, 2) := by decide +kernel
theorem dd_Mo_follow_55 : decode cb_Mo_follow 55 = .ok (.iload_n 2, 1) := by decide +kernel
theorem dd_Mo_follow_56 : decode cb_Mo_follow 56 = .ok (.iadd, 1) := by decide +kernel
theorem dd_Mo_follow_57 : decode cb_Mo_follow 57 = .ok (.invokevirtual 133, 3) := by decide +kernel
theorem dd_Mo_follow_60 : decode cb_Mo_follow 60 = .ok (.istore_n 3, 1) := by decide +kernel
theorem dd_Mo_follow_61 : decode cb_Mo_follow 61 = .ok (.iload_n 3, 1) := by decide +kernel
theorem dd_Mo_follow_62 : decode cb_Mo_follow 62 = .ok (.bipush 99, 2) := by decide +kernel
theorem dd_Mo_follow_64 : decode cb_Mo_follow 64 = .ok (.if_icmp .ne 5, 3) := by decide +kernel
theorem dd_Mo_follow_67 : decode cb_Mo_follow 67 = .ok (.iconst (-1), 1) := by decide +kernel
theorem dd_Mo_follow_68 : decode cb_Mo_follow 68 = .ok (.ireturn, 1) := by decide +kernel
theorem dd_Mo_follow_69 : decode cb_Mo_follow 69 = .ok (.iload_n 3, 1) := by decide +kernel
theorem dd_Mo_follow_70 : decode cb_Mo_follow 70 = .ok (.ifCond .ne 7, 3) := by decide +kernel
theorem dd_Mo_follow_73 : decode cb_Mo_follow 73 = .ok (.iconst 1, 1) := by decide +kernel
theorem dd_Mo_follow_74 : decode cb_Mo_follow 74 = .ok (.goto 4, 3) := by decide +kernel
theorem dd_Mo_follow_77 : decode cb_Mo_follow 77 = .ok (.iconst 0, 1) := by decide +kernel
theorem dd_Mo_follow_78 : decode cb_Mo_follow 78 = .ok (.istore_n 1, 1) := by decide +kernel
theorem dd_Mo_follow_79 : decode cb_Mo_follow 79 = .ok (.iload_n 3, 1) := by decide +kernel
theorem dd_Mo_follow_80 : decode cb_Mo_follow 80 = .ok (.ifCond .le 12, 3) := by decide +kernel
theorem dd_Mo_follow_83 : decode cb_Mo_follow 83 = .ok (.aload_n 0, 1) := by decide +kernel
theorem dd_Mo_follow_84 : decode cb_Mo_follow 84 = .ok (.getfield 31, 3) := by decide +kernel
theorem dd_Mo_follow_87 : decode cb_Mo_follow 87 = .ok (.iload_n 3, 1) := by decide +kernel
theorem dd_Mo_follow_88 : decode cb_Mo_follow 88 = .ok (.iconst 1, 1) := by decide +kernel
theorem dd_Mo_follow_89 : decode cb_Mo_follow 89 = .ok (.isub, 1) := by decide +kernel
theorem dd_Mo_follow_90 : decode cb_Mo_follow 90 = .ok (.iconst 1, 1) := by decide +kernel
theorem dd_Mo_follow_91 : decode cb_Mo_follow 91 = .ok (.bastore, 1) := by decide +kernel
theorem dd_Mo_follow_92 : decode cb_Mo_follow 92 = .ok (.aload_n 0, 1) := by decide +kernel
theorem dd_Mo_follow_93 : decode cb_Mo_follow 93 = .ok (.aload_n 0, 1) := by decide +kernel
theorem dd_Mo_follow_94 : decode cb_Mo_follow 94 = .ok (.getfield 153, 3) := by decide +kernel
theorem dd_Mo_follow_97 : decode cb_Mo_follow 97 = .ok (.iconst 1, 1) := by decide +kernel
theorem dd_Mo_follow_98 : decode cb_Mo_follow 98 = .ok (.iadd, 1) := by decide +kernel
theorem dd_Mo_follow_99 : decode cb_Mo_follow 99 = .ok (.putfield 153, 3) := by decide +kernel
theorem dd_Mo_follow_102 : decode cb_Mo_follow 102 = .ok (.goto (-100), 3) := by decide +kernel
theorem dd_Mo_follow_105 : decode cb_Mo_follow 105 = .ok (.iload_n 1, 1) := by decide +kernel
theorem dd_Mo_follow_106 : decode cb_Mo_follow 106 = .ok (.ifCond .eq 7, 3) := by decide +kernel
theorem dd_Mo_follow_109 : decode cb_Mo_follow 109 = .ok (.iconst 1, 1) := by decide +kernel
theorem dd_Mo_follow_110 : decode cb_Mo_follow 110 = .ok (.goto 4, 3) := by decide +kernel
theorem dd_Mo_follow_113 : decode cb_Mo_follow 113 = .ok (.iconst 0, 1) := by decide +kernel
theorem dd_Mo_follow_114 : decode cb_Mo_follow 114 = .ok (.ireturn, 1) := by decide +kernel
theorem dd_Mo_holds_0 : decode cb_Mo_holds 0 = .ok (.aload_n 0, 1) := by decide +kernel
theorem dd_Mo_holds_1 : decode cb_Mo_holds 1 = .ok (.invokevirtual 130, 3) := by decide +kernel
theorem dd_Mo_holds_4 : decode cb_Mo_holds 4 = .ok (.aload_n 0, 1) := by decide +kernel
theorem dd_Mo_holds_5 : decode cb_Mo_holds 5 = .ok (.iconst 0, 1) := by decide +kernel
theorem dd_Mo_holds_6 : decode cb_Mo_holds 6 = .ok (.putfield 153, 3) := by decide +kernel
theorem dd_Mo_holds_9 : decode cb_Mo_holds 9 = .ok (.iconst 0, 1) := by decide +kernel
theorem dd_Mo_holds_10 : decode cb_Mo_holds 10 = .ok (.istore_n 1, 1) := by decide +kernel
theorem dd_Mo_holds_11 : decode cb_Mo_holds 11 = .ok (.iconst 0, 1) := by decide +kernel
theorem dd_Mo_holds_12 : decode cb_Mo_holds 12 = .ok (.istore_n 2, 1) := by decide +kernel
theorem dd_Mo_holds_13 : decode cb_Mo_holds 13 = .ok (.iload_n 2, 1) := by decide +kernel
theorem dd_Mo_holds_14 : decode cb_Mo_holds 14 = .ok (.aload_n 0, 1) := by decide +kernel
theorem dd_Mo_holds_15 : decode cb_Mo_holds 15 = .ok (.getfield 19, 3) := by decide +kernel
theorem dd_Mo_holds_18 : decode cb_Mo_holds 18 = .ok (.bipush 64, 2) := by decide +kernel
theorem dd_Mo_holds_20 : decode cb_Mo_holds 20 = .ok (.iaload, 1) := by decide +kernel
theorem dd_Mo_holds_21 : decode cb_Mo_holds 21 = .ok (.if_icmp .ge 52, 3) := by decide +kernel
theorem dd_Mo_holds_24 : decode cb_Mo_holds 24 = .ok (.aload_n 0, 1) := by decide +kernel
theorem dd_Mo_holds_25 : decode cb_Mo_holds 25 = .ok (.getfield 31, 3) := by decide +kernel
theorem dd_Mo_holds_28 : decode cb_Mo_holds 28 = .ok (.bipush 10, 2) := by decide +kernel
theorem dd_Mo_holds_30 : decode cb_Mo_holds 30 = .ok (.aload_n 0, 1) := by decide +kernel
theorem dd_Mo_holds_31 : decode cb_Mo_holds 31 = .ok (.bipush 64, 2) := by decide +kernel
theorem dd_Mo_holds_33 : decode cb_Mo_holds 33 = .ok (.iload_n 2, 1) := by decide +kernel
theorem dd_Mo_holds_34 : decode cb_Mo_holds 34 = .ok (.invokevirtual 76, 3) := by decide +kernel
theorem dd_Mo_holds_37 : decode cb_Mo_holds 37 = .ok (.isub, 1) := by decide +kernel
theorem dd_Mo_holds_38 : decode cb_Mo_holds 38 = .ok (.iconst 1, 1) := by decide +kernel
theorem dd_Mo_holds_39 : decode cb_Mo_holds 39 = .ok (.bastore, 1) := by decide +kernel
theorem dd_Mo_holds_40 : decode cb_Mo_holds 40 = .ok (.iload_n 1, 1) := by decide +kernel
theorem dd_Mo_holds_41 : decode cb_Mo_holds 41 = .ok (.ifCond .ne 20, 3) := by decide +kernel
theorem dd_Mo_holds_44 : decode cb_Mo_holds 44 = .ok (.aload_n 0, 1) := by decide +kernel
theorem dd_Mo_holds_45 : decode cb_Mo_holds 45 = .ok (.bipush 64, 2) := by decide +kernel
theorem dd_Mo_holds_47 : decode cb_Mo_holds 47 = .ok (.aload_n 0, 1) := by decide +kernel
theorem dd_Mo_holds_48 : decode cb_Mo_holds 48 = .ok (.bipush 64, 2) := by decide +kernel
theorem dd_Mo_holds_50 : decode cb_Mo_holds 50 = .ok (.iload_n 2, 1) := by decide +kernel
theorem dd_Mo_holds_51 : decode cb_Mo_holds 51 = .ok (.invokevirtual 76, 3) := by decide +kernel
theorem dd_Mo_holds_54 : decode cb_Mo_holds 54 = .ok (.ineg, 1) := by decide +kernel
theorem dd_Mo_holds_55 : decode cb_Mo_holds 55 = .ok (.invokevirtual 83, 3) := by decide +kernel
theorem dd_Mo_holds_58 : decode cb_Mo_holds 58 = .ok (.ifCond .eq 7, 3) := by decide +kernel
theorem dd_Mo_holds_61 : decode cb_Mo_holds 61 = .ok (.iconst 1, 1) := by decide +kernel
theorem dd_Mo_holds_62 : decode cb_Mo_holds 62 = .ok (.goto 4, 3) := by decide +kernel
theorem dd_Mo_holds_65 : decode cb_Mo_holds 65 = .ok (.iconst 0, 1) := by decide +kernel
theorem dd_Mo_holds_66 : decode cb_Mo_holds 66 = .ok (.istore_n 1, 1) := by decide +kernel
theorem dd_Mo_holds_67 : decode cb_Mo_holds 67 = .ok (.iinc 2 1, 3) := by decide +kernel
theorem dd_Mo_holds_70 : decode cb_Mo_holds 70 = .ok (.goto (-57), 3) := by decide +kernel
theorem dd_Mo_holds_73 : decode cb_Mo_holds 73 = .ok (.iload_n 1, 1) := by decide +kernel
theorem dd_Mo_holds_74 : decode cb_Mo_holds 74 = .ok (.ifCond .eq 5, 3) := by decide +kernel
theorem dd_Mo_holds_77 : decode cb_Mo_holds 77 = .ok (.iconst 1, 1) := by decide +kernel
theorem dd_Mo_holds_78 : decode cb_Mo_holds 78 = .ok (.ireturn, 1) := by decide +kernel
theorem dd_Mo_holds_79 : decode cb_Mo_holds 79 = .ok (.aload_n 0, 1) := by decide +kernel
theorem dd_Mo_holds_80 : decode cb_Mo_holds 80 = .ok (.invokevirtual 156, 3) := by decide +kernel
theorem dd_Mo_holds_83 : decode cb_Mo_holds 83 = .ok (.istore_n 2, 1) := by decide +kernel
theorem dd_Mo_holds_84 : decode cb_Mo_holds 84 = .ok (.iload_n 2, 1) := by decide +kernel
theorem dd_Mo_holds_85 : decode cb_Mo_holds 85 = .ok (.ifCond .eq 13, 3) := by decide +kernel
theorem dd_Mo_holds_88 : decode cb_Mo_holds 88 = .ok (.iload_n 2, 1) := by decide +kernel
theorem dd_Mo_holds_89 : decode cb_Mo_holds 89 = .ok (.ifCond .le 7, 3) := by decide +kernel
theorem dd_Mo_holds_92 : decode cb_Mo_holds 92 = .ok (.iconst 1, 1) := by decide +kernel
theorem dd_Mo_holds_93 : decode cb_Mo_holds 93 = .ok (.goto 4, 3) := by decide +kernel
theorem dd_Mo_holds_96 : decode cb_Mo_holds 96 = .ok (.iconst 0, 1) := by decide +kernel
theorem dd_Mo_holds_97 : decode cb_Mo_holds 97 = .ok (.ireturn, 1) := by decide +kernel
theorem dd_Mo_holds_98 : decode cb_Mo_holds 98 = .ok (.aload_n 0, 1) := by decide +kernel
theorem dd_Mo_holds_99 : decode cb_Mo_holds 99 = .ok (.getfield 19, 3) := by decide +kernel
theorem dd_Mo_holds_102 : decode cb_Mo_holds 102 = .ok (.bipush 64, 2) := by decide +kernel
theorem dd_Mo_holds_104 : decode cb_Mo_holds 104 = .ok (.iaload, 1) := by decide +kernel
theorem dd_Mo_holds_105 : decode cb_Mo_holds 105 = .ok (.ifCond .le 22, 3) := by decide +kernel
theorem dd_Mo_holds_108 : decode cb_Mo_holds 108 = .ok (.aload_n 0, 1) := by decide +kernel
theorem dd_Mo_holds_109 : decode cb_Mo_holds 109 = .ok (.aload_n 0, 1) := by decide +kernel
theorem dd_Mo_holds_110 : decode cb_Mo_holds 110 = .ok (.bipush 64, 2) := by decide +kernel
theorem dd_Mo_holds_112 : decode cb_Mo_holds 112 = .ok (.iconst 0, 1) := by decide +kernel
theorem dd_Mo_holds_113 : decode cb_Mo_holds 113 = .ok (.invokevirtual 76, 3) := by decide +kernel
theorem dd_Mo_holds_116 : decode cb_Mo_holds 116 = .ok (.ineg, 1) := by decide +kernel
theorem dd_Mo_holds_117 : decode cb_Mo_holds 117 = .ok (.invokevirtual 159, 3) := by decide +kernel
theorem dd_Mo_holds_120 : decode cb_Mo_holds 120 = .ok (.ifCond .eq 7, 3) := by decide +kernel
theorem dd_Mo_holds_123 : decode cb_Mo_holds 123 = .ok (.iconst 1, 1) := by decide +kernel
theorem dd_Mo_holds_124 : decode cb_Mo_holds 124 = .ok (.goto 4, 3) := by decide +kernel
theorem dd_Mo_holds_127 : decode cb_Mo_holds 127 = .ok (.iconst 0, 1) := by decide +kernel
theorem dd_Mo_holds_128 : decode cb_Mo_holds 128 = .ok (.ireturn, 1) := by decide +kernel
theorem dd_Mo_groupsHold_0 : decode cb_Mo_groupsHold 0 = .ok (.iconst 0, 1) := by decide +kernel
theorem dd_Mo_groupsHold_1 : decode cb_Mo_groupsHold 1 = .ok (.istore_n 2, 1) := by decide +kernel
theorem dd_Mo_groupsHold_2 : decode cb_Mo_groupsHold 2 = .ok (.iload_n 2, 1) := by decide +kernel
theorem dd_Mo_groupsHold_3 : decode cb_Mo_groupsHold 3 = .ok (.bipush 21, 2) := by decide +kernel
theorem dd_Mo_groupsHold_5 : decode cb_Mo_groupsHold 5 = .ok (.if_icmp .ge 21, 3) := by decide +kernel
theorem dd_Mo_groupsHold_8 : decode cb_Mo_groupsHold 8 = .ok (.aload_n 0, 1) := by decide +kernel
theorem dd_Mo_groupsHold_9 : decode cb_Mo_groupsHold 9 = .ok (.getfield 35, 3) := by decide +kernel
theorem dd_Mo_groupsHold_12 : decode cb_Mo_groupsHold 12 = .ok (.iload_n 2, 1) := by decide +kernel
theorem dd_Mo_groupsHold_13 : decode cb_Mo_groupsHold 13 = .ok (.aload_n 0, 1) := by decide +kernel
theorem dd_Mo_groupsHold_14 : decode cb_Mo_groupsHold 14 = .ok (.getfield 31, 3) := by decide +kernel
theorem dd_Mo_groupsHold_17 : decode cb_Mo_groupsHold 17 = .ok (.iload_n 2, 1) := by decide +kernel
theorem dd_Mo_groupsHold_18 : decode cb_Mo_groupsHold 18 = .ok (.baload, 1) := by decide +kernel
theorem dd_Mo_groupsHold_19 : decode cb_Mo_groupsHold 19 = .ok (.bastore, 1) := by decide +kernel
theorem dd_Mo_groupsHold_20 : decode cb_Mo_groupsHold 20 = .ok (.iinc 2 1, 3) := by decide +kernel
theorem dd_Mo_groupsHold_23 : decode cb_Mo_groupsHold 23 = .ok (.goto (-21), 3) := by decide +kernel
theorem dd_Mo_groupsHold_26 : decode cb_Mo_groupsHold 26 = .ok (.iconst 0, 1) := by decide +kernel
theorem dd_Mo_groupsHold_27 : decode cb_Mo_groupsHold 27 = .ok (.istore_n 2, 1) := by decide +kernel
theorem dd_Mo_groupsHold_28 : decode cb_Mo_groupsHold 28 = .ok (.iload_n 2, 1) := by decide +kernel
theorem dd_Mo_groupsHold_29 : decode cb_Mo_groupsHold 29 = .ok (.aload_n 0, 1) := by decide +kernel
theorem dd_Mo_groupsHold_30 : decode cb_Mo_groupsHold 30 = .ok (.getfield 104, 3) := by decide +kernel
theorem dd_Mo_groupsHold_33 : decode cb_Mo_groupsHold 33 = .ok (.if_icmp .ge 121, 3) := by decide +kernel
theorem dd_Mo_groupsHold_36 : decode cb_Mo_groupsHold 36 = .ok (.aload_n 0, 1) := by decide +kernel
theorem dd_Mo_groupsHold_37 : decode cb_Mo_groupsHold 37 = .ok (.bipush 24, 2) := by decide +kernel
theorem dd_Mo_groupsHold_39 : decode cb_Mo_groupsHold 39 = .ok (.iload_n 2, 1) := by decide +kernel
theorem dd_Mo_groupsHold_40 : decode cb_Mo_groupsHold 40 = .ok (.iadd, 1) := by decide +kernel
theorem dd_Mo_groupsHold_41 : decode cb_Mo_groupsHold 41 = .ok (.iload_n 1, 1) := by decide +kernel
theorem dd_Mo_groupsHold_42 : decode cb_Mo_groupsHold 42 = .ok (.invokevirtual 83, 3) := by decide +kernel
theorem dd_Mo_groupsHold_45 : decode cb_Mo_groupsHold 45 = .ok (.ifCond .eq 103, 3) := by decide +kernel
theorem dd_Mo_groupsHold_48 : decode cb_Mo_groupsHold 48 = .ok (.aload_n 0, 1) := by decide +kernel
theorem dd_Mo_groupsHold_49 : decode cb_Mo_groupsHold 49 = .ok (.getfield 153, 3) := by decide +kernel
theorem dd_Mo_groupsHold_52 : decode cb_Mo_groupsHold 52 = .ok (.aload_n 0, 1) := by decide +kernel
theorem dd_Mo_groupsHold_53 : decode cb_Mo_groupsHold 53 = .ok (.getfield 136, 3) := by decide +kernel
theorem dd_Mo_groupsHold_56 : decode cb_Mo_groupsHold 56 = .ok (.if_icmp .ge 22, 3) := by decide +kernel
theorem dd_Mo_groupsHold_59 : decode cb_Mo_groupsHold 59 = .ok (.aload_n 0, 1) := by decide +kernel
theorem dd_Mo_groupsHold_60 : decode cb_Mo_groupsHold 60 = .ok (.getfield 28, 3) := by decide +kernel
theorem dd_Mo_groupsHold_63 : decode cb_Mo_groupsHold 63 = .ok (.aload_n 0, 1) := by decide +kernel
theorem dd_Mo_groupsHold_64 : decode cb_Mo_groupsHold 64 = .ok (.getfield 153, 3) := by decide +kernel
theorem dd_Mo_groupsHold_67 : decode cb_Mo_groupsHold 67 = .ok (.iaload, 1) := by decide +kernel
theorem dd_Mo_groupsHold_68 : decode cb_Mo_groupsHold 68 = .ok (.aload_n 0, 1) := by decide +kernel
theorem dd_Mo_groupsHold_69 : decode cb_Mo_groupsHold 69 = .ok (.getfield 25, 3) := by decide +kernel
theorem dd_Mo_groupsHold_72 : decode cb_Mo_groupsHold 72 = .ok (.iload_n 2, 1) := by decide +kernel
theorem dd_Mo_groupsHold_73 : decode cb_Mo_groupsHold 73 = .ok (.iaload, 1) := by decide +kernel
theorem dd_Mo_groupsHold_74 : decode cb_Mo_groupsHold 74 = .ok (.ineg, 1) := by decide +kernel
theorem dd_Mo_groupsHold_75 : decode cb_Mo_groupsHold 75 = .ok (.if_icmp .eq 5, 3) := by decide +kernel
theorem dd_Mo_groupsHold_78 : decode cb_Mo_groupsHold 78 = .ok (.iconst 0, 1) := by decide +kernel
theorem dd_Mo_groupsHold_79 : decode cb_Mo_groupsHold 79 = .ok (.ireturn, 1) := by decide +kernel
theorem dd_Mo_groupsHold_80 : decode cb_Mo_groupsHold 80 = .ok (.aload_n 0, 1) := by decide +kernel
theorem dd_Mo_groupsHold_81 : decode cb_Mo_groupsHold 81 = .ok (.aload_n 0, 1) := by decide +kernel
theorem dd_Mo_groupsHold_82 : decode cb_Mo_groupsHold 82 = .ok (.getfield 153, 3) := by decide +kernel
theorem dd_Mo_groupsHold_85 : decode cb_Mo_groupsHold 85 = .ok (.iconst 1, 1) := by decide +kernel
theorem dd_Mo_groupsHold_86 : decode cb_Mo_groupsHold 86 = .ok (.iadd, 1) := by decide +kernel
theorem dd_Mo_groupsHold_87 : decode cb_Mo_groupsHold 87 = .ok (.putfield 153, 3) := by decide +kernel
theorem dd_Mo_groupsHold_90 : decode cb_Mo_groupsHold 90 = .ok (.aload_n 0, 1) := by decide +kernel
theorem dd_Mo_groupsHold_91 : decode cb_Mo_groupsHold 91 = .ok (.bipush 24, 2) := by decide +kernel
theorem dd_Mo_groupsHold_93 : decode cb_Mo_groupsHold 93 = .ok (.iload_n 2, 1) := by decide +kernel
theorem dd_Mo_groupsHold_94 : decode cb_Mo_groupsHold 94 = .ok (.iadd, 1) := by decide +kernel
theorem dd_Mo_groupsHold_95 : decode cb_Mo_groupsHold 95 = .ok (.iload_n 1, 1) := by decide +kernel
theorem dd_Mo_groupsHold_96 : decode cb_Mo_groupsHold 96 = .ok (.invokevirtual 162, 3) := by decide +kernel
theorem dd_Mo_groupsHold_99 : decode cb_Mo_groupsHold 99 = .ok (.ifCond .eq 39, 3) := by decide +kernel
theorem dd_Mo_groupsHold_102 : decode cb_Mo_groupsHold 102 = .ok (.aload_n 0, 1) := by decide +kernel
theorem dd_Mo_groupsHold_103 : decode cb_Mo_groupsHold 103 = .ok (.getfield 153, 3) := by decide +kernel
theorem dd_Mo_groupsHold_106 : decode cb_Mo_groupsHold 106 = .ok (.aload_n 0, 1) := by decide +kernel
theorem dd_Mo_groupsHold_107 : decode cb_Mo_groupsHold 107 = .ok (.getfield 136, 3) := by decide +kernel
theorem dd_Mo_groupsHold_110 : decode cb_Mo_groupsHold 110 = .ok (.if_icmp .ge 38, 3) := by decide +kernel
theorem dd_Mo_groupsHold_113 : decode cb_Mo_groupsHold 113 = .ok (.aload_n 0, 1) := by decide +kernel
theorem dd_Mo_groupsHold_114 : decode cb_Mo_groupsHold 114 = .ok (.getfield 28, 3) := by decide +kernel
theorem dd_Mo_groupsHold_117 : decode cb_Mo_groupsHold 117 = .ok (.aload_n 0, 1) := by decide +kernel
theorem dd_Mo_groupsHold_118 : decode cb_Mo_groupsHold 118 = .ok (.getfield 153, 3) := by decide +kernel
theorem dd_Mo_groupsHold_121 : decode cb_Mo_groupsHold 121 = .ok (.iaload, 1) := by decide +kernel
theorem dd_Mo_groupsHold_122 : decode cb_Mo_groupsHold 122 = .ok (.ifCond .le 26, 3) := by decide +kernel
theorem dd_Mo_groupsHold_125 : decode cb_Mo_groupsHold 125 = .ok (.aload_n 0, 1) := by decide +kernel
theorem dd_Mo_groupsHold_126 : decode cb_Mo_groupsHold 126 = .ok (.aload_n 0, 1) := by decide +kernel
theorem dd_Mo_groupsHold_127 : decode cb_Mo_groupsHold 127 = .ok (.getfield 153, 3) := by decide +kernel
theorem dd_Mo_groupsHold_130 : decode cb_Mo_groupsHold 130 = .ok (.iconst 1, 1) := by decide +kernel
theorem dd_Mo_groupsHold_131 : decode cb_Mo_groupsHold 131 = .ok (.iadd, 1) := by decide +kernel
theorem dd_Mo_groupsHold_132 : decode cb_Mo_groupsHold 132 = .ok (.putfield 153, 3) := by decide +kernel
theorem dd_Mo_groupsHold_135 : decode cb_Mo_groupsHold 135 = .ok (.goto (-33), 3) := by decide +kernel
theorem dd_Mo_groupsHold_138 : decode cb_Mo_groupsHold 138 = .ok (.aload_n 0, 1) := by decide +kernel
theorem dd_Mo_groupsHold_139 : decode cb_Mo_groupsHold 139 = .ok (.invokevirtual 156, 3) := by decide +kernel
theorem dd_Mo_groupsHold_142 : decode cb_Mo_groupsHold 142 = .ok (.iconst 1, 1) := by decide +kernel
theorem dd_Mo_groupsHold_143 : decode cb_Mo_groupsHold 143 = .ok (.if_icmp .eq 5, 3) := by decide +kernel
theorem dd_Mo_groupsHold_146 : decode cb_Mo_groupsHold 146 = .ok (.iconst 0, 1) := by decide +kernel
theorem dd_Mo_groupsHold_147 : decode cb_Mo_groupsHold 147 = .ok (.ireturn, 1) := by decide +kernel
theorem dd_Mo_groupsHold_148 : decode cb_Mo_groupsHold 148 = .ok (.iinc 2 1, 3) := by decide +kernel
theorem dd_Mo_groupsHold_151 : decode cb_Mo_groupsHold 151 = .ok (.goto (-123), 3) := by decide +kernel
theorem dd_Mo_groupsHold_154 : decode cb_Mo_groupsHold 154 = .ok (.aload_n 0, 1) := by decide +kernel
theorem dd_Mo_groupsHold_155 : decode cb_Mo_groupsHold 155 = .ok (.getfield 153, 3) := by decide +kernel
theorem dd_Mo_groupsHold_158 : decode cb_Mo_groupsHold 158 = .ok (.aload_n 0, 1) := by decide +kernel
theorem dd_Mo_groupsHold_159 : decode cb_Mo_groupsHold 159 = .ok (.getfield 136, 3) := by decide +kernel
theorem dd_Mo_groupsHold_162 : decode cb_Mo_groupsHold 162 = .ok (.if_icmp .lt 7, 3) := by decide +kernel
theorem dd_Mo_groupsHold_165 : decode cb_Mo_groupsHold 165 = .ok (.iconst 1, 1) := by decide +kernel
theorem dd_Mo_groupsHold_166 : decode cb_Mo_groupsHold 166 = .ok (.goto 4, 3) := by decide +kernel
theorem dd_Mo_groupsHold_169 : decode cb_Mo_groupsHold 169 = .ok (.iconst 0, 1) := by decide +kernel
theorem dd_Mo_groupsHold_170 : decode cb_Mo_groupsHold 170 = .ok (.ireturn, 1) := by decide +kernel
theorem dd_Mo_suppose_0 : decode cb_Mo_suppose 0 = .ok (.iconst 0, 1) := by decide +kernel
theorem dd_Mo_suppose_1 : decode cb_Mo_suppose 1 = .ok (.istore_n 3, 1) := by decide +kernel
theorem dd_Mo_suppose_2 : decode cb_Mo_suppose 2 = .ok (.iconst 0, 1) := by decide +kernel
theorem dd_Mo_suppose_3 : decode cb_Mo_suppose 3 = .ok (.istore 4, 2) := by decide +kernel
theorem dd_Mo_suppose_5 : decode cb_Mo_suppose 5 = .ok (.iload 4, 2) := by decide +kernel
theorem dd_Mo_suppose_7 : decode cb_Mo_suppose 7 = .ok (.bipush 21, 2) := by decide +kernel
theorem dd_Mo_suppose_9 : decode cb_Mo_suppose 9 = .ok (.if_icmp .ge 23, 3) := by decide +kernel
theorem dd_Mo_suppose_12 : decode cb_Mo_suppose 12 = .ok (.aload_n 0, 1) := by decide +kernel
theorem dd_Mo_suppose_13 : decode cb_Mo_suppose 13 = .ok (.getfield 31, 3) := by decide +kernel
theorem dd_Mo_suppose_16 : decode cb_Mo_suppose 16 = .ok (.iload 4, 2) := by decide +kernel
theorem dd_Mo_suppose_18 : decode cb_Mo_suppose 18 = .ok (.aload_n 0, 1) := by decide +kernel
theorem dd_Mo_suppose_19 : decode cb_Mo_suppose 19 = .ok (.getfield 35, 3) := by decide +kernel
theorem dd_Mo_suppose_22 : decode cb_Mo_suppose 22 = .ok (.iload 4, 2) := by decide +kernel
theorem dd_Mo_suppose_24 : decode cb_Mo_suppose 24 = .ok (.baload, 1) := by decide +kernel
theorem dd_Mo_suppose_25 : decode cb_Mo_suppose 25 = .ok (.bastore, 1) := by decide +kernel
theorem dd_Mo_suppose_26 : decode cb_Mo_suppose 26 = .ok (.iinc 4 1, 3) := by decide +kernel
theorem dd_Mo_suppose_29 : decode cb_Mo_suppose 29 = .ok (.goto (-24), 3) := by decide +kernel
theorem dd_Mo_suppose_32 : decode cb_Mo_suppose 32 = .ok (.iconst 0, 1) := by decide +kernel
theorem dd_Mo_suppose_33 : decode cb_Mo_suppose 33 = .ok (.istore 4, 2) := by decide +kernel
theorem dd_Mo_suppose_35 : decode cb_Mo_suppose 35 = .ok (.iload 4, 2) := by decide +kernel
theorem dd_Mo_suppose_37 : decode cb_Mo_suppose 37 = .ok (.aload_n 0, 1) := by decide +kernel
theorem dd_Mo_suppose_38 : decode cb_Mo_suppose 38 = .ok (.getfield 19, 3) := by decide +kernel
theorem dd_Mo_suppose_41 : decode cb_Mo_suppose 41 = .ok (.iload_n 1, 1) := by decide +kernel
theorem dd_Mo_suppose_42 : decode cb_Mo_suppose 42 = .ok (.iaload, 1) := by decide +kernel
theorem dd_Mo_suppose_43 : decode cb_Mo_suppose 43 = .ok (.if_icmp .ge 48, 3) := by decide +kernel
theorem dd_Mo_suppose_46 : decode cb_Mo_suppose 46 = .ok (.iload_n 3, 1) := by decide +kernel
theorem dd_Mo_suppose_47 : decode cb_Mo_suppose 47 = .ok (.ifCond .ne 32, 3) := by decide +kernel
theorem dd_Mo_suppose_50 : decode cb_Mo_suppose 50 = .ok (.aload_n 0, 1) := by decide +kernel
theorem dd_Mo_suppose_51 : decode cb_Mo_suppose 51 = .ok (.iload_n 1, 1) := by decide +kernel
theorem dd_Mo_suppose_52 : decode cb_Mo_suppose 52 = .ok (.iload 4, 2) := by decide +kernel
theorem dd_Mo_suppose_54 : decode cb_Mo_suppose 54 = .ok (.invokevirtual 76, 3) := by decide +kernel
theorem dd_Mo_suppose_57 : decode cb_Mo_suppose 57 = .ok (.iload_n 2, 1) := by decide +kernel
theorem dd_Mo_suppose_58 : decode cb_Mo_suppose 58 = .ok (.if_icmp .eq 25, 3) := by decide +kernel
theorem dd_Mo_suppose_61 : decode cb_Mo_suppose 61 = .ok (.aload_n 0, 1) := by decide +kernel
theorem dd_Mo_suppose_62 : decode cb_Mo_suppose 62 = .ok (.getfield 31, 3) := by decide +kernel
theorem dd_Mo_suppose_65 : decode cb_Mo_suppose 65 = .ok (.bipush 10, 2) := by decide +kernel
theorem dd_Mo_suppose_67 : decode cb_Mo_suppose 67 = .ok (.aload_n 0, 1) := by decide +kernel
theorem dd_Mo_suppose_68 : decode cb_Mo_suppose 68 = .ok (.iload_n 1, 1) := by decide +kernel
theorem dd_Mo_suppose_69 : decode cb_Mo_suppose 69 = .ok (.iload 4, 2) := by decide +kernel
theorem dd_Mo_suppose_71 : decode cb_Mo_suppose 71 = .ok (.invokevirtual 76, 3) := by decide +kernel
theorem dd_Mo_suppose_74 : decode cb_Mo_suppose 74 = .ok (.iadd, 1) := by decide +kernel
theorem dd_Mo_suppose_75 : decode cb_Mo_suppose 75 = .ok (.baload, 1) := by decide +kernel
theorem dd_Mo_suppose_76 : decode cb_Mo_suppose 76 = .ok (.ifCond .eq 7, 3) := by decide +kernel
theorem dd_Mo_suppose_79 : decode cb_Mo_suppose 79 = .ok (.iconst 1, 1) := by decide +kernel
theorem dd_Mo_suppose_80 : decode cb_Mo_suppose 80 = .ok (.goto 4, 3) := by decide +kernel
theorem dd_Mo_suppose_83 : decode cb_Mo_suppose 83 = .ok (.iconst 0, 1) := by decide +kernel
theorem dd_Mo_suppose_84 : decode cb_Mo_suppose 84 = .ok (.istore_n 3, 1) := by decide +kernel
theorem dd_Mo_suppose_85 : decode cb_Mo_suppose 85 = .ok (.iinc 4 1, 3) := by decide +kernel
theorem dd_Mo_suppose_88 : decode cb_Mo_suppose 88 = .ok (.goto (-53), 3) := by decide +kernel
theorem dd_Mo_suppose_91 : decode cb_Mo_suppose 91 = .ok (.iconst 0, 1) := by decide +kernel
theorem dd_Mo_suppose_92 : decode cb_Mo_suppose 92 = .ok (.istore 4, 2) := by decide +kernel
theorem dd_Mo_suppose_94 : decode cb_Mo_suppose 94 = .ok (.iload 4, 2) := by decide +kernel
theorem dd_Mo_suppose_96 : decode cb_Mo_suppose 96 = .ok (.aload_n 0, 1) := by decide +kernel
theorem dd_Mo_suppose_97 : decode cb_Mo_suppose 97 = .ok (.getfield 19, 3) := by decide +kernel
theorem dd_Mo_suppose_100 : decode cb_Mo_suppose 100 = .ok (.iload_n 1, 1) := by decide +kernel
theorem dd_Mo_suppose_101 : decode cb_Mo_suppose 101 = .ok (.iaload, 1) := by decide +kernel
theorem dd_Mo_suppose_102 : decode cb_Mo_suppose 102 = .ok (.if_icmp .ge 40, 3) := by decide +kernel
theorem dd_Mo_suppose_105 : decode cb_Mo_suppose 105 = .ok (.iload_n 3, 1) := by decide +kernel
theorem dd_Mo_suppose_106 : decode cb_Mo_suppose 106 = .ok (.ifCond .ne 36, 3) := by decide +kernel
theorem dd_Mo_suppose_109 : decode cb_Mo_suppose 109 = .ok (.aload_n 0, 1) := by decide +kernel
theorem dd_Mo_suppose_110 : decode cb_Mo_suppose 110 = .ok (.iload_n 1, 1) := by decide +kernel
theorem dd_Mo_suppose_111 : decode cb_Mo_suppose 111 = .ok (.iload 4, 2) := by decide +kernel
theorem dd_Mo_suppose_113 : decode cb_Mo_suppose 113 = .ok (.invokevirtual 76, 3) := by decide +kernel
theorem dd_Mo_suppose_116 : decode cb_Mo_suppose 116 = .ok (.iload_n 2, 1) := by decide +kernel
theorem dd_Mo_suppose_117 : decode cb_Mo_suppose 117 = .ok (.if_icmp .eq 19, 3) := by decide +kernel
theorem dd_Mo_suppose_120 : decode cb_Mo_suppose 120 = .ok (.aload_n 0, 1) := by decide +kernel
theorem dd_Mo_suppose_121 : decode cb_Mo_suppose 121 = .ok (.getfield 31, 3) := by decide +kernel
theorem dd_Mo_suppose_124 : decode cb_Mo_suppose 124 = .ok (.bipush 10, 2) := by decide +kernel
theorem dd_Mo_suppose_126 : decode cb_Mo_suppose 126 = .ok (.aload_n 0, 1) := by decide +kernel
theorem dd_Mo_suppose_127 : decode cb_Mo_suppose 127 = .ok (.iload_n 1, 1) := by decide +kernel
theorem dd_Mo_suppose_128 : decode cb_Mo_suppose 128 = .ok (.iload 4, 2) := by decide +kernel
theorem dd_Mo_suppose_130 : decode cb_Mo_suppose 130 = .ok (.invokevirtual 76, 3) := by decide +kernel
theorem dd_Mo_suppose_133 : decode cb_Mo_suppose 133 = .ok (.isub, 1) := by decide +kernel
theorem dd_Mo_suppose_134 : decode cb_Mo_suppose 134 = .ok (.iconst 1, 1) := by decide +kernel
theorem dd_Mo_suppose_135 : decode cb_Mo_suppose 135 = .ok (.bastore, 1) := by decide +kernel
theorem dd_Mo_suppose_136 : decode cb_Mo_suppose 136 = .ok (.iinc 4 1, 3) := by decide +kernel
theorem dd_Mo_suppose_139 : decode cb_Mo_suppose 139 = .ok (.goto (-45), 3) := by decide +kernel
theorem dd_Mo_suppose_142 : decode cb_Mo_suppose 142 = .ok (.iload_n 3, 1) := by decide +kernel
theorem dd_Mo_suppose_143 : decode cb_Mo_suppose 143 = .ok (.ireturn, 1) := by decide +kernel
theorem dd_Mo_refuted_0 : decode cb_Mo_refuted 0 = .ok (.aload_n 0, 1) := by decide +kernel
theorem dd_Mo_refuted_1 : decode cb_Mo_refuted 1 = .ok (.getfield 110, 3) := by decide +kernel
theorem dd_Mo_refuted_4 : decode cb_Mo_refuted 4 = .ok (.ireturn, 1) := by decide +kernel
theorem dd_La_law_0 : decode cb_La_law 0 = .ok (.new 7, 3) := by decide +kernel
theorem dd_La_law_3 : decode cb_La_law 3 = .ok (.dup, 1) := by decide +kernel
theorem dd_La_law_4 : decode cb_La_law 4 = .ok (.invokespecial 9, 3) := by decide +kernel
theorem dd_La_law_7 : decode cb_La_law 7 = .ok (.astore_n 1, 1) := by decide +kernel
theorem dd_La_law_8 : decode cb_La_law 8 = .ok (.new 10, 3) := by decide +kernel
theorem dd_La_law_11 : decode cb_La_law 11 = .ok (.dup, 1) := by decide +kernel
theorem dd_La_law_12 : decode cb_La_law 12 = .ok (.invokespecial 12, 3) := by decide +kernel
theorem dd_La_law_15 : decode cb_La_law 15 = .ok (.astore_n 2, 1) := by decide +kernel
theorem dd_La_law_16 : decode cb_La_law 16 = .ok (.iconst 0, 1) := by decide +kernel
theorem dd_La_law_17 : decode cb_La_law 17 = .ok (.istore_n 3, 1) := by decide +kernel
theorem dd_La_law_18 : decode cb_La_law 18 = .ok (.iload_n 3, 1) := by decide +kernel
theorem dd_La_law_19 : decode cb_La_law 19 = .ok (.aload_n 0, 1) := by decide +kernel
theorem dd_La_law_20 : decode cb_La_law 20 = .ok (.arraylength, 1) := by decide +kernel
theorem dd_La_law_21 : decode cb_La_law 21 = .ok (.iconst 3, 1) := by decide +kernel
theorem dd_La_law_22 : decode cb_La_law 22 = .ok (.isub, 1) := by decide +kernel
theorem dd_La_law_23 : decode cb_La_law 23 = .ok (.if_icmp .gt 305, 3) := by decide +kernel
theorem dd_La_law_26 : decode cb_La_law 26 = .ok (.aload_n 0, 1) := by decide +kernel
theorem dd_La_law_27 : decode cb_La_law 27 = .ok (.iload_n 3, 1) := by decide +kernel
theorem dd_La_law_28 : decode cb_La_law 28 = .ok (.iaload, 1) := by decide +kernel
theorem dd_La_law_29 : decode cb_La_law 29 = .ok (.bipush 15, 2) := by decide +kernel
theorem dd_La_law_31 : decode cb_La_law 31 = .ok (.iand, 1) := by decide +kernel
theorem dd_La_law_32 : decode cb_La_law 32 = .ok (.tableswitch 290 0 11 #[64, 97, 110, 123, 136, 169, 182, 205, 218, 251, 264, 277], 64) := by decide +kernel
theorem dd_La_law_96 : decode cb_La_law 96 = .ok (.aload_n 1, 1) := by decide +kernel
theorem dd_La_law_97 : decode cb_La_law 97 = .ok (.aload_n 0, 1) := by decide +kernel
theorem dd_La_law_98 : decode cb_La_law 98 = .ok (.iload_n 3, 1) := by decide +kernel
theorem dd_La_law_99 : decode cb_La_law 99 = .ok (.iconst 1, 1) := by decide +kernel
theorem dd_La_law_100 : decode cb_La_law 100 = .ok (.iadd, 1) := by decide +kernel
theorem dd_La_law_101 : decode cb_La_law 101 = .ok (.iaload, 1) := by decide +kernel
theorem dd_La_law_102 : decode cb_La_law 102 = .ok (.aload_n 0, 1) := by decide +kernel
theorem dd_La_law_103 : decode cb_La_law 103 = .ok (.iload_n 3, 1) := by decide +kernel
theorem dd_La_law_104 : decode cb_La_law 104 = .ok (.iconst 2, 1) := by decide +kernel
theorem dd_La_law_105 : decode cb_La_law 105 = .ok (.iadd, 1) := by decide +kernel
theorem dd_La_law_106 : decode cb_La_law 106 = .ok (.iaload, 1) := by decide +kernel
theorem dd_La_law_107 : decode cb_La_law 107 = .ok (.invokevirtual 13, 3) := by decide +kernel
theorem dd_La_law_110 : decode cb_La_law 110 = .ok (.pop, 1) := by decide +kernel
theorem dd_La_law_111 : decode cb_La_law 111 = .ok (.aload_n 2, 1) := by decide +kernel
theorem dd_La_law_112 : decode cb_La_law 112 = .ok (.aload_n 0, 1) := by decide +kernel
theorem dd_La_law_113 : decode cb_La_law 113 = .ok (.iload_n 3, 1) := by decide +kernel
theorem dd_La_law_114 : decode cb_La_law 114 = .ok (.iconst 1, 1) := by decide +kernel
theorem dd_La_law_115 : decode cb_La_law 115 = .ok (.iadd, 1) := by decide +kernel
theorem dd_La_law_116 : decode cb_La_law 116 = .ok (.iaload, 1) := by decide +kernel
theorem dd_La_law_117 : decode cb_La_law 117 = .ok (.aload_n 0, 1) := by decide +kernel
theorem dd_La_law_118 : decode cb_La_law 118 = .ok (.iload_n 3, 1) := by decide +kernel
theorem dd_La_law_119 : decode cb_La_law 119 = .ok (.iconst 2, 1) := by decide +kernel
theorem dd_La_law_120 : decode cb_La_law 120 = .ok (.iadd, 1) := by decide +kernel
theorem dd_La_law_121 : decode cb_La_law 121 = .ok (.iaload, 1) := by decide +kernel
theorem dd_La_law_122 : decode cb_La_law 122 = .ok (.invokevirtual 17, 3) := by decide +kernel
theorem dd_La_law_125 : decode cb_La_law 125 = .ok (.pop, 1) := by decide +kernel
theorem dd_La_law_126 : decode cb_La_law 126 = .ok (.goto 196, 3) := by decide +kernel
theorem dd_La_law_129 : decode cb_La_law 129 = .ok (.aload_n 1, 1) := by decide +kernel
theorem dd_La_law_130 : decode cb_La_law 130 = .ok (.invokevirtual 18, 3) := by decide +kernel
theorem dd_La_law_133 : decode cb_La_law 133 = .ok (.pop, 1) := by decide +kernel
theorem dd_La_law_134 : decode cb_La_law 134 = .ok (.aload_n 2, 1) := by decide +kernel
theorem dd_La_law_135 : decode cb_La_law 135 = .ok (.invokevirtual 22, 3) := by decide +kernel
theorem dd_La_law_138 : decode cb_La_law 138 = .ok (.pop, 1) := by decide +kernel
theorem dd_La_law_139 : decode cb_La_law 139 = .ok (.goto 183, 3) := by decide +kernel
theorem dd_La_law_142 : decode cb_La_law 142 = .ok (.aload_n 1, 1) := by decide +kernel
theorem dd_La_law_143 : decode cb_La_law 143 = .ok (.invokevirtual 23, 3) := by decide +kernel
theorem dd_La_law_146 : decode cb_La_law 146 = .ok (.pop, 1) := by decide +kernel
theorem dd_La_law_147 : decode cb_La_law 147 = .ok (.aload_n 2, 1) := by decide +kernel
theorem dd_La_law_148 : decode cb_La_law 148 = .ok (.invokevirtual 26, 3) := by decide +kernel
theorem dd_La_law_151 : decode cb_La_law 151 = .ok (.pop, 1) := by decide +kernel
theorem dd_La_law_152 : decode cb_La_law 152 = .ok (.goto 170, 3) := by decide +kernel
theorem dd_La_law_155 : decode cb_La_law 155 = .ok (.aload_n 1, 1) := by decide +kernel
theorem dd_La_law_156 : decode cb_La_law 156 = .ok (.invokevirtual 27, 3) := by decide +kernel
theorem dd_La_law_159 : decode cb_La_law 159 = .ok (.pop, 1) := by decide +kernel
theorem dd_La_law_160 : decode cb_La_law 160 = .ok (.aload_n 2, 1) := by decide +kernel
theorem dd_La_law_161 : decode cb_La_law 161 = .ok (.invokevirtual 30, 3) := by decide +kernel
theorem dd_La_law_164 : decode cb_La_law 164 = .ok (.pop, 1) := by decide +kernel
theorem dd_La_law_165 : decode cb_La_law 165 = .ok (.goto 157, 3) := by decide +kernel
theorem dd_La_law_168 : decode cb_La_law 168 = .ok (.aload_n 1, 1) := by decide +kernel
theorem dd_La_law_169 : decode cb_La_law 169 = .ok (.aload_n 0, 1) := by decide +kernel
theorem dd_La_law_170 : decode cb_La_law 170 = .ok (.iload_n 3, 1) := by decide +kernel
theorem dd_La_law_171 : decode cb_La_law 171 = .ok (.iconst 1, 1) := by decide +kernel
theorem dd_La_law_172 : decode cb_La_law 172 = .ok (.iadd, 1) := by decide +kernel
theorem dd_La_law_173 : decode cb_La_law 173 = .ok (.iaload, 1) := by decide +kernel
theorem dd_La_law_174 : decode cb_La_law 174 = .ok (.aload_n 0, 1) := by decide +kernel
theorem dd_La_law_175 : decode cb_La_law 175 = .ok (.iload_n 3, 1) := by decide +kernel
theorem dd_La_law_176 : decode cb_La_law 176 = .ok (.iconst 2, 1) := by decide +kernel
theorem dd_La_law_177 : decode cb_La_law 177 = .ok (.iadd, 1) := by decide +kernel
theorem dd_La_law_178 : decode cb_La_law 178 = .ok (.iaload, 1) := by decide +kernel
theorem dd_La_law_179 : decode cb_La_law 179 = .ok (.invokevirtual 31, 3) := by decide +kernel
theorem dd_La_law_182 : decode cb_La_law 182 = .ok (.pop, 1) := by decide +kernel
theorem dd_La_law_183 : decode cb_La_law 183 = .ok (.aload_n 2, 1) := by decide +kernel
theorem dd_La_law_184 : decode cb_La_law 184 = .ok (.aload_n 0, 1) := by decide +kernel
theorem dd_La_law_185 : decode cb_La_law 185 = .ok (.iload_n 3, 1) := by decide +kernel
theorem dd_La_law_186 : decode cb_La_law 186 = .ok (.iconst 1, 1) := by decide +kernel
theorem dd_La_law_187 : decode cb_La_law 187 = .ok (.iadd, 1) := by decide +kernel
theorem dd_La_law_188 : decode cb_La_law 188 = .ok (.iaload, 1) := by decide +kernel
theorem dd_La_law_189 : decode cb_La_law 189 = .ok (.aload_n 0, 1) := by decide +kernel
theorem dd_La_law_190 : decode cb_La_law 190 = .ok (.iload_n 3, 1) := by decide +kernel
theorem dd_La_law_191 : decode cb_La_law 191 = .ok (.iconst 2, 1) := by decide +kernel
theorem dd_La_law_192 : decode cb_La_law 192 = .ok (.iadd, 1) := by decide +kernel
theorem dd_La_law_193 : decode cb_La_law 193 = .ok (.iaload, 1) := by decide +kernel
theorem dd_La_law_194 : decode cb_La_law 194 = .ok (.invokevirtual 35, 3) := by decide +kernel
theorem dd_La_law_197 : decode cb_La_law 197 = .ok (.pop, 1) := by decide +kernel
theorem dd_La_law_198 : decode cb_La_law 198 = .ok (.goto 124, 3) := by decide +kernel
theorem dd_La_law_201 : decode cb_La_law 201 = .ok (.aload_n 1, 1) := by decide +kernel
theorem dd_La_law_202 : decode cb_La_law 202 = .ok (.invokevirtual 36, 3) := by decide +kernel
theorem dd_La_law_205 : decode cb_La_law 205 = .ok (.pop, 1) := by decide +kernel
theorem dd_La_law_206 : decode cb_La_law 206 = .ok (.aload_n 2, 1) := by decide +kernel
theorem dd_La_law_207 : decode cb_La_law 207 = .ok (.invokevirtual 39, 3) := by decide +kernel
theorem dd_La_law_210 : decode cb_La_law 210 = .ok (.pop, 1) := by decide +kernel
theorem dd_La_law_211 : decode cb_La_law 211 = .ok (.goto 111, 3) := by decide +kernel
theorem dd_La_law_214 : decode cb_La_law 214 = .ok (.aload_n 1, 1) := by decide +kernel
theorem dd_La_law_215 : decode cb_La_law 215 = .ok (.aload_n 0, 1) := by decide +kernel
theorem dd_La_law_216 : decode cb_La_law 216 = .ok (.iload_n 3, 1) := by decide +kernel
theorem dd_La_law_217 : decode cb_La_law 217 = .ok (.iconst 1, 1) := by decide +kernel
theorem dd_La_law_218 : decode cb_La_law 218 = .ok (.iadd, 1) := by decide +kernel
theorem dd_La_law_219 : decode cb_La_law 219 = .ok (.iaload, 1) := by decide +kernel
theorem dd_La_law_220 : decode cb_La_law 220 = .ok (.invokevirtual 40, 3) := by decide +kernel
theorem dd_La_law_223 : decode cb_La_law 223 = .ok (.pop, 1) := by decide +kernel
theorem dd_La_law_224 : decode cb_La_law 224 = .ok (.aload_n 2, 1) := by decide +kernel
theorem dd_La_law_225 : decode cb_La_law 225 = .ok (.aload_n 0, 1) := by decide +kernel
theorem dd_La_law_226 : decode cb_La_law 226 = .ok (.iload_n 3, 1) := by decide +kernel
theorem dd_La_law_227 : decode cb_La_law 227 = .ok (.iconst 1, 1) := by decide +kernel
theorem dd_La_law_228 : decode cb_La_law 228 = .ok (.iadd, 1) := by decide +kernel
theorem dd_La_law_229 : decode cb_La_law 229 = .ok (.iaload, 1) := by decide +kernel
theorem dd_La_law_230 : decode cb_La_law 230 = .ok (.invokevirtual 44, 3) := by decide +kernel
theorem dd_La_law_233 : decode cb_La_law 233 = .ok (.pop, 1) := by decide +kernel
theorem dd_La_law_234 : decode cb_La_law 234 = .ok (.goto 88, 3) := by decide +kernel
theorem dd_La_law_237 : decode cb_La_law 237 = .ok (.aload_n 1, 1) := by decide +kernel
theorem dd_La_law_238 : decode cb_La_law 238 = .ok (.invokevirtual 45, 3) := by decide +kernel
theorem dd_La_law_241 : decode cb_La_law 241 = .ok (.pop, 1) := by decide +kernel
theorem dd_La_law_242 : decode cb_La_law 242 = .ok (.aload_n 2, 1) := by decide +kernel
theorem dd_La_law_243 : decode cb_La_law 243 = .ok (.invokevirtual 48, 3) := by decide +kernel
theorem dd_La_law_246 : decode cb_La_law 246 = .ok (.pop, 1) := by decide +kernel
theorem dd_La_law_247 : decode cb_La_law 247 = .ok (.goto 75, 3) := by decide +kernel
theorem dd_La_law_250 : decode cb_La_law 250 = .ok (.aload_n 1, 1) := by decide +kernel
theorem dd_La_law_251 : decode cb_La_law 251 = .ok (.aload_n 0, 1) := by decide +kernel
theorem dd_La_law_252 : decode cb_La_law 252 = .ok (.iload_n 3, 1) := by decide +kernel
theorem dd_La_law_253 : decode cb_La_law 253 = .ok (.iconst 1, 1) := by decide +kernel
theorem dd_La_law_254 : decode cb_La_law 254 = .ok (.iadd, 1) := by decide +kernel
theorem dd_La_law_255 : decode cb_La_law 255 = .ok (.iaload, 1) := by decide +kernel
theorem dd_La_law_256 : decode cb_La_law 256 = .ok (.aload_n 0, 1) := by decide +kernel
theorem dd_La_law_257 : decode cb_La_law 257 = .ok (.iload_n 3, 1) := by decide +kernel
theorem dd_La_law_258 : decode cb_La_law 258 = .ok (.iconst 2, 1) := by decide +kernel
theorem dd_La_law_259 : decode cb_La_law 259 = .ok (.iadd, 1) := by decide +kernel
theorem dd_La_law_260 : decode cb_La_law 260 = .ok (.iaload, 1) := by decide +kernel
theorem dd_La_law_261 : decode cb_La_law 261 = .ok (.invokevirtual 49, 3) := by decide +kernel
theorem dd_La_law_264 : decode cb_La_law 264 = .ok (.pop, 1) := by decide +kernel
theorem dd_La_law_265 : decode cb_La_law 265 = .ok (.aload_n 2, 1) := by decide +kernel
theorem dd_La_law_266 : decode cb_La_law 266 = .ok (.aload_n 0, 1) := by decide +kernel
theorem dd_La_law_267 : decode cb_La_law 267 = .ok (.iload_n 3, 1) := by decide +kernel
theorem dd_La_law_268 : decode cb_La_law 268 = .ok (.iconst 1, 1) := by decide +kernel
theorem dd_La_law_269 : decode cb_La_law 269 = .ok (.iadd, 1) := by decide +kernel
theorem dd_La_law_270 : decode cb_La_law 270 = .ok (.iaload, 1) := by decide +kernel
theorem dd_La_law_271 : decode cb_La_law 271 = .ok (.aload_n 0, 1) := by decide +kernel
theorem dd_La_law_272 : decode cb_La_law 272 = .ok (.iload_n 3, 1) := by decide +kernel
theorem dd_La_law_273 : decode cb_La_law 273 = .ok (.iconst 2, 1) := by decide +kernel
theorem dd_La_law_274 : decode cb_La_law 274 = .ok (.iadd, 1) := by decide +kernel
theorem dd_La_law_275 : decode cb_La_law 275 = .ok (.iaload, 1) := by decide +kernel
theorem dd_La_law_276 : decode cb_La_law 276 = .ok (.invokevirtual 52, 3) := by decide +kernel
theorem dd_La_law_279 : decode cb_La_law 279 = .ok (.pop, 1) := by decide +kernel
theorem dd_La_law_280 : decode cb_La_law 280 = .ok (.goto 42, 3) := by decide +kernel
theorem dd_La_law_283 : decode cb_La_law 283 = .ok (.aload_n 1, 1) := by decide +kernel
theorem dd_La_law_284 : decode cb_La_law 284 = .ok (.invokevirtual 53, 3) := by decide +kernel
theorem dd_La_law_287 : decode cb_La_law 287 = .ok (.pop, 1) := by decide +kernel
theorem dd_La_law_288 : decode cb_La_law 288 = .ok (.aload_n 2, 1) := by decide +kernel
theorem dd_La_law_289 : decode cb_La_law 289 = .ok (.invokevirtual 56, 3) := by decide +kernel
theorem dd_La_law_292 : decode cb_La_law 292 = .ok (.pop, 1) := by decide +kernel
theorem dd_La_law_293 : decode cb_La_law 293 = .ok (.goto 29, 3) := by decide +kernel
theorem dd_La_law_296 : decode cb_La_law 296 = .ok (.aload_n 1, 1) := by decide +kernel
theorem dd_La_law_297 : decode cb_La_law 297 = .ok (.invokevirtual 57, 3) := by decide +kernel
theorem dd_La_law_300 : decode cb_La_law 300 = .ok (.pop, 1) := by decide +kernel
theorem dd_La_law_301 : decode cb_La_law 301 = .ok (.aload_n 2, 1) := by decide +kernel
theorem dd_La_law_302 : decode cb_La_law 302 = .ok (.invokevirtual 61, 3) := by decide +kernel
theorem dd_La_law_305 : decode cb_La_law 305 = .ok (.pop, 1) := by decide +kernel
theorem dd_La_law_306 : decode cb_La_law 306 = .ok (.goto 16, 3) := by decide +kernel
theorem dd_La_law_309 : decode cb_La_law 309 = .ok (.aload_n 1, 1) := by decide +kernel
theorem dd_La_law_310 : decode cb_La_law 310 = .ok (.invokevirtual 62, 3) := by decide +kernel
theorem dd_La_law_313 : decode cb_La_law 313 = .ok (.aload_n 2, 1) := by decide +kernel
theorem dd_La_law_314 : decode cb_La_law 314 = .ok (.invokevirtual 65, 3) := by decide +kernel
theorem dd_La_law_317 : decode cb_La_law 317 = .ok (.if_icmp .eq 5, 3) := by decide +kernel
theorem dd_La_law_320 : decode cb_La_law 320 = .ok (.iconst 0, 1) := by decide +kernel
theorem dd_La_law_321 : decode cb_La_law 321 = .ok (.ireturn, 1) := by decide +kernel
theorem dd_La_law_322 : decode cb_La_law 322 = .ok (.iinc 3 3, 3) := by decide +kernel
theorem dd_La_law_325 : decode cb_La_law 325 = .ok (.goto (-307), 3) := by decide +kernel
theorem dd_La_law_328 : decode cb_La_law 328 = .ok (.iconst 1, 1) := by decide +kernel
theorem dd_La_law_329 : decode cb_La_law 329 = .ok (.ireturn, 1) := by decide +kernel
