theorem dd_Te_byteOf_0 : decode cb_Te_byteOf 0 = .ok (.iload_n 0, 1) := by decide +kernel
theorem dd_Te_byteOf_1 : decode cb_Te_byteOf 1 = .ok (.bipush 8, 2) := by decide +kernel
theorem dd_Te_byteOf_3 : decode cb_Te_byteOf 3 = .ok (.iload_n 1, 1) := by decide +kernel
theorem dd_Te_byteOf_4 : decode cb_Te_byteOf 4 = .ok (.imul, 1) := by decide +kernel
theorem dd_Te_byteOf_5 : decode cb_Te_byteOf 5 = .ok (.ishr, 1) := by decide +kernel
theorem dd_Te_byteOf_6 : decode cb_Te_byteOf 6 = .ok (.sipush 255, 3) := by decide +kernel
theorem dd_Te_byteOf_9 : decode cb_Te_byteOf 9 = .ok (.iand, 1) := by decide +kernel
theorem dd_Te_byteOf_10 : decode cb_Te_byteOf 10 = .ok (.ireturn, 1) := by decide +kernel
theorem dd_Te_isCharacter_0 : decode cb_Te_isCharacter 0 = .ok (.iload_n 0, 1) := by decide +kernel
theorem dd_Te_isCharacter_1 : decode cb_Te_isCharacter 1 = .ok (.bipush 10, 2) := by decide +kernel
theorem dd_Te_isCharacter_3 : decode cb_Te_isCharacter 3 = .ok (.if_icmp .eq 15, 3) := by decide +kernel
theorem dd_Te_isCharacter_6 : decode cb_Te_isCharacter 6 = .ok (.iload_n 0, 1) := by decide +kernel
theorem dd_Te_isCharacter_7 : decode cb_Te_isCharacter 7 = .ok (.bipush 32, 2) := by decide +kernel
theorem dd_Te_isCharacter_9 : decode cb_Te_isCharacter 9 = .ok (.if_icmp .lt 13, 3) := by decide +kernel
theorem dd_Te_isCharacter_12 : decode cb_Te_isCharacter 12 = .ok (.iload_n 0, 1) := by decide +kernel
theorem dd_Te_isCharacter_13 : decode cb_Te_isCharacter 13 = .ok (.bipush 126, 2) := by decide +kernel
theorem dd_Te_isCharacter_15 : decode cb_Te_isCharacter 15 = .ok (.if_icmp .gt 7, 3) := by decide +kernel
theorem dd_Te_isCharacter_18 : decode cb_Te_isCharacter 18 = .ok (.iconst 1, 1) := by decide +kernel
theorem dd_Te_isCharacter_19 : decode cb_Te_isCharacter 19 = .ok (.goto 4, 3) := by decide +kernel
theorem dd_Te_isCharacter_22 : decode cb_Te_isCharacter 22 = .ok (.iconst 0, 1) := by decide +kernel
theorem dd_Te_isCharacter_23 : decode cb_Te_isCharacter 23 = .ok (.ireturn, 1) := by decide +kernel
theorem dd_Te_isBlank_0 : decode cb_Te_isBlank 0 = .ok (.iload_n 0, 1) := by decide +kernel
theorem dd_Te_isBlank_1 : decode cb_Te_isBlank 1 = .ok (.bipush 32, 2) := by decide +kernel
theorem dd_Te_isBlank_3 : decode cb_Te_isBlank 3 = .ok (.if_icmp .eq 9, 3) := by decide +kernel
theorem dd_Te_isBlank_6 : decode cb_Te_isBlank 6 = .ok (.iload_n 0, 1) := by decide +kernel
theorem dd_Te_isBlank_7 : decode cb_Te_isBlank 7 = .ok (.bipush 10, 2) := by decide +kernel
theorem dd_Te_isBlank_9 : decode cb_Te_isBlank 9 = .ok (.if_icmp .ne 7, 3) := by decide +kernel
theorem dd_Te_isBlank_12 : decode cb_Te_isBlank 12 = .ok (.iconst 1, 1) := by decide +kernel
theorem dd_Te_isBlank_13 : decode cb_Te_isBlank 13 = .ok (.goto 4, 3) := by decide +kernel
theorem dd_Te_isBlank_16 : decode cb_Te_isBlank 16 = .ok (.iconst 0, 1) := by decide +kernel
theorem dd_Te_isBlank_17 : decode cb_Te_isBlank 17 = .ok (.ireturn, 1) := by decide +kernel
theorem dd_Te_append_0 : decode cb_Te_append 0 = .ok (.iload_n 2, 1) := by decide +kernel
theorem dd_Te_append_1 : decode cb_Te_append 1 = .ok (.iconst 1, 1) := by decide +kernel
theorem dd_Te_append_2 : decode cb_Te_append 2 = .ok (.if_icmp .lt 20, 3) := by decide +kernel
theorem dd_Te_append_5 : decode cb_Te_append 5 = .ok (.iload_n 2, 1) := by decide +kernel
theorem dd_Te_append_6 : decode cb_Te_append 6 = .ok (.iconst 4, 1) := by decide +kernel
theorem dd_Te_append_7 : decode cb_Te_append 7 = .ok (.if_icmp .gt 15, 3) := by decide +kernel
theorem dd_Te_append_10 : decode cb_Te_append 10 = .ok (.aload_n 0, 1) := by decide +kernel
theorem dd_Te_append_11 : decode cb_Te_append 11 = .ok (.getfield 15, 3) := by decide +kernel
theorem dd_Te_append_14 : decode cb_Te_append 14 = .ok (.iload_n 2, 1) := by decide +kernel
theorem dd_Te_append_15 : decode cb_Te_append 15 = .ok (.iadd, 1) := by decide +kernel
theorem dd_Te_append_16 : decode cb_Te_append 16 = .ok (.sipush 160, 3) := by decide +kernel
theorem dd_Te_append_19 : decode cb_Te_append 19 = .ok (.if_icmp .le 5, 3) := by decide +kernel
theorem dd_Te_append_22 : decode cb_Te_append 22 = .ok (.iconst 0, 1) := by decide +kernel
theorem dd_Te_append_23 : decode cb_Te_append 23 = .ok (.ireturn, 1) := by decide +kernel
theorem dd_Te_append_24 : decode cb_Te_append 24 = .ok (.iload_n 2, 1) := by decide +kernel
theorem dd_Te_append_25 : decode cb_Te_append 25 = .ok (.iconst 1, 1) := by decide +kernel
theorem dd_Te_append_26 : decode cb_Te_append 26 = .ok (.isub, 1) := by decide +kernel
theorem dd_Te_append_27 : decode cb_Te_append 27 = .ok (.istore_n 3, 1) := by decide +kernel
theorem dd_Te_append_28 : decode cb_Te_append 28 = .ok (.iload_n 3, 1) := by decide +kernel
theorem dd_Te_append_29 : decode cb_Te_append 29 = .ok (.ifCond .lt 22, 3) := by decide +kernel
theorem dd_Te_append_32 : decode cb_Te_append 32 = .ok (.iload_n 1, 1) := by decide +kernel
theorem dd_Te_append_33 : decode cb_Te_append 33 = .ok (.iload_n 3, 1) := by decide +kernel
theorem dd_Te_append_34 : decode cb_Te_append 34 = .ok (.invokestatic 19, 3) := by decide +kernel
theorem dd_Te_append_37 : decode cb_Te_append 37 = .ok (.invokestatic 23, 3) := by decide +kernel
theorem dd_Te_append_40 : decode cb_Te_append 40 = .ok (.ifCond .ne 5, 3) := by decide +kernel
theorem dd_Te_append_43 : decode cb_Te_append 43 = .ok (.iconst 0, 1) := by decide +kernel
theorem dd_Te_append_44 : decode cb_Te_append 44 = .ok (.ireturn, 1) := by decide +kernel
theorem dd_Te_append_45 : decode cb_Te_append 45 = .ok (.iinc 3 (-1), 3) := by decide +kernel
theorem dd_Te_append_48 : decode cb_Te_append 48 = .ok (.goto (-20), 3) := by decide +kernel
theorem dd_Te_append_51 : decode cb_Te_append 51 = .ok (.iload_n 2, 1) := by decide +kernel
theorem dd_Te_append_52 : decode cb_Te_append 52 = .ok (.iconst 1, 1) := by decide +kernel
theorem dd_Te_append_53 : decode cb_Te_append 53 = .ok (.isub, 1) := by decide +kernel
theorem dd_Te_append_54 : decode cb_Te_append 54 = .ok (.istore_n 3, 1) := by decide +kernel
theorem dd_Te_append_55 : decode cb_Te_append 55 = .ok (.iload_n 3, 1) := by decide +kernel
theorem dd_Te_append_56 : decode cb_Te_append 56 = .ok (.ifCond .lt 34, 3) := by decide +kernel
theorem dd_Te_append_59 : decode cb_Te_append 59 = .ok (.aload_n 0, 1) := by decide +kernel
theorem dd_Te_append_60 : decode cb_Te_append 60 = .ok (.getfield 9, 3) := by decide +kernel
theorem dd_Te_append_63 : decode cb_Te_append 63 = .ok (.aload_n 0, 1) := by decide +kernel
theorem dd_Te_append_64 : decode cb_Te_append 64 = .ok (.getfield 15, 3) := by decide +kernel
theorem dd_Te_append_67 : decode cb_Te_append 67 = .ok (.iload_n 1, 1) := by decide +kernel
theorem dd_Te_append_68 : decode cb_Te_append 68 = .ok (.iload_n 3, 1) := by decide +kernel
theorem dd_Te_append_69 : decode cb_Te_append 69 = .ok (.invokestatic 19, 3) := by decide +kernel
theorem dd_Te_append_72 : decode cb_Te_append 72 = .ok (.i2c, 1) := by decide +kernel
theorem dd_Te_append_73 : decode cb_Te_append 73 = .ok (.castore, 1) := by decide +kernel
theorem dd_Te_append_74 : decode cb_Te_append 74 = .ok (.aload_n 0, 1) := by decide +kernel
theorem dd_Te_append_75 : decode cb_Te_append 75 = .ok (.dup, 1) := by decide +kernel
theorem dd_Te_append_76 : decode cb_Te_append 76 = .ok (.getfield 15, 3) := by decide +kernel
theorem dd_Te_append_79 : decode cb_Te_append 79 = .ok (.iconst 1, 1) := by decide +kernel
theorem dd_Te_append_80 : decode cb_Te_append 80 = .ok (.iadd, 1) := by decide +kernel
theorem dd_Te_append_81 : decode cb_Te_append 81 = .ok (.putfield 15, 3) := by decide +kernel
theorem dd_Te_append_84 : decode cb_Te_append 84 = .ok (.iinc 3 (-1), 3) := by decide +kernel
theorem dd_Te_append_87 : decode cb_Te_append 87 = .ok (.goto (-32), 3) := by decide +kernel
theorem dd_Te_append_90 : decode cb_Te_append 90 = .ok (.iconst 1, 1) := by decide +kernel
theorem dd_Te_append_91 : decode cb_Te_append 91 = .ok (.ireturn, 1) := by decide +kernel
theorem dd_Te_clear_0 : decode cb_Te_clear 0 = .ok (.aload_n 0, 1) := by decide +kernel
theorem dd_Te_clear_1 : decode cb_Te_clear 1 = .ok (.iconst 0, 1) := by decide +kernel
theorem dd_Te_clear_2 : decode cb_Te_clear 2 = .ok (.putfield 15, 3) := by decide +kernel
theorem dd_Te_clear_5 : decode cb_Te_clear 5 = .ok (.return_, 1) := by decide +kernel
theorem dd_In_bitCount_0 : decode cb_In_bitCount 0 = .ok (.iload_n 0, 1) := by decide +kernel
theorem dd_In_bitCount_1 : decode cb_In_bitCount 1 = .ok (.iload_n 0, 1) := by decide +kernel
theorem dd_In_bitCount_2 : decode cb_In_bitCount 2 = .ok (.iconst 1, 1) := by decide +kernel
theorem dd_In_bitCount_3 : decode cb_In_bitCount 3 = .ok (.iushr, 1) := by decide +kernel
theorem dd_In_bitCount_4 : decode cb_In_bitCount 4 = .ok (.ldc_w 265, 3) := by decide +kernel
theorem dd_In_bitCount_7 : decode cb_In_bitCount 7 = .ok (.iand, 1) := by decide +kernel
theorem dd_In_bitCount_8 : decode cb_In_bitCount 8 = .ok (.isub, 1) := by decide +kernel
theorem dd_In_bitCount_9 : decode cb_In_bitCount 9 = .ok (.istore_n 0, 1) := by decide +kernel
theorem dd_In_bitCount_10 : decode cb_In_bitCount 10 = .ok (.iload_n 0, 1) := by decide +kernel
theorem dd_In_bitCount_11 : decode cb_In_bitCount 11 = .ok (.ldc_w 266, 3) := by decide +kernel
theorem dd_In_bitCount_14 : decode cb_In_bitCount 14 = .ok (.iand, 1) := by decide +kernel
theorem dd_In_bitCount_15 : decode cb_In_bitCount 15 = .ok (.iload_n 0, 1) := by decide +kernel
theorem dd_In_bitCount_16 : decode cb_In_bitCount 16 = .ok (.iconst 2, 1) := by decide +kernel
theorem dd_In_bitCount_17 : decode cb_In_bitCount 17 = .ok (.iushr, 1) := by decide +kernel
theorem dd_In_bitCount_18 : decode cb_In_bitCount 18 = .ok (.ldc_w 266, 3) := by decide +kernel
theorem dd_In_bitCount_21 : decode cb_In_bitCount 21 = .ok (.iand, 1) := by decide +kernel
theorem dd_In_bitCount_22 : decode cb_In_bitCount 22 = .ok (.iadd, 1) := by decide +kernel
theorem dd_In_bitCount_23 : decode cb_In_bitCount 23 = .ok (.istore_n 0, 1) := by decide +kernel
theorem dd_In_bitCount_24 : decode cb_In_bitCount 24 = .ok (.iload_n 0, 1) := by decide +kernel
theorem dd_In_bitCount_25 : decode cb_In_bitCount 25 = .ok (.iload_n 0, 1) := by decide +kernel
theorem dd_In_bitCount_26 : decode cb_In_bitCount 26 = .ok (.iconst 4, 1) := by decide +kernel
theorem dd_In_bitCount_27 : decode cb_In_bitCount 27 = .ok (.iushr, 1) := by decide +kernel
theorem dd_In_bitCount_28 : decode cb_In_bitCount 28 = .ok (.iadd, 1) := by decide +kernel
theorem dd_In_bitCount_29 : decode cb_In_bitCount 29 = .ok (.ldc_w 267, 3) := by decide +kernel
theorem dd_In_bitCount_32 : decode cb_In_bitCount 32 = .ok (.iand, 1) := by decide +kernel
theorem dd_In_bitCount_33 : decode cb_In_bitCount 33 = .ok (.istore_n 0, 1) := by decide +kernel
theorem dd_In_bitCount_34 : decode cb_In_bitCount 34 = .ok (.iload_n 0, 1) := by decide +kernel
theorem dd_In_bitCount_35 : decode cb_In_bitCount 35 = .ok (.iload_n 0, 1) := by decide +kernel
theorem dd_In_bitCount_36 : decode cb_In_bitCount 36 = .ok (.bipush 8, 2) := by decide +kernel
theorem dd_In_bitCount_38 : decode cb_In_bitCount 38 = .ok (.iushr, 1) := by decide +kernel
theorem dd_In_bitCount_39 : decode cb_In_bitCount 39 = .ok (.iadd, 1) := by decide +kernel
theorem dd_In_bitCount_40 : decode cb_In_bitCount 40 = .ok (.istore_n 0, 1) := by decide +kernel
theorem dd_In_bitCount_41 : decode cb_In_bitCount 41 = .ok (.iload_n 0, 1) := by decide +kernel
theorem dd_In_bitCount_42 : decode cb_In_bitCount 42 = .ok (.iload_n 0, 1) := by decide +kernel
theorem dd_In_bitCount_43 : decode cb_In_bitCount 43 = .ok (.bipush 16, 2) := by decide +kernel
theorem dd_In_bitCount_45 : decode cb_In_bitCount 45 = .ok (.iushr, 1) := by decide +kernel
theorem dd_In_bitCount_46 : decode cb_In_bitCount 46 = .ok (.iadd, 1) := by decide +kernel
theorem dd_In_bitCount_47 : decode cb_In_bitCount 47 = .ok (.istore_n 0, 1) := by decide +kernel
theorem dd_In_bitCount_48 : decode cb_In_bitCount 48 = .ok (.iload_n 0, 1) := by decide +kernel
theorem dd_In_bitCount_49 : decode cb_In_bitCount 49 = .ok (.bipush 63, 2) := by decide +kernel
theorem dd_In_bitCount_51 : decode cb_In_bitCount 51 = .ok (.iand, 1) := by decide +kernel
theorem dd_In_bitCount_52 : decode cb_In_bitCount 52 = .ok (.ireturn, 1) := by decide +kernel
theorem dd_Co_bit_0 : decode cb_Co_bit 0 = .ok (.iload_n 0, 1) := by decide +kernel
theorem dd_Co_bit_1 : decode cb_Co_bit 1 = .ok (.ifCond .ne 5, 3) := by decide +kernel
theorem dd_Co_bit_4 : decode cb_Co_bit 4 = .ok (.iconst 0, 1) := by decide +kernel
theorem dd_Co_bit_5 : decode cb_Co_bit 5 = .ok (.ireturn, 1) := by decide +kernel
theorem dd_Co_bit_6 : decode cb_Co_bit 6 = .ok (.iload_n 0, 1) := by decide +kernel
theorem dd_Co_bit_7 : decode cb_Co_bit 7 = .ok (.ifCond .le 11, 3) := by decide +kernel
theorem dd_Co_bit_10 : decode cb_Co_bit 10 = .ok (.iconst 1, 1) := by decide +kernel
theorem dd_Co_bit_11 : decode cb_Co_bit 11 = .ok (.iload_n 0, 1) := by decide +kernel
theorem dd_Co_bit_12 : decode cb_Co_bit 12 = .ok (.iconst 1, 1) := by decide +kernel
theorem dd_Co_bit_13 : decode cb_Co_bit 13 = .ok (.isub, 1) := by decide +kernel
theorem dd_Co_bit_14 : decode cb_Co_bit 14 = .ok (.ishl, 1) := by decide +kernel
theorem dd_Co_bit_15 : decode cb_Co_bit 15 = .ok (.goto 9, 3) := by decide +kernel
theorem dd_Co_bit_18 : decode cb_Co_bit 18 = .ok (.iconst 1, 1) := by decide +kernel
theorem dd_Co_bit_19 : decode cb_Co_bit 19 = .ok (.bipush 9, 2) := by decide +kernel
theorem dd_Co_bit_21 : decode cb_Co_bit 21 = .ok (.iload_n 0, 1) := by decide +kernel
theorem dd_Co_bit_22 : decode cb_Co_bit 22 = .ok (.isub, 1) := by decide +kernel
theorem dd_Co_bit_23 : decode cb_Co_bit 23 = .ok (.ishl, 1) := by decide +kernel
theorem dd_Co_bit_24 : decode cb_Co_bit 24 = .ok (.ireturn, 1) := by decide +kernel
theorem dd_Co_opposites_0 : decode cb_Co_opposites 0 = .ok (.iload_n 0, 1) := by decide +kernel
theorem dd_Co_opposites_1 : decode cb_Co_opposites 1 = .ok (.bipush 10, 2) := by decide +kernel
theorem dd_Co_opposites_3 : decode cb_Co_opposites 3 = .ok (.ishl, 1) := by decide +kernel
theorem dd_Co_opposites_4 : decode cb_Co_opposites 4 = .ok (.iload_n 0, 1) := by decide +kernel
theorem dd_Co_opposites_5 : decode cb_Co_opposites 5 = .ok (.bipush 10, 2) := by decide +kernel
theorem dd_Co_opposites_7 : decode cb_Co_opposites 7 = .ok (.ishr, 1) := by decide +kernel
theorem dd_Co_opposites_8 : decode cb_Co_opposites 8 = .ok (.ior, 1) := by decide +kernel
theorem dd_Co_opposites_9 : decode cb_Co_opposites 9 = .ok (.ldc 134, 2) := by decide +kernel
theorem dd_Co_opposites_11 : decode cb_Co_opposites 11 = .ok (.iand, 1) := by decide +kernel
theorem dd_Co_opposites_12 : decode cb_Co_opposites 12 = .ok (.ireturn, 1) := by decide +kernel
theorem dd_Co_follow_0 : decode cb_Co_follow 0 = .ok (.iload_n 0, 1) := by decide +kernel
theorem dd_Co_follow_1 : decode cb_Co_follow 1 = .ok (.iload_n 1, 1) := by decide +kernel
theorem dd_Co_follow_2 : decode cb_Co_follow 2 = .ok (.invokestatic 135, 3) := by decide +kernel
theorem dd_Co_follow_5 : decode cb_Co_follow 5 = .ok (.iconst (-1), 1) := by decide +kernel
theorem dd_Co_follow_6 : decode cb_Co_follow 6 = .ok (.ixor, 1) := by decide +kernel
theorem dd_Co_follow_7 : decode cb_Co_follow 7 = .ok (.iand, 1) := by decide +kernel
theorem dd_Co_follow_8 : decode cb_Co_follow 8 = .ok (.istore_n 2, 1) := by decide +kernel
theorem dd_Co_follow_9 : decode cb_Co_follow 9 = .ok (.iload_n 2, 1) := by decide +kernel
theorem dd_Co_follow_10 : decode cb_Co_follow 10 = .ok (.ifCond .ne 5, 3) := by decide +kernel
theorem dd_Co_follow_13 : decode cb_Co_follow 13 = .ok (.iconst (-1), 1) := by decide +kernel
theorem dd_Co_follow_14 : decode cb_Co_follow 14 = .ok (.ireturn, 1) := by decide +kernel
theorem dd_Co_follow_15 : decode cb_Co_follow 15 = .ok (.iload_n 2, 1) := by decide +kernel
theorem dd_Co_follow_16 : decode cb_Co_follow 16 = .ok (.invokestatic 98, 3) := by decide +kernel
theorem dd_Co_follow_19 : decode cb_Co_follow 19 = .ok (.iconst 1, 1) := by decide +kernel
theorem dd_Co_follow_20 : decode cb_Co_follow 20 = .ok (.if_icmp .ne 15, 3) := by decide +kernel
theorem dd_Co_follow_23 : decode cb_Co_follow 23 = .ok (.iload_n 2, 1) := by decide +kernel
theorem dd_Co_follow_24 : decode cb_Co_follow 24 = .ok (.iload_n 1, 1) := by decide +kernel
theorem dd_Co_follow_25 : decode cb_Co_follow 25 = .ok (.iand, 1) := by decide +kernel
theorem dd_Co_follow_26 : decode cb_Co_follow 26 = .ok (.ifCond .ne 9, 3) := by decide +kernel
theorem dd_Co_follow_29 : decode cb_Co_follow 29 = .ok (.iload_n 1, 1) := by decide +kernel
theorem dd_Co_follow_30 : decode cb_Co_follow 30 = .ok (.iload_n 2, 1) := by decide +kernel
theorem dd_Co_follow_31 : decode cb_Co_follow 31 = .ok (.ior, 1) := by decide +kernel
theorem dd_Co_follow_32 : decode cb_Co_follow 32 = .ok (.goto 5, 3) := by decide +kernel
theorem dd_Co_follow_35 : decode cb_Co_follow 35 = .ok (.bipush (-2), 2) := by decide +kernel
theorem dd_Co_follow_37 : decode cb_Co_follow 37 = .ok (.ireturn, 1) := by decide +kernel
theorem dd_Te_init_0 : decode cb_Te_init 0 = .ok (.aload_n 0, 1) := by decide +kernel
theorem dd_Te_init_1 : decode cb_Te_init 1 = .ok (.invokespecial 3, 3) := by decide +kernel
theorem dd_Te_init_4 : decode cb_Te_init 4 = .ok (.aload_n 0, 1) := by decide +kernel
theorem dd_Te_init_5 : decode cb_Te_init 5 = .ok (.sipush 160, 3) := by decide +kernel
theorem dd_Te_init_8 : decode cb_Te_init 8 = .ok (.newarray .char, 2) := by decide +kernel
theorem dd_Te_init_10 : decode cb_Te_init 10 = .ok (.putfield 9, 3) := by decide +kernel
theorem dd_Te_init_13 : decode cb_Te_init 13 = .ok (.return_, 1) := by decide +kernel
theorem dd_Pr_init_0 : decode cb_Pr_init 0 = .ok (.aload_n 0, 1) := by decide +kernel
theorem dd_Pr_init_1 : decode cb_Pr_init 1 = .ok (.invokespecial 3, 3) := by decide +kernel
theorem dd_Pr_init_4 : decode cb_Pr_init 4 = .ok (.aload_n 0, 1) := by decide +kernel
theorem dd_Pr_init_5 : decode cb_Pr_init 5 = .ok (.bipush 40, 2) := by decide +kernel
theorem dd_Pr_init_7 : decode cb_Pr_init 7 = .ok (.anewarray 9, 3) := by decide +kernel
theorem dd_Pr_init_10 : decode cb_Pr_init 10 = .ok (.putfield 11, 3) := by decide +kernel
theorem dd_Pr_init_13 : decode cb_Pr_init 13 = .ok (.return_, 1) := by decide +kernel
theorem dd_Se_init_0 : decode cb_Se_init 0 = .ok (.aload_n 0, 1) := by decide +kernel
theorem dd_Se_init_1 : decode cb_Se_init 1 = .ok (.invokespecial 3, 3) := by decide +kernel
theorem dd_Se_init_4 : decode cb_Se_init 4 = .ok (.aload_n 0, 1) := by decide +kernel
theorem dd_Se_init_5 : decode cb_Se_init 5 = .ok (.sipush 2072, 3) := by decide +kernel
theorem dd_Se_init_8 : decode cb_Se_init 8 = .ok (.newarray .int, 2) := by decide +kernel
theorem dd_Se_init_10 : decode cb_Se_init 10 = .ok (.putfield 9, 3) := by decide +kernel
theorem dd_Se_init_13 : decode cb_Se_init 13 = .ok (.aload_n 0, 1) := by decide +kernel
theorem dd_Se_init_14 : decode cb_Se_init 14 = .ok (.bipush 10, 2) := by decide +kernel
theorem dd_Se_init_16 : decode cb_Se_init 16 = .ok (.newarray .int, 2) := by decide +kernel
theorem dd_Se_init_18 : decode cb_Se_init 18 = .ok (.putfield 15, 3) := by decide +kernel
theorem dd_Se_init_21 : decode cb_Se_init 21 = .ok (.aload_n 0, 1) := by decide +kernel
theorem dd_Se_init_22 : decode cb_Se_init 22 = .ok (.bipush 10, 2) := by decide +kernel
theorem dd_Se_init_24 : decode cb_Se_init 24 = .ok (.newarray .int, 2) := by decide +kernel
theorem dd_Se_init_26 : decode cb_Se_init 26 = .ok (.putfield 18, 3) := by decide +kernel
theorem dd_Se_init_29 : decode cb_Se_init 29 = .ok (.aload_n 0, 1) := by decide +kernel
theorem dd_Se_init_30 : decode cb_Se_init 30 = .ok (.bipush 11, 2) := by decide +kernel
theorem dd_Se_init_32 : decode cb_Se_init 32 = .ok (.newarray .int, 2) := by decide +kernel
theorem dd_Se_init_34 : decode cb_Se_init 34 = .ok (.putfield 21, 3) := by decide +kernel
theorem dd_Se_init_37 : decode cb_Se_init 37 = .ok (.aload_n 0, 1) := by decide +kernel
theorem dd_Se_init_38 : decode cb_Se_init 38 = .ok (.bipush 11, 2) := by decide +kernel
theorem dd_Se_init_40 : decode cb_Se_init 40 = .ok (.newarray .int, 2) := by decide +kernel
theorem dd_Se_init_42 : decode cb_Se_init 42 = .ok (.putfield 24, 3) := by decide +kernel
theorem dd_Se_init_45 : decode cb_Se_init 45 = .ok (.return_, 1) := by decide +kernel
theorem dd_Fo_init_0 : decode cb_Fo_init 0 = .ok (.aload_n 0, 1) := by decide +kernel
theorem dd_Fo_init_1 : decode cb_Fo_init 1 = .ok (.invokespecial 3, 3) := by decide +kernel
theorem dd_Fo_init_4 : decode cb_Fo_init 4 = .ok (.aload_n 0, 1) := by decide +kernel
theorem dd_Fo_init_5 : decode cb_Fo_init 5 = .ok (.bipush 24, 2) := by decide +kernel
theorem dd_Fo_init_7 : decode cb_Fo_init 7 = .ok (.anewarray 9, 3) := by decide +kernel
theorem dd_Fo_init_10 : decode cb_Fo_init 10 = .ok (.putfield 11, 3) := by decide +kernel
theorem dd_Fo_init_13 : decode cb_Fo_init 13 = .ok (.aload_n 0, 1) := by decide +kernel
theorem dd_Fo_init_14 : decode cb_Fo_init 14 = .ok (.iconst (-1), 1) := by decide +kernel
theorem dd_Fo_init_15 : decode cb_Fo_init 15 = .ok (.putfield 17, 3) := by decide +kernel
theorem dd_Fo_init_18 : decode cb_Fo_init 18 = .ok (.aload_n 0, 1) := by decide +kernel
theorem dd_Fo_init_19 : decode cb_Fo_init 19 = .ok (.iload_n 1, 1) := by decide +kernel
theorem dd_Fo_init_20 : decode cb_Fo_init 20 = .ok (.putfield 21, 3) := by decide +kernel
theorem dd_Fo_init_23 : decode cb_Fo_init 23 = .ok (.return_, 1) := by decide +kernel
theorem dd_Pr_begin_0 : decode cb_Pr_begin 0 = .ok (.iconst 0, 1) := by decide +kernel
theorem dd_Pr_begin_1 : decode cb_Pr_begin 1 = .ok (.istore_n 2, 1) := by decide +kernel
theorem dd_Pr_begin_2 : decode cb_Pr_begin 2 = .ok (.iload_n 2, 1) := by decide +kernel
theorem dd_Pr_begin_3 : decode cb_Pr_begin 3 = .ok (.aload_n 1, 1) := by decide +kernel
theorem dd_Pr_begin_4 : decode cb_Pr_begin 4 = .ok (.getfield 17, 3) := by decide +kernel
theorem dd_Pr_begin_7 : decode cb_Pr_begin 7 = .ok (.if_icmp .ge 21, 3) := by decide +kernel
theorem dd_Pr_begin_10 : decode cb_Pr_begin 10 = .ok (.aload_n 0, 1) := by decide +kernel
theorem dd_Pr_begin_11 : decode cb_Pr_begin 11 = .ok (.getfield 11, 3) := by decide +kernel
theorem dd_Pr_begin_14 : decode cb_Pr_begin 14 = .ok (.iload_n 2, 1) := by decide +kernel
theorem dd_Pr_begin_15 : decode cb_Pr_begin 15 = .ok (.aload_n 1, 1) := by decide +kernel
theorem dd_Pr_begin_16 : decode cb_Pr_begin 16 = .ok (.getfield 23, 3) := by decide +kernel
theorem dd_Pr_begin_19 : decode cb_Pr_begin 19 = .ok (.iload_n 2, 1) := by decide +kernel
theorem dd_Pr_begin_20 : decode cb_Pr_begin 20 = .ok (.aaload, 1) := by decide +kernel
theorem dd_Pr_begin_21 : decode cb_Pr_begin 21 = .ok (.aastore, 1) := by decide +kernel
theorem dd_Pr_begin_22 : decode cb_Pr_begin 22 = .ok (.iinc 2 1, 3) := by decide +kernel
theorem dd_Pr_begin_25 : decode cb_Pr_begin 25 = .ok (.goto (-23), 3) := by decide +kernel
theorem dd_Pr_begin_28 : decode cb_Pr_begin 28 = .ok (.aload_n 0, 1) := by decide +kernel
theorem dd_Pr_begin_29 : decode cb_Pr_begin 29 = .ok (.aload_n 1, 1) := by decide +kernel
theorem dd_Pr_begin_30 : decode cb_Pr_begin 30 = .ok (.getfield 17, 3) := by decide +kernel
theorem dd_Pr_begin_33 : decode cb_Pr_begin 33 = .ok (.putfield 24, 3) := by decide +kernel
theorem dd_Pr_begin_36 : decode cb_Pr_begin 36 = .ok (.aload_n 0, 1) := by decide +kernel
theorem dd_Pr_begin_37 : decode cb_Pr_begin 37 = .ok (.aload_n 1, 1) := by decide +kernel
theorem dd_Pr_begin_38 : decode cb_Pr_begin 38 = .ok (.getfield 17, 3) := by decide +kernel
theorem dd_Pr_begin_41 : decode cb_Pr_begin 41 = .ok (.putfield 25, 3) := by decide +kernel
theorem dd_Pr_begin_44 : decode cb_Pr_begin 44 = .ok (.aload_n 0, 1) := by decide +kernel
theorem dd_Pr_begin_45 : decode cb_Pr_begin 45 = .ok (.iconst 0, 1) := by decide +kernel
theorem dd_Pr_begin_46 : decode cb_Pr_begin 46 = .ok (.putfield 28, 3) := by decide +kernel
theorem dd_Pr_begin_49 : decode cb_Pr_begin 49 = .ok (.return_, 1) := by decide +kernel
theorem dd_Se_begin_0 : decode cb_Se_begin 0 = .ok (.aload_n 0, 1) := by decide +kernel
theorem dd_Se_begin_1 : decode cb_Se_begin 1 = .ok (.aload_n 1, 1) := by decide +kernel
theorem dd_Se_begin_2 : decode cb_Se_begin 2 = .ok (.getfield 27, 3) := by decide +kernel
theorem dd_Se_begin_5 : decode cb_Se_begin 5 = .ok (.putfield 33, 3) := by decide +kernel
theorem dd_Se_begin_8 : decode cb_Se_begin 8 = .ok (.iconst 0, 1) := by decide +kernel
theorem dd_Se_begin_9 : decode cb_Se_begin 9 = .ok (.istore_n 2, 1) := by decide +kernel
theorem dd_Se_begin_10 : decode cb_Se_begin 10 = .ok (.iload_n 2, 1) := by decide +kernel
theorem dd_Se_begin_11 : decode cb_Se_begin 11 = .ok (.aload_n 0, 1) := by decide +kernel
theorem dd_Se_begin_12 : decode cb_Se_begin 12 = .ok (.getfield 33, 3) := by decide +kernel
theorem dd_Se_begin_15 : decode cb_Se_begin 15 = .ok (.if_icmp .ge 24, 3) := by decide +kernel
theorem dd_Se_begin_18 : decode cb_Se_begin 18 = .ok (.aload_n 0, 1) := by decide +kernel
theorem dd_Se_begin_19 : decode cb_Se_begin 19 = .ok (.getfield 9, 3) := by decide +kernel
theorem dd_Se_begin_22 : decode cb_Se_begin 22 = .ok (.iload_n 2, 1) := by decide +kernel
theorem dd_Se_begin_23 : decode cb_Se_begin 23 = .ok (.aload_n 1, 1) := by decide +kernel
theorem dd_Se_begin_24 : decode cb_Se_begin 24 = .ok (.getfield 34, 3) := by decide +kernel
theorem dd_Se_begin_27 : decode cb_Se_begin 27 = .ok (.iload_n 2, 1) := by decide +kernel
theorem dd_Se_begin_28 : decode cb_Se_begin 28 = .ok (.aaload, 1) := by decide +kernel
theorem dd_Se_begin_29 : decode cb_Se_begin 29 = .ok (.getfield 37, 3) := by decide +kernel
theorem dd_Se_begin_32 : decode cb_Se_begin 32 = .ok (.iastore, 1) := by decide +kernel
theorem dd_Se_begin_33 : decode cb_Se_begin 33 = .ok (.iinc 2 1, 3) := by decide +kernel
theorem dd_Se_begin_36 : decode cb_Se_begin 36 = .ok (.goto (-26), 3) := by decide +kernel
theorem dd_Se_begin_39 : decode cb_Se_begin 39 = .ok (.aload_n 0, 1) := by decide +kernel
theorem dd_Se_begin_40 : decode cb_Se_begin 40 = .ok (.aload_n 1, 1) := by decide +kernel
theorem dd_Se_begin_41 : decode cb_Se_begin 41 = .ok (.getfield 42, 3) := by decide +kernel
theorem dd_Se_begin_44 : decode cb_Se_begin 44 = .ok (.putfield 45, 3) := by decide +kernel
theorem dd_Se_begin_47 : decode cb_Se_begin 47 = .ok (.aload_n 0, 1) := by decide +kernel
theorem dd_Se_begin_48 : decode cb_Se_begin 48 = .ok (.iconst 0, 1) := by decide +kernel
theorem dd_Se_begin_49 : decode cb_Se_begin 49 = .ok (.putfield 46, 3) := by decide +kernel
theorem dd_Se_begin_52 : decode cb_Se_begin 52 = .ok (.aload_n 0, 1) := by decide +kernel
theorem dd_Se_begin_53 : decode cb_Se_begin 53 = .ok (.iconst 0, 1) := by decide +kernel
theorem dd_Se_begin_54 : decode cb_Se_begin 54 = .ok (.putfield 50, 3) := by decide +kernel
theorem dd_Se_begin_57 : decode cb_Se_begin 57 = .ok (.aload_n 0, 1) := by decide +kernel
theorem dd_Se_begin_58 : decode cb_Se_begin 58 = .ok (.iconst 0, 1) := by decide +kernel
theorem dd_Se_begin_59 : decode cb_Se_begin 59 = .ok (.putfield 53, 3) := by decide +kernel
theorem dd_Se_begin_62 : decode cb_Se_begin 62 = .ok (.aload_n 0, 1) := by decide +kernel
theorem dd_Se_begin_63 : decode cb_Se_begin 63 = .ok (.iconst 1, 1) := by decide +kernel
theorem dd_Se_begin_64 : decode cb_Se_begin 64 = .ok (.putfield 56, 3) := by decide +kernel
theorem dd_Se_begin_67 : decode cb_Se_begin 67 = .ok (.aload_n 0, 1) := by decide +kernel
theorem dd_Se_begin_68 : decode cb_Se_begin 68 = .ok (.iconst 0, 1) := by decide +kernel
theorem dd_Se_begin_69 : decode cb_Se_begin 69 = .ok (.putfield 59, 3) := by decide +kernel
theorem dd_Se_begin_72 : decode cb_Se_begin 72 = .ok (.aload_n 0, 1) := by decide +kernel
theorem dd_Se_begin_73 : decode cb_Se_begin 73 = .ok (.iconst 0, 1) := by decide +kernel
theorem dd_Se_begin_74 : decode cb_Se_begin 74 = .ok (.putfield 62, 3) := by decide +kernel
theorem dd_Se_begin_77 : decode cb_Se_begin 77 = .ok (.aload_n 0, 1) := by decide +kernel
theorem dd_Se_begin_78 : decode cb_Se_begin 78 = .ok (.iconst 0, 1) := by decide +kernel
theorem dd_Se_begin_79 : decode cb_Se_begin 79 = .ok (.putfield 65, 3) := by decide +kernel
theorem dd_Se_begin_82 : decode cb_Se_begin 82 = .ok (.return_, 1) := by decide +kernel
theorem dd_Co_take_0 : decode cb_Co_take 0 = .ok (.aload_n 0, 1) := by decide +kernel
theorem dd_Co_take_1 : decode cb_Co_take 1 = .ok (.aload_n 1, 1) := by decide +kernel
theorem dd_Co_take_2 : decode cb_Co_take 2 = .ok (.putfield 57, 3) := by decide +kernel
theorem dd_Co_take_5 : decode cb_Co_take 5 = .ok (.aload_n 0, 1) := by decide +kernel
theorem dd_Co_take_6 : decode cb_Co_take 6 = .ok (.getfield 19, 3) := by decide +kernel
theorem dd_Co_take_9 : decode cb_Co_take 9 = .ok (.aload_n 1, 1) := by decide +kernel
theorem dd_Co_take_10 : decode cb_Co_take 10 = .ok (.invokevirtual 130, 3) := by decide +kernel
theorem dd_Co_take_13 : decode cb_Co_take 13 = .ok (.aload_n 0, 1) := by decide +kernel
theorem dd_Co_take_14 : decode cb_Co_take 14 = .ok (.getfield 26, 3) := by decide +kernel
theorem dd_Co_take_17 : decode cb_Co_take 17 = .ok (.aload_n 1, 1) := by decide +kernel
theorem dd_Co_take_18 : decode cb_Co_take 18 = .ok (.invokevirtual 133, 3) := by decide +kernel
theorem dd_Co_take_21 : decode cb_Co_take 21 = .ok (.return_, 1) := by decide +kernel
theorem dd_Co_init_0 : decode cb_Co_init 0 = .ok (.aload_n 0, 1) := by decide +kernel
theorem dd_Co_init_1 : decode cb_Co_init 1 = .ok (.invokespecial 3, 3) := by decide +kernel
theorem dd_Co_init_4 : decode cb_Co_init 4 = .ok (.aload_n 0, 1) := by decide +kernel
theorem dd_Co_init_5 : decode cb_Co_init 5 = .ok (.new 9, 3) := by decide +kernel
theorem dd_Co_init_8 : decode cb_Co_init 8 = .ok (.dup, 1) := by decide +kernel
theorem dd_Co_init_9 : decode cb_Co_init 9 = .ok (.invokespecial 11, 3) := by decide +kernel
theorem dd_Co_init_12 : decode cb_Co_init 12 = .ok (.putfield 12, 3) := by decide +kernel
theorem dd_Co_init_15 : decode cb_Co_init 15 = .ok (.aload_n 0, 1) := by decide +kernel
theorem dd_Co_init_16 : decode cb_Co_init 16 = .ok (.new 16, 3) := by decide +kernel
theorem dd_Co_init_19 : decode cb_Co_init 19 = .ok (.dup, 1) := by decide +kernel
theorem dd_Co_init_20 : decode cb_Co_init 20 = .ok (.invokespecial 18, 3) := by decide +kernel
theorem dd_Co_init_23 : decode cb_Co_init 23 = .ok (.putfield 19, 3) := by decide +kernel
theorem dd_Co_init_26 : decode cb_Co_init 26 = .ok (.aload_n 0, 1) := by decide +kernel
theorem dd_Co_init_27 : decode cb_Co_init 27 = .ok (.new 23, 3) := by decide +kernel
theorem dd_Co_init_30 : decode cb_Co_init 30 = .ok (.dup, 1) := by decide +kernel
theorem dd_Co_init_31 : decode cb_Co_init 31 = .ok (.invokespecial 25, 3) := by decide +kernel
theorem dd_Co_init_34 : decode cb_Co_init 34 = .ok (.putfield 26, 3) := by decide +kernel
theorem dd_Co_init_37 : decode cb_Co_init 37 = .ok (.aload_n 0, 1) := by decide +kernel
theorem dd_Co_init_38 : decode cb_Co_init 38 = .ok (.new 30, 3) := by decide +kernel
theorem dd_Co_init_41 : decode cb_Co_init 41 = .ok (.dup, 1) := by decide +kernel
theorem dd_Co_init_42 : decode cb_Co_init 42 = .ok (.iconst 0, 1) := by decide +kernel
theorem dd_Co_init_43 : decode cb_Co_init 43 = .ok (.invokespecial 32, 3) := by decide +kernel
theorem dd_Co_init_46 : decode cb_Co_init 46 = .ok (.invokevirtual 35, 3) := by decide +kernel
theorem dd_Co_init_49 : decode cb_Co_init 49 = .ok (.return_, 1) := by decide +kernel
theorem dd_Co_type_0 : decode cb_Co_type 0 = .ok (.aload_n 0, 1) := by decide +kernel
theorem dd_Co_type_1 : decode cb_Co_type 1 = .ok (.getfield 12, 3) := by decide +kernel
theorem dd_Co_type_4 : decode cb_Co_type 4 = .ok (.iload_n 1, 1) := by decide +kernel
theorem dd_Co_type_5 : decode cb_Co_type 5 = .ok (.iload_n 2, 1) := by decide +kernel
theorem dd_Co_type_6 : decode cb_Co_type 6 = .ok (.invokevirtual 39, 3) := by decide +kernel
theorem dd_Co_type_9 : decode cb_Co_type 9 = .ok (.ireturn, 1) := by decide +kernel
