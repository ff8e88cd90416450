theorem dX4_init_0 : decode cX4_init 0 = .ok (.aload_n 0, 1) := by decide +kernel
theorem dX4_init_1 : decode cX4_init 1 = .ok (.invokespecial 1, 3) := by decide +kernel
theorem dX4_init_4 : decode cX4_init 4 = .ok (.aload_n 0, 1) := by decide +kernel
theorem dX4_init_5 : decode cX4_init 5 = .ok (.bipush 49, 2) := by decide +kernel
theorem dX4_init_7 : decode cX4_init 7 = .ok (.newarray .int, 2) := by decide +kernel
theorem dX4_init_9 : decode cX4_init 9 = .ok (.putfield 9, 3) := by decide +kernel
theorem dX4_init_12 : decode cX4_init 12 = .ok (.aload_n 0, 1) := by decide +kernel
theorem dX4_init_13 : decode cX4_init 13 = .ok (.bipush 49, 2) := by decide +kernel
theorem dX4_init_15 : decode cX4_init 15 = .ok (.newarray .int, 2) := by decide +kernel
theorem dX4_init_17 : decode cX4_init 17 = .ok (.putfield 13, 3) := by decide +kernel
theorem dX4_init_20 : decode cX4_init 20 = .ok (.aload_n 0, 1) := by decide +kernel
theorem dX4_init_21 : decode cX4_init 21 = .ok (.bipush 49, 2) := by decide +kernel
theorem dX4_init_23 : decode cX4_init 23 = .ok (.newarray .int, 2) := by decide +kernel
theorem dX4_init_25 : decode cX4_init 25 = .ok (.putfield 16, 3) := by decide +kernel
theorem dX4_init_28 : decode cX4_init 28 = .ok (.aload_n 0, 1) := by decide +kernel
theorem dX4_init_29 : decode cX4_init 29 = .ok (.bipush 49, 2) := by decide +kernel
theorem dX4_init_31 : decode cX4_init 31 = .ok (.newarray .int, 2) := by decide +kernel
theorem dX4_init_33 : decode cX4_init 33 = .ok (.putfield 19, 3) := by decide +kernel
theorem dX4_init_36 : decode cX4_init 36 = .ok (.aload_n 0, 1) := by decide +kernel
theorem dX4_init_37 : decode cX4_init 37 = .ok (.bipush 96, 2) := by decide +kernel
theorem dX4_init_39 : decode cX4_init 39 = .ok (.newarray .int, 2) := by decide +kernel
theorem dX4_init_41 : decode cX4_init 41 = .ok (.putfield 22, 3) := by decide +kernel
theorem dX4_init_44 : decode cX4_init 44 = .ok (.aload_n 0, 1) := by decide +kernel
theorem dX4_init_45 : decode cX4_init 45 = .ok (.bipush 16, 2) := by decide +kernel
theorem dX4_init_47 : decode cX4_init 47 = .ok (.newarray .int, 2) := by decide +kernel
theorem dX4_init_49 : decode cX4_init 49 = .ok (.putfield 25, 3) := by decide +kernel
theorem dX4_init_52 : decode cX4_init 52 = .ok (.aload_n 0, 1) := by decide +kernel
theorem dX4_init_53 : decode cX4_init 53 = .ok (.bipush 7, 2) := by decide +kernel
theorem dX4_init_55 : decode cX4_init 55 = .ok (.newarray .int, 2) := by decide +kernel
theorem dX4_init_57 : decode cX4_init 57 = .ok (.putfield 28, 3) := by decide +kernel
theorem dX4_init_60 : decode cX4_init 60 = .ok (.aload_n 0, 1) := by decide +kernel
theorem dX4_init_61 : decode cX4_init 61 = .ok (.iconst 3, 1) := by decide +kernel
theorem dX4_init_62 : decode cX4_init 62 = .ok (.newarray .int, 2) := by decide +kernel
theorem dX4_init_64 : decode cX4_init 64 = .ok (.putfield 31, 3) := by decide +kernel
theorem dX4_init_67 : decode cX4_init 67 = .ok (.aload_n 0, 1) := by decide +kernel
theorem dX4_init_68 : decode cX4_init 68 = .ok (.getfield 9, 3) := by decide +kernel
theorem dX4_init_71 : decode cX4_init 71 = .ok (.iconst 3, 1) := by decide +kernel
theorem dX4_init_72 : decode cX4_init 72 = .ok (.bipush (-9), 2) := by decide +kernel
theorem dX4_init_74 : decode cX4_init 74 = .ok (.iastore, 1) := by decide +kernel
theorem dX4_init_75 : decode cX4_init 75 = .ok (.return_, 1) := by decide +kernel
theorem dX4_isIn_0 : decode cX4_isIn 0 = .ok (.iload_n 0, 1) := by decide +kernel
theorem dX4_isIn_1 : decode cX4_isIn 1 = .ok (.iload_n 1, 1) := by decide +kernel
theorem dX4_isIn_2 : decode cX4_isIn 2 = .ok (.if_icmp .lt 12, 3) := by decide +kernel
theorem dX4_isIn_5 : decode cX4_isIn 5 = .ok (.iload_n 0, 1) := by decide +kernel
theorem dX4_isIn_6 : decode cX4_isIn 6 = .ok (.iload_n 2, 1) := by decide +kernel
theorem dX4_isIn_7 : decode cX4_isIn 7 = .ok (.if_icmp .gt 7, 3) := by decide +kernel
theorem dX4_isIn_10 : decode cX4_isIn 10 = .ok (.iconst 1, 1) := by decide +kernel
theorem dX4_isIn_11 : decode cX4_isIn 11 = .ok (.goto 4, 3) := by decide +kernel
theorem dX4_isIn_14 : decode cX4_isIn 14 = .ok (.iconst 0, 1) := by decide +kernel
theorem dX4_isIn_15 : decode cX4_isIn 15 = .ok (.ireturn, 1) := by decide +kernel
theorem dX4_least_0 : decode cX4_least 0 = .ok (.iload_n 0, 1) := by decide +kernel
theorem dX4_least_1 : decode cX4_least 1 = .ok (.iload_n 1, 1) := by decide +kernel
theorem dX4_least_2 : decode cX4_least 2 = .ok (.if_icmp .ge 7, 3) := by decide +kernel
theorem dX4_least_5 : decode cX4_least 5 = .ok (.iload_n 0, 1) := by decide +kernel
theorem dX4_least_6 : decode cX4_least 6 = .ok (.goto 4, 3) := by decide +kernel
theorem dX4_least_9 : decode cX4_least 9 = .ok (.iload_n 1, 1) := by decide +kernel
theorem dX4_least_10 : decode cX4_least 10 = .ok (.ireturn, 1) := by decide +kernel
theorem dX4_copies_0 : decode cX4_copies 0 = .ok (.iconst 0, 1) := by decide +kernel
theorem dX4_copies_1 : decode cX4_copies 1 = .ok (.istore_n 2, 1) := by decide +kernel
theorem dX4_copies_2 : decode cX4_copies 2 = .ok (.iload_n 2, 1) := by decide +kernel
theorem dX4_copies_3 : decode cX4_copies 3 = .ok (.bipush 49, 2) := by decide +kernel
theorem dX4_copies_5 : decode cX4_copies 5 = .ok (.if_icmp .ge 15, 3) := by decide +kernel
theorem dX4_copies_8 : decode cX4_copies 8 = .ok (.aload_n 1, 1) := by decide +kernel
theorem dX4_copies_9 : decode cX4_copies 9 = .ok (.iload_n 2, 1) := by decide +kernel
theorem dX4_copies_10 : decode cX4_copies 10 = .ok (.aload_n 0, 1) := by decide +kernel
theorem dX4_copies_11 : decode cX4_copies 11 = .ok (.iload_n 2, 1) := by decide +kernel
theorem dX4_copies_12 : decode cX4_copies 12 = .ok (.iaload, 1) := by decide +kernel
theorem dX4_copies_13 : decode cX4_copies 13 = .ok (.iastore, 1) := by decide +kernel
theorem dX4_copies_14 : decode cX4_copies 14 = .ok (.iinc 2 1, 3) := by decide +kernel
theorem dX4_copies_17 : decode cX4_copies 17 = .ok (.goto (-15), 3) := by decide +kernel
theorem dX4_copies_20 : decode cX4_copies 20 = .ok (.return_, 1) := by decide +kernel
theorem dX4_no_0 : decode cX4_no 0 = .ok (.aload_n 0, 1) := by decide +kernel
theorem dX4_no_1 : decode cX4_no 1 = .ok (.getfield 28, 3) := by decide +kernel
theorem dX4_no_4 : decode cX4_no 4 = .ok (.iload_n 1, 1) := by decide +kernel
theorem dX4_no_5 : decode cX4_no 5 = .ok (.ineg, 1) := by decide +kernel
theorem dX4_no_6 : decode cX4_no 6 = .ok (.dup2, 1) := by decide +kernel
theorem dX4_no_7 : decode cX4_no 7 = .ok (.iaload, 1) := by decide +kernel
theorem dX4_no_8 : decode cX4_no 8 = .ok (.iconst 1, 1) := by decide +kernel
theorem dX4_no_9 : decode cX4_no 9 = .ok (.iadd, 1) := by decide +kernel
theorem dX4_no_10 : decode cX4_no 10 = .ok (.iastore, 1) := by decide +kernel
theorem dX4_no_11 : decode cX4_no 11 = .ok (.iload_n 1, 1) := by decide +kernel
theorem dX4_no_12 : decode cX4_no 12 = .ok (.ireturn, 1) := by decide +kernel
theorem dX4_noWide_0 : decode cX4_noWide 0 = .ok (.ldc2_w 34, 3) := by decide +kernel
theorem dX4_noWide_3 : decode cX4_noWide 3 = .ok (.aload_n 0, 1) := by decide +kernel
theorem dX4_noWide_4 : decode cX4_noWide 4 = .ok (.iload_n 1, 1) := by decide +kernel
theorem dX4_noWide_5 : decode cX4_noWide 5 = .ok (.invokevirtual 36, 3) := by decide +kernel
theorem dX4_noWide_8 : decode cX4_noWide 8 = .ok (.i2l, 1) := by decide +kernel
theorem dX4_noWide_9 : decode cX4_noWide 9 = .ok (.lsub, 1) := by decide +kernel
theorem dX4_noWide_10 : decode cX4_noWide 10 = .ok (.lreturn, 1) := by decide +kernel
theorem dX4_of_0 : decode cX4_of 0 = .ok (.iconst 4, 1) := by decide +kernel
theorem dX4_of_1 : decode cX4_of 1 = .ok (.iconst 5, 1) := by decide +kernel
theorem dX4_of_2 : decode cX4_of 2 = .ok (.iload_n 0, 1) := by decide +kernel
theorem dX4_of_3 : decode cX4_of 3 = .ok (.imul, 1) := by decide +kernel
theorem dX4_of_4 : decode cX4_of 4 = .ok (.iadd, 1) := by decide +kernel
theorem dX4_of_5 : decode cX4_of 5 = .ok (.iload_n 1, 1) := by decide +kernel
theorem dX4_of_6 : decode cX4_of 6 = .ok (.iadd, 1) := by decide +kernel
theorem dX4_of_7 : decode cX4_of 7 = .ok (.ireturn, 1) := by decide +kernel
theorem dX4_isSaying_0 : decode cX4_isSaying 0 = .ok (.iload_n 1, 1) := by decide +kernel
theorem dX4_isSaying_1 : decode cX4_isSaying 1 = .ok (.iconst 0, 1) := by decide +kernel
theorem dX4_isSaying_2 : decode cX4_isSaying 2 = .ok (.aload_n 0, 1) := by decide +kernel
theorem dX4_isSaying_3 : decode cX4_isSaying 3 = .ok (.getfield 9, 3) := by decide +kernel
theorem dX4_isSaying_6 : decode cX4_isSaying 6 = .ok (.iconst 0, 1) := by decide +kernel
theorem dX4_isSaying_7 : decode cX4_isSaying 7 = .ok (.iaload, 1) := by decide +kernel
theorem dX4_isSaying_8 : decode cX4_isSaying 8 = .ok (.iconst 1, 1) := by decide +kernel
theorem dX4_isSaying_9 : decode cX4_isSaying 9 = .ok (.isub, 1) := by decide +kernel
theorem dX4_isSaying_10 : decode cX4_isSaying 10 = .ok (.invokestatic 40, 3) := by decide +kernel
theorem dX4_isSaying_13 : decode cX4_isSaying 13 = .ok (.ireturn, 1) := by decide +kernel
theorem dX4_isWoman_0 : decode cX4_isWoman 0 = .ok (.iload_n 0, 1) := by decide +kernel
theorem dX4_isWoman_1 : decode cX4_isWoman 1 = .ok (.iconst 0, 1) := by decide +kernel
theorem dX4_isWoman_2 : decode cX4_isWoman 2 = .ok (.iconst 3, 1) := by decide +kernel
theorem dX4_isWoman_3 : decode cX4_isWoman 3 = .ok (.invokestatic 40, 3) := by decide +kernel
theorem dX4_isWoman_6 : decode cX4_isWoman 6 = .ok (.ireturn, 1) := by decide +kernel
theorem dX4_has_0 : decode cX4_has 0 = .ok (.iload_n 0, 1) := by decide +kernel
theorem dX4_has_1 : decode cX4_has 1 = .ok (.iload_n 1, 1) := by decide +kernel
theorem dX4_has_2 : decode cX4_has 2 = .ok (.ishr, 1) := by decide +kernel
theorem dX4_has_3 : decode cX4_has 3 = .ok (.iconst 1, 1) := by decide +kernel
theorem dX4_has_4 : decode cX4_has 4 = .ok (.iand, 1) := by decide +kernel
theorem dX4_has_5 : decode cX4_has 5 = .ok (.iconst 1, 1) := by decide +kernel
theorem dX4_has_6 : decode cX4_has 6 = .ok (.if_icmp .ne 7, 3) := by decide +kernel
theorem dX4_has_9 : decode cX4_has 9 = .ok (.iconst 1, 1) := by decide +kernel
theorem dX4_has_10 : decode cX4_has 10 = .ok (.goto 4, 3) := by decide +kernel
theorem dX4_has_13 : decode cX4_has 13 = .ok (.iconst 0, 1) := by decide +kernel
theorem dX4_has_14 : decode cX4_has 14 = .ok (.ireturn, 1) := by decide +kernel
theorem dX4_bits_0 : decode cX4_bits 0 = .ok (.iconst 0, 1) := by decide +kernel
theorem dX4_bits_1 : decode cX4_bits 1 = .ok (.istore_n 1, 1) := by decide +kernel
theorem dX4_bits_2 : decode cX4_bits 2 = .ok (.iconst 0, 1) := by decide +kernel
theorem dX4_bits_3 : decode cX4_bits 3 = .ok (.istore_n 2, 1) := by decide +kernel
theorem dX4_bits_4 : decode cX4_bits 4 = .ok (.iload_n 2, 1) := by decide +kernel
theorem dX4_bits_5 : decode cX4_bits 5 = .ok (.bipush 10, 2) := by decide +kernel
theorem dX4_bits_7 : decode cX4_bits 7 = .ok (.if_icmp .ge 17, 3) := by decide +kernel
theorem dX4_bits_10 : decode cX4_bits 10 = .ok (.iload_n 1, 1) := by decide +kernel
theorem dX4_bits_11 : decode cX4_bits 11 = .ok (.iload_n 0, 1) := by decide +kernel
theorem dX4_bits_12 : decode cX4_bits 12 = .ok (.iload_n 2, 1) := by decide +kernel
theorem dX4_bits_13 : decode cX4_bits 13 = .ok (.ishr, 1) := by decide +kernel
theorem dX4_bits_14 : decode cX4_bits 14 = .ok (.iconst 1, 1) := by decide +kernel
theorem dX4_bits_15 : decode cX4_bits 15 = .ok (.iand, 1) := by decide +kernel
theorem dX4_bits_16 : decode cX4_bits 16 = .ok (.iadd, 1) := by decide +kernel
theorem dX4_bits_17 : decode cX4_bits 17 = .ok (.istore_n 1, 1) := by decide +kernel
theorem dX4_bits_18 : decode cX4_bits 18 = .ok (.iinc 2 1, 3) := by decide +kernel
theorem dX4_bits_21 : decode cX4_bits 21 = .ok (.goto (-17), 3) := by decide +kernel
theorem dX4_bits_24 : decode cX4_bits 24 = .ok (.iload_n 1, 1) := by decide +kernel
theorem dX4_bits_25 : decode cX4_bits 25 = .ok (.ireturn, 1) := by decide +kernel
theorem dX4_fresh_0 : decode cX4_fresh 0 = .ok (.aload_n 0, 1) := by decide +kernel
theorem dX4_fresh_1 : decode cX4_fresh 1 = .ok (.iload_n 1, 1) := by decide +kernel
theorem dX4_fresh_2 : decode cX4_fresh 2 = .ok (.iconst 1, 1) := by decide +kernel
theorem dX4_fresh_3 : decode cX4_fresh 3 = .ok (.invokestatic 44, 3) := by decide +kernel
theorem dX4_fresh_6 : decode cX4_fresh 6 = .ok (.iaload, 1) := by decide +kernel
theorem dX4_fresh_7 : decode cX4_fresh 7 = .ok (.aload_n 0, 1) := by decide +kernel
theorem dX4_fresh_8 : decode cX4_fresh 8 = .ok (.iload_n 1, 1) := by decide +kernel
theorem dX4_fresh_9 : decode cX4_fresh 9 = .ok (.iconst 3, 1) := by decide +kernel
theorem dX4_fresh_10 : decode cX4_fresh 10 = .ok (.invokestatic 44, 3) := by decide +kernel
theorem dX4_fresh_13 : decode cX4_fresh 13 = .ok (.iaload, 1) := by decide +kernel
theorem dX4_fresh_14 : decode cX4_fresh 14 = .ok (.isub, 1) := by decide +kernel
theorem dX4_fresh_15 : decode cX4_fresh 15 = .ok (.istore_n 2, 1) := by decide +kernel
theorem dX4_fresh_16 : decode cX4_fresh 16 = .ok (.iload_n 2, 1) := by decide +kernel
theorem dX4_fresh_17 : decode cX4_fresh 17 = .ok (.ifCond .ge 7, 3) := by decide +kernel
theorem dX4_fresh_20 : decode cX4_fresh 20 = .ok (.iconst 0, 1) := by decide +kernel
theorem dX4_fresh_21 : decode cX4_fresh 21 = .ok (.goto 4, 3) := by decide +kernel
theorem dX4_fresh_24 : decode cX4_fresh 24 = .ok (.iload_n 2, 1) := by decide +kernel
theorem dX4_fresh_25 : decode cX4_fresh 25 = .ok (.ireturn, 1) := by decide +kernel
theorem dX4_softOf_0 : decode cX4_softOf 0 = .ok (.aload_n 0, 1) := by decide +kernel
theorem dX4_softOf_1 : decode cX4_softOf 1 = .ok (.iload_n 1, 1) := by decide +kernel
theorem dX4_softOf_2 : decode cX4_softOf 2 = .ok (.invokestatic 48, 3) := by decide +kernel
theorem dX4_softOf_5 : decode cX4_softOf 5 = .ok (.istore_n 2, 1) := by decide +kernel
theorem dX4_softOf_6 : decode cX4_softOf 6 = .ok (.aload_n 0, 1) := by decide +kernel
theorem dX4_softOf_7 : decode cX4_softOf 7 = .ok (.iload_n 1, 1) := by decide +kernel
theorem dX4_softOf_8 : decode cX4_softOf 8 = .ok (.iconst 0, 1) := by decide +kernel
theorem dX4_softOf_9 : decode cX4_softOf 9 = .ok (.invokestatic 44, 3) := by decide +kernel
theorem dX4_softOf_12 : decode cX4_softOf 12 = .ok (.iaload, 1) := by decide +kernel
theorem dX4_softOf_13 : decode cX4_softOf 13 = .ok (.tableswitch 62 1 5 #[35, 39, 41, 45, 47], 35) := by decide +kernel
theorem dX4_softOf_48 : decode cX4_softOf 48 = .ok (.iload_n 2, 1) := by decide +kernel
theorem dX4_softOf_49 : decode cX4_softOf 49 = .ok (.iconst 3, 1) := by decide +kernel
theorem dX4_softOf_50 : decode cX4_softOf 50 = .ok (.iadd, 1) := by decide +kernel
theorem dX4_softOf_51 : decode cX4_softOf 51 = .ok (.ireturn, 1) := by decide +kernel
theorem dX4_softOf_52 : decode cX4_softOf 52 = .ok (.iconst 0, 1) := by decide +kernel
theorem dX4_softOf_53 : decode cX4_softOf 53 = .ok (.ireturn, 1) := by decide +kernel
theorem dX4_softOf_54 : decode cX4_softOf 54 = .ok (.iload_n 2, 1) := by decide +kernel
theorem dX4_softOf_55 : decode cX4_softOf 55 = .ok (.iconst 2, 1) := by decide +kernel
theorem dX4_softOf_56 : decode cX4_softOf 56 = .ok (.idiv, 1) := by decide +kernel
theorem dX4_softOf_57 : decode cX4_softOf 57 = .ok (.ireturn, 1) := by decide +kernel
theorem dX4_softOf_58 : decode cX4_softOf 58 = .ok (.iconst 1, 1) := by decide +kernel
theorem dX4_softOf_59 : decode cX4_softOf 59 = .ok (.ireturn, 1) := by decide +kernel
theorem dX4_softOf_60 : decode cX4_softOf 60 = .ok (.iload_n 2, 1) := by decide +kernel
theorem dX4_softOf_61 : decode cX4_softOf 61 = .ok (.iconst 4, 1) := by decide +kernel
theorem dX4_softOf_62 : decode cX4_softOf 62 = .ok (.if_icmp .le 11, 3) := by decide +kernel
theorem dX4_softOf_65 : decode cX4_softOf 65 = .ok (.iconst 2, 1) := by decide +kernel
theorem dX4_softOf_66 : decode cX4_softOf 66 = .ok (.iload_n 2, 1) := by decide +kernel
theorem dX4_softOf_67 : decode cX4_softOf 67 = .ok (.iconst 3, 1) := by decide +kernel
theorem dX4_softOf_68 : decode cX4_softOf 68 = .ok (.iadd, 1) := by decide +kernel
theorem dX4_softOf_69 : decode cX4_softOf 69 = .ok (.imul, 1) := by decide +kernel
theorem dX4_softOf_70 : decode cX4_softOf 70 = .ok (.goto 4, 3) := by decide +kernel
theorem dX4_softOf_73 : decode cX4_softOf 73 = .ok (.iconst 0, 1) := by decide +kernel
theorem dX4_softOf_74 : decode cX4_softOf 74 = .ok (.ireturn, 1) := by decide +kernel
theorem dX4_softOf_75 : decode cX4_softOf 75 = .ok (.iload_n 2, 1) := by decide +kernel
theorem dX4_softOf_76 : decode cX4_softOf 76 = .ok (.ireturn, 1) := by decide +kernel
theorem dX4_bindsOf_0 : decode cX4_bindsOf 0 = .ok (.aload_n 0, 1) := by decide +kernel
theorem dX4_bindsOf_1 : decode cX4_bindsOf 1 = .ok (.iload_n 1, 1) := by decide +kernel
theorem dX4_bindsOf_2 : decode cX4_bindsOf 2 = .ok (.invokestatic 48, 3) := by decide +kernel
theorem dX4_bindsOf_5 : decode cX4_bindsOf 5 = .ok (.istore_n 2, 1) := by decide +kernel
theorem dX4_bindsOf_6 : decode cX4_bindsOf 6 = .ok (.aload_n 0, 1) := by decide +kernel
theorem dX4_bindsOf_7 : decode cX4_bindsOf 7 = .ok (.iload_n 1, 1) := by decide +kernel
theorem dX4_bindsOf_8 : decode cX4_bindsOf 8 = .ok (.iconst 0, 1) := by decide +kernel
theorem dX4_bindsOf_9 : decode cX4_bindsOf 9 = .ok (.invokestatic 44, 3) := by decide +kernel
theorem dX4_bindsOf_12 : decode cX4_bindsOf 12 = .ok (.iaload, 1) := by decide +kernel
theorem dX4_bindsOf_13 : decode cX4_bindsOf 13 = .ok (.tableswitch 49 1 5 #[35, 37, 49, 43, 35], 35) := by decide +kernel
theorem dX4_bindsOf_48 : decode cX4_bindsOf 48 = .ok (.iconst 0, 1) := by decide +kernel
theorem dX4_bindsOf_49 : decode cX4_bindsOf 49 = .ok (.ireturn, 1) := by decide +kernel
theorem dX4_bindsOf_50 : decode cX4_bindsOf 50 = .ok (.iload_n 2, 1) := by decide +kernel
theorem dX4_bindsOf_51 : decode cX4_bindsOf 51 = .ok (.iconst 2, 1) := by decide +kernel
theorem dX4_bindsOf_52 : decode cX4_bindsOf 52 = .ok (.idiv, 1) := by decide +kernel
theorem dX4_bindsOf_53 : decode cX4_bindsOf 53 = .ok (.iconst 2, 1) := by decide +kernel
theorem dX4_bindsOf_54 : decode cX4_bindsOf 54 = .ok (.iadd, 1) := by decide +kernel
theorem dX4_bindsOf_55 : decode cX4_bindsOf 55 = .ok (.ireturn, 1) := by decide +kernel
theorem dX4_bindsOf_56 : decode cX4_bindsOf 56 = .ok (.iload_n 2, 1) := by decide +kernel
theorem dX4_bindsOf_57 : decode cX4_bindsOf 57 = .ok (.iconst 2, 1) := by decide +kernel
theorem dX4_bindsOf_58 : decode cX4_bindsOf 58 = .ok (.idiv, 1) := by decide +kernel
theorem dX4_bindsOf_59 : decode cX4_bindsOf 59 = .ok (.iconst 5, 1) := by decide +kernel
theorem dX4_bindsOf_60 : decode cX4_bindsOf 60 = .ok (.iadd, 1) := by decide +kernel
theorem dX4_bindsOf_61 : decode cX4_bindsOf 61 = .ok (.ireturn, 1) := by decide +kernel
theorem dX4_bindsOf_62 : decode cX4_bindsOf 62 = .ok (.iconst 1, 1) := by decide +kernel
theorem dX4_bindsOf_63 : decode cX4_bindsOf 63 = .ok (.ireturn, 1) := by decide +kernel
theorem dX4_weighsOf_0 : decode cX4_weighsOf 0 = .ok (.aload_n 0, 1) := by decide +kernel
theorem dX4_weighsOf_1 : decode cX4_weighsOf 1 = .ok (.iload_n 1, 1) := by decide +kernel
theorem dX4_weighsOf_2 : decode cX4_weighsOf 2 = .ok (.iconst 0, 1) := by decide +kernel
theorem dX4_weighsOf_3 : decode cX4_weighsOf 3 = .ok (.invokestatic 44, 3) := by decide +kernel
theorem dX4_weighsOf_6 : decode cX4_weighsOf 6 = .ok (.iaload, 1) := by decide +kernel
theorem dX4_weighsOf_7 : decode cX4_weighsOf 7 = .ok (.tableswitch 44 2 4 #[25, 27, 42], 25) := by decide +kernel
theorem dX4_weighsOf_32 : decode cX4_weighsOf 32 = .ok (.iconst 2, 1) := by decide +kernel
theorem dX4_weighsOf_33 : decode cX4_weighsOf 33 = .ok (.ireturn, 1) := by decide +kernel
theorem dX4_weighsOf_34 : decode cX4_weighsOf 34 = .ok (.aload_n 0, 1) := by decide +kernel
theorem dX4_weighsOf_35 : decode cX4_weighsOf 35 = .ok (.iload_n 1, 1) := by decide +kernel
theorem dX4_weighsOf_36 : decode cX4_weighsOf 36 = .ok (.invokestatic 48, 3) := by decide +kernel
theorem dX4_weighsOf_39 : decode cX4_weighsOf 39 = .ok (.iconst 3, 1) := by decide +kernel
theorem dX4_weighsOf_40 : decode cX4_weighsOf 40 = .ok (.if_icmp .ge 7, 3) := by decide +kernel
theorem dX4_weighsOf_43 : decode cX4_weighsOf 43 = .ok (.iconst 0, 1) := by decide +kernel
theorem dX4_weighsOf_44 : decode cX4_weighsOf 44 = .ok (.goto 4, 3) := by decide +kernel
theorem dX4_weighsOf_47 : decode cX4_weighsOf 47 = .ok (.iconst 1, 1) := by decide +kernel
theorem dX4_weighsOf_48 : decode cX4_weighsOf 48 = .ok (.ireturn, 1) := by decide +kernel
theorem dX4_weighsOf_49 : decode cX4_weighsOf 49 = .ok (.iconst 3, 1) := by decide +kernel
theorem dX4_weighsOf_50 : decode cX4_weighsOf 50 = .ok (.ireturn, 1) := by decide +kernel
theorem dX4_weighsOf_51 : decode cX4_weighsOf 51 = .ok (.iconst 1, 1) := by decide +kernel
theorem dX4_weighsOf_52 : decode cX4_weighsOf 52 = .ok (.ireturn, 1) := by decide +kernel
theorem dX4_sumOf_0 : decode cX4_sumOf 0 = .ok (.iconst 0, 1) := by decide +kernel
theorem dX4_sumOf_1 : decode cX4_sumOf 1 = .ok (.istore_n 3, 1) := by decide +kernel
theorem dX4_sumOf_2 : decode cX4_sumOf 2 = .ok (.iconst 0, 1) := by decide +kernel
theorem dX4_sumOf_3 : decode cX4_sumOf 3 = .ok (.istore 4, 2) := by decide +kernel
theorem dX4_sumOf_5 : decode cX4_sumOf 5 = .ok (.iload 4, 2) := by decide +kernel
theorem dX4_sumOf_7 : decode cX4_sumOf 7 = .ok (.aload_n 0, 1) := by decide +kernel
theorem dX4_sumOf_8 : decode cX4_sumOf 8 = .ok (.iconst 0, 1) := by decide +kernel
theorem dX4_sumOf_9 : decode cX4_sumOf 9 = .ok (.iaload, 1) := by decide +kernel
theorem dX4_sumOf_10 : decode cX4_sumOf 10 = .ok (.if_icmp .ge 59, 3) := by decide +kernel
theorem dX4_sumOf_13 : decode cX4_sumOf 13 = .ok (.iload_n 3, 1) := by decide +kernel
theorem dX4_sumOf_14 : decode cX4_sumOf 14 = .ok (.iload_n 1, 1) := by decide +kernel
theorem dX4_sumOf_15 : decode cX4_sumOf 15 = .ok (.iload 4, 2) := by decide +kernel
theorem dX4_sumOf_17 : decode cX4_sumOf 17 = .ok (.invokestatic 52, 3) := by decide +kernel
theorem dX4_sumOf_20 : decode cX4_sumOf 20 = .ok (.ifCond .ne 7, 3) := by decide +kernel
theorem dX4_sumOf_23 : decode cX4_sumOf 23 = .ok (.iconst 0, 1) := by decide +kernel
theorem dX4_sumOf_24 : decode cX4_sumOf 24 = .ok (.goto 37, 3) := by decide +kernel
theorem dX4_sumOf_27 : decode cX4_sumOf 27 = .ok (.iload_n 2, 1) := by decide +kernel
theorem dX4_sumOf_28 : decode cX4_sumOf 28 = .ok (.iconst 1, 1) := by decide +kernel
theorem dX4_sumOf_29 : decode cX4_sumOf 29 = .ok (.if_icmp .ne 12, 3) := by decide +kernel
theorem dX4_sumOf_32 : decode cX4_sumOf 32 = .ok (.aload_n 0, 1) := by decide +kernel
theorem dX4_sumOf_33 : decode cX4_sumOf 33 = .ok (.iload 4, 2) := by decide +kernel
theorem dX4_sumOf_35 : decode cX4_sumOf 35 = .ok (.invokestatic 56, 3) := by decide +kernel
theorem dX4_sumOf_38 : decode cX4_sumOf 38 = .ok (.goto 23, 3) := by decide +kernel
theorem dX4_sumOf_41 : decode cX4_sumOf 41 = .ok (.iload_n 2, 1) := by decide +kernel
theorem dX4_sumOf_42 : decode cX4_sumOf 42 = .ok (.iconst 2, 1) := by decide +kernel
theorem dX4_sumOf_43 : decode cX4_sumOf 43 = .ok (.if_icmp .ne 12, 3) := by decide +kernel
theorem dX4_sumOf_46 : decode cX4_sumOf 46 = .ok (.aload_n 0, 1) := by decide +kernel
theorem dX4_sumOf_47 : decode cX4_sumOf 47 = .ok (.iload 4, 2) := by decide +kernel
theorem dX4_sumOf_49 : decode cX4_sumOf 49 = .ok (.invokestatic 59, 3) := by decide +kernel
theorem dX4_sumOf_52 : decode cX4_sumOf 52 = .ok (.goto 9, 3) := by decide +kernel
theorem dX4_sumOf_55 : decode cX4_sumOf 55 = .ok (.aload_n 0, 1) := by decide +kernel
theorem dX4_sumOf_56 : decode cX4_sumOf 56 = .ok (.iload 4, 2) := by decide +kernel
theorem dX4_sumOf_58 : decode cX4_sumOf 58 = .ok (.invokestatic 62, 3) := by decide +kernel
theorem dX4_sumOf_61 : decode cX4_sumOf 61 = .ok (.iadd, 1) := by decide +kernel
theorem dX4_sumOf_62 : decode cX4_sumOf 62 = .ok (.istore_n 3, 1) := by decide +kernel
theorem dX4_sumOf_63 : decode cX4_sumOf 63 = .ok (.iinc 4 1, 3) := by decide +kernel
theorem dX4_sumOf_66 : decode cX4_sumOf 66 = .ok (.goto (-61), 3) := by decide +kernel
theorem dX4_sumOf_69 : decode cX4_sumOf 69 = .ok (.iload_n 3, 1) := by decide +kernel
theorem dX4_sumOf_70 : decode cX4_sumOf 70 = .ok (.ireturn, 1) := by decide +kernel
theorem dX4_ofHer_0 : decode cX4_ofHer 0 = .ok (.iconst 0, 1) := by decide +kernel
theorem dX4_ofHer_1 : decode cX4_ofHer 1 = .ok (.istore_n 3, 1) := by decide +kernel
theorem dX4_ofHer_2 : decode cX4_ofHer 2 = .ok (.iconst 0, 1) := by decide +kernel
theorem dX4_ofHer_3 : decode cX4_ofHer 3 = .ok (.istore 4, 2) := by decide +kernel
theorem dX4_ofHer_5 : decode cX4_ofHer 5 = .ok (.iload 4, 2) := by decide +kernel
theorem dX4_ofHer_7 : decode cX4_ofHer 7 = .ok (.aload_n 0, 1) := by decide +kernel
theorem dX4_ofHer_8 : decode cX4_ofHer 8 = .ok (.iconst 0, 1) := by decide +kernel
theorem dX4_ofHer_9 : decode cX4_ofHer 9 = .ok (.iaload, 1) := by decide +kernel
theorem dX4_ofHer_10 : decode cX4_ofHer 10 = .ok (.if_icmp .ge 44, 3) := by decide +kernel
theorem dX4_ofHer_13 : decode cX4_ofHer 13 = .ok (.iload_n 3, 1) := by decide +kernel
theorem dX4_ofHer_14 : decode cX4_ofHer 14 = .ok (.aload_n 0, 1) := by decide +kernel
theorem dX4_ofHer_15 : decode cX4_ofHer 15 = .ok (.iload 4, 2) := by decide +kernel
theorem dX4_ofHer_17 : decode cX4_ofHer 17 = .ok (.iconst 2, 1) := by decide +kernel
theorem dX4_ofHer_18 : decode cX4_ofHer 18 = .ok (.invokestatic 44, 3) := by decide +kernel
theorem dX4_ofHer_21 : decode cX4_ofHer 21 = .ok (.iaload, 1) := by decide +kernel
theorem dX4_ofHer_22 : decode cX4_ofHer 22 = .ok (.iload_n 1, 1) := by decide +kernel
theorem dX4_ofHer_23 : decode cX4_ofHer 23 = .ok (.if_icmp .ne 22, 3) := by decide +kernel
theorem dX4_ofHer_26 : decode cX4_ofHer 26 = .ok (.aload_n 0, 1) := by decide +kernel
theorem dX4_ofHer_27 : decode cX4_ofHer 27 = .ok (.iload 4, 2) := by decide +kernel
theorem dX4_ofHer_29 : decode cX4_ofHer 29 = .ok (.iconst 4, 1) := by decide +kernel
theorem dX4_ofHer_30 : decode cX4_ofHer 30 = .ok (.invokestatic 44, 3) := by decide +kernel
theorem dX4_ofHer_33 : decode cX4_ofHer 33 = .ok (.iaload, 1) := by decide +kernel
theorem dX4_ofHer_34 : decode cX4_ofHer 34 = .ok (.iload_n 2, 1) := by decide +kernel
theorem dX4_ofHer_35 : decode cX4_ofHer 35 = .ok (.if_icmp .ne 10, 3) := by decide +kernel
theorem dX4_ofHer_38 : decode cX4_ofHer 38 = .ok (.iconst 1, 1) := by decide +kernel
theorem dX4_ofHer_39 : decode cX4_ofHer 39 = .ok (.iload 4, 2) := by decide +kernel
theorem dX4_ofHer_41 : decode cX4_ofHer 41 = .ok (.ishl, 1) := by decide +kernel
theorem dX4_ofHer_42 : decode cX4_ofHer 42 = .ok (.goto 4, 3) := by decide +kernel
theorem dX4_ofHer_45 : decode cX4_ofHer 45 = .ok (.iconst 0, 1) := by decide +kernel
theorem dX4_ofHer_46 : decode cX4_ofHer 46 = .ok (.ior, 1) := by decide +kernel
theorem dX4_ofHer_47 : decode cX4_ofHer 47 = .ok (.istore_n 3, 1) := by decide +kernel
theorem dX4_ofHer_48 : decode cX4_ofHer 48 = .ok (.iinc 4 1, 3) := by decide +kernel
theorem dX4_ofHer_51 : decode cX4_ofHer 51 = .ok (.goto (-46), 3) := by decide +kernel
theorem dX4_ofHer_54 : decode cX4_ofHer 54 = .ok (.iload_n 3, 1) := by decide +kernel
theorem dX4_ofHer_55 : decode cX4_ofHer 55 = .ok (.ireturn, 1) := by decide +kernel
theorem dX4_nestIn_0 : decode cX4_nestIn 0 = .ok (.aload_n 0, 1) := by decide +kernel
theorem dX4_nestIn_1 : decode cX4_nestIn 1 = .ok (.iload_n 1, 1) := by decide +kernel
theorem dX4_nestIn_2 : decode cX4_nestIn 2 = .ok (.iconst 1, 1) := by decide +kernel
theorem dX4_nestIn_3 : decode cX4_nestIn 3 = .ok (.invokestatic 65, 3) := by decide +kernel
theorem dX4_nestIn_6 : decode cX4_nestIn 6 = .ok (.ireturn, 1) := by decide +kernel
theorem dX4_holdsSet_0 : decode cX4_holdsSet 0 = .ok (.aload_n 0, 1) := by decide +kernel
theorem dX4_holdsSet_1 : decode cX4_holdsSet 1 = .ok (.iload_n 1, 1) := by decide +kernel
theorem dX4_holdsSet_2 : decode cX4_holdsSet 2 = .ok (.iconst 2, 1) := by decide +kernel
theorem dX4_holdsSet_3 : decode cX4_holdsSet 3 = .ok (.invokestatic 69, 3) := by decide +kernel
theorem dX4_holdsSet_6 : decode cX4_holdsSet 6 = .ok (.aload_n 0, 1) := by decide +kernel
theorem dX4_holdsSet_7 : decode cX4_holdsSet 7 = .ok (.iload_n 1, 1) := by decide +kernel
theorem dX4_holdsSet_8 : decode cX4_holdsSet 8 = .ok (.iconst 3, 1) := by decide +kernel
theorem dX4_holdsSet_9 : decode cX4_holdsSet 9 = .ok (.invokestatic 69, 3) := by decide +kernel
theorem dX4_holdsSet_12 : decode cX4_holdsSet 12 = .ok (.if_icmp .lt 7, 3) := by decide +kernel
theorem dX4_holdsSet_15 : decode cX4_holdsSet 15 = .ok (.iconst 1, 1) := by decide +kernel
theorem dX4_holdsSet_16 : decode cX4_holdsSet 16 = .ok (.goto 4, 3) := by decide +kernel
theorem dX4_holdsSet_19 : decode cX4_holdsSet 19 = .ok (.iconst 0, 1) := by decide +kernel
theorem dX4_holdsSet_20 : decode cX4_holdsSet 20 = .ok (.ireturn, 1) := by decide +kernel
theorem dX4_fallsIn_0 : decode cX4_fallsIn 0 = .ok (.aload_n 0, 1) := by decide +kernel
theorem dX4_fallsIn_1 : decode cX4_fallsIn 1 = .ok (.iload_n 1, 1) := by decide +kernel
theorem dX4_fallsIn_2 : decode cX4_fallsIn 2 = .ok (.invokestatic 72, 3) := by decide +kernel
theorem dX4_fallsIn_5 : decode cX4_fallsIn 5 = .ok (.istore_n 2, 1) := by decide +kernel
theorem dX4_fallsIn_6 : decode cX4_fallsIn 6 = .ok (.iload_n 2, 1) := by decide +kernel
theorem dX4_fallsIn_7 : decode cX4_fallsIn 7 = .ok (.ifCond .ne 4, 3) := by decide +kernel
theorem dX4_fallsIn_10 : decode cX4_fallsIn 10 = .ok (.return_, 1) := by decide +kernel
theorem dX4_fallsIn_11 : decode cX4_fallsIn 11 = .ok (.iconst 0, 1) := by decide +kernel
theorem dX4_fallsIn_12 : decode cX4_fallsIn 12 = .ok (.istore_n 3, 1) := by decide +kernel
theorem dX4_fallsIn_13 : decode cX4_fallsIn 13 = .ok (.iload_n 3, 1) := by decide +kernel
theorem dX4_fallsIn_14 : decode cX4_fallsIn 14 = .ok (.aload_n 0, 1) := by decide +kernel
theorem dX4_fallsIn_15 : decode cX4_fallsIn 15 = .ok (.iconst 0, 1) := by decide +kernel
theorem dX4_fallsIn_16 : decode cX4_fallsIn 16 = .ok (.iaload, 1) := by decide +kernel
theorem dX4_fallsIn_17 : decode cX4_fallsIn 17 = .ok (.if_icmp .ge 25, 3) := by decide +kernel
theorem dX4_fallsIn_20 : decode cX4_fallsIn 20 = .ok (.iload_n 2, 1) := by decide +kernel
theorem dX4_fallsIn_21 : decode cX4_fallsIn 21 = .ok (.iload_n 3, 1) := by decide +kernel
theorem dX4_fallsIn_22 : decode cX4_fallsIn 22 = .ok (.invokestatic 52, 3) := by decide +kernel
theorem dX4_fallsIn_25 : decode cX4_fallsIn 25 = .ok (.ifCond .eq 11, 3) := by decide +kernel
theorem dX4_fallsIn_28 : decode cX4_fallsIn 28 = .ok (.aload_n 0, 1) := by decide +kernel
theorem dX4_fallsIn_29 : decode cX4_fallsIn 29 = .ok (.iload_n 3, 1) := by decide +kernel
theorem dX4_fallsIn_30 : decode cX4_fallsIn 30 = .ok (.iconst 4, 1) := by decide +kernel
theorem dX4_fallsIn_31 : decode cX4_fallsIn 31 = .ok (.invokestatic 44, 3) := by decide +kernel
theorem dX4_fallsIn_34 : decode cX4_fallsIn 34 = .ok (.iconst 0, 1) := by decide +kernel
theorem dX4_fallsIn_35 : decode cX4_fallsIn 35 = .ok (.iastore, 1) := by decide +kernel
theorem dX4_fallsIn_36 : decode cX4_fallsIn 36 = .ok (.iinc 3 1, 3) := by decide +kernel
theorem dX4_fallsIn_39 : decode cX4_fallsIn 39 = .ok (.goto (-26), 3) := by decide +kernel
theorem dX4_fallsIn_42 : decode cX4_fallsIn 42 = .ok (.aload_n 0, 1) := by decide +kernel
theorem dX4_fallsIn_43 : decode cX4_fallsIn 43 = .ok (.iconst 2, 1) := by decide +kernel
theorem dX4_fallsIn_44 : decode cX4_fallsIn 44 = .ok (.sipush 999, 3) := by decide +kernel
theorem dX4_fallsIn_47 : decode cX4_fallsIn 47 = .ok (.aload_n 0, 1) := by decide +kernel
theorem dX4_fallsIn_48 : decode cX4_fallsIn 48 = .ok (.iconst 2, 1) := by decide +kernel
theorem dX4_fallsIn_49 : decode cX4_fallsIn 49 = .ok (.iaload, 1) := by decide +kernel
theorem dX4_fallsIn_50 : decode cX4_fallsIn 50 = .ok (.iconst 1, 1) := by decide +kernel
theorem dX4_fallsIn_51 : decode cX4_fallsIn 51 = .ok (.iadd, 1) := by decide +kernel
theorem dX4_fallsIn_52 : decode cX4_fallsIn 52 = .ok (.invokestatic 75, 3) := by decide +kernel
theorem dX4_fallsIn_55 : decode cX4_fallsIn 55 = .ok (.iastore, 1) := by decide +kernel
theorem dX4_fallsIn_56 : decode cX4_fallsIn 56 = .ok (.return_, 1) := by decide +kernel
theorem dX4_wearsIn_0 : decode cX4_wearsIn 0 = .ok (.aload_n 0, 1) := by decide +kernel
theorem dX4_wearsIn_1 : decode cX4_wearsIn 1 = .ok (.iload_n 1, 1) := by decide +kernel
theorem dX4_wearsIn_2 : decode cX4_wearsIn 2 = .ok (.iconst 3, 1) := by decide +kernel
theorem dX4_wearsIn_3 : decode cX4_wearsIn 3 = .ok (.invokestatic 44, 3) := by decide +kernel
theorem dX4_wearsIn_6 : decode cX4_wearsIn 6 = .ok (.bipush 9, 2) := by decide +kernel
theorem dX4_wearsIn_8 : decode cX4_wearsIn 8 = .ok (.aload_n 0, 1) := by decide +kernel
theorem dX4_wearsIn_9 : decode cX4_wearsIn 9 = .ok (.iload_n 1, 1) := by decide +kernel
theorem dX4_wearsIn_10 : decode cX4_wearsIn 10 = .ok (.iconst 3, 1) := by decide +kernel
theorem dX4_wearsIn_11 : decode cX4_wearsIn 11 = .ok (.invokestatic 44, 3) := by decide +kernel
theorem dX4_wearsIn_14 : decode cX4_wearsIn 14 = .ok (.iaload, 1) := by decide +kernel
theorem dX4_wearsIn_15 : decode cX4_wearsIn 15 = .ok (.iconst 1, 1) := by decide +kernel
theorem dX4_wearsIn_16 : decode cX4_wearsIn 16 = .ok (.iadd, 1) := by decide +kernel
theorem dX4_wearsIn_17 : decode cX4_wearsIn 17 = .ok (.invokestatic 75, 3) := by decide +kernel
theorem dX4_wearsIn_20 : decode cX4_wearsIn 20 = .ok (.iastore, 1) := by decide +kernel
theorem dX4_wearsIn_21 : decode cX4_wearsIn 21 = .ok (.return_, 1) := by decide +kernel
theorem dX4_leastSaid_0 : decode cX4_leastSaid 0 = .ok (.iconst 0, 1) := by decide +kernel
theorem dX4_leastSaid_1 : decode cX4_leastSaid 1 = .ok (.istore_n 2, 1) := by decide +kernel
theorem dX4_leastSaid_2 : decode cX4_leastSaid 2 = .ok (.iload_n 2, 1) := by decide +kernel
theorem dX4_leastSaid_3 : decode cX4_leastSaid 3 = .ok (.aload_n 0, 1) := by decide +kernel
theorem dX4_leastSaid_4 : decode cX4_leastSaid 4 = .ok (.iconst 0, 1) := by decide +kernel
theorem dX4_leastSaid_5 : decode cX4_leastSaid 5 = .ok (.iaload, 1) := by decide +kernel
theorem dX4_leastSaid_6 : decode cX4_leastSaid 6 = .ok (.if_icmp .ge 32, 3) := by decide +kernel
theorem dX4_leastSaid_9 : decode cX4_leastSaid 9 = .ok (.aload_n 0, 1) := by decide +kernel
theorem dX4_leastSaid_10 : decode cX4_leastSaid 10 = .ok (.iload_n 2, 1) := by decide +kernel
theorem dX4_leastSaid_11 : decode cX4_leastSaid 11 = .ok (.iconst 2, 1) := by decide +kernel
theorem dX4_leastSaid_12 : decode cX4_leastSaid 12 = .ok (.invokestatic 44, 3) := by decide +kernel
theorem dX4_leastSaid_15 : decode cX4_leastSaid 15 = .ok (.iaload, 1) := by decide +kernel
theorem dX4_leastSaid_16 : decode cX4_leastSaid 16 = .ok (.iload_n 1, 1) := by decide +kernel
theorem dX4_leastSaid_17 : decode cX4_leastSaid 17 = .ok (.if_icmp .ne 15, 3) := by decide +kernel
theorem dX4_leastSaid_20 : decode cX4_leastSaid 20 = .ok (.aload_n 0, 1) := by decide +kernel
theorem dX4_leastSaid_21 : decode cX4_leastSaid 21 = .ok (.iload_n 2, 1) := by decide +kernel
theorem dX4_leastSaid_22 : decode cX4_leastSaid 22 = .ok (.iconst 4, 1) := by decide +kernel
theorem dX4_leastSaid_23 : decode cX4_leastSaid 23 = .ok (.invokestatic 44, 3) := by decide +kernel
theorem dX4_leastSaid_26 : decode cX4_leastSaid 26 = .ok (.iaload, 1) := by decide +kernel
theorem dX4_leastSaid_27 : decode cX4_leastSaid 27 = .ok (.ifCond .ne 5, 3) := by decide +kernel
theorem dX4_leastSaid_30 : decode cX4_leastSaid 30 = .ok (.iload_n 2, 1) := by decide +kernel
theorem dX4_leastSaid_31 : decode cX4_leastSaid 31 = .ok (.ireturn, 1) := by decide +kernel
theorem dX4_leastSaid_32 : decode cX4_leastSaid 32 = .ok (.iinc 2 1, 3) := by decide +kernel
theorem dX4_leastSaid_35 : decode cX4_leastSaid 35 = .ok (.goto (-33), 3) := by decide +kernel
theorem dX4_leastSaid_38 : decode cX4_leastSaid 38 = .ok (.bipush (-9), 2) := by decide +kernel
theorem dX4_leastSaid_40 : decode cX4_leastSaid 40 = .ok (.ireturn, 1) := by decide +kernel
theorem dX4_day_0 : decode cX4_day 0 = .ok (.aload_n 0, 1) := by decide +kernel
theorem dX4_day_1 : decode cX4_day 1 = .ok (.iconst 1, 1) := by decide +kernel
theorem dX4_day_2 : decode cX4_day 2 = .ok (.dup2, 1) := by decide +kernel
theorem dX4_day_3 : decode cX4_day 3 = .ok (.iaload, 1) := by decide +kernel
theorem dX4_day_4 : decode cX4_day 4 = .ok (.iconst 1, 1) := by decide +kernel
theorem dX4_day_5 : decode cX4_day 5 = .ok (.iadd, 1) := by decide +kernel
theorem dX4_day_6 : decode cX4_day 6 = .ok (.iastore, 1) := by decide +kernel
theorem dX4_day_7 : decode cX4_day 7 = .ok (.iconst 0, 1) := by decide +kernel
theorem dX4_day_8 : decode cX4_day 8 = .ok (.istore_n 1, 1) := by decide +kernel
theorem dX4_day_9 : decode cX4_day 9 = .ok (.iload_n 1, 1) := by decide +kernel
theorem dX4_day_10 : decode cX4_day 10 = .ok (.aload_n 0, 1) := by decide +kernel
theorem dX4_day_11 : decode cX4_day 11 = .ok (.iconst 0, 1) := by decide +kernel
theorem dX4_day_12 : decode cX4_day 12 = .ok (.iaload, 1) := by decide +kernel
theorem dX4_day_13 : decode cX4_day 13 = .ok (.if_icmp .ge 29, 3) := by decide +kernel
theorem dX4_day_16 : decode cX4_day 16 = .ok (.aload_n 0, 1) := by decide +kernel
theorem dX4_day_17 : decode cX4_day 17 = .ok (.iconst 1, 1) := by decide +kernel
theorem dX4_day_18 : decode cX4_day 18 = .ok (.iaload, 1) := by decide +kernel
theorem dX4_day_19 : decode cX4_day 19 = .ok (.iconst 3, 1) := by decide +kernel
theorem dX4_day_20 : decode cX4_day 20 = .ok (.irem, 1) := by decide +kernel
theorem dX4_day_21 : decode cX4_day 21 = .ok (.ifCond .ne 21, 3) := by decide +kernel
theorem dX4_day_24 : decode cX4_day 24 = .ok (.iload_n 1, 1) := by decide +kernel
theorem dX4_day_25 : decode cX4_day 25 = .ok (.aload_n 0, 1) := by decide +kernel
theorem dX4_day_26 : decode cX4_day 26 = .ok (.iconst 3, 1) := by decide +kernel
theorem dX4_day_27 : decode cX4_day 27 = .ok (.iaload, 1) := by decide +kernel
theorem dX4_day_28 : decode cX4_day 28 = .ok (.if_icmp .eq 8, 3) := by decide +kernel
theorem dX4_day_31 : decode cX4_day 31 = .ok (.aload_n 0, 1) := by decide +kernel
theorem dX4_day_32 : decode cX4_day 32 = .ok (.iload_n 1, 1) := by decide +kernel
theorem dX4_day_33 : decode cX4_day 33 = .ok (.invokestatic 78, 3) := by decide +kernel
theorem dX4_day_36 : decode cX4_day 36 = .ok (.iinc 1 1, 3) := by decide +kernel
theorem dX4_day_39 : decode cX4_day 39 = .ok (.goto (-30), 3) := by decide +kernel
theorem dX4_day_42 : decode cX4_day 42 = .ok (.iconst 0, 1) := by decide +kernel
theorem dX4_day_43 : decode cX4_day 43 = .ok (.istore_n 1, 1) := by decide +kernel
theorem dX4_day_44 : decode cX4_day 44 = .ok (.iload_n 1, 1) := by decide +kernel
theorem dX4_day_45 : decode cX4_day 45 = .ok (.iconst 4, 1) := by decide +kernel
theorem dX4_day_46 : decode cX4_day 46 = .ok (.if_icmp .ge 27, 3) := by decide +kernel
theorem dX4_day_49 : decode cX4_day 49 = .ok (.aload_n 0, 1) := by decide +kernel
theorem dX4_day_50 : decode cX4_day 50 = .ok (.iload_n 1, 1) := by decide +kernel
theorem dX4_day_51 : decode cX4_day 51 = .ok (.invokestatic 82, 3) := by decide +kernel
theorem dX4_day_54 : decode cX4_day 54 = .ok (.istore_n 2, 1) := by decide +kernel
theorem dX4_day_55 : decode cX4_day 55 = .ok (.iload_n 2, 1) := by decide +kernel
theorem dX4_day_56 : decode cX4_day 56 = .ok (.ifCond .lt 11, 3) := by decide +kernel
theorem dX4_day_59 : decode cX4_day 59 = .ok (.aload_n 0, 1) := by decide +kernel
theorem dX4_day_60 : decode cX4_day 60 = .ok (.iload_n 2, 1) := by decide +kernel
theorem dX4_day_61 : decode cX4_day 61 = .ok (.iconst 4, 1) := by decide +kernel
theorem dX4_day_62 : decode cX4_day 62 = .ok (.invokestatic 44, 3) := by decide +kernel
theorem dX4_day_65 : decode cX4_day 65 = .ok (.iconst 1, 1) := by decide +kernel
theorem dX4_day_66 : decode cX4_day 66 = .ok (.iastore, 1) := by decide +kernel
theorem dX4_day_67 : decode cX4_day 67 = .ok (.iinc 1 1, 3) := by decide +kernel
theorem dX4_day_70 : decode cX4_day 70 = .ok (.goto (-26), 3) := by decide +kernel
theorem dX4_day_73 : decode cX4_day 73 = .ok (.iconst 0, 1) := by decide +kernel
theorem dX4_day_74 : decode cX4_day 74 = .ok (.istore_n 1, 1) := by decide +kernel
theorem dX4_day_75 : decode cX4_day 75 = .ok (.iconst 0, 1) := by decide +kernel
theorem dX4_day_76 : decode cX4_day 76 = .ok (.istore_n 2, 1) := by decide +kernel
theorem dX4_day_77 : decode cX4_day 77 = .ok (.iload_n 2, 1) := by decide +kernel
theorem dX4_day_78 : decode cX4_day 78 = .ok (.iconst 4, 1) := by decide +kernel
theorem dX4_day_79 : decode cX4_day 79 = .ok (.if_icmp .ge 35, 3) := by decide +kernel
theorem dX4_day_82 : decode cX4_day 82 = .ok (.aload_n 0, 1) := by decide +kernel
theorem dX4_day_83 : decode cX4_day 83 = .ok (.aload_n 0, 1) := by decide +kernel
theorem dX4_day_84 : decode cX4_day 84 = .ok (.iload_n 2, 1) := by decide +kernel
theorem dX4_day_85 : decode cX4_day 85 = .ok (.invokestatic 72, 3) := by decide +kernel
theorem dX4_day_88 : decode cX4_day 88 = .ok (.invokestatic 85, 3) := by decide +kernel
theorem dX4_day_91 : decode cX4_day 91 = .ok (.ifCond .eq 6, 3) := by decide +kernel
theorem dX4_day_94 : decode cX4_day 94 = .ok (.goto 14, 3) := by decide +kernel
theorem dX4_day_97 : decode cX4_day 97 = .ok (.aload_n 0, 1) := by decide +kernel
theorem dX4_day_98 : decode cX4_day 98 = .ok (.iload_n 2, 1) := by decide +kernel
theorem dX4_day_99 : decode cX4_day 99 = .ok (.invokestatic 89, 3) := by decide +kernel
theorem dX4_day_102 : decode cX4_day 102 = .ok (.iload_n 1, 1) := by decide +kernel
theorem dX4_day_103 : decode cX4_day 103 = .ok (.iconst 1, 1) := by decide +kernel
theorem dX4_day_104 : decode cX4_day 104 = .ok (.iload_n 2, 1) := by decide +kernel
theorem dX4_day_105 : decode cX4_day 105 = .ok (.ishl, 1) := by decide +kernel
theorem dX4_day_106 : decode cX4_day 106 = .ok (.ior, 1) := by decide +kernel
theorem dX4_day_107 : decode cX4_day 107 = .ok (.istore_n 1, 1) := by decide +kernel
theorem dX4_day_108 : decode cX4_day 108 = .ok (.iinc 2 1, 3) := by decide +kernel
theorem dX4_day_111 : decode cX4_day 111 = .ok (.goto (-34), 3) := by decide +kernel
theorem dX4_day_114 : decode cX4_day 114 = .ok (.iload_n 1, 1) := by decide +kernel
theorem dX4_day_115 : decode cX4_day 115 = .ok (.ireturn, 1) := by decide +kernel
theorem dX4_daysOn_0 : decode cX4_daysOn 0 = .ok (.iconst 0, 1) := by decide +kernel
theorem dX4_daysOn_1 : decode cX4_daysOn 1 = .ok (.istore_n 2, 1) := by decide +kernel
theorem dX4_daysOn_2 : decode cX4_daysOn 2 = .ok (.iconst 0, 1) := by decide +kernel
theorem dX4_daysOn_3 : decode cX4_daysOn 3 = .ok (.istore_n 3, 1) := by decide +kernel
theorem dX4_daysOn_4 : decode cX4_daysOn 4 = .ok (.iload_n 3, 1) := by decide +kernel
theorem dX4_daysOn_5 : decode cX4_daysOn 5 = .ok (.iload_n 1, 1) := by decide +kernel
theorem dX4_daysOn_6 : decode cX4_daysOn 6 = .ok (.if_icmp .ge 19, 3) := by decide +kernel
theorem dX4_daysOn_9 : decode cX4_daysOn 9 = .ok (.iload_n 2, 1) := by decide +kernel
theorem dX4_daysOn_10 : decode cX4_daysOn 10 = .ok (.aload_n 0, 1) := by decide +kernel
theorem dX4_daysOn_11 : decode cX4_daysOn 11 = .ok (.invokestatic 92, 3) := by decide +kernel
theorem dX4_daysOn_14 : decode cX4_daysOn 14 = .ok (.invokestatic 96, 3) := by decide +kernel
theorem dX4_daysOn_17 : decode cX4_daysOn 17 = .ok (.iadd, 1) := by decide +kernel
theorem dX4_daysOn_18 : decode cX4_daysOn 18 = .ok (.istore_n 2, 1) := by decide +kernel
theorem dX4_daysOn_19 : decode cX4_daysOn 19 = .ok (.iinc 3 1, 3) := by decide +kernel
theorem dX4_daysOn_22 : decode cX4_daysOn 22 = .ok (.goto (-18), 3) := by decide +kernel
theorem dX4_daysOn_25 : decode cX4_daysOn 25 = .ok (.iload_n 2, 1) := by decide +kernel
theorem dX4_daysOn_26 : decode cX4_daysOn 26 = .ok (.ireturn, 1) := by decide +kernel
theorem dX4_inNests_0 : decode cX4_inNests 0 = .ok (.iconst 0, 1) := by decide +kernel
theorem dX4_inNests_1 : decode cX4_inNests 1 = .ok (.istore_n 1, 1) := by decide +kernel
theorem dX4_inNests_2 : decode cX4_inNests 2 = .ok (.iconst 0, 1) := by decide +kernel
theorem dX4_inNests_3 : decode cX4_inNests 3 = .ok (.istore_n 2, 1) := by decide +kernel
theorem dX4_inNests_4 : decode cX4_inNests 4 = .ok (.iload_n 2, 1) := by decide +kernel
theorem dX4_inNests_5 : decode cX4_inNests 5 = .ok (.aload_n 0, 1) := by decide +kernel
theorem dX4_inNests_6 : decode cX4_inNests 6 = .ok (.iconst 0, 1) := by decide +kernel
theorem dX4_inNests_7 : decode cX4_inNests 7 = .ok (.iaload, 1) := by decide +kernel
theorem dX4_inNests_8 : decode cX4_inNests 8 = .ok (.if_icmp .ge 21, 3) := by decide +kernel
theorem dX4_inNests_11 : decode cX4_inNests 11 = .ok (.iload_n 1, 1) := by decide +kernel
theorem dX4_inNests_12 : decode cX4_inNests 12 = .ok (.aload_n 0, 1) := by decide +kernel
theorem dX4_inNests_13 : decode cX4_inNests 13 = .ok (.iload_n 2, 1) := by decide +kernel
theorem dX4_inNests_14 : decode cX4_inNests 14 = .ok (.iconst 4, 1) := by decide +kernel
theorem dX4_inNests_15 : decode cX4_inNests 15 = .ok (.invokestatic 44, 3) := by decide +kernel
theorem dX4_inNests_18 : decode cX4_inNests 18 = .ok (.iaload, 1) := by decide +kernel
theorem dX4_inNests_19 : decode cX4_inNests 19 = .ok (.iload_n 2, 1) := by decide +kernel
theorem dX4_inNests_20 : decode cX4_inNests 20 = .ok (.ishl, 1) := by decide +kernel
theorem dX4_inNests_21 : decode cX4_inNests 21 = .ok (.ior, 1) := by decide +kernel
theorem dX4_inNests_22 : decode cX4_inNests 22 = .ok (.istore_n 1, 1) := by decide +kernel
theorem dX4_inNests_23 : decode cX4_inNests 23 = .ok (.iinc 2 1, 3) := by decide +kernel
theorem dX4_inNests_26 : decode cX4_inNests 26 = .ok (.goto (-22), 3) := by decide +kernel
theorem dX4_inNests_29 : decode cX4_inNests 29 = .ok (.iload_n 1, 1) := by decide +kernel
theorem dX4_inNests_30 : decode cX4_inNests 30 = .ok (.ireturn, 1) := by decide +kernel
theorem dX4_letter_0 : decode cX4_letter 0 = .ok (.iload_n 1, 1) := by decide +kernel
theorem dX4_letter_1 : decode cX4_letter 1 = .ok (.ifCond .ge 10, 3) := by decide +kernel
theorem dX4_letter_4 : decode cX4_letter 4 = .ok (.aload_n 0, 1) := by decide +kernel
theorem dX4_letter_5 : decode cX4_letter 5 = .ok (.bipush (-4), 2) := by decide +kernel
theorem dX4_letter_7 : decode cX4_letter 7 = .ok (.invokevirtual 36, 3) := by decide +kernel
theorem dX4_letter_10 : decode cX4_letter 10 = .ok (.ireturn, 1) := by decide +kernel
theorem dX4_letter_11 : decode cX4_letter 11 = .ok (.iload_n 1, 1) := by decide +kernel
theorem dX4_letter_12 : decode cX4_letter 12 = .ok (.sipush 255, 3) := by decide +kernel
theorem dX4_letter_15 : decode cX4_letter 15 = .ok (.if_icmp .gt 12, 3) := by decide +kernel
theorem dX4_letter_18 : decode cX4_letter 18 = .ok (.aload_n 0, 1) := by decide +kernel
theorem dX4_letter_19 : decode cX4_letter 19 = .ok (.getfield 99, 3) := by decide +kernel
theorem dX4_letter_22 : decode cX4_letter 22 = .ok (.bipush 96, 2) := by decide +kernel
theorem dX4_letter_24 : decode cX4_letter 24 = .ok (.if_icmp .ne 10, 3) := by decide +kernel
theorem dX4_letter_27 : decode cX4_letter 27 = .ok (.aload_n 0, 1) := by decide +kernel
theorem dX4_letter_28 : decode cX4_letter 28 = .ok (.bipush (-6), 2) := by decide +kernel
theorem dX4_letter_30 : decode cX4_letter 30 = .ok (.invokevirtual 36, 3) := by decide +kernel
theorem dX4_letter_33 : decode cX4_letter 33 = .ok (.ireturn, 1) := by decide +kernel
theorem dX4_letter_34 : decode cX4_letter 34 = .ok (.aload_n 0, 1) := by decide +kernel
theorem dX4_letter_35 : decode cX4_letter 35 = .ok (.getfield 22, 3) := by decide +kernel
theorem dX4_letter_38 : decode cX4_letter 38 = .ok (.aload_n 0, 1) := by decide +kernel
theorem dX4_letter_39 : decode cX4_letter 39 = .ok (.getfield 99, 3) := by decide +kernel
theorem dX4_letter_42 : decode cX4_letter 42 = .ok (.iload_n 1, 1) := by decide +kernel
theorem dX4_letter_43 : decode cX4_letter 43 = .ok (.iastore, 1) := by decide +kernel
theorem dX4_letter_44 : decode cX4_letter 44 = .ok (.aload_n 0, 1) := by decide +kernel
theorem dX4_letter_45 : decode cX4_letter 45 = .ok (.dup, 1) := by decide +kernel
theorem dX4_letter_46 : decode cX4_letter 46 = .ok (.getfield 99, 3) := by decide +kernel
theorem dX4_letter_49 : decode cX4_letter 49 = .ok (.iconst 1, 1) := by decide +kernel
theorem dX4_letter_50 : decode cX4_letter 50 = .ok (.iadd, 1) := by decide +kernel
theorem dX4_letter_51 : decode cX4_letter 51 = .ok (.putfield 99, 3) := by decide +kernel
theorem dX4_letter_54 : decode cX4_letter 54 = .ok (.aload_n 0, 1) := by decide +kernel
theorem dX4_letter_55 : decode cX4_letter 55 = .ok (.getfield 99, 3) := by decide +kernel
theorem dX4_letter_58 : decode cX4_letter 58 = .ok (.ireturn, 1) := by decide +kernel
theorem dX4_here_0 : decode cX4_here 0 = .ok (.aload_n 0, 1) := by decide +kernel
theorem dX4_here_1 : decode cX4_here 1 = .ok (.getfield 103, 3) := by decide +kernel
theorem dX4_here_4 : decode cX4_here 4 = .ok (.aload_n 0, 1) := by decide +kernel
theorem dX4_here_5 : decode cX4_here 5 = .ok (.getfield 99, 3) := by decide +kernel
theorem dX4_here_8 : decode cX4_here 8 = .ok (.if_icmp .ge 15, 3) := by decide +kernel
theorem dX4_here_11 : decode cX4_here 11 = .ok (.aload_n 0, 1) := by decide +kernel
theorem dX4_here_12 : decode cX4_here 12 = .ok (.getfield 22, 3) := by decide +kernel
theorem dX4_here_15 : decode cX4_here 15 = .ok (.aload_n 0, 1) := by decide +kernel
theorem dX4_here_16 : decode cX4_here 16 = .ok (.getfield 103, 3) := by decide +kernel
theorem dX4_here_19 : decode cX4_here 19 = .ok (.iaload, 1) := by decide +kernel
theorem dX4_here_20 : decode cX4_here 20 = .ok (.goto 4, 3) := by decide +kernel
theorem dX4_here_23 : decode cX4_here 23 = .ok (.iconst (-1), 1) := by decide +kernel
theorem dX4_here_24 : decode cX4_here 24 = .ok (.ireturn, 1) := by decide +kernel
theorem dX4_readsNumber_0 : decode cX4_readsNumber 0 = .ok (.aload_n 0, 1) := by decide +kernel
theorem dX4_readsNumber_1 : decode cX4_readsNumber 1 = .ok (.getfield 31, 3) := by decide +kernel
theorem dX4_readsNumber_4 : decode cX4_readsNumber 4 = .ok (.iload_n 1, 1) := by decide +kernel
theorem dX4_readsNumber_5 : decode cX4_readsNumber 5 = .ok (.iconst 0, 1) := by decide +kernel
theorem dX4_readsNumber_6 : decode cX4_readsNumber 6 = .ok (.iastore, 1) := by decide +kernel
theorem dX4_readsNumber_7 : decode cX4_readsNumber 7 = .ok (.iconst 0, 1) := by decide +kernel
theorem dX4_readsNumber_8 : decode cX4_readsNumber 8 = .ok (.istore_n 3, 1) := by decide +kernel
theorem dX4_readsNumber_9 : decode cX4_readsNumber 9 = .ok (.iload_n 3, 1) := by decide +kernel
theorem dX4_readsNumber_10 : decode cX4_readsNumber 10 = .ok (.iload_n 2, 1) := by decide +kernel
theorem dX4_readsNumber_11 : decode cX4_readsNumber 11 = .ok (.if_icmp .ge 58, 3) := by decide +kernel
theorem dX4_readsNumber_14 : decode cX4_readsNumber 14 = .ok (.aload_n 0, 1) := by decide +kernel
theorem dX4_readsNumber_15 : decode cX4_readsNumber 15 = .ok (.invokevirtual 106, 3) := by decide +kernel
theorem dX4_readsNumber_18 : decode cX4_readsNumber 18 = .ok (.bipush 48, 2) := by decide +kernel
theorem dX4_readsNumber_20 : decode cX4_readsNumber 20 = .ok (.bipush 57, 2) := by decide +kernel
theorem dX4_readsNumber_22 : decode cX4_readsNumber 22 = .ok (.invokestatic 40, 3) := by decide +kernel
theorem dX4_readsNumber_25 : decode cX4_readsNumber 25 = .ok (.ifCond .ne 5, 3) := by decide +kernel
theorem dX4_readsNumber_28 : decode cX4_readsNumber 28 = .ok (.iconst 0, 1) := by decide +kernel
theorem dX4_readsNumber_29 : decode cX4_readsNumber 29 = .ok (.ireturn, 1) := by decide +kernel
theorem dX4_readsNumber_30 : decode cX4_readsNumber 30 = .ok (.aload_n 0, 1) := by decide +kernel
theorem dX4_readsNumber_31 : decode cX4_readsNumber 31 = .ok (.getfield 31, 3) := by decide +kernel
theorem dX4_readsNumber_34 : decode cX4_readsNumber 34 = .ok (.iload_n 1, 1) := by decide +kernel
theorem dX4_readsNumber_35 : decode cX4_readsNumber 35 = .ok (.bipush 10, 2) := by decide +kernel
theorem dX4_readsNumber_37 : decode cX4_readsNumber 37 = .ok (.aload_n 0, 1) := by decide +kernel
theorem dX4_readsNumber_38 : decode cX4_readsNumber 38 = .ok (.getfield 31, 3) := by decide +kernel
theorem dX4_readsNumber_41 : decode cX4_readsNumber 41 = .ok (.iload_n 1, 1) := by decide +kernel
theorem dX4_readsNumber_42 : decode cX4_readsNumber 42 = .ok (.iaload, 1) := by decide +kernel
theorem dX4_readsNumber_43 : decode cX4_readsNumber 43 = .ok (.imul, 1) := by decide +kernel
theorem dX4_readsNumber_44 : decode cX4_readsNumber 44 = .ok (.aload_n 0, 1) := by decide +kernel
theorem dX4_readsNumber_45 : decode cX4_readsNumber 45 = .ok (.invokevirtual 106, 3) := by decide +kernel
theorem dX4_readsNumber_48 : decode cX4_readsNumber 48 = .ok (.iadd, 1) := by decide +kernel
theorem dX4_readsNumber_49 : decode cX4_readsNumber 49 = .ok (.bipush 48, 2) := by decide +kernel
theorem dX4_readsNumber_51 : decode cX4_readsNumber 51 = .ok (.isub, 1) := by decide +kernel
theorem dX4_readsNumber_52 : decode cX4_readsNumber 52 = .ok (.iastore, 1) := by decide +kernel
theorem dX4_readsNumber_53 : decode cX4_readsNumber 53 = .ok (.aload_n 0, 1) := by decide +kernel
theorem dX4_readsNumber_54 : decode cX4_readsNumber 54 = .ok (.dup, 1) := by decide +kernel
theorem dX4_readsNumber_55 : decode cX4_readsNumber 55 = .ok (.getfield 103, 3) := by decide +kernel
theorem dX4_readsNumber_58 : decode cX4_readsNumber 58 = .ok (.iconst 1, 1) := by decide +kernel
theorem dX4_readsNumber_59 : decode cX4_readsNumber 59 = .ok (.iadd, 1) := by decide +kernel
theorem dX4_readsNumber_60 : decode cX4_readsNumber 60 = .ok (.putfield 103, 3) := by decide +kernel
theorem dX4_readsNumber_63 : decode cX4_readsNumber 63 = .ok (.iinc 3 1, 3) := by decide +kernel
theorem dX4_readsNumber_66 : decode cX4_readsNumber 66 = .ok (.goto (-57), 3) := by decide +kernel
theorem dX4_readsNumber_69 : decode cX4_readsNumber 69 = .ok (.iconst 1, 1) := by decide +kernel
theorem dX4_readsNumber_70 : decode cX4_readsNumber 70 = .ok (.ireturn, 1) := by decide +kernel
theorem dX4_kindBy_0 : decode cX4_kindBy 0 = .ok (.iload_n 0, 1) := by decide +kernel
theorem dX4_kindBy_1 : decode cX4_kindBy 1 = .ok (.tableswitch 83 103 116 #[71, 77, 83, 83, 83, 81, 75, 83, 83, 73, 83, 83, 83, 79], 71) := by decide +kernel
theorem dX4_kindBy_72 : decode cX4_kindBy 72 = .ok (.iconst 0, 1) := by decide +kernel
theorem dX4_kindBy_73 : decode cX4_kindBy 73 = .ok (.ireturn, 1) := by decide +kernel
theorem dX4_kindBy_74 : decode cX4_kindBy 74 = .ok (.iconst 1, 1) := by decide +kernel
theorem dX4_kindBy_75 : decode cX4_kindBy 75 = .ok (.ireturn, 1) := by decide +kernel
theorem dX4_kindBy_76 : decode cX4_kindBy 76 = .ok (.iconst 2, 1) := by decide +kernel
theorem dX4_kindBy_77 : decode cX4_kindBy 77 = .ok (.ireturn, 1) := by decide +kernel
theorem dX4_kindBy_78 : decode cX4_kindBy 78 = .ok (.iconst 3, 1) := by decide +kernel
theorem dX4_kindBy_79 : decode cX4_kindBy 79 = .ok (.ireturn, 1) := by decide +kernel
theorem dX4_kindBy_80 : decode cX4_kindBy 80 = .ok (.iconst 4, 1) := by decide +kernel
theorem dX4_kindBy_81 : decode cX4_kindBy 81 = .ok (.ireturn, 1) := by decide +kernel
theorem dX4_kindBy_82 : decode cX4_kindBy 82 = .ok (.iconst 5, 1) := by decide +kernel
theorem dX4_kindBy_83 : decode cX4_kindBy 83 = .ok (.ireturn, 1) := by decide +kernel
theorem dX4_kindBy_84 : decode cX4_kindBy 84 = .ok (.bipush (-9), 2) := by decide +kernel
theorem dX4_kindBy_86 : decode cX4_kindBy 86 = .ok (.ireturn, 1) := by decide +kernel
theorem dX4_readsKind_0 : decode cX4_readsKind 0 = .ok (.aload_n 0, 1) := by decide +kernel
theorem dX4_readsKind_1 : decode cX4_readsKind 1 = .ok (.getfield 31, 3) := by decide +kernel
theorem dX4_readsKind_4 : decode cX4_readsKind 4 = .ok (.iconst 0, 1) := by decide +kernel
theorem dX4_readsKind_5 : decode cX4_readsKind 5 = .ok (.aload_n 0, 1) := by decide +kernel
theorem dX4_readsKind_6 : decode cX4_readsKind 6 = .ok (.invokevirtual 106, 3) := by decide +kernel
theorem dX4_readsKind_9 : decode cX4_readsKind 9 = .ok (.invokestatic 110, 3) := by decide +kernel
theorem dX4_readsKind_12 : decode cX4_readsKind 12 = .ok (.iastore, 1) := by decide +kernel
theorem dX4_readsKind_13 : decode cX4_readsKind 13 = .ok (.aload_n 0, 1) := by decide +kernel
theorem dX4_readsKind_14 : decode cX4_readsKind 14 = .ok (.dup, 1) := by decide +kernel
theorem dX4_readsKind_15 : decode cX4_readsKind 15 = .ok (.getfield 103, 3) := by decide +kernel
theorem dX4_readsKind_18 : decode cX4_readsKind 18 = .ok (.aload_n 0, 1) := by decide +kernel
theorem dX4_readsKind_19 : decode cX4_readsKind 19 = .ok (.getfield 31, 3) := by decide +kernel
theorem dX4_readsKind_22 : decode cX4_readsKind 22 = .ok (.iconst 0, 1) := by decide +kernel
theorem dX4_readsKind_23 : decode cX4_readsKind 23 = .ok (.iaload, 1) := by decide +kernel
theorem dX4_readsKind_24 : decode cX4_readsKind 24 = .ok (.ifCond .ge 7, 3) := by decide +kernel
theorem dX4_readsKind_27 : decode cX4_readsKind 27 = .ok (.iconst 0, 1) := by decide +kernel
theorem dX4_readsKind_28 : decode cX4_readsKind 28 = .ok (.goto 4, 3) := by decide +kernel
theorem dX4_readsKind_31 : decode cX4_readsKind 31 = .ok (.iconst 1, 1) := by decide +kernel
theorem dX4_readsKind_32 : decode cX4_readsKind 32 = .ok (.iadd, 1) := by decide +kernel
theorem dX4_readsKind_33 : decode cX4_readsKind 33 = .ok (.putfield 103, 3) := by decide +kernel
theorem dX4_readsKind_36 : decode cX4_readsKind 36 = .ok (.aload_n 0, 1) := by decide +kernel
theorem dX4_readsKind_37 : decode cX4_readsKind 37 = .ok (.getfield 31, 3) := by decide +kernel
theorem dX4_readsKind_40 : decode cX4_readsKind 40 = .ok (.iconst 0, 1) := by decide +kernel
theorem dX4_readsKind_41 : decode cX4_readsKind 41 = .ok (.iaload, 1) := by decide +kernel
theorem dX4_readsKind_42 : decode cX4_readsKind 42 = .ok (.ifCond .lt 7, 3) := by decide +kernel
theorem dX4_readsKind_45 : decode cX4_readsKind 45 = .ok (.iconst 1, 1) := by decide +kernel
theorem dX4_readsKind_46 : decode cX4_readsKind 46 = .ok (.goto 4, 3) := by decide +kernel
theorem dX4_readsKind_49 : decode cX4_readsKind 49 = .ok (.iconst 0, 1) := by decide +kernel
theorem dX4_readsKind_50 : decode cX4_readsKind 50 = .ok (.ireturn, 1) := by decide +kernel
theorem dX4_readsStatement_0 : decode cX4_readsStatement 0 = .ok (.aload_n 0, 1) := by decide +kernel
theorem dX4_readsStatement_1 : decode cX4_readsStatement 1 = .ok (.invokevirtual 106, 3) := by decide +kernel
theorem dX4_readsStatement_4 : decode cX4_readsStatement 4 = .ok (.istore_n 1, 1) := by decide +kernel
theorem dX4_readsStatement_5 : decode cX4_readsStatement 5 = .ok (.aload_n 0, 1) := by decide +kernel
theorem dX4_readsStatement_6 : decode cX4_readsStatement 6 = .ok (.dup, 1) := by decide +kernel
theorem dX4_readsStatement_7 : decode cX4_readsStatement 7 = .ok (.getfield 103, 3) := by decide +kernel
theorem dX4_readsStatement_10 : decode cX4_readsStatement 10 = .ok (.iconst 1, 1) := by decide +kernel
theorem dX4_readsStatement_11 : decode cX4_readsStatement 11 = .ok (.iadd, 1) := by decide +kernel
theorem dX4_readsStatement_12 : decode cX4_readsStatement 12 = .ok (.putfield 103, 3) := by decide +kernel
theorem dX4_readsStatement_15 : decode cX4_readsStatement 15 = .ok (.iload_n 1, 1) := by decide +kernel
theorem dX4_readsStatement_16 : decode cX4_readsStatement 16 = .ok (.lookupswitch 141 #[(97, 104), (98, 94), (100, 131), (115, 60), (116, 94), (119, 104)], 60) := by decide +kernel
theorem dX4_readsStatement_76 : decode cX4_readsStatement 76 = .ok (.aload_n 0, 1) := by decide +kernel
theorem dX4_readsStatement_77 : decode cX4_readsStatement 77 = .ok (.invokevirtual 113, 3) := by decide +kernel
theorem dX4_readsStatement_80 : decode cX4_readsStatement 80 = .ok (.ifCond .eq 25, 3) := by decide +kernel
theorem dX4_readsStatement_83 : decode cX4_readsStatement 83 = .ok (.aload_n 0, 1) := by decide +kernel
theorem dX4_readsStatement_84 : decode cX4_readsStatement 84 = .ok (.iconst 1, 1) := by decide +kernel
theorem dX4_readsStatement_85 : decode cX4_readsStatement 85 = .ok (.iconst 1, 1) := by decide +kernel
theorem dX4_readsStatement_86 : decode cX4_readsStatement 86 = .ok (.invokevirtual 117, 3) := by decide +kernel
theorem dX4_readsStatement_89 : decode cX4_readsStatement 89 = .ok (.ifCond .eq 16, 3) := by decide +kernel
theorem dX4_readsStatement_92 : decode cX4_readsStatement 92 = .ok (.aload_n 0, 1) := by decide +kernel
theorem dX4_readsStatement_93 : decode cX4_readsStatement 93 = .ok (.iconst 2, 1) := by decide +kernel
theorem dX4_readsStatement_94 : decode cX4_readsStatement 94 = .ok (.iconst 1, 1) := by decide +kernel
theorem dX4_readsStatement_95 : decode cX4_readsStatement 95 = .ok (.invokevirtual 117, 3) := by decide +kernel
theorem dX4_readsStatement_98 : decode cX4_readsStatement 98 = .ok (.ifCond .eq 7, 3) := by decide +kernel
theorem dX4_readsStatement_101 : decode cX4_readsStatement 101 = .ok (.iconst 1, 1) := by decide +kernel
theorem dX4_readsStatement_102 : decode cX4_readsStatement 102 = .ok (.goto 4, 3) := by decide +kernel
theorem dX4_readsStatement_105 : decode cX4_readsStatement 105 = .ok (.iconst 0, 1) := by decide +kernel
theorem dX4_readsStatement_106 : decode cX4_readsStatement 106 = .ok (.istore_n 2, 1) := by decide +kernel
theorem dX4_readsStatement_107 : decode cX4_readsStatement 107 = .ok (.goto 62, 3) := by decide +kernel
theorem dX4_readsStatement_110 : decode cX4_readsStatement 110 = .ok (.aload_n 0, 1) := by decide +kernel
theorem dX4_readsStatement_111 : decode cX4_readsStatement 111 = .ok (.iconst 0, 1) := by decide +kernel
theorem dX4_readsStatement_112 : decode cX4_readsStatement 112 = .ok (.iconst 1, 1) := by decide +kernel
theorem dX4_readsStatement_113 : decode cX4_readsStatement 113 = .ok (.invokevirtual 117, 3) := by decide +kernel
theorem dX4_readsStatement_116 : decode cX4_readsStatement 116 = .ok (.istore_n 2, 1) := by decide +kernel
theorem dX4_readsStatement_117 : decode cX4_readsStatement 117 = .ok (.goto 52, 3) := by decide +kernel
theorem dX4_readsStatement_120 : decode cX4_readsStatement 120 = .ok (.aload_n 0, 1) := by decide +kernel
theorem dX4_readsStatement_121 : decode cX4_readsStatement 121 = .ok (.iconst 0, 1) := by decide +kernel
theorem dX4_readsStatement_122 : decode cX4_readsStatement 122 = .ok (.iconst 1, 1) := by decide +kernel
theorem dX4_readsStatement_123 : decode cX4_readsStatement 123 = .ok (.invokevirtual 117, 3) := by decide +kernel
theorem dX4_readsStatement_126 : decode cX4_readsStatement 126 = .ok (.ifCond .eq 16, 3) := by decide +kernel
theorem dX4_readsStatement_129 : decode cX4_readsStatement 129 = .ok (.aload_n 0, 1) := by decide +kernel
theorem dX4_readsStatement_130 : decode cX4_readsStatement 130 = .ok (.iconst 1, 1) := by decide +kernel
theorem dX4_readsStatement_131 : decode cX4_readsStatement 131 = .ok (.iconst 1, 1) := by decide +kernel
theorem dX4_readsStatement_132 : decode cX4_readsStatement 132 = .ok (.invokevirtual 117, 3) := by decide +kernel
theorem dX4_readsStatement_135 : decode cX4_readsStatement 135 = .ok (.ifCond .eq 7, 3) := by decide +kernel
theorem dX4_readsStatement_138 : decode cX4_readsStatement 138 = .ok (.iconst 1, 1) := by decide +kernel
theorem dX4_readsStatement_139 : decode cX4_readsStatement 139 = .ok (.goto 4, 3) := by decide +kernel
theorem dX4_readsStatement_142 : decode cX4_readsStatement 142 = .ok (.iconst 0, 1) := by decide +kernel
theorem dX4_readsStatement_143 : decode cX4_readsStatement 143 = .ok (.istore_n 2, 1) := by decide +kernel
theorem dX4_readsStatement_144 : decode cX4_readsStatement 144 = .ok (.goto 25, 3) := by decide +kernel
theorem dX4_readsStatement_147 : decode cX4_readsStatement 147 = .ok (.aload_n 0, 1) := by decide +kernel
theorem dX4_readsStatement_148 : decode cX4_readsStatement 148 = .ok (.iconst 0, 1) := by decide +kernel
theorem dX4_readsStatement_149 : decode cX4_readsStatement 149 = .ok (.iconst 2, 1) := by decide +kernel
theorem dX4_readsStatement_150 : decode cX4_readsStatement 150 = .ok (.invokevirtual 117, 3) := by decide +kernel
theorem dX4_readsStatement_153 : decode cX4_readsStatement 153 = .ok (.istore_n 2, 1) := by decide +kernel
theorem dX4_readsStatement_154 : decode cX4_readsStatement 154 = .ok (.goto 15, 3) := by decide +kernel
theorem dX4_readsStatement_157 : decode cX4_readsStatement 157 = .ok (.aload_n 0, 1) := by decide +kernel
theorem dX4_readsStatement_158 : decode cX4_readsStatement 158 = .ok (.dup, 1) := by decide +kernel
theorem dX4_readsStatement_159 : decode cX4_readsStatement 159 = .ok (.getfield 103, 3) := by decide +kernel
theorem dX4_readsStatement_162 : decode cX4_readsStatement 162 = .ok (.iconst 1, 1) := by decide +kernel
theorem dX4_readsStatement_163 : decode cX4_readsStatement 163 = .ok (.isub, 1) := by decide +kernel
theorem dX4_readsStatement_164 : decode cX4_readsStatement 164 = .ok (.putfield 103, 3) := by decide +kernel
theorem dX4_readsStatement_167 : decode cX4_readsStatement 167 = .ok (.iconst 0, 1) := by decide +kernel
theorem dX4_readsStatement_168 : decode cX4_readsStatement 168 = .ok (.ireturn, 1) := by decide +kernel
theorem dX4_readsStatement_169 : decode cX4_readsStatement 169 = .ok (.iload_n 2, 1) := by decide +kernel
theorem dX4_readsStatement_170 : decode cX4_readsStatement 170 = .ok (.ifCond .eq 12, 3) := by decide +kernel
theorem dX4_readsStatement_173 : decode cX4_readsStatement 173 = .ok (.aload_n 0, 1) := by decide +kernel
theorem dX4_readsStatement_174 : decode cX4_readsStatement 174 = .ok (.invokevirtual 106, 3) := by decide +kernel
theorem dX4_readsStatement_177 : decode cX4_readsStatement 177 = .ok (.bipush 59, 2) := by decide +kernel
theorem dX4_readsStatement_179 : decode cX4_readsStatement 179 = .ok (.if_icmp .eq 5, 3) := by decide +kernel
theorem dX4_readsStatement_182 : decode cX4_readsStatement 182 = .ok (.iconst 0, 1) := by decide +kernel
theorem dX4_readsStatement_183 : decode cX4_readsStatement 183 = .ok (.ireturn, 1) := by decide +kernel
theorem dX4_readsStatement_184 : decode cX4_readsStatement 184 = .ok (.aload_n 0, 1) := by decide +kernel
theorem dX4_readsStatement_185 : decode cX4_readsStatement 185 = .ok (.dup, 1) := by decide +kernel
theorem dX4_readsStatement_186 : decode cX4_readsStatement 186 = .ok (.getfield 103, 3) := by decide +kernel
theorem dX4_readsStatement_189 : decode cX4_readsStatement 189 = .ok (.iconst 1, 1) := by decide +kernel
theorem dX4_readsStatement_190 : decode cX4_readsStatement 190 = .ok (.iadd, 1) := by decide +kernel
theorem dX4_readsStatement_191 : decode cX4_readsStatement 191 = .ok (.putfield 103, 3) := by decide +kernel
theorem dX4_readsStatement_194 : decode cX4_readsStatement 194 = .ok (.iconst 1, 1) := by decide +kernel
theorem dX4_readsStatement_195 : decode cX4_readsStatement 195 = .ok (.ireturn, 1) := by decide +kernel
theorem dX4_adds_0 : decode cX4_adds 0 = .ok (.aload_n 0, 1) := by decide +kernel
theorem dX4_adds_1 : decode cX4_adds 1 = .ok (.iconst 0, 1) := by decide +kernel
theorem dX4_adds_2 : decode cX4_adds 2 = .ok (.iaload, 1) := by decide +kernel
theorem dX4_adds_3 : decode cX4_adds 3 = .ok (.bipush 9, 2) := by decide +kernel
theorem dX4_adds_5 : decode cX4_adds 5 = .ok (.if_icmp .ne 5, 3) := by decide +kernel
theorem dX4_adds_8 : decode cX4_adds 8 = .ok (.iconst 0, 1) := by decide +kernel
theorem dX4_adds_9 : decode cX4_adds 9 = .ok (.ireturn, 1) := by decide +kernel
theorem dX4_adds_10 : decode cX4_adds 10 = .ok (.aload_n 0, 1) := by decide +kernel
theorem dX4_adds_11 : decode cX4_adds 11 = .ok (.iconst 0, 1) := by decide +kernel
theorem dX4_adds_12 : decode cX4_adds 12 = .ok (.iaload, 1) := by decide +kernel
theorem dX4_adds_13 : decode cX4_adds 13 = .ok (.istore 4, 2) := by decide +kernel
theorem dX4_adds_15 : decode cX4_adds 15 = .ok (.aload_n 0, 1) := by decide +kernel
theorem dX4_adds_16 : decode cX4_adds 16 = .ok (.iload 4, 2) := by decide +kernel
theorem dX4_adds_18 : decode cX4_adds 18 = .ok (.iconst 0, 1) := by decide +kernel
theorem dX4_adds_19 : decode cX4_adds 19 = .ok (.invokestatic 44, 3) := by decide +kernel
theorem dX4_adds_22 : decode cX4_adds 22 = .ok (.iload_n 1, 1) := by decide +kernel
theorem dX4_adds_23 : decode cX4_adds 23 = .ok (.iastore, 1) := by decide +kernel
theorem dX4_adds_24 : decode cX4_adds 24 = .ok (.aload_n 0, 1) := by decide +kernel
theorem dX4_adds_25 : decode cX4_adds 25 = .ok (.iload 4, 2) := by decide +kernel
theorem dX4_adds_27 : decode cX4_adds 27 = .ok (.iconst 1, 1) := by decide +kernel
theorem dX4_adds_28 : decode cX4_adds 28 = .ok (.invokestatic 44, 3) := by decide +kernel
theorem dX4_adds_31 : decode cX4_adds 31 = .ok (.iload_n 2, 1) := by decide +kernel
theorem dX4_adds_32 : decode cX4_adds 32 = .ok (.iastore, 1) := by decide +kernel
theorem dX4_adds_33 : decode cX4_adds 33 = .ok (.aload_n 0, 1) := by decide +kernel
theorem dX4_adds_34 : decode cX4_adds 34 = .ok (.iload 4, 2) := by decide +kernel
theorem dX4_adds_36 : decode cX4_adds 36 = .ok (.iconst 2, 1) := by decide +kernel
theorem dX4_adds_37 : decode cX4_adds 37 = .ok (.invokestatic 44, 3) := by decide +kernel
theorem dX4_adds_40 : decode cX4_adds 40 = .ok (.iload_n 3, 1) := by decide +kernel
theorem dX4_adds_41 : decode cX4_adds 41 = .ok (.iastore, 1) := by decide +kernel
theorem dX4_adds_42 : decode cX4_adds 42 = .ok (.aload_n 0, 1) := by decide +kernel
theorem dX4_adds_43 : decode cX4_adds 43 = .ok (.iload 4, 2) := by decide +kernel
theorem dX4_adds_45 : decode cX4_adds 45 = .ok (.iconst 3, 1) := by decide +kernel
theorem dX4_adds_46 : decode cX4_adds 46 = .ok (.invokestatic 44, 3) := by decide +kernel
theorem dX4_adds_49 : decode cX4_adds 49 = .ok (.iconst 0, 1) := by decide +kernel
theorem dX4_adds_50 : decode cX4_adds 50 = .ok (.iastore, 1) := by decide +kernel
theorem dX4_adds_51 : decode cX4_adds 51 = .ok (.aload_n 0, 1) := by decide +kernel
theorem dX4_adds_52 : decode cX4_adds 52 = .ok (.iload 4, 2) := by decide +kernel
theorem dX4_adds_54 : decode cX4_adds 54 = .ok (.iconst 4, 1) := by decide +kernel
theorem dX4_adds_55 : decode cX4_adds 55 = .ok (.invokestatic 44, 3) := by decide +kernel
theorem dX4_adds_58 : decode cX4_adds 58 = .ok (.iconst 0, 1) := by decide +kernel
theorem dX4_adds_59 : decode cX4_adds 59 = .ok (.iastore, 1) := by decide +kernel
theorem dX4_adds_60 : decode cX4_adds 60 = .ok (.aload_n 0, 1) := by decide +kernel
theorem dX4_adds_61 : decode cX4_adds 61 = .ok (.iconst 0, 1) := by decide +kernel
theorem dX4_adds_62 : decode cX4_adds 62 = .ok (.dup2, 1) := by decide +kernel
theorem dX4_adds_63 : decode cX4_adds 63 = .ok (.iaload, 1) := by decide +kernel
theorem dX4_adds_64 : decode cX4_adds 64 = .ok (.iconst 1, 1) := by decide +kernel
theorem dX4_adds_65 : decode cX4_adds 65 = .ok (.iadd, 1) := by decide +kernel
theorem dX4_adds_66 : decode cX4_adds 66 = .ok (.iastore, 1) := by decide +kernel
theorem dX4_adds_67 : decode cX4_adds 67 = .ok (.iconst 1, 1) := by decide +kernel
theorem dX4_adds_68 : decode cX4_adds 68 = .ok (.ireturn, 1) := by decide +kernel
theorem dX4_isDone_0 : decode cX4_isDone 0 = .ok (.aload_n 0, 1) := by decide +kernel
theorem dX4_isDone_1 : decode cX4_isDone 1 = .ok (.getfield 31, 3) := by decide +kernel
theorem dX4_isDone_4 : decode cX4_isDone 4 = .ok (.iconst 0, 1) := by decide +kernel
theorem dX4_isDone_5 : decode cX4_isDone 5 = .ok (.iaload, 1) := by decide +kernel
theorem dX4_isDone_6 : decode cX4_isDone 6 = .ok (.istore_n 2, 1) := by decide +kernel
theorem dX4_isDone_7 : decode cX4_isDone 7 = .ok (.aload_n 0, 1) := by decide +kernel
theorem dX4_isDone_8 : decode cX4_isDone 8 = .ok (.getfield 31, 3) := by decide +kernel
theorem dX4_isDone_11 : decode cX4_isDone 11 = .ok (.iconst 1, 1) := by decide +kernel
theorem dX4_isDone_12 : decode cX4_isDone 12 = .ok (.iaload, 1) := by decide +kernel
theorem dX4_isDone_13 : decode cX4_isDone 13 = .ok (.istore_n 3, 1) := by decide +kernel
theorem dX4_isDone_14 : decode cX4_isDone 14 = .ok (.iconst 0, 1) := by decide +kernel
theorem dX4_isDone_15 : decode cX4_isDone 15 = .ok (.istore 4, 2) := by decide +kernel
theorem dX4_isDone_17 : decode cX4_isDone 17 = .ok (.iload_n 1, 1) := by decide +kernel
theorem dX4_isDone_18 : decode cX4_isDone 18 = .ok (.lookupswitch 195 #[(97, 135), (98, 176), (115, 50), (116, 86), (119, 112)], 50) := by decide +kernel
theorem dX4_isDone_68 : decode cX4_isDone 68 = .ok (.aload_n 0, 1) := by decide +kernel
theorem dX4_isDone_69 : decode cX4_isDone 69 = .ok (.getfield 31, 3) := by decide +kernel
theorem dX4_isDone_72 : decode cX4_isDone 72 = .ok (.iconst 2, 1) := by decide +kernel
theorem dX4_isDone_73 : decode cX4_isDone 73 = .ok (.iaload, 1) := by decide +kernel
theorem dX4_isDone_74 : decode cX4_isDone 74 = .ok (.invokestatic 120, 3) := by decide +kernel
theorem dX4_isDone_77 : decode cX4_isDone 77 = .ok (.ifCond .eq 25, 3) := by decide +kernel
theorem dX4_isDone_80 : decode cX4_isDone 80 = .ok (.aload_n 0, 1) := by decide +kernel
theorem dX4_isDone_81 : decode cX4_isDone 81 = .ok (.getfield 9, 3) := by decide +kernel
theorem dX4_isDone_84 : decode cX4_isDone 84 = .ok (.iload_n 2, 1) := by decide +kernel
theorem dX4_isDone_85 : decode cX4_isDone 85 = .ok (.iload_n 3, 1) := by decide +kernel
theorem dX4_isDone_86 : decode cX4_isDone 86 = .ok (.aload_n 0, 1) := by decide +kernel
theorem dX4_isDone_87 : decode cX4_isDone 87 = .ok (.getfield 31, 3) := by decide +kernel
theorem dX4_isDone_90 : decode cX4_isDone 90 = .ok (.iconst 2, 1) := by decide +kernel
theorem dX4_isDone_91 : decode cX4_isDone 91 = .ok (.iaload, 1) := by decide +kernel
theorem dX4_isDone_92 : decode cX4_isDone 92 = .ok (.invokestatic 124, 3) := by decide +kernel
theorem dX4_isDone_95 : decode cX4_isDone 95 = .ok (.ifCond .eq 7, 3) := by decide +kernel
theorem dX4_isDone_98 : decode cX4_isDone 98 = .ok (.iconst 1, 1) := by decide +kernel
theorem dX4_isDone_99 : decode cX4_isDone 99 = .ok (.goto 4, 3) := by decide +kernel
theorem dX4_isDone_102 : decode cX4_isDone 102 = .ok (.iconst 0, 1) := by decide +kernel
theorem dX4_isDone_103 : decode cX4_isDone 103 = .ok (.ireturn, 1) := by decide +kernel
theorem dX4_isDone_104 : decode cX4_isDone 104 = .ok (.aload_n 0, 1) := by decide +kernel
theorem dX4_isDone_105 : decode cX4_isDone 105 = .ok (.iload_n 2, 1) := by decide +kernel
theorem dX4_isDone_106 : decode cX4_isDone 106 = .ok (.invokevirtual 128, 3) := by decide +kernel
theorem dX4_isDone_109 : decode cX4_isDone 109 = .ok (.ifCond .ne 5, 3) := by decide +kernel
theorem dX4_isDone_112 : decode cX4_isDone 112 = .ok (.iconst 0, 1) := by decide +kernel
theorem dX4_isDone_113 : decode cX4_isDone 113 = .ok (.ireturn, 1) := by decide +kernel
theorem dX4_isDone_114 : decode cX4_isDone 114 = .ok (.aload_n 0, 1) := by decide +kernel
theorem dX4_isDone_115 : decode cX4_isDone 115 = .ok (.getfield 9, 3) := by decide +kernel
theorem dX4_isDone_118 : decode cX4_isDone 118 = .ok (.iload_n 2, 1) := by decide +kernel
theorem dX4_isDone_119 : decode cX4_isDone 119 = .ok (.iconst 4, 1) := by decide +kernel
theorem dX4_isDone_120 : decode cX4_isDone 120 = .ok (.invokestatic 44, 3) := by decide +kernel
theorem dX4_isDone_123 : decode cX4_isDone 123 = .ok (.dup2, 1) := by decide +kernel
theorem dX4_isDone_124 : decode cX4_isDone 124 = .ok (.iaload, 1) := by decide +kernel
theorem dX4_isDone_125 : decode cX4_isDone 125 = .ok (.iconst 1, 1) := by decide +kernel
theorem dX4_isDone_126 : decode cX4_isDone 126 = .ok (.ixor, 1) := by decide +kernel
theorem dX4_isDone_127 : decode cX4_isDone 127 = .ok (.iastore, 1) := by decide +kernel
theorem dX4_isDone_128 : decode cX4_isDone 128 = .ok (.iconst 1, 1) := by decide +kernel
theorem dX4_isDone_129 : decode cX4_isDone 129 = .ok (.ireturn, 1) := by decide +kernel
theorem dX4_isDone_130 : decode cX4_isDone 130 = .ok (.aload_n 0, 1) := by decide +kernel
theorem dX4_isDone_131 : decode cX4_isDone 131 = .ok (.iload_n 2, 1) := by decide +kernel
theorem dX4_isDone_132 : decode cX4_isDone 132 = .ok (.invokevirtual 128, 3) := by decide +kernel
theorem dX4_isDone_135 : decode cX4_isDone 135 = .ok (.ifCond .ne 5, 3) := by decide +kernel
theorem dX4_isDone_138 : decode cX4_isDone 138 = .ok (.iconst 0, 1) := by decide +kernel
theorem dX4_isDone_139 : decode cX4_isDone 139 = .ok (.ireturn, 1) := by decide +kernel
theorem dX4_isDone_140 : decode cX4_isDone 140 = .ok (.aload_n 0, 1) := by decide +kernel
theorem dX4_isDone_141 : decode cX4_isDone 141 = .ok (.getfield 9, 3) := by decide +kernel
theorem dX4_isDone_144 : decode cX4_isDone 144 = .ok (.iload_n 2, 1) := by decide +kernel
theorem dX4_isDone_145 : decode cX4_isDone 145 = .ok (.iconst 3, 1) := by decide +kernel
theorem dX4_isDone_146 : decode cX4_isDone 146 = .ok (.invokestatic 44, 3) := by decide +kernel
theorem dX4_isDone_149 : decode cX4_isDone 149 = .ok (.iload_n 3, 1) := by decide +kernel
theorem dX4_isDone_150 : decode cX4_isDone 150 = .ok (.iastore, 1) := by decide +kernel
theorem dX4_isDone_151 : decode cX4_isDone 151 = .ok (.iconst 1, 1) := by decide +kernel
theorem dX4_isDone_152 : decode cX4_isDone 152 = .ok (.ireturn, 1) := by decide +kernel
theorem dX4_isDone_153 : decode cX4_isDone 153 = .ok (.aload_n 0, 1) := by decide +kernel
theorem dX4_isDone_154 : decode cX4_isDone 154 = .ok (.iload_n 2, 1) := by decide +kernel
theorem dX4_isDone_155 : decode cX4_isDone 155 = .ok (.invokevirtual 128, 3) := by decide +kernel
theorem dX4_isDone_158 : decode cX4_isDone 158 = .ok (.ifCond .eq 10, 3) := by decide +kernel
theorem dX4_isDone_161 : decode cX4_isDone 161 = .ok (.iload_n 3, 1) := by decide +kernel
theorem dX4_isDone_162 : decode cX4_isDone 162 = .ok (.invokestatic 120, 3) := by decide +kernel
theorem dX4_isDone_165 : decode cX4_isDone 165 = .ok (.ifCond .ne 5, 3) := by decide +kernel
theorem dX4_isDone_168 : decode cX4_isDone 168 = .ok (.iconst 0, 1) := by decide +kernel
theorem dX4_isDone_169 : decode cX4_isDone 169 = .ok (.ireturn, 1) := by decide +kernel
theorem dX4_isDone_170 : decode cX4_isDone 170 = .ok (.aload_n 0, 1) := by decide +kernel
theorem dX4_isDone_171 : decode cX4_isDone 171 = .ok (.getfield 9, 3) := by decide +kernel
theorem dX4_isDone_174 : decode cX4_isDone 174 = .ok (.iload_n 2, 1) := by decide +kernel
theorem dX4_isDone_175 : decode cX4_isDone 175 = .ok (.iconst 2, 1) := by decide +kernel
theorem dX4_isDone_176 : decode cX4_isDone 176 = .ok (.invokestatic 44, 3) := by decide +kernel
theorem dX4_isDone_179 : decode cX4_isDone 179 = .ok (.iload_n 3, 1) := by decide +kernel
theorem dX4_isDone_180 : decode cX4_isDone 180 = .ok (.iastore, 1) := by decide +kernel
theorem dX4_isDone_181 : decode cX4_isDone 181 = .ok (.aload_n 0, 1) := by decide +kernel
theorem dX4_isDone_182 : decode cX4_isDone 182 = .ok (.getfield 9, 3) := by decide +kernel
theorem dX4_isDone_185 : decode cX4_isDone 185 = .ok (.iload_n 2, 1) := by decide +kernel
theorem dX4_isDone_186 : decode cX4_isDone 186 = .ok (.iconst 4, 1) := by decide +kernel
theorem dX4_isDone_187 : decode cX4_isDone 187 = .ok (.invokestatic 44, 3) := by decide +kernel
theorem dX4_isDone_190 : decode cX4_isDone 190 = .ok (.iconst 0, 1) := by decide +kernel
theorem dX4_isDone_191 : decode cX4_isDone 191 = .ok (.iastore, 1) := by decide +kernel
theorem dX4_isDone_192 : decode cX4_isDone 192 = .ok (.iconst 1, 1) := by decide +kernel
theorem dX4_isDone_193 : decode cX4_isDone 193 = .ok (.ireturn, 1) := by decide +kernel
theorem dX4_isDone_194 : decode cX4_isDone 194 = .ok (.iload_n 2, 1) := by decide +kernel
theorem dX4_isDone_195 : decode cX4_isDone 195 = .ok (.invokestatic 120, 3) := by decide +kernel
theorem dX4_isDone_198 : decode cX4_isDone 198 = .ok (.ifCond .ne 5, 3) := by decide +kernel
theorem dX4_isDone_201 : decode cX4_isDone 201 = .ok (.iconst 0, 1) := by decide +kernel
theorem dX4_isDone_202 : decode cX4_isDone 202 = .ok (.ireturn, 1) := by decide +kernel
theorem dX4_isDone_203 : decode cX4_isDone 203 = .ok (.aload_n 0, 1) := by decide +kernel
theorem dX4_isDone_204 : decode cX4_isDone 204 = .ok (.getfield 9, 3) := by decide +kernel
theorem dX4_isDone_207 : decode cX4_isDone 207 = .ok (.iload_n 2, 1) := by decide +kernel
theorem dX4_isDone_208 : decode cX4_isDone 208 = .ok (.invokestatic 89, 3) := by decide +kernel
theorem dX4_isDone_211 : decode cX4_isDone 211 = .ok (.iconst 1, 1) := by decide +kernel
theorem dX4_isDone_212 : decode cX4_isDone 212 = .ok (.ireturn, 1) := by decide +kernel
theorem dX4_isDone_213 : decode cX4_isDone 213 = .ok (.iload_n 2, 1) := by decide +kernel
theorem dX4_isDone_214 : decode cX4_isDone 214 = .ok (.iconst 1, 1) := by decide +kernel
theorem dX4_isDone_215 : decode cX4_isDone 215 = .ok (.bipush 60, 2) := by decide +kernel
theorem dX4_isDone_217 : decode cX4_isDone 217 = .ok (.invokestatic 40, 3) := by decide +kernel
theorem dX4_isDone_220 : decode cX4_isDone 220 = .ok (.ifCond .eq 17, 3) := by decide +kernel
theorem dX4_isDone_223 : decode cX4_isDone 223 = .ok (.aload_n 0, 1) := by decide +kernel
theorem dX4_isDone_224 : decode cX4_isDone 224 = .ok (.getfield 9, 3) := by decide +kernel
theorem dX4_isDone_227 : decode cX4_isDone 227 = .ok (.iconst 1, 1) := by decide +kernel
theorem dX4_isDone_228 : decode cX4_isDone 228 = .ok (.iaload, 1) := by decide +kernel
theorem dX4_isDone_229 : decode cX4_isDone 229 = .ok (.iload_n 2, 1) := by decide +kernel
theorem dX4_isDone_230 : decode cX4_isDone 230 = .ok (.iadd, 1) := by decide +kernel
theorem dX4_isDone_231 : decode cX4_isDone 231 = .ok (.sipush 999, 3) := by decide +kernel
theorem dX4_isDone_234 : decode cX4_isDone 234 = .ok (.if_icmp .le 5, 3) := by decide +kernel
theorem dX4_isDone_237 : decode cX4_isDone 237 = .ok (.iconst 0, 1) := by decide +kernel
theorem dX4_isDone_238 : decode cX4_isDone 238 = .ok (.ireturn, 1) := by decide +kernel
theorem dX4_isDone_239 : decode cX4_isDone 239 = .ok (.aload_n 0, 1) := by decide +kernel
theorem dX4_isDone_240 : decode cX4_isDone 240 = .ok (.getfield 9, 3) := by decide +kernel
theorem dX4_isDone_243 : decode cX4_isDone 243 = .ok (.iload_n 2, 1) := by decide +kernel
theorem dX4_isDone_244 : decode cX4_isDone 244 = .ok (.invokestatic 131, 3) := by decide +kernel
theorem dX4_isDone_247 : decode cX4_isDone 247 = .ok (.istore 4, 2) := by decide +kernel
theorem dX4_isDone_249 : decode cX4_isDone 249 = .ok (.iconst 1, 1) := by decide +kernel
theorem dX4_isDone_250 : decode cX4_isDone 250 = .ok (.ireturn, 1) := by decide +kernel
theorem dX4_close_0 : decode cX4_close 0 = .ok (.aload_n 0, 1) := by decide +kernel
theorem dX4_close_1 : decode cX4_close 1 = .ok (.iconst 0, 1) := by decide +kernel
theorem dX4_close_2 : decode cX4_close 2 = .ok (.putfield 103, 3) := by decide +kernel
theorem dX4_close_5 : decode cX4_close 5 = .ok (.iconst 0, 1) := by decide +kernel
theorem dX4_close_6 : decode cX4_close 6 = .ok (.istore_n 1, 1) := by decide +kernel
theorem dX4_close_7 : decode cX4_close 7 = .ok (.bipush (-9), 2) := by decide +kernel
theorem dX4_close_9 : decode cX4_close 9 = .ok (.istore_n 2, 1) := by decide +kernel
theorem dX4_close_10 : decode cX4_close 10 = .ok (.aload_n 0, 1) := by decide +kernel
theorem dX4_close_11 : decode cX4_close 11 = .ok (.invokevirtual 134, 3) := by decide +kernel
theorem dX4_close_14 : decode cX4_close 14 = .ok (.ifCond .ne 12, 3) := by decide +kernel
theorem dX4_close_17 : decode cX4_close 17 = .ok (.sipush (-1000), 3) := by decide +kernel
theorem dX4_close_20 : decode cX4_close 20 = .ok (.aload_n 0, 1) := by decide +kernel
theorem dX4_close_21 : decode cX4_close 21 = .ok (.getfield 103, 3) := by decide +kernel
theorem dX4_close_24 : decode cX4_close 24 = .ok (.isub, 1) := by decide +kernel
theorem dX4_close_25 : decode cX4_close 25 = .ok (.istore_n 2, 1) := by decide +kernel
theorem dX4_close_26 : decode cX4_close 26 = .ok (.iinc 1 1, 3) := by decide +kernel
theorem dX4_close_29 : decode cX4_close 29 = .ok (.iload_n 2, 1) := by decide +kernel
theorem dX4_close_30 : decode cX4_close 30 = .ok (.bipush (-9), 2) := by decide +kernel
theorem dX4_close_32 : decode cX4_close 32 = .ok (.if_icmp .ne 14, 3) := by decide +kernel
theorem dX4_close_35 : decode cX4_close 35 = .ok (.aload_n 0, 1) := by decide +kernel
theorem dX4_close_36 : decode cX4_close 36 = .ok (.getfield 103, 3) := by decide +kernel
theorem dX4_close_39 : decode cX4_close 39 = .ok (.aload_n 0, 1) := by decide +kernel
theorem dX4_close_40 : decode cX4_close 40 = .ok (.getfield 99, 3) := by decide +kernel
theorem dX4_close_43 : decode cX4_close 43 = .ok (.if_icmp .lt (-33), 3) := by decide +kernel
theorem dX4_close_46 : decode cX4_close 46 = .ok (.aload_n 0, 1) := by decide +kernel
theorem dX4_close_47 : decode cX4_close 47 = .ok (.getfield 9, 3) := by decide +kernel
theorem dX4_close_50 : decode cX4_close 50 = .ok (.aload_n 0, 1) := by decide +kernel
theorem dX4_close_51 : decode cX4_close 51 = .ok (.getfield 19, 3) := by decide +kernel
theorem dX4_close_54 : decode cX4_close 54 = .ok (.invokestatic 137, 3) := by decide +kernel
theorem dX4_close_57 : decode cX4_close 57 = .ok (.aload_n 0, 1) := by decide +kernel
theorem dX4_close_58 : decode cX4_close 58 = .ok (.iconst 0, 1) := by decide +kernel
theorem dX4_close_59 : decode cX4_close 59 = .ok (.putfield 103, 3) := by decide +kernel
theorem dX4_close_62 : decode cX4_close 62 = .ok (.iload_n 2, 1) := by decide +kernel
theorem dX4_close_63 : decode cX4_close 63 = .ok (.bipush (-9), 2) := by decide +kernel
theorem dX4_close_65 : decode cX4_close 65 = .ok (.if_icmp .ne 63, 3) := by decide +kernel
theorem dX4_close_68 : decode cX4_close 68 = .ok (.aload_n 0, 1) := by decide +kernel
theorem dX4_close_69 : decode cX4_close 69 = .ok (.getfield 103, 3) := by decide +kernel
theorem dX4_close_72 : decode cX4_close 72 = .ok (.aload_n 0, 1) := by decide +kernel
theorem dX4_close_73 : decode cX4_close 73 = .ok (.getfield 99, 3) := by decide +kernel
theorem dX4_close_76 : decode cX4_close 76 = .ok (.if_icmp .ge 52, 3) := by decide +kernel
theorem dX4_close_79 : decode cX4_close 79 = .ok (.aload_n 0, 1) := by decide +kernel
theorem dX4_close_80 : decode cX4_close 80 = .ok (.getfield 103, 3) := by decide +kernel
theorem dX4_close_83 : decode cX4_close 83 = .ok (.istore_n 3, 1) := by decide +kernel
theorem dX4_close_84 : decode cX4_close 84 = .ok (.aload_n 0, 1) := by decide +kernel
theorem dX4_close_85 : decode cX4_close 85 = .ok (.invokevirtual 106, 3) := by decide +kernel
theorem dX4_close_88 : decode cX4_close 88 = .ok (.istore 4, 2) := by decide +kernel
theorem dX4_close_90 : decode cX4_close 90 = .ok (.aload_n 0, 1) := by decide +kernel
theorem dX4_close_91 : decode cX4_close 91 = .ok (.invokevirtual 134, 3) := by decide +kernel
theorem dX4_close_94 : decode cX4_close 94 = .ok (.istore 5, 2) := by decide +kernel
theorem dX4_close_96 : decode cX4_close 96 = .ok (.aload_n 0, 1) := by decide +kernel
theorem dX4_close_97 : decode cX4_close 97 = .ok (.iload 4, 2) := by decide +kernel
theorem dX4_close_99 : decode cX4_close 99 = .ok (.invokevirtual 141, 3) := by decide +kernel
theorem dX4_close_102 : decode cX4_close 102 = .ok (.ifCond .eq 6, 3) := by decide +kernel
theorem dX4_close_105 : decode cX4_close 105 = .ok (.goto (-43), 3) := by decide +kernel
theorem dX4_close_108 : decode cX4_close 108 = .ok (.sipush (-2000), 3) := by decide +kernel
theorem dX4_close_111 : decode cX4_close 111 = .ok (.iload_n 3, 1) := by decide +kernel
theorem dX4_close_112 : decode cX4_close 112 = .ok (.isub, 1) := by decide +kernel
theorem dX4_close_113 : decode cX4_close 113 = .ok (.istore_n 2, 1) := by decide +kernel
theorem dX4_close_114 : decode cX4_close 114 = .ok (.aload_n 0, 1) := by decide +kernel
theorem dX4_close_115 : decode cX4_close 115 = .ok (.getfield 19, 3) := by decide +kernel
theorem dX4_close_118 : decode cX4_close 118 = .ok (.aload_n 0, 1) := by decide +kernel
theorem dX4_close_119 : decode cX4_close 119 = .ok (.getfield 9, 3) := by decide +kernel
theorem dX4_close_122 : decode cX4_close 122 = .ok (.invokestatic 137, 3) := by decide +kernel
theorem dX4_close_125 : decode cX4_close 125 = .ok (.goto (-63), 3) := by decide +kernel
theorem dX4_close_128 : decode cX4_close 128 = .ok (.aload_n 0, 1) := by decide +kernel
theorem dX4_close_129 : decode cX4_close 129 = .ok (.iconst 0, 1) := by decide +kernel
theorem dX4_close_130 : decode cX4_close 130 = .ok (.putfield 99, 3) := by decide +kernel
theorem dX4_close_133 : decode cX4_close 133 = .ok (.iload_n 2, 1) := by decide +kernel
theorem dX4_close_134 : decode cX4_close 134 = .ok (.bipush (-9), 2) := by decide +kernel
theorem dX4_close_136 : decode cX4_close 136 = .ok (.if_icmp .ne 7, 3) := by decide +kernel
theorem dX4_close_139 : decode cX4_close 139 = .ok (.iload_n 1, 1) := by decide +kernel
theorem dX4_close_140 : decode cX4_close 140 = .ok (.goto 4, 3) := by decide +kernel
theorem dX4_close_143 : decode cX4_close 143 = .ok (.iload_n 2, 1) := by decide +kernel
theorem dX4_close_144 : decode cX4_close 144 = .ok (.ireturn, 1) := by decide +kernel
theorem dX4_saying_0 : decode cX4_saying 0 = .ok (.aload_n 0, 1) := by decide +kernel
theorem dX4_saying_1 : decode cX4_saying 1 = .ok (.iload_n 1, 1) := by decide +kernel
theorem dX4_saying_2 : decode cX4_saying 2 = .ok (.invokevirtual 128, 3) := by decide +kernel
theorem dX4_saying_5 : decode cX4_saying 5 = .ok (.ifCond .ne 9, 3) := by decide +kernel
theorem dX4_saying_8 : decode cX4_saying 8 = .ok (.aload_n 0, 1) := by decide +kernel
theorem dX4_saying_9 : decode cX4_saying 9 = .ok (.iconst (-1), 1) := by decide +kernel
theorem dX4_saying_10 : decode cX4_saying 10 = .ok (.invokevirtual 36, 3) := by decide +kernel
theorem dX4_saying_13 : decode cX4_saying 13 = .ok (.ireturn, 1) := by decide +kernel
theorem dX4_saying_14 : decode cX4_saying 14 = .ok (.iload_n 2, 1) := by decide +kernel
theorem dX4_saying_15 : decode cX4_saying 15 = .ok (.iconst 0, 1) := by decide +kernel
theorem dX4_saying_16 : decode cX4_saying 16 = .ok (.iconst 4, 1) := by decide +kernel
theorem dX4_saying_17 : decode cX4_saying 17 = .ok (.invokestatic 40, 3) := by decide +kernel
theorem dX4_saying_20 : decode cX4_saying 20 = .ok (.ifCond .eq 14, 3) := by decide +kernel
theorem dX4_saying_23 : decode cX4_saying 23 = .ok (.aload_n 0, 1) := by decide +kernel
theorem dX4_saying_24 : decode cX4_saying 24 = .ok (.getfield 9, 3) := by decide +kernel
theorem dX4_saying_27 : decode cX4_saying 27 = .ok (.iload_n 1, 1) := by decide +kernel
theorem dX4_saying_28 : decode cX4_saying 28 = .ok (.iload_n 2, 1) := by decide +kernel
theorem dX4_saying_29 : decode cX4_saying 29 = .ok (.invokestatic 44, 3) := by decide +kernel
theorem dX4_saying_32 : decode cX4_saying 32 = .ok (.iaload, 1) := by decide +kernel
theorem dX4_saying_33 : decode cX4_saying 33 = .ok (.ireturn, 1) := by decide +kernel
theorem dX4_saying_34 : decode cX4_saying 34 = .ok (.iload_n 2, 1) := by decide +kernel
theorem dX4_saying_35 : decode cX4_saying 35 = .ok (.iconst 5, 1) := by decide +kernel
theorem dX4_saying_36 : decode cX4_saying 36 = .ok (.bipush 7, 2) := by decide +kernel
theorem dX4_saying_38 : decode cX4_saying 38 = .ok (.invokestatic 40, 3) := by decide +kernel
theorem dX4_saying_41 : decode cX4_saying 41 = .ok (.ifCond .eq 19, 3) := by decide +kernel
theorem dX4_saying_44 : decode cX4_saying 44 = .ok (.aload_n 0, 1) := by decide +kernel
theorem dX4_saying_45 : decode cX4_saying 45 = .ok (.getfield 9, 3) := by decide +kernel
theorem dX4_saying_48 : decode cX4_saying 48 = .ok (.iconst 1, 1) := by decide +kernel
theorem dX4_saying_49 : decode cX4_saying 49 = .ok (.iload_n 1, 1) := by decide +kernel
theorem dX4_saying_50 : decode cX4_saying 50 = .ok (.ishl, 1) := by decide +kernel
theorem dX4_saying_51 : decode cX4_saying 51 = .ok (.iload_n 2, 1) := by decide +kernel
theorem dX4_saying_52 : decode cX4_saying 52 = .ok (.iconst 4, 1) := by decide +kernel
theorem dX4_saying_53 : decode cX4_saying 53 = .ok (.isub, 1) := by decide +kernel
theorem dX4_saying_54 : decode cX4_saying 54 = .ok (.invokestatic 69, 3) := by decide +kernel
theorem dX4_saying_57 : decode cX4_saying 57 = .ok (.goto 9, 3) := by decide +kernel
theorem dX4_saying_60 : decode cX4_saying 60 = .ok (.aload_n 0, 1) := by decide +kernel
theorem dX4_saying_61 : decode cX4_saying 61 = .ok (.bipush (-2), 2) := by decide +kernel
theorem dX4_saying_63 : decode cX4_saying 63 = .ok (.invokevirtual 36, 3) := by decide +kernel
theorem dX4_saying_66 : decode cX4_saying 66 = .ok (.ireturn, 1) := by decide +kernel
theorem dX4_lacksOf_0 : decode cX4_lacksOf 0 = .ok (.aload_n 0, 1) := by decide +kernel
theorem dX4_lacksOf_1 : decode cX4_lacksOf 1 = .ok (.iload_n 1, 1) := by decide +kernel
theorem dX4_lacksOf_2 : decode cX4_lacksOf 2 = .ok (.iconst 3, 1) := by decide +kernel
theorem dX4_lacksOf_3 : decode cX4_lacksOf 3 = .ok (.invokestatic 69, 3) := by decide +kernel
theorem dX4_lacksOf_6 : decode cX4_lacksOf 6 = .ok (.aload_n 0, 1) := by decide +kernel
theorem dX4_lacksOf_7 : decode cX4_lacksOf 7 = .ok (.iload_n 1, 1) := by decide +kernel
theorem dX4_lacksOf_8 : decode cX4_lacksOf 8 = .ok (.iconst 2, 1) := by decide +kernel
theorem dX4_lacksOf_9 : decode cX4_lacksOf 9 = .ok (.invokestatic 69, 3) := by decide +kernel
theorem dX4_lacksOf_12 : decode cX4_lacksOf 12 = .ok (.isub, 1) := by decide +kernel
theorem dX4_lacksOf_13 : decode cX4_lacksOf 13 = .ok (.istore_n 2, 1) := by decide +kernel
theorem dX4_lacksOf_14 : decode cX4_lacksOf 14 = .ok (.iload_n 2, 1) := by decide +kernel
theorem dX4_lacksOf_15 : decode cX4_lacksOf 15 = .ok (.ifCond .ge 7, 3) := by decide +kernel
theorem dX4_lacksOf_18 : decode cX4_lacksOf 18 = .ok (.iconst 0, 1) := by decide +kernel
theorem dX4_lacksOf_19 : decode cX4_lacksOf 19 = .ok (.goto 4, 3) := by decide +kernel
theorem dX4_lacksOf_22 : decode cX4_lacksOf 22 = .ok (.iload_n 2, 1) := by decide +kernel
theorem dX4_lacksOf_23 : decode cX4_lacksOf 23 = .ok (.ireturn, 1) := by decide +kernel
theorem dX4_nest_0 : decode cX4_nest 0 = .ok (.iload_n 1, 1) := by decide +kernel
theorem dX4_nest_1 : decode cX4_nest 1 = .ok (.invokestatic 120, 3) := by decide +kernel
theorem dX4_nest_4 : decode cX4_nest 4 = .ok (.ifCond .ne 9, 3) := by decide +kernel
theorem dX4_nest_7 : decode cX4_nest 7 = .ok (.aload_n 0, 1) := by decide +kernel
theorem dX4_nest_8 : decode cX4_nest 8 = .ok (.iconst (-1), 1) := by decide +kernel
theorem dX4_nest_9 : decode cX4_nest 9 = .ok (.invokevirtual 36, 3) := by decide +kernel
theorem dX4_nest_12 : decode cX4_nest 12 = .ok (.ireturn, 1) := by decide +kernel
theorem dX4_nest_13 : decode cX4_nest 13 = .ok (.aload_n 0, 1) := by decide +kernel
theorem dX4_nest_14 : decode cX4_nest 14 = .ok (.getfield 9, 3) := by decide +kernel
theorem dX4_nest_17 : decode cX4_nest 17 = .ok (.iload_n 1, 1) := by decide +kernel
theorem dX4_nest_18 : decode cX4_nest 18 = .ok (.invokestatic 72, 3) := by decide +kernel
theorem dX4_nest_21 : decode cX4_nest 21 = .ok (.istore_n 3, 1) := by decide +kernel
theorem dX4_nest_22 : decode cX4_nest 22 = .ok (.iload_n 2, 1) := by decide +kernel
theorem dX4_nest_23 : decode cX4_nest 23 = .ok (.tableswitch 75 0 5 #[37, 39, 39, 39, 49, 66], 37) := by decide +kernel
theorem dX4_nest_60 : decode cX4_nest 60 = .ok (.iload_n 3, 1) := by decide +kernel
theorem dX4_nest_61 : decode cX4_nest 61 = .ok (.ireturn, 1) := by decide +kernel
theorem dX4_nest_62 : decode cX4_nest 62 = .ok (.aload_n 0, 1) := by decide +kernel
theorem dX4_nest_63 : decode cX4_nest 63 = .ok (.getfield 9, 3) := by decide +kernel
theorem dX4_nest_66 : decode cX4_nest 66 = .ok (.iload_n 3, 1) := by decide +kernel
theorem dX4_nest_67 : decode cX4_nest 67 = .ok (.iload_n 2, 1) := by decide +kernel
theorem dX4_nest_68 : decode cX4_nest 68 = .ok (.invokestatic 69, 3) := by decide +kernel
theorem dX4_nest_71 : decode cX4_nest 71 = .ok (.ireturn, 1) := by decide +kernel
theorem dX4_nest_72 : decode cX4_nest 72 = .ok (.aload_n 0, 1) := by decide +kernel
theorem dX4_nest_73 : decode cX4_nest 73 = .ok (.getfield 9, 3) := by decide +kernel
theorem dX4_nest_76 : decode cX4_nest 76 = .ok (.iload_n 3, 1) := by decide +kernel
theorem dX4_nest_77 : decode cX4_nest 77 = .ok (.invokestatic 85, 3) := by decide +kernel
theorem dX4_nest_80 : decode cX4_nest 80 = .ok (.ifCond .eq 7, 3) := by decide +kernel
theorem dX4_nest_83 : decode cX4_nest 83 = .ok (.iconst 1, 1) := by decide +kernel
theorem dX4_nest_84 : decode cX4_nest 84 = .ok (.goto 4, 3) := by decide +kernel
theorem dX4_nest_87 : decode cX4_nest 87 = .ok (.iconst 0, 1) := by decide +kernel
theorem dX4_nest_88 : decode cX4_nest 88 = .ok (.ireturn, 1) := by decide +kernel
theorem dX4_nest_89 : decode cX4_nest 89 = .ok (.aload_n 0, 1) := by decide +kernel
theorem dX4_nest_90 : decode cX4_nest 90 = .ok (.getfield 9, 3) := by decide +kernel
theorem dX4_nest_93 : decode cX4_nest 93 = .ok (.iload_n 3, 1) := by decide +kernel
theorem dX4_nest_94 : decode cX4_nest 94 = .ok (.invokestatic 144, 3) := by decide +kernel
theorem dX4_nest_97 : decode cX4_nest 97 = .ok (.ireturn, 1) := by decide +kernel
theorem dX4_nest_98 : decode cX4_nest 98 = .ok (.aload_n 0, 1) := by decide +kernel
theorem dX4_nest_99 : decode cX4_nest 99 = .ok (.bipush (-2), 2) := by decide +kernel
theorem dX4_nest_101 : decode cX4_nest 101 = .ok (.invokevirtual 36, 3) := by decide +kernel
theorem dX4_nest_104 : decode cX4_nest 104 = .ok (.ireturn, 1) := by decide +kernel
theorem dX4_takes_0 : decode cX4_takes 0 = .ok (.aload_n 0, 1) := by decide +kernel
theorem dX4_takes_1 : decode cX4_takes 1 = .ok (.iload_n 1, 1) := by decide +kernel
theorem dX4_takes_2 : decode cX4_takes 2 = .ok (.invokevirtual 128, 3) := by decide +kernel
theorem dX4_takes_5 : decode cX4_takes 5 = .ok (.ifCond .ne 9, 3) := by decide +kernel
theorem dX4_takes_8 : decode cX4_takes 8 = .ok (.aload_n 0, 1) := by decide +kernel
theorem dX4_takes_9 : decode cX4_takes 9 = .ok (.iconst (-1), 1) := by decide +kernel
theorem dX4_takes_10 : decode cX4_takes 10 = .ok (.invokevirtual 36, 3) := by decide +kernel
theorem dX4_takes_13 : decode cX4_takes 13 = .ok (.ireturn, 1) := by decide +kernel
theorem dX4_takes_14 : decode cX4_takes 14 = .ok (.aload_n 0, 1) := by decide +kernel
theorem dX4_takes_15 : decode cX4_takes 15 = .ok (.getfield 9, 3) := by decide +kernel
theorem dX4_takes_18 : decode cX4_takes 18 = .ok (.iload_n 1, 1) := by decide +kernel
theorem dX4_takes_19 : decode cX4_takes 19 = .ok (.iconst 4, 1) := by decide +kernel
theorem dX4_takes_20 : decode cX4_takes 20 = .ok (.invokestatic 44, 3) := by decide +kernel
theorem dX4_takes_23 : decode cX4_takes 23 = .ok (.dup2, 1) := by decide +kernel
theorem dX4_takes_24 : decode cX4_takes 24 = .ok (.iaload, 1) := by decide +kernel
theorem dX4_takes_25 : decode cX4_takes 25 = .ok (.iconst 1, 1) := by decide +kernel
theorem dX4_takes_26 : decode cX4_takes 26 = .ok (.ixor, 1) := by decide +kernel
theorem dX4_takes_27 : decode cX4_takes 27 = .ok (.iastore, 1) := by decide +kernel
theorem dX4_takes_28 : decode cX4_takes 28 = .ok (.aload_n 0, 1) := by decide +kernel
theorem dX4_takes_29 : decode cX4_takes 29 = .ok (.getfield 9, 3) := by decide +kernel
theorem dX4_takes_32 : decode cX4_takes 32 = .ok (.iload_n 1, 1) := by decide +kernel
theorem dX4_takes_33 : decode cX4_takes 33 = .ok (.iconst 4, 1) := by decide +kernel
theorem dX4_takes_34 : decode cX4_takes 34 = .ok (.invokestatic 44, 3) := by decide +kernel
theorem dX4_takes_37 : decode cX4_takes 37 = .ok (.iaload, 1) := by decide +kernel
theorem dX4_takes_38 : decode cX4_takes 38 = .ok (.ireturn, 1) := by decide +kernel
theorem dX4_wrongBy_0 : decode cX4_wrongBy 0 = .ok (.iload_n 0, 1) := by decide +kernel
theorem dX4_wrongBy_1 : decode cX4_wrongBy 1 = .ok (.iload_n 1, 1) := by decide +kernel
theorem dX4_wrongBy_2 : decode cX4_wrongBy 2 = .ok (.if_icmp .ge 8, 3) := by decide +kernel
theorem dX4_wrongBy_5 : decode cX4_wrongBy 5 = .ok (.bipush (-4), 2) := by decide +kernel
theorem dX4_wrongBy_7 : decode cX4_wrongBy 7 = .ok (.goto 14, 3) := by decide +kernel
theorem dX4_wrongBy_10 : decode cX4_wrongBy 10 = .ok (.iload_n 0, 1) := by decide +kernel
theorem dX4_wrongBy_11 : decode cX4_wrongBy 11 = .ok (.iload_n 2, 1) := by decide +kernel
theorem dX4_wrongBy_12 : decode cX4_wrongBy 12 = .ok (.if_icmp .le 8, 3) := by decide +kernel
theorem dX4_wrongBy_15 : decode cX4_wrongBy 15 = .ok (.bipush (-6), 2) := by decide +kernel
theorem dX4_wrongBy_17 : decode cX4_wrongBy 17 = .ok (.goto 4, 3) := by decide +kernel
theorem dX4_wrongBy_20 : decode cX4_wrongBy 20 = .ok (.iconst 0, 1) := by decide +kernel
theorem dX4_wrongBy_21 : decode cX4_wrongBy 21 = .ok (.ireturn, 1) := by decide +kernel
theorem dX4_wears_0 : decode cX4_wears 0 = .ok (.aload_n 0, 1) := by decide +kernel
theorem dX4_wears_1 : decode cX4_wears 1 = .ok (.iload_n 1, 1) := by decide +kernel
theorem dX4_wears_2 : decode cX4_wears 2 = .ok (.invokevirtual 128, 3) := by decide +kernel
theorem dX4_wears_5 : decode cX4_wears 5 = .ok (.ifCond .eq 13, 3) := by decide +kernel
theorem dX4_wears_8 : decode cX4_wears 8 = .ok (.iload_n 2, 1) := by decide +kernel
theorem dX4_wears_9 : decode cX4_wears 9 = .ok (.iconst 0, 1) := by decide +kernel
theorem dX4_wears_10 : decode cX4_wears 10 = .ok (.bipush 9, 2) := by decide +kernel
theorem dX4_wears_12 : decode cX4_wears 12 = .ok (.invokestatic 147, 3) := by decide +kernel
theorem dX4_wears_15 : decode cX4_wears 15 = .ok (.goto 4, 3) := by decide +kernel
theorem dX4_wears_18 : decode cX4_wears 18 = .ok (.iconst (-1), 1) := by decide +kernel
theorem dX4_wears_19 : decode cX4_wears 19 = .ok (.istore_n 3, 1) := by decide +kernel
theorem dX4_wears_20 : decode cX4_wears 20 = .ok (.iload_n 3, 1) := by decide +kernel
theorem dX4_wears_21 : decode cX4_wears 21 = .ok (.ifCond .eq 9, 3) := by decide +kernel
theorem dX4_wears_24 : decode cX4_wears 24 = .ok (.aload_n 0, 1) := by decide +kernel
theorem dX4_wears_25 : decode cX4_wears 25 = .ok (.iload_n 3, 1) := by decide +kernel
theorem dX4_wears_26 : decode cX4_wears 26 = .ok (.invokevirtual 36, 3) := by decide +kernel
theorem dX4_wears_29 : decode cX4_wears 29 = .ok (.ireturn, 1) := by decide +kernel
theorem dX4_wears_30 : decode cX4_wears 30 = .ok (.aload_n 0, 1) := by decide +kernel
theorem dX4_wears_31 : decode cX4_wears 31 = .ok (.getfield 9, 3) := by decide +kernel
theorem dX4_wears_34 : decode cX4_wears 34 = .ok (.iload_n 1, 1) := by decide +kernel
theorem dX4_wears_35 : decode cX4_wears 35 = .ok (.iconst 3, 1) := by decide +kernel
theorem dX4_wears_36 : decode cX4_wears 36 = .ok (.invokestatic 44, 3) := by decide +kernel
theorem dX4_wears_39 : decode cX4_wears 39 = .ok (.iaload, 1) := by decide +kernel
theorem dX4_wears_40 : decode cX4_wears 40 = .ok (.istore 4, 2) := by decide +kernel
theorem dX4_wears_42 : decode cX4_wears 42 = .ok (.aload_n 0, 1) := by decide +kernel
theorem dX4_wears_43 : decode cX4_wears 43 = .ok (.getfield 9, 3) := by decide +kernel
theorem dX4_wears_46 : decode cX4_wears 46 = .ok (.iload_n 1, 1) := by decide +kernel
theorem dX4_wears_47 : decode cX4_wears 47 = .ok (.iconst 3, 1) := by decide +kernel
theorem dX4_wears_48 : decode cX4_wears 48 = .ok (.invokestatic 44, 3) := by decide +kernel
theorem dX4_wears_51 : decode cX4_wears 51 = .ok (.iload_n 2, 1) := by decide +kernel
theorem dX4_wears_52 : decode cX4_wears 52 = .ok (.iastore, 1) := by decide +kernel
theorem dX4_wears_53 : decode cX4_wears 53 = .ok (.iload 4, 2) := by decide +kernel
theorem dX4_wears_55 : decode cX4_wears 55 = .ok (.ireturn, 1) := by decide +kernel
theorem dX4_concerns_0 : decode cX4_concerns 0 = .ok (.aload_n 0, 1) := by decide +kernel
theorem dX4_concerns_1 : decode cX4_concerns 1 = .ok (.iload_n 1, 1) := by decide +kernel
theorem dX4_concerns_2 : decode cX4_concerns 2 = .ok (.invokevirtual 128, 3) := by decide +kernel
theorem dX4_concerns_5 : decode cX4_concerns 5 = .ok (.ifCond .eq 10, 3) := by decide +kernel
theorem dX4_concerns_8 : decode cX4_concerns 8 = .ok (.iload_n 2, 1) := by decide +kernel
theorem dX4_concerns_9 : decode cX4_concerns 9 = .ok (.invokestatic 120, 3) := by decide +kernel
theorem dX4_concerns_12 : decode cX4_concerns 12 = .ok (.ifCond .ne 9, 3) := by decide +kernel
theorem dX4_concerns_15 : decode cX4_concerns 15 = .ok (.aload_n 0, 1) := by decide +kernel
theorem dX4_concerns_16 : decode cX4_concerns 16 = .ok (.iconst (-1), 1) := by decide +kernel
theorem dX4_concerns_17 : decode cX4_concerns 17 = .ok (.invokevirtual 36, 3) := by decide +kernel
theorem dX4_concerns_20 : decode cX4_concerns 20 = .ok (.ireturn, 1) := by decide +kernel
theorem dX4_concerns_21 : decode cX4_concerns 21 = .ok (.aload_n 0, 1) := by decide +kernel
theorem dX4_concerns_22 : decode cX4_concerns 22 = .ok (.getfield 9, 3) := by decide +kernel
theorem dX4_concerns_25 : decode cX4_concerns 25 = .ok (.iload_n 1, 1) := by decide +kernel
theorem dX4_concerns_26 : decode cX4_concerns 26 = .ok (.iconst 2, 1) := by decide +kernel
theorem dX4_concerns_27 : decode cX4_concerns 27 = .ok (.invokestatic 44, 3) := by decide +kernel
theorem dX4_concerns_30 : decode cX4_concerns 30 = .ok (.iaload, 1) := by decide +kernel
theorem dX4_concerns_31 : decode cX4_concerns 31 = .ok (.istore_n 3, 1) := by decide +kernel
theorem dX4_concerns_32 : decode cX4_concerns 32 = .ok (.aload_n 0, 1) := by decide +kernel
theorem dX4_concerns_33 : decode cX4_concerns 33 = .ok (.getfield 9, 3) := by decide +kernel
theorem dX4_concerns_36 : decode cX4_concerns 36 = .ok (.iload_n 1, 1) := by decide +kernel
theorem dX4_concerns_37 : decode cX4_concerns 37 = .ok (.iconst 2, 1) := by decide +kernel
theorem dX4_concerns_38 : decode cX4_concerns 38 = .ok (.invokestatic 44, 3) := by decide +kernel
theorem dX4_concerns_41 : decode cX4_concerns 41 = .ok (.iload_n 2, 1) := by decide +kernel
theorem dX4_concerns_42 : decode cX4_concerns 42 = .ok (.iastore, 1) := by decide +kernel
theorem dX4_concerns_43 : decode cX4_concerns 43 = .ok (.aload_n 0, 1) := by decide +kernel
theorem dX4_concerns_44 : decode cX4_concerns 44 = .ok (.getfield 9, 3) := by decide +kernel
theorem dX4_concerns_47 : decode cX4_concerns 47 = .ok (.iload_n 1, 1) := by decide +kernel
theorem dX4_concerns_48 : decode cX4_concerns 48 = .ok (.iconst 4, 1) := by decide +kernel
theorem dX4_concerns_49 : decode cX4_concerns 49 = .ok (.invokestatic 44, 3) := by decide +kernel
theorem dX4_concerns_52 : decode cX4_concerns 52 = .ok (.iconst 0, 1) := by decide +kernel
theorem dX4_concerns_53 : decode cX4_concerns 53 = .ok (.iastore, 1) := by decide +kernel
theorem dX4_concerns_54 : decode cX4_concerns 54 = .ok (.iload_n 3, 1) := by decide +kernel
theorem dX4_concerns_55 : decode cX4_concerns 55 = .ok (.ireturn, 1) := by decide +kernel
theorem dX4_boy_0 : decode cX4_boy 0 = .ok (.iload_n 1, 1) := by decide +kernel
theorem dX4_boy_1 : decode cX4_boy 1 = .ok (.invokestatic 120, 3) := by decide +kernel
theorem dX4_boy_4 : decode cX4_boy 4 = .ok (.ifCond .ne 9, 3) := by decide +kernel
theorem dX4_boy_7 : decode cX4_boy 7 = .ok (.aload_n 0, 1) := by decide +kernel
theorem dX4_boy_8 : decode cX4_boy 8 = .ok (.iconst (-1), 1) := by decide +kernel
theorem dX4_boy_9 : decode cX4_boy 9 = .ok (.invokevirtual 36, 3) := by decide +kernel
theorem dX4_boy_12 : decode cX4_boy 12 = .ok (.ireturn, 1) := by decide +kernel
theorem dX4_boy_13 : decode cX4_boy 13 = .ok (.aload_n 0, 1) := by decide +kernel
theorem dX4_boy_14 : decode cX4_boy 14 = .ok (.getfield 9, 3) := by decide +kernel
theorem dX4_boy_17 : decode cX4_boy 17 = .ok (.iload_n 1, 1) := by decide +kernel
theorem dX4_boy_18 : decode cX4_boy 18 = .ok (.invokestatic 72, 3) := by decide +kernel
theorem dX4_boy_21 : decode cX4_boy 21 = .ok (.invokestatic 96, 3) := by decide +kernel
theorem dX4_boy_24 : decode cX4_boy 24 = .ok (.istore_n 2, 1) := by decide +kernel
theorem dX4_boy_25 : decode cX4_boy 25 = .ok (.iload_n 2, 1) := by decide +kernel
theorem dX4_boy_26 : decode cX4_boy 26 = .ok (.ifCond .ne 10, 3) := by decide +kernel
theorem dX4_boy_29 : decode cX4_boy 29 = .ok (.aload_n 0, 1) := by decide +kernel
theorem dX4_boy_30 : decode cX4_boy 30 = .ok (.bipush (-3), 2) := by decide +kernel
theorem dX4_boy_32 : decode cX4_boy 32 = .ok (.invokevirtual 36, 3) := by decide +kernel
theorem dX4_boy_35 : decode cX4_boy 35 = .ok (.ireturn, 1) := by decide +kernel
theorem dX4_boy_36 : decode cX4_boy 36 = .ok (.aload_n 0, 1) := by decide +kernel
theorem dX4_boy_37 : decode cX4_boy 37 = .ok (.getfield 9, 3) := by decide +kernel
theorem dX4_boy_40 : decode cX4_boy 40 = .ok (.iload_n 1, 1) := by decide +kernel
theorem dX4_boy_41 : decode cX4_boy 41 = .ok (.invokestatic 89, 3) := by decide +kernel
theorem dX4_boy_44 : decode cX4_boy 44 = .ok (.iload_n 2, 1) := by decide +kernel
theorem dX4_boy_45 : decode cX4_boy 45 = .ok (.ireturn, 1) := by decide +kernel
theorem dX4_turn_0 : decode cX4_turn 0 = .ok (.aload_n 0, 1) := by decide +kernel
theorem dX4_turn_1 : decode cX4_turn 1 = .ok (.iload_n 1, 1) := by decide +kernel
theorem dX4_turn_2 : decode cX4_turn 2 = .ok (.invokevirtual 128, 3) := by decide +kernel
theorem dX4_turn_5 : decode cX4_turn 5 = .ok (.ifCond .ne 7, 3) := by decide +kernel
theorem dX4_turn_8 : decode cX4_turn 8 = .ok (.iconst (-1), 1) := by decide +kernel
theorem dX4_turn_9 : decode cX4_turn 9 = .ok (.goto 24, 3) := by decide +kernel
theorem dX4_turn_12 : decode cX4_turn 12 = .ok (.iload_n 2, 1) := by decide +kernel
theorem dX4_turn_13 : decode cX4_turn 13 = .ok (.iconst 0, 1) := by decide +kernel
theorem dX4_turn_14 : decode cX4_turn 14 = .ok (.iconst 5, 1) := by decide +kernel
theorem dX4_turn_15 : decode cX4_turn 15 = .ok (.invokestatic 40, 3) := by decide +kernel
theorem dX4_turn_18 : decode cX4_turn 18 = .ok (.ifCond .ne 8, 3) := by decide +kernel
theorem dX4_turn_21 : decode cX4_turn 21 = .ok (.bipush (-2), 2) := by decide +kernel
theorem dX4_turn_23 : decode cX4_turn 23 = .ok (.goto 10, 3) := by decide +kernel
theorem dX4_turn_26 : decode cX4_turn 26 = .ok (.iload_n 3, 1) := by decide +kernel
theorem dX4_turn_27 : decode cX4_turn 27 = .ok (.iconst 0, 1) := by decide +kernel
theorem dX4_turn_28 : decode cX4_turn 28 = .ok (.bipush 9, 2) := by decide +kernel
theorem dX4_turn_30 : decode cX4_turn 30 = .ok (.invokestatic 147, 3) := by decide +kernel
theorem dX4_turn_33 : decode cX4_turn 33 = .ok (.istore 4, 2) := by decide +kernel
theorem dX4_turn_35 : decode cX4_turn 35 = .ok (.iload 4, 2) := by decide +kernel
theorem dX4_turn_37 : decode cX4_turn 37 = .ok (.ifCond .eq 10, 3) := by decide +kernel
theorem dX4_turn_40 : decode cX4_turn 40 = .ok (.aload_n 0, 1) := by decide +kernel
theorem dX4_turn_41 : decode cX4_turn 41 = .ok (.iload 4, 2) := by decide +kernel
theorem dX4_turn_43 : decode cX4_turn 43 = .ok (.invokevirtual 36, 3) := by decide +kernel
theorem dX4_turn_46 : decode cX4_turn 46 = .ok (.ireturn, 1) := by decide +kernel
theorem dX4_turn_47 : decode cX4_turn 47 = .ok (.bipush 10, 2) := by decide +kernel
theorem dX4_turn_49 : decode cX4_turn 49 = .ok (.aload_n 0, 1) := by decide +kernel
theorem dX4_turn_50 : decode cX4_turn 50 = .ok (.getfield 9, 3) := by decide +kernel
theorem dX4_turn_53 : decode cX4_turn 53 = .ok (.iload_n 1, 1) := by decide +kernel
theorem dX4_turn_54 : decode cX4_turn 54 = .ok (.iconst 0, 1) := by decide +kernel
theorem dX4_turn_55 : decode cX4_turn 55 = .ok (.invokestatic 44, 3) := by decide +kernel
theorem dX4_turn_58 : decode cX4_turn 58 = .ok (.iaload, 1) := by decide +kernel
theorem dX4_turn_59 : decode cX4_turn 59 = .ok (.imul, 1) := by decide +kernel
theorem dX4_turn_60 : decode cX4_turn 60 = .ok (.aload_n 0, 1) := by decide +kernel
theorem dX4_turn_61 : decode cX4_turn 61 = .ok (.getfield 9, 3) := by decide +kernel
theorem dX4_turn_64 : decode cX4_turn 64 = .ok (.iload_n 1, 1) := by decide +kernel
theorem dX4_turn_65 : decode cX4_turn 65 = .ok (.iconst 1, 1) := by decide +kernel
theorem dX4_turn_66 : decode cX4_turn 66 = .ok (.invokestatic 44, 3) := by decide +kernel
theorem dX4_turn_69 : decode cX4_turn 69 = .ok (.iaload, 1) := by decide +kernel
theorem dX4_turn_70 : decode cX4_turn 70 = .ok (.iadd, 1) := by decide +kernel
theorem dX4_turn_71 : decode cX4_turn 71 = .ok (.istore 5, 2) := by decide +kernel
theorem dX4_turn_73 : decode cX4_turn 73 = .ok (.aload_n 0, 1) := by decide +kernel
theorem dX4_turn_74 : decode cX4_turn 74 = .ok (.getfield 9, 3) := by decide +kernel
theorem dX4_turn_77 : decode cX4_turn 77 = .ok (.iload_n 1, 1) := by decide +kernel
theorem dX4_turn_78 : decode cX4_turn 78 = .ok (.iconst 0, 1) := by decide +kernel
theorem dX4_turn_79 : decode cX4_turn 79 = .ok (.invokestatic 44, 3) := by decide +kernel
theorem dX4_turn_82 : decode cX4_turn 82 = .ok (.iload_n 2, 1) := by decide +kernel
theorem dX4_turn_83 : decode cX4_turn 83 = .ok (.iastore, 1) := by decide +kernel
theorem dX4_turn_84 : decode cX4_turn 84 = .ok (.aload_n 0, 1) := by decide +kernel
theorem dX4_turn_85 : decode cX4_turn 85 = .ok (.getfield 9, 3) := by decide +kernel
theorem dX4_turn_88 : decode cX4_turn 88 = .ok (.iload_n 1, 1) := by decide +kernel
theorem dX4_turn_89 : decode cX4_turn 89 = .ok (.iconst 1, 1) := by decide +kernel
theorem dX4_turn_90 : decode cX4_turn 90 = .ok (.invokestatic 44, 3) := by decide +kernel
theorem dX4_turn_93 : decode cX4_turn 93 = .ok (.iload_n 3, 1) := by decide +kernel
theorem dX4_turn_94 : decode cX4_turn 94 = .ok (.iastore, 1) := by decide +kernel
theorem dX4_turn_95 : decode cX4_turn 95 = .ok (.iload 5, 2) := by decide +kernel
theorem dX4_turn_97 : decode cX4_turn 97 = .ok (.ireturn, 1) := by decide +kernel
theorem dX4_days_0 : decode cX4_days 0 = .ok (.iload_n 1, 1) := by decide +kernel
theorem dX4_days_1 : decode cX4_days 1 = .ok (.iconst 1, 1) := by decide +kernel
theorem dX4_days_2 : decode cX4_days 2 = .ok (.if_icmp .ge 10, 3) := by decide +kernel
theorem dX4_days_5 : decode cX4_days 5 = .ok (.aload_n 0, 1) := by decide +kernel
theorem dX4_days_6 : decode cX4_days 6 = .ok (.bipush (-4), 2) := by decide +kernel
theorem dX4_days_8 : decode cX4_days 8 = .ok (.invokevirtual 36, 3) := by decide +kernel
theorem dX4_days_11 : decode cX4_days 11 = .ok (.ireturn, 1) := by decide +kernel
theorem dX4_days_12 : decode cX4_days 12 = .ok (.iload_n 1, 1) := by decide +kernel
theorem dX4_days_13 : decode cX4_days 13 = .ok (.bipush 60, 2) := by decide +kernel
theorem dX4_days_15 : decode cX4_days 15 = .ok (.if_icmp .gt 17, 3) := by decide +kernel
theorem dX4_days_18 : decode cX4_days 18 = .ok (.aload_n 0, 1) := by decide +kernel
theorem dX4_days_19 : decode cX4_days 19 = .ok (.getfield 9, 3) := by decide +kernel
theorem dX4_days_22 : decode cX4_days 22 = .ok (.iconst 1, 1) := by decide +kernel
theorem dX4_days_23 : decode cX4_days 23 = .ok (.iaload, 1) := by decide +kernel
theorem dX4_days_24 : decode cX4_days 24 = .ok (.iload_n 1, 1) := by decide +kernel
theorem dX4_days_25 : decode cX4_days 25 = .ok (.iadd, 1) := by decide +kernel
theorem dX4_days_26 : decode cX4_days 26 = .ok (.sipush 999, 3) := by decide +kernel
theorem dX4_days_29 : decode cX4_days 29 = .ok (.if_icmp .le 10, 3) := by decide +kernel
theorem dX4_days_32 : decode cX4_days 32 = .ok (.aload_n 0, 1) := by decide +kernel
theorem dX4_days_33 : decode cX4_days 33 = .ok (.bipush (-6), 2) := by decide +kernel
theorem dX4_days_35 : decode cX4_days 35 = .ok (.invokevirtual 36, 3) := by decide +kernel
theorem dX4_days_38 : decode cX4_days 38 = .ok (.ireturn, 1) := by decide +kernel
theorem dX4_days_39 : decode cX4_days 39 = .ok (.aload_n 0, 1) := by decide +kernel
theorem dX4_days_40 : decode cX4_days 40 = .ok (.getfield 9, 3) := by decide +kernel
theorem dX4_days_43 : decode cX4_days 43 = .ok (.iload_n 1, 1) := by decide +kernel
theorem dX4_days_44 : decode cX4_days 44 = .ok (.invokestatic 131, 3) := by decide +kernel
theorem dX4_days_47 : decode cX4_days 47 = .ok (.istore_n 2, 1) := by decide +kernel
theorem dX4_days_48 : decode cX4_days 48 = .ok (.aload_n 0, 1) := by decide +kernel
theorem dX4_days_49 : decode cX4_days 49 = .ok (.getfield 9, 3) := by decide +kernel
theorem dX4_days_52 : decode cX4_days 52 = .ok (.iconst 2, 1) := by decide +kernel
theorem dX4_days_53 : decode cX4_days 53 = .ok (.iaload, 1) := by decide +kernel
theorem dX4_days_54 : decode cX4_days 54 = .ok (.ireturn, 1) := by decide +kernel
theorem dX4_takesOn_0 : decode cX4_takesOn 0 = .ok (.aload_n 0, 1) := by decide +kernel
theorem dX4_takesOn_1 : decode cX4_takesOn 1 = .ok (.getfield 9, 3) := by decide +kernel
theorem dX4_takesOn_4 : decode cX4_takesOn 4 = .ok (.aload_n 0, 1) := by decide +kernel
theorem dX4_takesOn_5 : decode cX4_takesOn 5 = .ok (.getfield 13, 3) := by decide +kernel
theorem dX4_takesOn_8 : decode cX4_takesOn 8 = .ok (.invokestatic 137, 3) := by decide +kernel
theorem dX4_takesOn_11 : decode cX4_takesOn 11 = .ok (.aload_n 0, 1) := by decide +kernel
theorem dX4_takesOn_12 : decode cX4_takesOn 12 = .ok (.getfield 13, 3) := by decide +kernel
theorem dX4_takesOn_15 : decode cX4_takesOn 15 = .ok (.iload_n 1, 1) := by decide +kernel
theorem dX4_takesOn_16 : decode cX4_takesOn 16 = .ok (.invokestatic 131, 3) := by decide +kernel
theorem dX4_takesOn_19 : decode cX4_takesOn 19 = .ok (.ireturn, 1) := by decide +kernel
theorem dX4_nestThen_0 : decode cX4_nestThen 0 = .ok (.iload_n 1, 1) := by decide +kernel
theorem dX4_nestThen_1 : decode cX4_nestThen 1 = .ok (.invokestatic 120, 3) := by decide +kernel
theorem dX4_nestThen_4 : decode cX4_nestThen 4 = .ok (.ifCond .eq 13, 3) := by decide +kernel
theorem dX4_nestThen_7 : decode cX4_nestThen 7 = .ok (.iload_n 2, 1) := by decide +kernel
theorem dX4_nestThen_8 : decode cX4_nestThen 8 = .ok (.iconst 0, 1) := by decide +kernel
theorem dX4_nestThen_9 : decode cX4_nestThen 9 = .ok (.bipush 60, 2) := by decide +kernel
theorem dX4_nestThen_11 : decode cX4_nestThen 11 = .ok (.invokestatic 147, 3) := by decide +kernel
theorem dX4_nestThen_14 : decode cX4_nestThen 14 = .ok (.goto 4, 3) := by decide +kernel
theorem dX4_nestThen_17 : decode cX4_nestThen 17 = .ok (.iconst (-1), 1) := by decide +kernel
theorem dX4_nestThen_18 : decode cX4_nestThen 18 = .ok (.istore 4, 2) := by decide +kernel
theorem dX4_nestThen_20 : decode cX4_nestThen 20 = .ok (.iload 4, 2) := by decide +kernel
theorem dX4_nestThen_22 : decode cX4_nestThen 22 = .ok (.ifCond .ne 16, 3) := by decide +kernel
theorem dX4_nestThen_25 : decode cX4_nestThen 25 = .ok (.iload_n 3, 1) := by decide +kernel
theorem dX4_nestThen_26 : decode cX4_nestThen 26 = .ok (.iconst 0, 1) := by decide +kernel
theorem dX4_nestThen_27 : decode cX4_nestThen 27 = .ok (.iconst 3, 1) := by decide +kernel
theorem dX4_nestThen_28 : decode cX4_nestThen 28 = .ok (.invokestatic 40, 3) := by decide +kernel
theorem dX4_nestThen_31 : decode cX4_nestThen 31 = .ok (.ifCond .ne 7, 3) := by decide +kernel
theorem dX4_nestThen_34 : decode cX4_nestThen 34 = .ok (.bipush (-2), 2) := by decide +kernel
theorem dX4_nestThen_36 : decode cX4_nestThen 36 = .ok (.istore 4, 2) := by decide +kernel
theorem dX4_nestThen_38 : decode cX4_nestThen 38 = .ok (.iload 4, 2) := by decide +kernel
theorem dX4_nestThen_40 : decode cX4_nestThen 40 = .ok (.ifCond .eq 10, 3) := by decide +kernel
theorem dX4_nestThen_43 : decode cX4_nestThen 43 = .ok (.aload_n 0, 1) := by decide +kernel
theorem dX4_nestThen_44 : decode cX4_nestThen 44 = .ok (.iload 4, 2) := by decide +kernel
theorem dX4_nestThen_46 : decode cX4_nestThen 46 = .ok (.invokevirtual 36, 3) := by decide +kernel
theorem dX4_nestThen_49 : decode cX4_nestThen 49 = .ok (.ireturn, 1) := by decide +kernel
theorem dX4_nestThen_50 : decode cX4_nestThen 50 = .ok (.aload_n 0, 1) := by decide +kernel
theorem dX4_nestThen_51 : decode cX4_nestThen 51 = .ok (.iload_n 2, 1) := by decide +kernel
theorem dX4_nestThen_52 : decode cX4_nestThen 52 = .ok (.invokevirtual 151, 3) := by decide +kernel
theorem dX4_nestThen_55 : decode cX4_nestThen 55 = .ok (.istore 5, 2) := by decide +kernel
theorem dX4_nestThen_57 : decode cX4_nestThen 57 = .ok (.aload_n 0, 1) := by decide +kernel
theorem dX4_nestThen_58 : decode cX4_nestThen 58 = .ok (.getfield 13, 3) := by decide +kernel
theorem dX4_nestThen_61 : decode cX4_nestThen 61 = .ok (.iload_n 1, 1) := by decide +kernel
theorem dX4_nestThen_62 : decode cX4_nestThen 62 = .ok (.invokestatic 72, 3) := by decide +kernel
theorem dX4_nestThen_65 : decode cX4_nestThen 65 = .ok (.istore 6, 2) := by decide +kernel
theorem dX4_nestThen_67 : decode cX4_nestThen 67 = .ok (.iload_n 3, 1) := by decide +kernel
theorem dX4_nestThen_68 : decode cX4_nestThen 68 = .ok (.ifCond .ne 8, 3) := by decide +kernel
theorem dX4_nestThen_71 : decode cX4_nestThen 71 = .ok (.iload 6, 2) := by decide +kernel
theorem dX4_nestThen_73 : decode cX4_nestThen 73 = .ok (.goto 13, 3) := by decide +kernel
theorem dX4_nestThen_76 : decode cX4_nestThen 76 = .ok (.aload_n 0, 1) := by decide +kernel
theorem dX4_nestThen_77 : decode cX4_nestThen 77 = .ok (.getfield 13, 3) := by decide +kernel
theorem dX4_nestThen_80 : decode cX4_nestThen 80 = .ok (.iload 6, 2) := by decide +kernel
theorem dX4_nestThen_82 : decode cX4_nestThen 82 = .ok (.iload_n 3, 1) := by decide +kernel
theorem dX4_nestThen_83 : decode cX4_nestThen 83 = .ok (.invokestatic 69, 3) := by decide +kernel
theorem dX4_nestThen_86 : decode cX4_nestThen 86 = .ok (.ireturn, 1) := by decide +kernel
theorem dX4_robbedThen_0 : decode cX4_robbedThen 0 = .ok (.iload_n 1, 1) := by decide +kernel
theorem dX4_robbedThen_1 : decode cX4_robbedThen 1 = .ok (.iconst 0, 1) := by decide +kernel
theorem dX4_robbedThen_2 : decode cX4_robbedThen 2 = .ok (.bipush 60, 2) := by decide +kernel
theorem dX4_robbedThen_4 : decode cX4_robbedThen 4 = .ok (.invokestatic 147, 3) := by decide +kernel
theorem dX4_robbedThen_7 : decode cX4_robbedThen 7 = .ok (.istore_n 2, 1) := by decide +kernel
theorem dX4_robbedThen_8 : decode cX4_robbedThen 8 = .ok (.iload_n 2, 1) := by decide +kernel
theorem dX4_robbedThen_9 : decode cX4_robbedThen 9 = .ok (.ifCond .eq 9, 3) := by decide +kernel
theorem dX4_robbedThen_12 : decode cX4_robbedThen 12 = .ok (.aload_n 0, 1) := by decide +kernel
theorem dX4_robbedThen_13 : decode cX4_robbedThen 13 = .ok (.iload_n 2, 1) := by decide +kernel
theorem dX4_robbedThen_14 : decode cX4_robbedThen 14 = .ok (.invokevirtual 36, 3) := by decide +kernel
theorem dX4_robbedThen_17 : decode cX4_robbedThen 17 = .ok (.ireturn, 1) := by decide +kernel
theorem dX4_robbedThen_18 : decode cX4_robbedThen 18 = .ok (.aload_n 0, 1) := by decide +kernel
theorem dX4_robbedThen_19 : decode cX4_robbedThen 19 = .ok (.iload_n 1, 1) := by decide +kernel
theorem dX4_robbedThen_20 : decode cX4_robbedThen 20 = .ok (.invokevirtual 151, 3) := by decide +kernel
theorem dX4_robbedThen_23 : decode cX4_robbedThen 23 = .ok (.istore_n 3, 1) := by decide +kernel
theorem dX4_robbedThen_24 : decode cX4_robbedThen 24 = .ok (.aload_n 0, 1) := by decide +kernel
theorem dX4_robbedThen_25 : decode cX4_robbedThen 25 = .ok (.getfield 13, 3) := by decide +kernel
theorem dX4_robbedThen_28 : decode cX4_robbedThen 28 = .ok (.iconst 2, 1) := by decide +kernel
theorem dX4_robbedThen_29 : decode cX4_robbedThen 29 = .ok (.iaload, 1) := by decide +kernel
theorem dX4_robbedThen_30 : decode cX4_robbedThen 30 = .ok (.ireturn, 1) := by decide +kernel
theorem dX4_whenFalls_0 : decode cX4_whenFalls 0 = .ok (.aload_n 0, 1) := by decide +kernel
theorem dX4_whenFalls_1 : decode cX4_whenFalls 1 = .ok (.getfield 9, 3) := by decide +kernel
theorem dX4_whenFalls_4 : decode cX4_whenFalls 4 = .ok (.aload_n 0, 1) := by decide +kernel
theorem dX4_whenFalls_5 : decode cX4_whenFalls 5 = .ok (.getfield 13, 3) := by decide +kernel
theorem dX4_whenFalls_8 : decode cX4_whenFalls 8 = .ok (.invokestatic 137, 3) := by decide +kernel
theorem dX4_whenFalls_11 : decode cX4_whenFalls 11 = .ok (.iconst 1, 1) := by decide +kernel
theorem dX4_whenFalls_12 : decode cX4_whenFalls 12 = .ok (.istore_n 2, 1) := by decide +kernel
theorem dX4_whenFalls_13 : decode cX4_whenFalls 13 = .ok (.iload_n 2, 1) := by decide +kernel
theorem dX4_whenFalls_14 : decode cX4_whenFalls 14 = .ok (.bipush 60, 2) := by decide +kernel
theorem dX4_whenFalls_16 : decode cX4_whenFalls 16 = .ok (.if_icmp .gt 23, 3) := by decide +kernel
theorem dX4_whenFalls_19 : decode cX4_whenFalls 19 = .ok (.aload_n 0, 1) := by decide +kernel
theorem dX4_whenFalls_20 : decode cX4_whenFalls 20 = .ok (.getfield 13, 3) := by decide +kernel
theorem dX4_whenFalls_23 : decode cX4_whenFalls 23 = .ok (.invokestatic 92, 3) := by decide +kernel
theorem dX4_whenFalls_26 : decode cX4_whenFalls 26 = .ok (.iload_n 1, 1) := by decide +kernel
theorem dX4_whenFalls_27 : decode cX4_whenFalls 27 = .ok (.iand, 1) := by decide +kernel
theorem dX4_whenFalls_28 : decode cX4_whenFalls 28 = .ok (.ifCond .eq 5, 3) := by decide +kernel
theorem dX4_whenFalls_31 : decode cX4_whenFalls 31 = .ok (.iload_n 2, 1) := by decide +kernel
theorem dX4_whenFalls_32 : decode cX4_whenFalls 32 = .ok (.ireturn, 1) := by decide +kernel
theorem dX4_whenFalls_33 : decode cX4_whenFalls 33 = .ok (.iinc 2 1, 3) := by decide +kernel
theorem dX4_whenFalls_36 : decode cX4_whenFalls 36 = .ok (.goto (-23), 3) := by decide +kernel
theorem dX4_whenFalls_39 : decode cX4_whenFalls 39 = .ok (.bipush (-9), 2) := by decide +kernel
theorem dX4_whenFalls_41 : decode cX4_whenFalls 41 = .ok (.ireturn, 1) := by decide +kernel
theorem dX4_falls_0 : decode cX4_falls 0 = .ok (.iload_n 1, 1) := by decide +kernel
theorem dX4_falls_1 : decode cX4_falls 1 = .ok (.invokestatic 120, 3) := by decide +kernel
theorem dX4_falls_4 : decode cX4_falls 4 = .ok (.ifCond .eq 13, 3) := by decide +kernel
theorem dX4_falls_7 : decode cX4_falls 7 = .ok (.aload_n 0, 1) := by decide +kernel
theorem dX4_falls_8 : decode cX4_falls 8 = .ok (.iconst 1, 1) := by decide +kernel
theorem dX4_falls_9 : decode cX4_falls 9 = .ok (.iload_n 1, 1) := by decide +kernel
theorem dX4_falls_10 : decode cX4_falls 10 = .ok (.ishl, 1) := by decide +kernel
theorem dX4_falls_11 : decode cX4_falls 11 = .ok (.invokevirtual 154, 3) := by decide +kernel
theorem dX4_falls_14 : decode cX4_falls 14 = .ok (.goto 8, 3) := by decide +kernel
theorem dX4_falls_17 : decode cX4_falls 17 = .ok (.aload_n 0, 1) := by decide +kernel
theorem dX4_falls_18 : decode cX4_falls 18 = .ok (.iconst (-1), 1) := by decide +kernel
theorem dX4_falls_19 : decode cX4_falls 19 = .ok (.invokevirtual 36, 3) := by decide +kernel
theorem dX4_falls_22 : decode cX4_falls 22 = .ok (.ireturn, 1) := by decide +kernel
theorem dX4_still_0 : decode cX4_still 0 = .ok (.aload_n 0, 1) := by decide +kernel
theorem dX4_still_1 : decode cX4_still 1 = .ok (.getfield 9, 3) := by decide +kernel
theorem dX4_still_4 : decode cX4_still 4 = .ok (.aload_n 0, 1) := by decide +kernel
theorem dX4_still_5 : decode cX4_still 5 = .ok (.getfield 13, 3) := by decide +kernel
theorem dX4_still_8 : decode cX4_still 8 = .ok (.invokestatic 137, 3) := by decide +kernel
theorem dX4_still_11 : decode cX4_still 11 = .ok (.iconst 0, 1) := by decide +kernel
theorem dX4_still_12 : decode cX4_still 12 = .ok (.istore_n 1, 1) := by decide +kernel
theorem dX4_still_13 : decode cX4_still 13 = .ok (.iload_n 1, 1) := by decide +kernel
theorem dX4_still_14 : decode cX4_still 14 = .ok (.bipush 60, 2) := by decide +kernel
theorem dX4_still_16 : decode cX4_still 16 = .ok (.if_icmp .gt 38, 3) := by decide +kernel
theorem dX4_still_19 : decode cX4_still 19 = .ok (.aload_n 0, 1) := by decide +kernel
theorem dX4_still_20 : decode cX4_still 20 = .ok (.getfield 13, 3) := by decide +kernel
theorem dX4_still_23 : decode cX4_still 23 = .ok (.invokestatic 157, 3) := by decide +kernel
theorem dX4_still_26 : decode cX4_still 26 = .ok (.istore_n 2, 1) := by decide +kernel
theorem dX4_still_27 : decode cX4_still 27 = .ok (.aload_n 0, 1) := by decide +kernel
theorem dX4_still_28 : decode cX4_still 28 = .ok (.getfield 13, 3) := by decide +kernel
theorem dX4_still_31 : decode cX4_still 31 = .ok (.invokestatic 92, 3) := by decide +kernel
theorem dX4_still_34 : decode cX4_still 34 = .ok (.istore_n 3, 1) := by decide +kernel
theorem dX4_still_35 : decode cX4_still 35 = .ok (.aload_n 0, 1) := by decide +kernel
theorem dX4_still_36 : decode cX4_still 36 = .ok (.getfield 13, 3) := by decide +kernel
theorem dX4_still_39 : decode cX4_still 39 = .ok (.invokestatic 157, 3) := by decide +kernel
theorem dX4_still_42 : decode cX4_still 42 = .ok (.iload_n 2, 1) := by decide +kernel
theorem dX4_still_43 : decode cX4_still 43 = .ok (.if_icmp .ne 5, 3) := by decide +kernel
theorem dX4_still_46 : decode cX4_still 46 = .ok (.iload_n 1, 1) := by decide +kernel
theorem dX4_still_47 : decode cX4_still 47 = .ok (.ireturn, 1) := by decide +kernel
theorem dX4_still_48 : decode cX4_still 48 = .ok (.iinc 1 1, 3) := by decide +kernel
theorem dX4_still_51 : decode cX4_still 51 = .ok (.goto (-38), 3) := by decide +kernel
theorem dX4_still_54 : decode cX4_still 54 = .ok (.bipush (-9), 2) := by decide +kernel
theorem dX4_still_56 : decode cX4_still 56 = .ok (.ireturn, 1) := by decide +kernel
theorem dX4_first_0 : decode cX4_first 0 = .ok (.iload_n 1, 1) := by decide +kernel
theorem dX4_first_1 : decode cX4_first 1 = .ok (.iconst 0, 1) := by decide +kernel
theorem dX4_first_2 : decode cX4_first 2 = .ok (.iconst 2, 1) := by decide +kernel
theorem dX4_first_3 : decode cX4_first 3 = .ok (.invokestatic 40, 3) := by decide +kernel
theorem dX4_first_6 : decode cX4_first 6 = .ok (.ifCond .ne 10, 3) := by decide +kernel
theorem dX4_first_9 : decode cX4_first 9 = .ok (.aload_n 0, 1) := by decide +kernel
theorem dX4_first_10 : decode cX4_first 10 = .ok (.bipush (-2), 2) := by decide +kernel
theorem dX4_first_12 : decode cX4_first 12 = .ok (.invokevirtual 36, 3) := by decide +kernel
theorem dX4_first_15 : decode cX4_first 15 = .ok (.ireturn, 1) := by decide +kernel
theorem dX4_first_16 : decode cX4_first 16 = .ok (.iload_n 1, 1) := by decide +kernel
theorem dX4_first_17 : decode cX4_first 17 = .ok (.iconst 2, 1) := by decide +kernel
theorem dX4_first_18 : decode cX4_first 18 = .ok (.if_icmp .ne 8, 3) := by decide +kernel
theorem dX4_first_21 : decode cX4_first 21 = .ok (.aload_n 0, 1) := by decide +kernel
theorem dX4_first_22 : decode cX4_first 22 = .ok (.invokevirtual 160, 3) := by decide +kernel
theorem dX4_first_25 : decode cX4_first 25 = .ok (.ireturn, 1) := by decide +kernel
theorem dX4_first_26 : decode cX4_first 26 = .ok (.aload_n 0, 1) := by decide +kernel
theorem dX4_first_27 : decode cX4_first 27 = .ok (.bipush 15, 2) := by decide +kernel
theorem dX4_first_29 : decode cX4_first 29 = .ok (.invokevirtual 154, 3) := by decide +kernel
theorem dX4_first_32 : decode cX4_first 32 = .ok (.istore_n 2, 1) := by decide +kernel
theorem dX4_first_33 : decode cX4_first 33 = .ok (.iload_n 2, 1) := by decide +kernel
theorem dX4_first_34 : decode cX4_first 34 = .ok (.ifCond .lt 8, 3) := by decide +kernel
theorem dX4_first_37 : decode cX4_first 37 = .ok (.iload_n 1, 1) := by decide +kernel
theorem dX4_first_38 : decode cX4_first 38 = .ok (.iconst 1, 1) := by decide +kernel
theorem dX4_first_39 : decode cX4_first 39 = .ok (.if_icmp .ne 5, 3) := by decide +kernel
theorem dX4_first_42 : decode cX4_first 42 = .ok (.iload_n 2, 1) := by decide +kernel
theorem dX4_first_43 : decode cX4_first 43 = .ok (.ireturn, 1) := by decide +kernel
theorem dX4_first_44 : decode cX4_first 44 = .ok (.iconst 0, 1) := by decide +kernel
theorem dX4_first_45 : decode cX4_first 45 = .ok (.istore_n 3, 1) := by decide +kernel
theorem dX4_first_46 : decode cX4_first 46 = .ok (.iload_n 3, 1) := by decide +kernel
theorem dX4_first_47 : decode cX4_first 47 = .ok (.iconst 4, 1) := by decide +kernel
theorem dX4_first_48 : decode cX4_first 48 = .ok (.if_icmp .ge 22, 3) := by decide +kernel
theorem dX4_first_51 : decode cX4_first 51 = .ok (.aload_n 0, 1) := by decide +kernel
theorem dX4_first_52 : decode cX4_first 52 = .ok (.iconst 1, 1) := by decide +kernel
theorem dX4_first_53 : decode cX4_first 53 = .ok (.iload_n 3, 1) := by decide +kernel
theorem dX4_first_54 : decode cX4_first 54 = .ok (.ishl, 1) := by decide +kernel
theorem dX4_first_55 : decode cX4_first 55 = .ok (.invokevirtual 154, 3) := by decide +kernel
theorem dX4_first_58 : decode cX4_first 58 = .ok (.iload_n 2, 1) := by decide +kernel
theorem dX4_first_59 : decode cX4_first 59 = .ok (.if_icmp .ne 5, 3) := by decide +kernel
theorem dX4_first_62 : decode cX4_first 62 = .ok (.iload_n 3, 1) := by decide +kernel
theorem dX4_first_63 : decode cX4_first 63 = .ok (.ireturn, 1) := by decide +kernel
theorem dX4_first_64 : decode cX4_first 64 = .ok (.iinc 3 1, 3) := by decide +kernel
theorem dX4_first_67 : decode cX4_first 67 = .ok (.goto (-21), 3) := by decide +kernel
theorem dX4_first_70 : decode cX4_first 70 = .ok (.bipush (-9), 2) := by decide +kernel
theorem dX4_first_72 : decode cX4_first 72 = .ok (.ireturn, 1) := by decide +kernel
theorem dX4_cushion_0 : decode cX4_cushion 0 = .ok (.iload_n 1, 1) := by decide +kernel
theorem dX4_cushion_1 : decode cX4_cushion 1 = .ok (.iconst 0, 1) := by decide +kernel
theorem dX4_cushion_2 : decode cX4_cushion 2 = .ok (.iconst 1, 1) := by decide +kernel
theorem dX4_cushion_3 : decode cX4_cushion 3 = .ok (.invokestatic 40, 3) := by decide +kernel
theorem dX4_cushion_6 : decode cX4_cushion 6 = .ok (.ifCond .ne 10, 3) := by decide +kernel
theorem dX4_cushion_9 : decode cX4_cushion 9 = .ok (.aload_n 0, 1) := by decide +kernel
theorem dX4_cushion_10 : decode cX4_cushion 10 = .ok (.bipush (-2), 2) := by decide +kernel
theorem dX4_cushion_12 : decode cX4_cushion 12 = .ok (.invokevirtual 36, 3) := by decide +kernel
theorem dX4_cushion_15 : decode cX4_cushion 15 = .ok (.ireturn, 1) := by decide +kernel
theorem dX4_cushion_16 : decode cX4_cushion 16 = .ok (.aload_n 0, 1) := by decide +kernel
theorem dX4_cushion_17 : decode cX4_cushion 17 = .ok (.getfield 9, 3) := by decide +kernel
theorem dX4_cushion_20 : decode cX4_cushion 20 = .ok (.aload_n 0, 1) := by decide +kernel
theorem dX4_cushion_21 : decode cX4_cushion 21 = .ok (.getfield 13, 3) := by decide +kernel
theorem dX4_cushion_24 : decode cX4_cushion 24 = .ok (.invokestatic 137, 3) := by decide +kernel
theorem dX4_cushion_27 : decode cX4_cushion 27 = .ok (.iconst 0, 1) := by decide +kernel
theorem dX4_cushion_28 : decode cX4_cushion 28 = .ok (.istore_n 2, 1) := by decide +kernel
theorem dX4_cushion_29 : decode cX4_cushion 29 = .ok (.iload_n 2, 1) := by decide +kernel
theorem dX4_cushion_30 : decode cX4_cushion 30 = .ok (.bipush 60, 2) := by decide +kernel
theorem dX4_cushion_32 : decode cX4_cushion 32 = .ok (.if_icmp .gt 61, 3) := by decide +kernel
theorem dX4_cushion_35 : decode cX4_cushion 35 = .ok (.iconst 0, 1) := by decide +kernel
theorem dX4_cushion_36 : decode cX4_cushion 36 = .ok (.istore_n 3, 1) := by decide +kernel
theorem dX4_cushion_37 : decode cX4_cushion 37 = .ok (.iload_n 3, 1) := by decide +kernel
theorem dX4_cushion_38 : decode cX4_cushion 38 = .ok (.iconst 4, 1) := by decide +kernel
theorem dX4_cushion_39 : decode cX4_cushion 39 = .ok (.if_icmp .ge 40, 3) := by decide +kernel
theorem dX4_cushion_42 : decode cX4_cushion 42 = .ok (.aload_n 0, 1) := by decide +kernel
theorem dX4_cushion_43 : decode cX4_cushion 43 = .ok (.getfield 13, 3) := by decide +kernel
theorem dX4_cushion_46 : decode cX4_cushion 46 = .ok (.aload_n 0, 1) := by decide +kernel
theorem dX4_cushion_47 : decode cX4_cushion 47 = .ok (.getfield 13, 3) := by decide +kernel
theorem dX4_cushion_50 : decode cX4_cushion 50 = .ok (.iload_n 3, 1) := by decide +kernel
theorem dX4_cushion_51 : decode cX4_cushion 51 = .ok (.invokestatic 72, 3) := by decide +kernel
theorem dX4_cushion_54 : decode cX4_cushion 54 = .ok (.iconst 1, 1) := by decide +kernel
theorem dX4_cushion_55 : decode cX4_cushion 55 = .ok (.invokestatic 69, 3) := by decide +kernel
theorem dX4_cushion_58 : decode cX4_cushion 58 = .ok (.bipush 20, 2) := by decide +kernel
theorem dX4_cushion_60 : decode cX4_cushion 60 = .ok (.if_icmp .lt 13, 3) := by decide +kernel
theorem dX4_cushion_63 : decode cX4_cushion 63 = .ok (.iload_n 1, 1) := by decide +kernel
theorem dX4_cushion_64 : decode cX4_cushion 64 = .ok (.ifCond .ne 7, 3) := by decide +kernel
theorem dX4_cushion_67 : decode cX4_cushion 67 = .ok (.iload_n 2, 1) := by decide +kernel
theorem dX4_cushion_68 : decode cX4_cushion 68 = .ok (.goto 4, 3) := by decide +kernel
theorem dX4_cushion_71 : decode cX4_cushion 71 = .ok (.iload_n 3, 1) := by decide +kernel
theorem dX4_cushion_72 : decode cX4_cushion 72 = .ok (.ireturn, 1) := by decide +kernel
theorem dX4_cushion_73 : decode cX4_cushion 73 = .ok (.iinc 3 1, 3) := by decide +kernel
theorem dX4_cushion_76 : decode cX4_cushion 76 = .ok (.goto (-39), 3) := by decide +kernel
theorem dX4_cushion_79 : decode cX4_cushion 79 = .ok (.aload_n 0, 1) := by decide +kernel
theorem dX4_cushion_80 : decode cX4_cushion 80 = .ok (.getfield 13, 3) := by decide +kernel
theorem dX4_cushion_83 : decode cX4_cushion 83 = .ok (.invokestatic 92, 3) := by decide +kernel
theorem dX4_cushion_86 : decode cX4_cushion 86 = .ok (.istore_n 3, 1) := by decide +kernel
theorem dX4_cushion_87 : decode cX4_cushion 87 = .ok (.iinc 2 1, 3) := by decide +kernel
theorem dX4_cushion_90 : decode cX4_cushion 90 = .ok (.goto (-61), 3) := by decide +kernel
theorem dX4_cushion_93 : decode cX4_cushion 93 = .ok (.bipush (-9), 2) := by decide +kernel
theorem dX4_cushion_95 : decode cX4_cushion 95 = .ok (.ireturn, 1) := by decide +kernel
theorem dX4_more_0 : decode cX4_more 0 = .ok (.iload_n 1, 1) := by decide +kernel
theorem dX4_more_1 : decode cX4_more 1 = .ok (.invokestatic 120, 3) := by decide +kernel
theorem dX4_more_4 : decode cX4_more 4 = .ok (.ifCond .ne 9, 3) := by decide +kernel
theorem dX4_more_7 : decode cX4_more 7 = .ok (.aload_n 0, 1) := by decide +kernel
theorem dX4_more_8 : decode cX4_more 8 = .ok (.iconst (-1), 1) := by decide +kernel
theorem dX4_more_9 : decode cX4_more 9 = .ok (.invokevirtual 36, 3) := by decide +kernel
theorem dX4_more_12 : decode cX4_more 12 = .ok (.ireturn, 1) := by decide +kernel
theorem dX4_more_13 : decode cX4_more 13 = .ok (.aload_n 0, 1) := by decide +kernel
theorem dX4_more_14 : decode cX4_more 14 = .ok (.getfield 9, 3) := by decide +kernel
theorem dX4_more_17 : decode cX4_more 17 = .ok (.iload_n 1, 1) := by decide +kernel
theorem dX4_more_18 : decode cX4_more 18 = .ok (.invokestatic 72, 3) := by decide +kernel
theorem dX4_more_21 : decode cX4_more 21 = .ok (.istore_n 2, 1) := by decide +kernel
theorem dX4_more_22 : decode cX4_more 22 = .ok (.aload_n 0, 1) := by decide +kernel
theorem dX4_more_23 : decode cX4_more 23 = .ok (.getfield 9, 3) := by decide +kernel
theorem dX4_more_26 : decode cX4_more 26 = .ok (.iload_n 1, 1) := by decide +kernel
theorem dX4_more_27 : decode cX4_more 27 = .ok (.iconst 0, 1) := by decide +kernel
theorem dX4_more_28 : decode cX4_more 28 = .ok (.invokestatic 65, 3) := by decide +kernel
theorem dX4_more_31 : decode cX4_more 31 = .ok (.istore_n 3, 1) := by decide +kernel
theorem dX4_more_32 : decode cX4_more 32 = .ok (.bipush (-9), 2) := by decide +kernel
theorem dX4_more_34 : decode cX4_more 34 = .ok (.istore 4, 2) := by decide +kernel
theorem dX4_more_36 : decode cX4_more 36 = .ok (.iconst 0, 1) := by decide +kernel
theorem dX4_more_37 : decode cX4_more 37 = .ok (.istore 5, 2) := by decide +kernel
theorem dX4_more_39 : decode cX4_more 39 = .ok (.iload 5, 2) := by decide +kernel
theorem dX4_more_41 : decode cX4_more 41 = .ok (.iload_n 3, 1) := by decide +kernel
theorem dX4_more_42 : decode cX4_more 42 = .ok (.if_icmp .gt 54, 3) := by decide +kernel
theorem dX4_more_45 : decode cX4_more 45 = .ok (.iload 5, 2) := by decide +kernel
theorem dX4_more_47 : decode cX4_more 47 = .ok (.iload_n 3, 1) := by decide +kernel
theorem dX4_more_48 : decode cX4_more 48 = .ok (.iconst (-1), 1) := by decide +kernel
theorem dX4_more_49 : decode cX4_more 49 = .ok (.ixor, 1) := by decide +kernel
theorem dX4_more_50 : decode cX4_more 50 = .ok (.iand, 1) := by decide +kernel
theorem dX4_more_51 : decode cX4_more 51 = .ok (.ifCond .ne 39, 3) := by decide +kernel
theorem dX4_more_54 : decode cX4_more 54 = .ok (.iload 4, 2) := by decide +kernel
theorem dX4_more_56 : decode cX4_more 56 = .ok (.ifCond .lt 16, 3) := by decide +kernel
theorem dX4_more_59 : decode cX4_more 59 = .ok (.iload 5, 2) := by decide +kernel
theorem dX4_more_61 : decode cX4_more 61 = .ok (.invokestatic 96, 3) := by decide +kernel
theorem dX4_more_64 : decode cX4_more 64 = .ok (.iload 4, 2) := by decide +kernel
theorem dX4_more_66 : decode cX4_more 66 = .ok (.invokestatic 96, 3) := by decide +kernel
theorem dX4_more_69 : decode cX4_more 69 = .ok (.if_icmp .ge 21, 3) := by decide +kernel
theorem dX4_more_72 : decode cX4_more 72 = .ok (.aload_n 0, 1) := by decide +kernel
theorem dX4_more_73 : decode cX4_more 73 = .ok (.getfield 9, 3) := by decide +kernel
theorem dX4_more_76 : decode cX4_more 76 = .ok (.iload_n 2, 1) := by decide +kernel
theorem dX4_more_77 : decode cX4_more 77 = .ok (.iload 5, 2) := by decide +kernel
theorem dX4_more_79 : decode cX4_more 79 = .ok (.ior, 1) := by decide +kernel
theorem dX4_more_80 : decode cX4_more 80 = .ok (.invokestatic 85, 3) := by decide +kernel
theorem dX4_more_83 : decode cX4_more 83 = .ok (.ifCond .eq 7, 3) := by decide +kernel
theorem dX4_more_86 : decode cX4_more 86 = .ok (.iload 5, 2) := by decide +kernel
theorem dX4_more_88 : decode cX4_more 88 = .ok (.istore 4, 2) := by decide +kernel
theorem dX4_more_90 : decode cX4_more 90 = .ok (.iinc 5 1, 3) := by decide +kernel
theorem dX4_more_93 : decode cX4_more 93 = .ok (.goto (-54), 3) := by decide +kernel
theorem dX4_more_96 : decode cX4_more 96 = .ok (.iload 4, 2) := by decide +kernel
theorem dX4_more_98 : decode cX4_more 98 = .ok (.ireturn, 1) := by decide +kernel
theorem dX4_softest_0 : decode cX4_softest 0 = .ok (.iload_n 1, 1) := by decide +kernel
theorem dX4_softest_1 : decode cX4_softest 1 = .ok (.invokestatic 120, 3) := by decide +kernel
theorem dX4_softest_4 : decode cX4_softest 4 = .ok (.ifCond .ne 9, 3) := by decide +kernel
theorem dX4_softest_7 : decode cX4_softest 7 = .ok (.aload_n 0, 1) := by decide +kernel
theorem dX4_softest_8 : decode cX4_softest 8 = .ok (.iconst (-1), 1) := by decide +kernel
theorem dX4_softest_9 : decode cX4_softest 9 = .ok (.invokevirtual 36, 3) := by decide +kernel
theorem dX4_softest_12 : decode cX4_softest 12 = .ok (.ireturn, 1) := by decide +kernel
theorem dX4_softest_13 : decode cX4_softest 13 = .ok (.iload_n 2, 1) := by decide +kernel
theorem dX4_softest_14 : decode cX4_softest 14 = .ok (.iconst 0, 1) := by decide +kernel
theorem dX4_softest_15 : decode cX4_softest 15 = .ok (.iconst 1, 1) := by decide +kernel
theorem dX4_softest_16 : decode cX4_softest 16 = .ok (.invokestatic 40, 3) := by decide +kernel
theorem dX4_softest_19 : decode cX4_softest 19 = .ok (.ifCond .ne 10, 3) := by decide +kernel
theorem dX4_softest_22 : decode cX4_softest 22 = .ok (.aload_n 0, 1) := by decide +kernel
theorem dX4_softest_23 : decode cX4_softest 23 = .ok (.bipush (-2), 2) := by decide +kernel
theorem dX4_softest_25 : decode cX4_softest 25 = .ok (.invokevirtual 36, 3) := by decide +kernel
theorem dX4_softest_28 : decode cX4_softest 28 = .ok (.ireturn, 1) := by decide +kernel
theorem dX4_softest_29 : decode cX4_softest 29 = .ok (.aload_n 0, 1) := by decide +kernel
theorem dX4_softest_30 : decode cX4_softest 30 = .ok (.getfield 9, 3) := by decide +kernel
theorem dX4_softest_33 : decode cX4_softest 33 = .ok (.iload_n 1, 1) := by decide +kernel
theorem dX4_softest_34 : decode cX4_softest 34 = .ok (.invokestatic 72, 3) := by decide +kernel
theorem dX4_softest_37 : decode cX4_softest 37 = .ok (.aload_n 0, 1) := by decide +kernel
theorem dX4_softest_38 : decode cX4_softest 38 = .ok (.getfield 9, 3) := by decide +kernel
theorem dX4_softest_41 : decode cX4_softest 41 = .ok (.iload_n 1, 1) := by decide +kernel
theorem dX4_softest_42 : decode cX4_softest 42 = .ok (.iconst 0, 1) := by decide +kernel
theorem dX4_softest_43 : decode cX4_softest 43 = .ok (.invokestatic 65, 3) := by decide +kernel
theorem dX4_softest_46 : decode cX4_softest 46 = .ok (.ior, 1) := by decide +kernel
theorem dX4_softest_47 : decode cX4_softest 47 = .ok (.istore_n 3, 1) := by decide +kernel
theorem dX4_softest_48 : decode cX4_softest 48 = .ok (.iconst 0, 1) := by decide +kernel
theorem dX4_softest_49 : decode cX4_softest 49 = .ok (.istore 4, 2) := by decide +kernel
theorem dX4_softest_51 : decode cX4_softest 51 = .ok (.iconst 0, 1) := by decide +kernel
theorem dX4_softest_52 : decode cX4_softest 52 = .ok (.istore 5, 2) := by decide +kernel
theorem dX4_softest_54 : decode cX4_softest 54 = .ok (.iload 5, 2) := by decide +kernel
theorem dX4_softest_56 : decode cX4_softest 56 = .ok (.iload_n 3, 1) := by decide +kernel
theorem dX4_softest_57 : decode cX4_softest 57 = .ok (.if_icmp .gt 57, 3) := by decide +kernel
theorem dX4_softest_60 : decode cX4_softest 60 = .ok (.iload 5, 2) := by decide +kernel
theorem dX4_softest_62 : decode cX4_softest 62 = .ok (.iload_n 3, 1) := by decide +kernel
theorem dX4_softest_63 : decode cX4_softest 63 = .ok (.iconst (-1), 1) := by decide +kernel
theorem dX4_softest_64 : decode cX4_softest 64 = .ok (.ixor, 1) := by decide +kernel
theorem dX4_softest_65 : decode cX4_softest 65 = .ok (.iand, 1) := by decide +kernel
theorem dX4_softest_66 : decode cX4_softest 66 = .ok (.ifCond .ne 42, 3) := by decide +kernel
theorem dX4_softest_69 : decode cX4_softest 69 = .ok (.aload_n 0, 1) := by decide +kernel
theorem dX4_softest_70 : decode cX4_softest 70 = .ok (.getfield 9, 3) := by decide +kernel
theorem dX4_softest_73 : decode cX4_softest 73 = .ok (.iload 5, 2) := by decide +kernel
theorem dX4_softest_75 : decode cX4_softest 75 = .ok (.iconst 1, 1) := by decide +kernel
theorem dX4_softest_76 : decode cX4_softest 76 = .ok (.invokestatic 69, 3) := by decide +kernel
theorem dX4_softest_79 : decode cX4_softest 79 = .ok (.aload_n 0, 1) := by decide +kernel
theorem dX4_softest_80 : decode cX4_softest 80 = .ok (.getfield 9, 3) := by decide +kernel
theorem dX4_softest_83 : decode cX4_softest 83 = .ok (.iload 4, 2) := by decide +kernel
theorem dX4_softest_85 : decode cX4_softest 85 = .ok (.iconst 1, 1) := by decide +kernel
theorem dX4_softest_86 : decode cX4_softest 86 = .ok (.invokestatic 69, 3) := by decide +kernel
theorem dX4_softest_89 : decode cX4_softest 89 = .ok (.if_icmp .le 19, 3) := by decide +kernel
theorem dX4_softest_92 : decode cX4_softest 92 = .ok (.aload_n 0, 1) := by decide +kernel
theorem dX4_softest_93 : decode cX4_softest 93 = .ok (.getfield 9, 3) := by decide +kernel
theorem dX4_softest_96 : decode cX4_softest 96 = .ok (.iload 5, 2) := by decide +kernel
theorem dX4_softest_98 : decode cX4_softest 98 = .ok (.invokestatic 85, 3) := by decide +kernel
theorem dX4_softest_101 : decode cX4_softest 101 = .ok (.ifCond .eq 7, 3) := by decide +kernel
theorem dX4_softest_104 : decode cX4_softest 104 = .ok (.iload 5, 2) := by decide +kernel
theorem dX4_softest_106 : decode cX4_softest 106 = .ok (.istore 4, 2) := by decide +kernel
theorem dX4_softest_108 : decode cX4_softest 108 = .ok (.iinc 5 1, 3) := by decide +kernel
theorem dX4_softest_111 : decode cX4_softest 111 = .ok (.goto (-57), 3) := by decide +kernel
theorem dX4_softest_114 : decode cX4_softest 114 = .ok (.iload_n 2, 1) := by decide +kernel
theorem dX4_softest_115 : decode cX4_softest 115 = .ok (.ifCond .ne 8, 3) := by decide +kernel
theorem dX4_softest_118 : decode cX4_softest 118 = .ok (.iload 4, 2) := by decide +kernel
theorem dX4_softest_120 : decode cX4_softest 120 = .ok (.goto 13, 3) := by decide +kernel
theorem dX4_softest_123 : decode cX4_softest 123 = .ok (.aload_n 0, 1) := by decide +kernel
theorem dX4_softest_124 : decode cX4_softest 124 = .ok (.getfield 9, 3) := by decide +kernel
theorem dX4_softest_127 : decode cX4_softest 127 = .ok (.iload 4, 2) := by decide +kernel
theorem dX4_softest_129 : decode cX4_softest 129 = .ok (.iconst 1, 1) := by decide +kernel
theorem dX4_softest_130 : decode cX4_softest 130 = .ok (.invokestatic 69, 3) := by decide +kernel
theorem dX4_softest_133 : decode cX4_softest 133 = .ok (.ireturn, 1) := by decide +kernel
theorem dX4_prop_0 : decode cX4_prop 0 = .ok (.iload_n 1, 1) := by decide +kernel
theorem dX4_prop_1 : decode cX4_prop 1 = .ok (.invokestatic 120, 3) := by decide +kernel
theorem dX4_prop_4 : decode cX4_prop 4 = .ok (.ifCond .ne 9, 3) := by decide +kernel
theorem dX4_prop_7 : decode cX4_prop 7 = .ok (.aload_n 0, 1) := by decide +kernel
theorem dX4_prop_8 : decode cX4_prop 8 = .ok (.iconst (-1), 1) := by decide +kernel
theorem dX4_prop_9 : decode cX4_prop 9 = .ok (.invokevirtual 36, 3) := by decide +kernel
theorem dX4_prop_12 : decode cX4_prop 12 = .ok (.ireturn, 1) := by decide +kernel
theorem dX4_prop_13 : decode cX4_prop 13 = .ok (.aload_n 0, 1) := by decide +kernel
theorem dX4_prop_14 : decode cX4_prop 14 = .ok (.getfield 9, 3) := by decide +kernel
theorem dX4_prop_17 : decode cX4_prop 17 = .ok (.iload_n 1, 1) := by decide +kernel
theorem dX4_prop_18 : decode cX4_prop 18 = .ok (.invokestatic 72, 3) := by decide +kernel
theorem dX4_prop_21 : decode cX4_prop 21 = .ok (.istore_n 2, 1) := by decide +kernel
theorem dX4_prop_22 : decode cX4_prop 22 = .ok (.iconst 0, 1) := by decide +kernel
theorem dX4_prop_23 : decode cX4_prop 23 = .ok (.istore_n 3, 1) := by decide +kernel
theorem dX4_prop_24 : decode cX4_prop 24 = .ok (.iconst 0, 1) := by decide +kernel
theorem dX4_prop_25 : decode cX4_prop 25 = .ok (.istore 4, 2) := by decide +kernel
theorem dX4_prop_27 : decode cX4_prop 27 = .ok (.iload 4, 2) := by decide +kernel
theorem dX4_prop_29 : decode cX4_prop 29 = .ok (.aload_n 0, 1) := by decide +kernel
theorem dX4_prop_30 : decode cX4_prop 30 = .ok (.getfield 9, 3) := by decide +kernel
theorem dX4_prop_33 : decode cX4_prop 33 = .ok (.iconst 0, 1) := by decide +kernel
theorem dX4_prop_34 : decode cX4_prop 34 = .ok (.iaload, 1) := by decide +kernel
theorem dX4_prop_35 : decode cX4_prop 35 = .ok (.if_icmp .ge 47, 3) := by decide +kernel
theorem dX4_prop_38 : decode cX4_prop 38 = .ok (.iload_n 3, 1) := by decide +kernel
theorem dX4_prop_39 : decode cX4_prop 39 = .ok (.iload_n 2, 1) := by decide +kernel
theorem dX4_prop_40 : decode cX4_prop 40 = .ok (.iload 4, 2) := by decide +kernel
theorem dX4_prop_42 : decode cX4_prop 42 = .ok (.invokestatic 52, 3) := by decide +kernel
theorem dX4_prop_45 : decode cX4_prop 45 = .ok (.ifCond .eq 28, 3) := by decide +kernel
theorem dX4_prop_48 : decode cX4_prop 48 = .ok (.aload_n 0, 1) := by decide +kernel
theorem dX4_prop_49 : decode cX4_prop 49 = .ok (.getfield 9, 3) := by decide +kernel
theorem dX4_prop_52 : decode cX4_prop 52 = .ok (.iload_n 2, 1) := by decide +kernel
theorem dX4_prop_53 : decode cX4_prop 53 = .ok (.iconst 1, 1) := by decide +kernel
theorem dX4_prop_54 : decode cX4_prop 54 = .ok (.iload 4, 2) := by decide +kernel
theorem dX4_prop_56 : decode cX4_prop 56 = .ok (.ishl, 1) := by decide +kernel
theorem dX4_prop_57 : decode cX4_prop 57 = .ok (.iconst (-1), 1) := by decide +kernel
theorem dX4_prop_58 : decode cX4_prop 58 = .ok (.ixor, 1) := by decide +kernel
theorem dX4_prop_59 : decode cX4_prop 59 = .ok (.iand, 1) := by decide +kernel
theorem dX4_prop_60 : decode cX4_prop 60 = .ok (.invokestatic 85, 3) := by decide +kernel
theorem dX4_prop_63 : decode cX4_prop 63 = .ok (.ifCond .ne 10, 3) := by decide +kernel
theorem dX4_prop_66 : decode cX4_prop 66 = .ok (.iconst 1, 1) := by decide +kernel
theorem dX4_prop_67 : decode cX4_prop 67 = .ok (.iload 4, 2) := by decide +kernel
theorem dX4_prop_69 : decode cX4_prop 69 = .ok (.ishl, 1) := by decide +kernel
theorem dX4_prop_70 : decode cX4_prop 70 = .ok (.goto 4, 3) := by decide +kernel
theorem dX4_prop_73 : decode cX4_prop 73 = .ok (.iconst 0, 1) := by decide +kernel
theorem dX4_prop_74 : decode cX4_prop 74 = .ok (.ior, 1) := by decide +kernel
theorem dX4_prop_75 : decode cX4_prop 75 = .ok (.istore_n 3, 1) := by decide +kernel
theorem dX4_prop_76 : decode cX4_prop 76 = .ok (.iinc 4 1, 3) := by decide +kernel
theorem dX4_prop_79 : decode cX4_prop 79 = .ok (.goto (-52), 3) := by decide +kernel
theorem dX4_prop_82 : decode cX4_prop 82 = .ok (.iload_n 3, 1) := by decide +kernel
theorem dX4_prop_83 : decode cX4_prop 83 = .ok (.ireturn, 1) := by decide +kernel
theorem dX4_lighten_0 : decode cX4_lighten 0 = .ok (.iload_n 1, 1) := by decide +kernel
theorem dX4_lighten_1 : decode cX4_lighten 1 = .ok (.invokestatic 120, 3) := by decide +kernel
theorem dX4_lighten_4 : decode cX4_lighten 4 = .ok (.ifCond .ne 9, 3) := by decide +kernel
theorem dX4_lighten_7 : decode cX4_lighten 7 = .ok (.aload_n 0, 1) := by decide +kernel
theorem dX4_lighten_8 : decode cX4_lighten 8 = .ok (.iconst (-1), 1) := by decide +kernel
theorem dX4_lighten_9 : decode cX4_lighten 9 = .ok (.invokevirtual 36, 3) := by decide +kernel
theorem dX4_lighten_12 : decode cX4_lighten 12 = .ok (.ireturn, 1) := by decide +kernel
theorem dX4_lighten_13 : decode cX4_lighten 13 = .ok (.aload_n 0, 1) := by decide +kernel
theorem dX4_lighten_14 : decode cX4_lighten 14 = .ok (.getfield 9, 3) := by decide +kernel
theorem dX4_lighten_17 : decode cX4_lighten 17 = .ok (.iload_n 1, 1) := by decide +kernel
theorem dX4_lighten_18 : decode cX4_lighten 18 = .ok (.invokestatic 72, 3) := by decide +kernel
theorem dX4_lighten_21 : decode cX4_lighten 21 = .ok (.istore_n 2, 1) := by decide +kernel
theorem dX4_lighten_22 : decode cX4_lighten 22 = .ok (.iload_n 2, 1) := by decide +kernel
theorem dX4_lighten_23 : decode cX4_lighten 23 = .ok (.istore_n 3, 1) := by decide +kernel
theorem dX4_lighten_24 : decode cX4_lighten 24 = .ok (.iconst 0, 1) := by decide +kernel
theorem dX4_lighten_25 : decode cX4_lighten 25 = .ok (.istore 4, 2) := by decide +kernel
theorem dX4_lighten_27 : decode cX4_lighten 27 = .ok (.iload 4, 2) := by decide +kernel
theorem dX4_lighten_29 : decode cX4_lighten 29 = .ok (.iload_n 2, 1) := by decide +kernel
theorem dX4_lighten_30 : decode cX4_lighten 30 = .ok (.if_icmp .gt 49, 3) := by decide +kernel
theorem dX4_lighten_33 : decode cX4_lighten 33 = .ok (.iload 4, 2) := by decide +kernel
theorem dX4_lighten_35 : decode cX4_lighten 35 = .ok (.iload_n 2, 1) := by decide +kernel
theorem dX4_lighten_36 : decode cX4_lighten 36 = .ok (.iconst (-1), 1) := by decide +kernel
theorem dX4_lighten_37 : decode cX4_lighten 37 = .ok (.ixor, 1) := by decide +kernel
theorem dX4_lighten_38 : decode cX4_lighten 38 = .ok (.iand, 1) := by decide +kernel
theorem dX4_lighten_39 : decode cX4_lighten 39 = .ok (.ifCond .ne 34, 3) := by decide +kernel
theorem dX4_lighten_42 : decode cX4_lighten 42 = .ok (.iload 4, 2) := by decide +kernel
theorem dX4_lighten_44 : decode cX4_lighten 44 = .ok (.invokestatic 96, 3) := by decide +kernel
theorem dX4_lighten_47 : decode cX4_lighten 47 = .ok (.iload_n 3, 1) := by decide +kernel
theorem dX4_lighten_48 : decode cX4_lighten 48 = .ok (.invokestatic 96, 3) := by decide +kernel
theorem dX4_lighten_51 : decode cX4_lighten 51 = .ok (.if_icmp .ge 22, 3) := by decide +kernel
theorem dX4_lighten_54 : decode cX4_lighten 54 = .ok (.aload_n 0, 1) := by decide +kernel
theorem dX4_lighten_55 : decode cX4_lighten 55 = .ok (.getfield 9, 3) := by decide +kernel
theorem dX4_lighten_58 : decode cX4_lighten 58 = .ok (.iload_n 2, 1) := by decide +kernel
theorem dX4_lighten_59 : decode cX4_lighten 59 = .ok (.iload 4, 2) := by decide +kernel
theorem dX4_lighten_61 : decode cX4_lighten 61 = .ok (.iconst (-1), 1) := by decide +kernel
theorem dX4_lighten_62 : decode cX4_lighten 62 = .ok (.ixor, 1) := by decide +kernel
theorem dX4_lighten_63 : decode cX4_lighten 63 = .ok (.iand, 1) := by decide +kernel
theorem dX4_lighten_64 : decode cX4_lighten 64 = .ok (.invokestatic 85, 3) := by decide +kernel
theorem dX4_lighten_67 : decode cX4_lighten 67 = .ok (.ifCond .eq 6, 3) := by decide +kernel
theorem dX4_lighten_70 : decode cX4_lighten 70 = .ok (.iload 4, 2) := by decide +kernel
theorem dX4_lighten_72 : decode cX4_lighten 72 = .ok (.istore_n 3, 1) := by decide +kernel
theorem dX4_lighten_73 : decode cX4_lighten 73 = .ok (.iinc 4 1, 3) := by decide +kernel
theorem dX4_lighten_76 : decode cX4_lighten 76 = .ok (.goto (-49), 3) := by decide +kernel
theorem dX4_lighten_79 : decode cX4_lighten 79 = .ok (.iload_n 3, 1) := by decide +kernel
theorem dX4_lighten_80 : decode cX4_lighten 80 = .ok (.ireturn, 1) := by decide +kernel
theorem dX4_about_0 : decode cX4_about 0 = .ok (.aload_n 0, 1) := by decide +kernel
theorem dX4_about_1 : decode cX4_about 1 = .ok (.iload_n 1, 1) := by decide +kernel
theorem dX4_about_2 : decode cX4_about 2 = .ok (.invokevirtual 128, 3) := by decide +kernel
theorem dX4_about_5 : decode cX4_about 5 = .ok (.ifCond .ne 9, 3) := by decide +kernel
theorem dX4_about_8 : decode cX4_about 8 = .ok (.aload_n 0, 1) := by decide +kernel
theorem dX4_about_9 : decode cX4_about 9 = .ok (.iconst (-1), 1) := by decide +kernel
theorem dX4_about_10 : decode cX4_about 10 = .ok (.invokevirtual 36, 3) := by decide +kernel
theorem dX4_about_13 : decode cX4_about 13 = .ok (.ireturn, 1) := by decide +kernel
theorem dX4_about_14 : decode cX4_about 14 = .ok (.iload_n 2, 1) := by decide +kernel
theorem dX4_about_15 : decode cX4_about 15 = .ok (.iconst 0, 1) := by decide +kernel
theorem dX4_about_16 : decode cX4_about 16 = .ok (.iconst 1, 1) := by decide +kernel
theorem dX4_about_17 : decode cX4_about 17 = .ok (.invokestatic 40, 3) := by decide +kernel
theorem dX4_about_20 : decode cX4_about 20 = .ok (.ifCond .ne 10, 3) := by decide +kernel
theorem dX4_about_23 : decode cX4_about 23 = .ok (.aload_n 0, 1) := by decide +kernel
theorem dX4_about_24 : decode cX4_about 24 = .ok (.bipush (-2), 2) := by decide +kernel
theorem dX4_about_26 : decode cX4_about 26 = .ok (.invokevirtual 36, 3) := by decide +kernel
theorem dX4_about_29 : decode cX4_about 29 = .ok (.ireturn, 1) := by decide +kernel
theorem dX4_about_30 : decode cX4_about 30 = .ok (.bipush (-9), 2) := by decide +kernel
theorem dX4_about_32 : decode cX4_about 32 = .ok (.istore_n 3, 1) := by decide +kernel
theorem dX4_about_33 : decode cX4_about 33 = .ok (.iconst (-1), 1) := by decide +kernel
theorem dX4_about_34 : decode cX4_about 34 = .ok (.istore 4, 2) := by decide +kernel
theorem dX4_about_36 : decode cX4_about 36 = .ok (.iconst 0, 1) := by decide +kernel
theorem dX4_about_37 : decode cX4_about 37 = .ok (.istore 5, 2) := by decide +kernel
theorem dX4_about_39 : decode cX4_about 39 = .ok (.iload 5, 2) := by decide +kernel
theorem dX4_about_41 : decode cX4_about 41 = .ok (.iconst 4, 1) := by decide +kernel
theorem dX4_about_42 : decode cX4_about 42 = .ok (.if_icmp .ge 69, 3) := by decide +kernel
theorem dX4_about_45 : decode cX4_about 45 = .ok (.aload_n 0, 1) := by decide +kernel
theorem dX4_about_46 : decode cX4_about 46 = .ok (.getfield 9, 3) := by decide +kernel
theorem dX4_about_49 : decode cX4_about 49 = .ok (.iload 5, 2) := by decide +kernel
theorem dX4_about_51 : decode cX4_about 51 = .ok (.invokestatic 72, 3) := by decide +kernel
theorem dX4_about_54 : decode cX4_about 54 = .ok (.iconst 1, 1) := by decide +kernel
theorem dX4_about_55 : decode cX4_about 55 = .ok (.iload_n 1, 1) := by decide +kernel
theorem dX4_about_56 : decode cX4_about 56 = .ok (.ishl, 1) := by decide +kernel
theorem dX4_about_57 : decode cX4_about 57 = .ok (.ior, 1) := by decide +kernel
theorem dX4_about_58 : decode cX4_about 58 = .ok (.istore 6, 2) := by decide +kernel
theorem dX4_about_60 : decode cX4_about 60 = .ok (.aload_n 0, 1) := by decide +kernel
theorem dX4_about_61 : decode cX4_about 61 = .ok (.getfield 9, 3) := by decide +kernel
theorem dX4_about_64 : decode cX4_about 64 = .ok (.iload 6, 2) := by decide +kernel
theorem dX4_about_66 : decode cX4_about 66 = .ok (.invokestatic 85, 3) := by decide +kernel
theorem dX4_about_69 : decode cX4_about 69 = .ok (.ifCond .eq 36, 3) := by decide +kernel
theorem dX4_about_72 : decode cX4_about 72 = .ok (.aload_n 0, 1) := by decide +kernel
theorem dX4_about_73 : decode cX4_about 73 = .ok (.getfield 9, 3) := by decide +kernel
theorem dX4_about_76 : decode cX4_about 76 = .ok (.iload 6, 2) := by decide +kernel
theorem dX4_about_78 : decode cX4_about 78 = .ok (.iconst 1, 1) := by decide +kernel
theorem dX4_about_79 : decode cX4_about 79 = .ok (.invokestatic 69, 3) := by decide +kernel
theorem dX4_about_82 : decode cX4_about 82 = .ok (.iload 4, 2) := by decide +kernel
theorem dX4_about_84 : decode cX4_about 84 = .ok (.if_icmp .gt 6, 3) := by decide +kernel
theorem dX4_about_87 : decode cX4_about 87 = .ok (.goto 18, 3) := by decide +kernel
theorem dX4_about_90 : decode cX4_about 90 = .ok (.iload 5, 2) := by decide +kernel
theorem dX4_about_92 : decode cX4_about 92 = .ok (.istore_n 3, 1) := by decide +kernel
theorem dX4_about_93 : decode cX4_about 93 = .ok (.aload_n 0, 1) := by decide +kernel
theorem dX4_about_94 : decode cX4_about 94 = .ok (.getfield 9, 3) := by decide +kernel
theorem dX4_about_97 : decode cX4_about 97 = .ok (.iload 6, 2) := by decide +kernel
theorem dX4_about_99 : decode cX4_about 99 = .ok (.iconst 1, 1) := by decide +kernel
theorem dX4_about_100 : decode cX4_about 100 = .ok (.invokestatic 69, 3) := by decide +kernel
theorem dX4_about_103 : decode cX4_about 103 = .ok (.istore 4, 2) := by decide +kernel
theorem dX4_about_105 : decode cX4_about 105 = .ok (.iinc 5 1, 3) := by decide +kernel
theorem dX4_about_108 : decode cX4_about 108 = .ok (.goto (-69), 3) := by decide +kernel
theorem dX4_about_111 : decode cX4_about 111 = .ok (.iload_n 2, 1) := by decide +kernel
theorem dX4_about_112 : decode cX4_about 112 = .ok (.ifCond .ne 7, 3) := by decide +kernel
theorem dX4_about_115 : decode cX4_about 115 = .ok (.iload_n 3, 1) := by decide +kernel
theorem dX4_about_116 : decode cX4_about 116 = .ok (.goto 14, 3) := by decide +kernel
theorem dX4_about_119 : decode cX4_about 119 = .ok (.iload 4, 2) := by decide +kernel
theorem dX4_about_121 : decode cX4_about 121 = .ok (.ifCond .ge 7, 3) := by decide +kernel
theorem dX4_about_124 : decode cX4_about 124 = .ok (.iconst 0, 1) := by decide +kernel
theorem dX4_about_125 : decode cX4_about 125 = .ok (.goto 5, 3) := by decide +kernel
theorem dX4_about_128 : decode cX4_about 128 = .ok (.iload 4, 2) := by decide +kernel
theorem dX4_about_130 : decode cX4_about 130 = .ok (.ireturn, 1) := by decide +kernel
theorem dX4_known_0 : decode cX4_known 0 = .ok (.iconst 0, 1) := by decide +kernel
theorem dX4_known_1 : decode cX4_known 1 = .ok (.istore_n 1, 1) := by decide +kernel
theorem dX4_known_2 : decode cX4_known 2 = .ok (.iconst 0, 1) := by decide +kernel
theorem dX4_known_3 : decode cX4_known 3 = .ok (.istore_n 2, 1) := by decide +kernel
theorem dX4_known_4 : decode cX4_known 4 = .ok (.iconst 0, 1) := by decide +kernel
theorem dX4_known_5 : decode cX4_known 5 = .ok (.istore_n 3, 1) := by decide +kernel
theorem dX4_known_6 : decode cX4_known 6 = .ok (.iload_n 3, 1) := by decide +kernel
theorem dX4_known_7 : decode cX4_known 7 = .ok (.iconst 4, 1) := by decide +kernel
theorem dX4_known_8 : decode cX4_known 8 = .ok (.if_icmp .ge 46, 3) := by decide +kernel
theorem dX4_known_11 : decode cX4_known 11 = .ok (.aload_n 0, 1) := by decide +kernel
theorem dX4_known_12 : decode cX4_known 12 = .ok (.getfield 9, 3) := by decide +kernel
theorem dX4_known_15 : decode cX4_known 15 = .ok (.iload_n 3, 1) := by decide +kernel
theorem dX4_known_16 : decode cX4_known 16 = .ok (.invokestatic 72, 3) := by decide +kernel
theorem dX4_known_19 : decode cX4_known 19 = .ok (.aload_n 0, 1) := by decide +kernel
theorem dX4_known_20 : decode cX4_known 20 = .ok (.getfield 9, 3) := by decide +kernel
theorem dX4_known_23 : decode cX4_known 23 = .ok (.iload_n 3, 1) := by decide +kernel
theorem dX4_known_24 : decode cX4_known 24 = .ok (.iconst 0, 1) := by decide +kernel
theorem dX4_known_25 : decode cX4_known 25 = .ok (.invokestatic 65, 3) := by decide +kernel
theorem dX4_known_28 : decode cX4_known 28 = .ok (.ior, 1) := by decide +kernel
theorem dX4_known_29 : decode cX4_known 29 = .ok (.invokestatic 96, 3) := by decide +kernel
theorem dX4_known_32 : decode cX4_known 32 = .ok (.istore 4, 2) := by decide +kernel
theorem dX4_known_34 : decode cX4_known 34 = .ok (.iload 4, 2) := by decide +kernel
theorem dX4_known_36 : decode cX4_known 36 = .ok (.iload_n 2, 1) := by decide +kernel
theorem dX4_known_37 : decode cX4_known 37 = .ok (.if_icmp .gt 6, 3) := by decide +kernel
theorem dX4_known_40 : decode cX4_known 40 = .ok (.goto 8, 3) := by decide +kernel
theorem dX4_known_43 : decode cX4_known 43 = .ok (.iload_n 3, 1) := by decide +kernel
theorem dX4_known_44 : decode cX4_known 44 = .ok (.istore_n 1, 1) := by decide +kernel
theorem dX4_known_45 : decode cX4_known 45 = .ok (.iload 4, 2) := by decide +kernel
theorem dX4_known_47 : decode cX4_known 47 = .ok (.istore_n 2, 1) := by decide +kernel
theorem dX4_known_48 : decode cX4_known 48 = .ok (.iinc 3 1, 3) := by decide +kernel
theorem dX4_known_51 : decode cX4_known 51 = .ok (.goto (-45), 3) := by decide +kernel
theorem dX4_known_54 : decode cX4_known 54 = .ok (.iload_n 1, 1) := by decide +kernel
theorem dX4_known_55 : decode cX4_known 55 = .ok (.ireturn, 1) := by decide +kernel
theorem dX4_lodge_0 : decode cX4_lodge 0 = .ok (.bipush (-9), 2) := by decide +kernel
theorem dX4_lodge_2 : decode cX4_lodge 2 = .ok (.istore_n 1, 1) := by decide +kernel
theorem dX4_lodge_3 : decode cX4_lodge 3 = .ok (.iconst (-1), 1) := by decide +kernel
theorem dX4_lodge_4 : decode cX4_lodge 4 = .ok (.istore_n 2, 1) := by decide +kernel
theorem dX4_lodge_5 : decode cX4_lodge 5 = .ok (.iconst 0, 1) := by decide +kernel
theorem dX4_lodge_6 : decode cX4_lodge 6 = .ok (.istore_n 3, 1) := by decide +kernel
theorem dX4_lodge_7 : decode cX4_lodge 7 = .ok (.iload_n 3, 1) := by decide +kernel
theorem dX4_lodge_8 : decode cX4_lodge 8 = .ok (.iconst 4, 1) := by decide +kernel
theorem dX4_lodge_9 : decode cX4_lodge 9 = .ok (.if_icmp .ge 66, 3) := by decide +kernel
theorem dX4_lodge_12 : decode cX4_lodge 12 = .ok (.aload_n 0, 1) := by decide +kernel
theorem dX4_lodge_13 : decode cX4_lodge 13 = .ok (.getfield 9, 3) := by decide +kernel
theorem dX4_lodge_16 : decode cX4_lodge 16 = .ok (.iload_n 3, 1) := by decide +kernel
theorem dX4_lodge_17 : decode cX4_lodge 17 = .ok (.invokestatic 72, 3) := by decide +kernel
theorem dX4_lodge_20 : decode cX4_lodge 20 = .ok (.istore 4, 2) := by decide +kernel
theorem dX4_lodge_22 : decode cX4_lodge 22 = .ok (.iload 4, 2) := by decide +kernel
theorem dX4_lodge_24 : decode cX4_lodge 24 = .ok (.ifCond .eq 45, 3) := by decide +kernel
theorem dX4_lodge_27 : decode cX4_lodge 27 = .ok (.aload_n 0, 1) := by decide +kernel
theorem dX4_lodge_28 : decode cX4_lodge 28 = .ok (.getfield 9, 3) := by decide +kernel
theorem dX4_lodge_31 : decode cX4_lodge 31 = .ok (.iload 4, 2) := by decide +kernel
theorem dX4_lodge_33 : decode cX4_lodge 33 = .ok (.invokestatic 85, 3) := by decide +kernel
theorem dX4_lodge_36 : decode cX4_lodge 36 = .ok (.ifCond .eq 33, 3) := by decide +kernel
theorem dX4_lodge_39 : decode cX4_lodge 39 = .ok (.aload_n 0, 1) := by decide +kernel
theorem dX4_lodge_40 : decode cX4_lodge 40 = .ok (.getfield 9, 3) := by decide +kernel
theorem dX4_lodge_43 : decode cX4_lodge 43 = .ok (.iload 4, 2) := by decide +kernel
theorem dX4_lodge_45 : decode cX4_lodge 45 = .ok (.iconst 1, 1) := by decide +kernel
theorem dX4_lodge_46 : decode cX4_lodge 46 = .ok (.invokestatic 69, 3) := by decide +kernel
theorem dX4_lodge_49 : decode cX4_lodge 49 = .ok (.iload_n 2, 1) := by decide +kernel
theorem dX4_lodge_50 : decode cX4_lodge 50 = .ok (.if_icmp .gt 6, 3) := by decide +kernel
theorem dX4_lodge_53 : decode cX4_lodge 53 = .ok (.goto 16, 3) := by decide +kernel
theorem dX4_lodge_56 : decode cX4_lodge 56 = .ok (.iload_n 3, 1) := by decide +kernel
theorem dX4_lodge_57 : decode cX4_lodge 57 = .ok (.istore_n 1, 1) := by decide +kernel
theorem dX4_lodge_58 : decode cX4_lodge 58 = .ok (.aload_n 0, 1) := by decide +kernel
theorem dX4_lodge_59 : decode cX4_lodge 59 = .ok (.getfield 9, 3) := by decide +kernel
theorem dX4_lodge_62 : decode cX4_lodge 62 = .ok (.iload 4, 2) := by decide +kernel
theorem dX4_lodge_64 : decode cX4_lodge 64 = .ok (.iconst 1, 1) := by decide +kernel
theorem dX4_lodge_65 : decode cX4_lodge 65 = .ok (.invokestatic 69, 3) := by decide +kernel
theorem dX4_lodge_68 : decode cX4_lodge 68 = .ok (.istore_n 2, 1) := by decide +kernel
theorem dX4_lodge_69 : decode cX4_lodge 69 = .ok (.iinc 3 1, 3) := by decide +kernel
theorem dX4_lodge_72 : decode cX4_lodge 72 = .ok (.goto (-65), 3) := by decide +kernel
theorem dX4_lodge_75 : decode cX4_lodge 75 = .ok (.iload_n 1, 1) := by decide +kernel
theorem dX4_lodge_76 : decode cX4_lodge 76 = .ok (.ireturn, 1) := by decide +kernel
theorem dX4_fullest_0 : decode cX4_fullest 0 = .ok (.bipush (-9), 2) := by decide +kernel
theorem dX4_fullest_2 : decode cX4_fullest 2 = .ok (.istore_n 1, 1) := by decide +kernel
theorem dX4_fullest_3 : decode cX4_fullest 3 = .ok (.iconst 0, 1) := by decide +kernel
theorem dX4_fullest_4 : decode cX4_fullest 4 = .ok (.istore_n 2, 1) := by decide +kernel
theorem dX4_fullest_5 : decode cX4_fullest 5 = .ok (.iconst 0, 1) := by decide +kernel
theorem dX4_fullest_6 : decode cX4_fullest 6 = .ok (.istore_n 3, 1) := by decide +kernel
theorem dX4_fullest_7 : decode cX4_fullest 7 = .ok (.iload_n 3, 1) := by decide +kernel
theorem dX4_fullest_8 : decode cX4_fullest 8 = .ok (.iconst 4, 1) := by decide +kernel
theorem dX4_fullest_9 : decode cX4_fullest 9 = .ok (.if_icmp .ge 41, 3) := by decide +kernel
theorem dX4_fullest_12 : decode cX4_fullest 12 = .ok (.aload_n 0, 1) := by decide +kernel
theorem dX4_fullest_13 : decode cX4_fullest 13 = .ok (.getfield 9, 3) := by decide +kernel
theorem dX4_fullest_16 : decode cX4_fullest 16 = .ok (.iload_n 3, 1) := by decide +kernel
theorem dX4_fullest_17 : decode cX4_fullest 17 = .ok (.invokestatic 72, 3) := by decide +kernel
theorem dX4_fullest_20 : decode cX4_fullest 20 = .ok (.invokestatic 96, 3) := by decide +kernel
theorem dX4_fullest_23 : decode cX4_fullest 23 = .ok (.iload_n 2, 1) := by decide +kernel
theorem dX4_fullest_24 : decode cX4_fullest 24 = .ok (.if_icmp .gt 6, 3) := by decide +kernel
theorem dX4_fullest_27 : decode cX4_fullest 27 = .ok (.goto 17, 3) := by decide +kernel
theorem dX4_fullest_30 : decode cX4_fullest 30 = .ok (.iload_n 3, 1) := by decide +kernel
theorem dX4_fullest_31 : decode cX4_fullest 31 = .ok (.istore_n 1, 1) := by decide +kernel
theorem dX4_fullest_32 : decode cX4_fullest 32 = .ok (.aload_n 0, 1) := by decide +kernel
theorem dX4_fullest_33 : decode cX4_fullest 33 = .ok (.getfield 9, 3) := by decide +kernel
theorem dX4_fullest_36 : decode cX4_fullest 36 = .ok (.iload_n 3, 1) := by decide +kernel
theorem dX4_fullest_37 : decode cX4_fullest 37 = .ok (.invokestatic 72, 3) := by decide +kernel
theorem dX4_fullest_40 : decode cX4_fullest 40 = .ok (.invokestatic 96, 3) := by decide +kernel
theorem dX4_fullest_43 : decode cX4_fullest 43 = .ok (.istore_n 2, 1) := by decide +kernel
theorem dX4_fullest_44 : decode cX4_fullest 44 = .ok (.iinc 3 1, 3) := by decide +kernel
theorem dX4_fullest_47 : decode cX4_fullest 47 = .ok (.goto (-40), 3) := by decide +kernel
theorem dX4_fullest_50 : decode cX4_fullest 50 = .ok (.iload_n 1, 1) := by decide +kernel
theorem dX4_fullest_51 : decode cX4_fullest 51 = .ok (.ireturn, 1) := by decide +kernel
theorem dX4_talk_0 : decode cX4_talk 0 = .ok (.iconst 1, 1) := by decide +kernel
theorem dX4_talk_1 : decode cX4_talk 1 = .ok (.aload_n 0, 1) := by decide +kernel
theorem dX4_talk_2 : decode cX4_talk 2 = .ok (.getfield 9, 3) := by decide +kernel
theorem dX4_talk_5 : decode cX4_talk 5 = .ok (.iconst 0, 1) := by decide +kernel
theorem dX4_talk_6 : decode cX4_talk 6 = .ok (.iaload, 1) := by decide +kernel
theorem dX4_talk_7 : decode cX4_talk 7 = .ok (.ishl, 1) := by decide +kernel
theorem dX4_talk_8 : decode cX4_talk 8 = .ok (.iconst 1, 1) := by decide +kernel
theorem dX4_talk_9 : decode cX4_talk 9 = .ok (.isub, 1) := by decide +kernel
theorem dX4_talk_10 : decode cX4_talk 10 = .ok (.aload_n 0, 1) := by decide +kernel
theorem dX4_talk_11 : decode cX4_talk 11 = .ok (.getfield 9, 3) := by decide +kernel
theorem dX4_talk_14 : decode cX4_talk 14 = .ok (.invokestatic 157, 3) := by decide +kernel
theorem dX4_talk_17 : decode cX4_talk 17 = .ok (.iconst (-1), 1) := by decide +kernel
theorem dX4_talk_18 : decode cX4_talk 18 = .ok (.ixor, 1) := by decide +kernel
theorem dX4_talk_19 : decode cX4_talk 19 = .ok (.iand, 1) := by decide +kernel
theorem dX4_talk_20 : decode cX4_talk 20 = .ok (.ireturn, 1) := by decide +kernel
theorem dX4_keep_0 : decode cX4_keep 0 = .ok (.iload_n 1, 1) := by decide +kernel
theorem dX4_keep_1 : decode cX4_keep 1 = .ok (.iconst 1, 1) := by decide +kernel
theorem dX4_keep_2 : decode cX4_keep 2 = .ok (.bipush 60, 2) := by decide +kernel
theorem dX4_keep_4 : decode cX4_keep 4 = .ok (.invokestatic 147, 3) := by decide +kernel
theorem dX4_keep_7 : decode cX4_keep 7 = .ok (.istore_n 2, 1) := by decide +kernel
theorem dX4_keep_8 : decode cX4_keep 8 = .ok (.iload_n 2, 1) := by decide +kernel
theorem dX4_keep_9 : decode cX4_keep 9 = .ok (.ifCond .eq 9, 3) := by decide +kernel
theorem dX4_keep_12 : decode cX4_keep 12 = .ok (.aload_n 0, 1) := by decide +kernel
theorem dX4_keep_13 : decode cX4_keep 13 = .ok (.iload_n 2, 1) := by decide +kernel
theorem dX4_keep_14 : decode cX4_keep 14 = .ok (.invokevirtual 36, 3) := by decide +kernel
theorem dX4_keep_17 : decode cX4_keep 17 = .ok (.ireturn, 1) := by decide +kernel
theorem dX4_keep_18 : decode cX4_keep 18 = .ok (.aload_n 0, 1) := by decide +kernel
theorem dX4_keep_19 : decode cX4_keep 19 = .ok (.iload_n 1, 1) := by decide +kernel
theorem dX4_keep_20 : decode cX4_keep 20 = .ok (.invokevirtual 151, 3) := by decide +kernel
theorem dX4_keep_23 : decode cX4_keep 23 = .ok (.istore_n 3, 1) := by decide +kernel
theorem dX4_keep_24 : decode cX4_keep 24 = .ok (.bipush (-9), 2) := by decide +kernel
theorem dX4_keep_26 : decode cX4_keep 26 = .ok (.istore 4, 2) := by decide +kernel
theorem dX4_keep_28 : decode cX4_keep 28 = .ok (.iconst 0, 1) := by decide +kernel
theorem dX4_keep_29 : decode cX4_keep 29 = .ok (.istore 5, 2) := by decide +kernel
theorem dX4_keep_31 : decode cX4_keep 31 = .ok (.iload 5, 2) := by decide +kernel
theorem dX4_keep_33 : decode cX4_keep 33 = .ok (.aload_n 0, 1) := by decide +kernel
theorem dX4_keep_34 : decode cX4_keep 34 = .ok (.getfield 9, 3) := by decide +kernel
theorem dX4_keep_37 : decode cX4_keep 37 = .ok (.iconst 0, 1) := by decide +kernel
theorem dX4_keep_38 : decode cX4_keep 38 = .ok (.iaload, 1) := by decide +kernel
theorem dX4_keep_39 : decode cX4_keep 39 = .ok (.if_icmp .ge 54, 3) := by decide +kernel
theorem dX4_keep_42 : decode cX4_keep 42 = .ok (.aload_n 0, 1) := by decide +kernel
theorem dX4_keep_43 : decode cX4_keep 43 = .ok (.getfield 9, 3) := by decide +kernel
theorem dX4_keep_46 : decode cX4_keep 46 = .ok (.aload_n 0, 1) := by decide +kernel
theorem dX4_keep_47 : decode cX4_keep 47 = .ok (.getfield 13, 3) := by decide +kernel
theorem dX4_keep_50 : decode cX4_keep 50 = .ok (.invokestatic 137, 3) := by decide +kernel
theorem dX4_keep_53 : decode cX4_keep 53 = .ok (.aload_n 0, 1) := by decide +kernel
theorem dX4_keep_54 : decode cX4_keep 54 = .ok (.getfield 13, 3) := by decide +kernel
theorem dX4_keep_57 : decode cX4_keep 57 = .ok (.iconst 3, 1) := by decide +kernel
theorem dX4_keep_58 : decode cX4_keep 58 = .ok (.iload 5, 2) := by decide +kernel
theorem dX4_keep_60 : decode cX4_keep 60 = .ok (.iastore, 1) := by decide +kernel
theorem dX4_keep_61 : decode cX4_keep 61 = .ok (.aload_n 0, 1) := by decide +kernel
theorem dX4_keep_62 : decode cX4_keep 62 = .ok (.getfield 13, 3) := by decide +kernel
theorem dX4_keep_65 : decode cX4_keep 65 = .ok (.iload_n 1, 1) := by decide +kernel
theorem dX4_keep_66 : decode cX4_keep 66 = .ok (.invokestatic 131, 3) := by decide +kernel
theorem dX4_keep_69 : decode cX4_keep 69 = .ok (.istore 6, 2) := by decide +kernel
theorem dX4_keep_71 : decode cX4_keep 71 = .ok (.iload 6, 2) := by decide +kernel
theorem dX4_keep_73 : decode cX4_keep 73 = .ok (.iload_n 3, 1) := by decide +kernel
theorem dX4_keep_74 : decode cX4_keep 74 = .ok (.if_icmp .lt 6, 3) := by decide +kernel
theorem dX4_keep_77 : decode cX4_keep 77 = .ok (.goto 10, 3) := by decide +kernel
theorem dX4_keep_80 : decode cX4_keep 80 = .ok (.iload 5, 2) := by decide +kernel
theorem dX4_keep_82 : decode cX4_keep 82 = .ok (.istore 4, 2) := by decide +kernel
theorem dX4_keep_84 : decode cX4_keep 84 = .ok (.iload 6, 2) := by decide +kernel
theorem dX4_keep_86 : decode cX4_keep 86 = .ok (.istore_n 3, 1) := by decide +kernel
theorem dX4_keep_87 : decode cX4_keep 87 = .ok (.iinc 5 1, 3) := by decide +kernel
theorem dX4_keep_90 : decode cX4_keep 90 = .ok (.goto (-59), 3) := by decide +kernel
theorem dX4_keep_93 : decode cX4_keep 93 = .ok (.iload 4, 2) := by decide +kernel
theorem dX4_keep_95 : decode cX4_keep 95 = .ok (.ireturn, 1) := by decide +kernel
theorem dX4_hush_0 : decode cX4_hush 0 = .ok (.iload_n 1, 1) := by decide +kernel
theorem dX4_hush_1 : decode cX4_hush 1 = .ok (.iconst 1, 1) := by decide +kernel
theorem dX4_hush_2 : decode cX4_hush 2 = .ok (.bipush 60, 2) := by decide +kernel
theorem dX4_hush_4 : decode cX4_hush 4 = .ok (.invokestatic 147, 3) := by decide +kernel
theorem dX4_hush_7 : decode cX4_hush 7 = .ok (.istore_n 2, 1) := by decide +kernel
theorem dX4_hush_8 : decode cX4_hush 8 = .ok (.iload_n 2, 1) := by decide +kernel
theorem dX4_hush_9 : decode cX4_hush 9 = .ok (.ifCond .eq 9, 3) := by decide +kernel
theorem dX4_hush_12 : decode cX4_hush 12 = .ok (.aload_n 0, 1) := by decide +kernel
theorem dX4_hush_13 : decode cX4_hush 13 = .ok (.iload_n 2, 1) := by decide +kernel
theorem dX4_hush_14 : decode cX4_hush 14 = .ok (.invokevirtual 36, 3) := by decide +kernel
theorem dX4_hush_17 : decode cX4_hush 17 = .ok (.ireturn, 1) := by decide +kernel
theorem dX4_hush_18 : decode cX4_hush 18 = .ok (.aload_n 0, 1) := by decide +kernel
theorem dX4_hush_19 : decode cX4_hush 19 = .ok (.iload_n 1, 1) := by decide +kernel
theorem dX4_hush_20 : decode cX4_hush 20 = .ok (.invokevirtual 151, 3) := by decide +kernel
theorem dX4_hush_23 : decode cX4_hush 23 = .ok (.istore_n 3, 1) := by decide +kernel
theorem dX4_hush_24 : decode cX4_hush 24 = .ok (.bipush (-9), 2) := by decide +kernel
theorem dX4_hush_26 : decode cX4_hush 26 = .ok (.istore 4, 2) := by decide +kernel
theorem dX4_hush_28 : decode cX4_hush 28 = .ok (.iconst 0, 1) := by decide +kernel
theorem dX4_hush_29 : decode cX4_hush 29 = .ok (.istore 5, 2) := by decide +kernel
theorem dX4_hush_31 : decode cX4_hush 31 = .ok (.iload 5, 2) := by decide +kernel
theorem dX4_hush_33 : decode cX4_hush 33 = .ok (.aload_n 0, 1) := by decide +kernel
theorem dX4_hush_34 : decode cX4_hush 34 = .ok (.getfield 9, 3) := by decide +kernel
theorem dX4_hush_37 : decode cX4_hush 37 = .ok (.iconst 0, 1) := by decide +kernel
theorem dX4_hush_38 : decode cX4_hush 38 = .ok (.iaload, 1) := by decide +kernel
theorem dX4_hush_39 : decode cX4_hush 39 = .ok (.if_icmp .ge 71, 3) := by decide +kernel
theorem dX4_hush_42 : decode cX4_hush 42 = .ok (.aload_n 0, 1) := by decide +kernel
theorem dX4_hush_43 : decode cX4_hush 43 = .ok (.getfield 9, 3) := by decide +kernel
theorem dX4_hush_46 : decode cX4_hush 46 = .ok (.aload_n 0, 1) := by decide +kernel
theorem dX4_hush_47 : decode cX4_hush 47 = .ok (.getfield 13, 3) := by decide +kernel
theorem dX4_hush_50 : decode cX4_hush 50 = .ok (.invokestatic 137, 3) := by decide +kernel
theorem dX4_hush_53 : decode cX4_hush 53 = .ok (.aload_n 0, 1) := by decide +kernel
theorem dX4_hush_54 : decode cX4_hush 54 = .ok (.getfield 13, 3) := by decide +kernel
theorem dX4_hush_57 : decode cX4_hush 57 = .ok (.iload 5, 2) := by decide +kernel
theorem dX4_hush_59 : decode cX4_hush 59 = .ok (.iconst 2, 1) := by decide +kernel
theorem dX4_hush_60 : decode cX4_hush 60 = .ok (.invokestatic 44, 3) := by decide +kernel
theorem dX4_hush_63 : decode cX4_hush 63 = .ok (.bipush (-9), 2) := by decide +kernel
theorem dX4_hush_65 : decode cX4_hush 65 = .ok (.iastore, 1) := by decide +kernel
theorem dX4_hush_66 : decode cX4_hush 66 = .ok (.aload_n 0, 1) := by decide +kernel
theorem dX4_hush_67 : decode cX4_hush 67 = .ok (.getfield 13, 3) := by decide +kernel
theorem dX4_hush_70 : decode cX4_hush 70 = .ok (.iload 5, 2) := by decide +kernel
theorem dX4_hush_72 : decode cX4_hush 72 = .ok (.iconst 4, 1) := by decide +kernel
theorem dX4_hush_73 : decode cX4_hush 73 = .ok (.invokestatic 44, 3) := by decide +kernel
theorem dX4_hush_76 : decode cX4_hush 76 = .ok (.iconst 0, 1) := by decide +kernel
theorem dX4_hush_77 : decode cX4_hush 77 = .ok (.iastore, 1) := by decide +kernel
theorem dX4_hush_78 : decode cX4_hush 78 = .ok (.aload_n 0, 1) := by decide +kernel
theorem dX4_hush_79 : decode cX4_hush 79 = .ok (.getfield 13, 3) := by decide +kernel
theorem dX4_hush_82 : decode cX4_hush 82 = .ok (.iload_n 1, 1) := by decide +kernel
theorem dX4_hush_83 : decode cX4_hush 83 = .ok (.invokestatic 131, 3) := by decide +kernel
theorem dX4_hush_86 : decode cX4_hush 86 = .ok (.istore 6, 2) := by decide +kernel
theorem dX4_hush_88 : decode cX4_hush 88 = .ok (.iload 6, 2) := by decide +kernel
theorem dX4_hush_90 : decode cX4_hush 90 = .ok (.iload_n 3, 1) := by decide +kernel
theorem dX4_hush_91 : decode cX4_hush 91 = .ok (.if_icmp .lt 6, 3) := by decide +kernel
theorem dX4_hush_94 : decode cX4_hush 94 = .ok (.goto 10, 3) := by decide +kernel
theorem dX4_hush_97 : decode cX4_hush 97 = .ok (.iload 5, 2) := by decide +kernel
theorem dX4_hush_99 : decode cX4_hush 99 = .ok (.istore 4, 2) := by decide +kernel
theorem dX4_hush_101 : decode cX4_hush 101 = .ok (.iload 6, 2) := by decide +kernel
theorem dX4_hush_103 : decode cX4_hush 103 = .ok (.istore_n 3, 1) := by decide +kernel
theorem dX4_hush_104 : decode cX4_hush 104 = .ok (.iinc 5 1, 3) := by decide +kernel
theorem dX4_hush_107 : decode cX4_hush 107 = .ok (.goto (-76), 3) := by decide +kernel
theorem dX4_hush_110 : decode cX4_hush 110 = .ok (.iload 4, 2) := by decide +kernel
theorem dX4_hush_112 : decode cX4_hush 112 = .ok (.ireturn, 1) := by decide +kernel
theorem dX4_add_0 : decode cX4_add 0 = .ok (.iload_n 1, 1) := by decide +kernel
theorem dX4_add_1 : decode cX4_add 1 = .ok (.invokestatic 120, 3) := by decide +kernel
theorem dX4_add_4 : decode cX4_add 4 = .ok (.ifCond .eq 13, 3) := by decide +kernel
theorem dX4_add_7 : decode cX4_add 7 = .ok (.iload_n 2, 1) := by decide +kernel
theorem dX4_add_8 : decode cX4_add 8 = .ok (.iconst 0, 1) := by decide +kernel
theorem dX4_add_9 : decode cX4_add 9 = .ok (.bipush 60, 2) := by decide +kernel
theorem dX4_add_11 : decode cX4_add 11 = .ok (.invokestatic 147, 3) := by decide +kernel
theorem dX4_add_14 : decode cX4_add 14 = .ok (.goto 4, 3) := by decide +kernel
theorem dX4_add_17 : decode cX4_add 17 = .ok (.iconst (-1), 1) := by decide +kernel
theorem dX4_add_18 : decode cX4_add 18 = .ok (.istore 4, 2) := by decide +kernel
theorem dX4_add_20 : decode cX4_add 20 = .ok (.iload 4, 2) := by decide +kernel
theorem dX4_add_22 : decode cX4_add 22 = .ok (.ifCond .ne 16, 3) := by decide +kernel
theorem dX4_add_25 : decode cX4_add 25 = .ok (.iload_n 3, 1) := by decide +kernel
theorem dX4_add_26 : decode cX4_add 26 = .ok (.iconst 0, 1) := by decide +kernel
theorem dX4_add_27 : decode cX4_add 27 = .ok (.iconst 1, 1) := by decide +kernel
theorem dX4_add_28 : decode cX4_add 28 = .ok (.invokestatic 40, 3) := by decide +kernel
theorem dX4_add_31 : decode cX4_add 31 = .ok (.ifCond .ne 7, 3) := by decide +kernel
theorem dX4_add_34 : decode cX4_add 34 = .ok (.bipush (-2), 2) := by decide +kernel
theorem dX4_add_36 : decode cX4_add 36 = .ok (.istore 4, 2) := by decide +kernel
theorem dX4_add_38 : decode cX4_add 38 = .ok (.iload 4, 2) := by decide +kernel
theorem dX4_add_40 : decode cX4_add 40 = .ok (.ifCond .eq 10, 3) := by decide +kernel
theorem dX4_add_43 : decode cX4_add 43 = .ok (.aload_n 0, 1) := by decide +kernel
theorem dX4_add_44 : decode cX4_add 44 = .ok (.iload 4, 2) := by decide +kernel
theorem dX4_add_46 : decode cX4_add 46 = .ok (.invokevirtual 36, 3) := by decide +kernel
theorem dX4_add_49 : decode cX4_add 49 = .ok (.ireturn, 1) := by decide +kernel
theorem dX4_add_50 : decode cX4_add 50 = .ok (.bipush (-9), 2) := by decide +kernel
theorem dX4_add_52 : decode cX4_add 52 = .ok (.istore 5, 2) := by decide +kernel
theorem dX4_add_54 : decode cX4_add 54 = .ok (.iconst (-1), 1) := by decide +kernel
theorem dX4_add_55 : decode cX4_add 55 = .ok (.istore 6, 2) := by decide +kernel
theorem dX4_add_57 : decode cX4_add 57 = .ok (.iconst 0, 1) := by decide +kernel
theorem dX4_add_58 : decode cX4_add 58 = .ok (.istore 7, 2) := by decide +kernel
theorem dX4_add_60 : decode cX4_add 60 = .ok (.iload 7, 2) := by decide +kernel
theorem dX4_add_62 : decode cX4_add 62 = .ok (.bipush 6, 2) := by decide +kernel
theorem dX4_add_64 : decode cX4_add 64 = .ok (.if_icmp .ge 84, 3) := by decide +kernel
theorem dX4_add_67 : decode cX4_add 67 = .ok (.aload_n 0, 1) := by decide +kernel
theorem dX4_add_68 : decode cX4_add 68 = .ok (.getfield 9, 3) := by decide +kernel
theorem dX4_add_71 : decode cX4_add 71 = .ok (.aload_n 0, 1) := by decide +kernel
theorem dX4_add_72 : decode cX4_add 72 = .ok (.getfield 13, 3) := by decide +kernel
theorem dX4_add_75 : decode cX4_add 75 = .ok (.invokestatic 137, 3) := by decide +kernel
theorem dX4_add_78 : decode cX4_add 78 = .ok (.aload_n 0, 1) := by decide +kernel
theorem dX4_add_79 : decode cX4_add 79 = .ok (.getfield 13, 3) := by decide +kernel
theorem dX4_add_82 : decode cX4_add 82 = .ok (.iload 7, 2) := by decide +kernel
theorem dX4_add_84 : decode cX4_add 84 = .ok (.bipush 9, 2) := by decide +kernel
theorem dX4_add_86 : decode cX4_add 86 = .ok (.iload_n 1, 1) := by decide +kernel
theorem dX4_add_87 : decode cX4_add 87 = .ok (.invokestatic 124, 3) := by decide +kernel
theorem dX4_add_90 : decode cX4_add 90 = .ok (.ifCond .ne 6, 3) := by decide +kernel
theorem dX4_add_93 : decode cX4_add 93 = .ok (.bipush (-9), 2) := by decide +kernel
theorem dX4_add_95 : decode cX4_add 95 = .ok (.ireturn, 1) := by decide +kernel
theorem dX4_add_96 : decode cX4_add 96 = .ok (.aload_n 0, 1) := by decide +kernel
theorem dX4_add_97 : decode cX4_add 97 = .ok (.getfield 13, 3) := by decide +kernel
theorem dX4_add_100 : decode cX4_add 100 = .ok (.iload_n 2, 1) := by decide +kernel
theorem dX4_add_101 : decode cX4_add 101 = .ok (.invokestatic 131, 3) := by decide +kernel
theorem dX4_add_104 : decode cX4_add 104 = .ok (.istore 8, 2) := by decide +kernel
theorem dX4_add_106 : decode cX4_add 106 = .ok (.aload_n 0, 1) := by decide +kernel
theorem dX4_add_107 : decode cX4_add 107 = .ok (.getfield 13, 3) := by decide +kernel
theorem dX4_add_110 : decode cX4_add 110 = .ok (.aload_n 0, 1) := by decide +kernel
theorem dX4_add_111 : decode cX4_add 111 = .ok (.getfield 13, 3) := by decide +kernel
theorem dX4_add_114 : decode cX4_add 114 = .ok (.iload_n 1, 1) := by decide +kernel
theorem dX4_add_115 : decode cX4_add 115 = .ok (.invokestatic 72, 3) := by decide +kernel
theorem dX4_add_118 : decode cX4_add 118 = .ok (.iconst 1, 1) := by decide +kernel
theorem dX4_add_119 : decode cX4_add 119 = .ok (.invokestatic 69, 3) := by decide +kernel
theorem dX4_add_122 : decode cX4_add 122 = .ok (.istore 9, 2) := by decide +kernel
theorem dX4_add_124 : decode cX4_add 124 = .ok (.iload 9, 2) := by decide +kernel
theorem dX4_add_126 : decode cX4_add 126 = .ok (.iload 6, 2) := by decide +kernel
theorem dX4_add_128 : decode cX4_add 128 = .ok (.if_icmp .gt 6, 3) := by decide +kernel
theorem dX4_add_131 : decode cX4_add 131 = .ok (.goto 11, 3) := by decide +kernel
theorem dX4_add_134 : decode cX4_add 134 = .ok (.iload 7, 2) := by decide +kernel
theorem dX4_add_136 : decode cX4_add 136 = .ok (.istore 5, 2) := by decide +kernel
theorem dX4_add_138 : decode cX4_add 138 = .ok (.iload 9, 2) := by decide +kernel
theorem dX4_add_140 : decode cX4_add 140 = .ok (.istore 6, 2) := by decide +kernel
theorem dX4_add_142 : decode cX4_add 142 = .ok (.iinc 7 1, 3) := by decide +kernel
theorem dX4_add_145 : decode cX4_add 145 = .ok (.goto (-85), 3) := by decide +kernel
theorem dX4_add_148 : decode cX4_add 148 = .ok (.iload_n 3, 1) := by decide +kernel
theorem dX4_add_149 : decode cX4_add 149 = .ok (.ifCond .ne 8, 3) := by decide +kernel
theorem dX4_add_152 : decode cX4_add 152 = .ok (.iload 5, 2) := by decide +kernel
theorem dX4_add_154 : decode cX4_add 154 = .ok (.goto 5, 3) := by decide +kernel
theorem dX4_add_157 : decode cX4_add 157 = .ok (.iload 6, 2) := by decide +kernel
theorem dX4_add_159 : decode cX4_add 159 = .ok (.ireturn, 1) := by decide +kernel
theorem dX4_softerBy_0 : decode cX4_softerBy 0 = .ok (.aload_n 0, 1) := by decide +kernel
theorem dX4_softerBy_1 : decode cX4_softerBy 1 = .ok (.getfield 9, 3) := by decide +kernel
theorem dX4_softerBy_4 : decode cX4_softerBy 4 = .ok (.aload_n 0, 1) := by decide +kernel
theorem dX4_softerBy_5 : decode cX4_softerBy 5 = .ok (.getfield 13, 3) := by decide +kernel
theorem dX4_softerBy_8 : decode cX4_softerBy 8 = .ok (.invokestatic 137, 3) := by decide +kernel
theorem dX4_softerBy_11 : decode cX4_softerBy 11 = .ok (.iload 4, 2) := by decide +kernel
theorem dX4_softerBy_13 : decode cX4_softerBy 13 = .ok (.iconst 1, 1) := by decide +kernel
theorem dX4_softerBy_14 : decode cX4_softerBy 14 = .ok (.if_icmp .ne 21, 3) := by decide +kernel
theorem dX4_softerBy_17 : decode cX4_softerBy 17 = .ok (.aload_n 0, 1) := by decide +kernel
theorem dX4_softerBy_18 : decode cX4_softerBy 18 = .ok (.getfield 13, 3) := by decide +kernel
theorem dX4_softerBy_21 : decode cX4_softerBy 21 = .ok (.iconst 4, 1) := by decide +kernel
theorem dX4_softerBy_22 : decode cX4_softerBy 22 = .ok (.iconst 5, 1) := by decide +kernel
theorem dX4_softerBy_23 : decode cX4_softerBy 23 = .ok (.iload 5, 2) := by decide +kernel
theorem dX4_softerBy_25 : decode cX4_softerBy 25 = .ok (.invokestatic 124, 3) := by decide +kernel
theorem dX4_softerBy_28 : decode cX4_softerBy 28 = .ok (.ifCond .eq 7, 3) := by decide +kernel
theorem dX4_softerBy_31 : decode cX4_softerBy 31 = .ok (.iconst 1, 1) := by decide +kernel
theorem dX4_softerBy_32 : decode cX4_softerBy 32 = .ok (.goto 4, 3) := by decide +kernel
theorem dX4_softerBy_35 : decode cX4_softerBy 35 = .ok (.iconst 0, 1) := by decide +kernel
theorem dX4_softerBy_36 : decode cX4_softerBy 36 = .ok (.istore 8, 2) := by decide +kernel
theorem dX4_softerBy_38 : decode cX4_softerBy 38 = .ok (.iload 6, 2) := by decide +kernel
theorem dX4_softerBy_40 : decode cX4_softerBy 40 = .ok (.iconst 1, 1) := by decide +kernel
theorem dX4_softerBy_41 : decode cX4_softerBy 41 = .ok (.if_icmp .ne 20, 3) := by decide +kernel
theorem dX4_softerBy_44 : decode cX4_softerBy 44 = .ok (.aload_n 0, 1) := by decide +kernel
theorem dX4_softerBy_45 : decode cX4_softerBy 45 = .ok (.getfield 13, 3) := by decide +kernel
theorem dX4_softerBy_48 : decode cX4_softerBy 48 = .ok (.iconst 4, 1) := by decide +kernel
theorem dX4_softerBy_49 : decode cX4_softerBy 49 = .ok (.iconst 5, 1) := by decide +kernel
theorem dX4_softerBy_50 : decode cX4_softerBy 50 = .ok (.iload_n 3, 1) := by decide +kernel
theorem dX4_softerBy_51 : decode cX4_softerBy 51 = .ok (.invokestatic 124, 3) := by decide +kernel
theorem dX4_softerBy_54 : decode cX4_softerBy 54 = .ok (.ifCond .eq 7, 3) := by decide +kernel
theorem dX4_softerBy_57 : decode cX4_softerBy 57 = .ok (.iconst 1, 1) := by decide +kernel
theorem dX4_softerBy_58 : decode cX4_softerBy 58 = .ok (.goto 4, 3) := by decide +kernel
theorem dX4_softerBy_61 : decode cX4_softerBy 61 = .ok (.iconst 0, 1) := by decide +kernel
theorem dX4_softerBy_62 : decode cX4_softerBy 62 = .ok (.istore 9, 2) := by decide +kernel
theorem dX4_softerBy_64 : decode cX4_softerBy 64 = .ok (.aload_n 0, 1) := by decide +kernel
theorem dX4_softerBy_65 : decode cX4_softerBy 65 = .ok (.getfield 13, 3) := by decide +kernel
theorem dX4_softerBy_68 : decode cX4_softerBy 68 = .ok (.iload 7, 2) := by decide +kernel
theorem dX4_softerBy_70 : decode cX4_softerBy 70 = .ok (.invokestatic 131, 3) := by decide +kernel
theorem dX4_softerBy_73 : decode cX4_softerBy 73 = .ok (.istore 10, 2) := by decide +kernel
theorem dX4_softerBy_75 : decode cX4_softerBy 75 = .ok (.aload_n 0, 1) := by decide +kernel
theorem dX4_softerBy_76 : decode cX4_softerBy 76 = .ok (.getfield 13, 3) := by decide +kernel
theorem dX4_softerBy_79 : decode cX4_softerBy 79 = .ok (.aload_n 0, 1) := by decide +kernel
theorem dX4_softerBy_80 : decode cX4_softerBy 80 = .ok (.getfield 13, 3) := by decide +kernel
theorem dX4_softerBy_83 : decode cX4_softerBy 83 = .ok (.iload_n 1, 1) := by decide +kernel
theorem dX4_softerBy_84 : decode cX4_softerBy 84 = .ok (.invokestatic 72, 3) := by decide +kernel
theorem dX4_softerBy_87 : decode cX4_softerBy 87 = .ok (.iconst 1, 1) := by decide +kernel
theorem dX4_softerBy_88 : decode cX4_softerBy 88 = .ok (.invokestatic 69, 3) := by decide +kernel
theorem dX4_softerBy_91 : decode cX4_softerBy 91 = .ok (.aload_n 0, 1) := by decide +kernel
theorem dX4_softerBy_92 : decode cX4_softerBy 92 = .ok (.getfield 13, 3) := by decide +kernel
theorem dX4_softerBy_95 : decode cX4_softerBy 95 = .ok (.aload_n 0, 1) := by decide +kernel
theorem dX4_softerBy_96 : decode cX4_softerBy 96 = .ok (.getfield 13, 3) := by decide +kernel
theorem dX4_softerBy_99 : decode cX4_softerBy 99 = .ok (.iload_n 2, 1) := by decide +kernel
theorem dX4_softerBy_100 : decode cX4_softerBy 100 = .ok (.invokestatic 72, 3) := by decide +kernel
theorem dX4_softerBy_103 : decode cX4_softerBy 103 = .ok (.iconst 1, 1) := by decide +kernel
theorem dX4_softerBy_104 : decode cX4_softerBy 104 = .ok (.invokestatic 69, 3) := by decide +kernel
theorem dX4_softerBy_107 : decode cX4_softerBy 107 = .ok (.isub, 1) := by decide +kernel
theorem dX4_softerBy_108 : decode cX4_softerBy 108 = .ok (.ireturn, 1) := by decide +kernel
theorem dX4_two_0 : decode cX4_two 0 = .ok (.iload_n 1, 1) := by decide +kernel
theorem dX4_two_1 : decode cX4_two 1 = .ok (.invokestatic 120, 3) := by decide +kernel
theorem dX4_two_4 : decode cX4_two 4 = .ok (.ifCond .eq 25, 3) := by decide +kernel
theorem dX4_two_7 : decode cX4_two 7 = .ok (.iload_n 2, 1) := by decide +kernel
theorem dX4_two_8 : decode cX4_two 8 = .ok (.invokestatic 120, 3) := by decide +kernel
theorem dX4_two_11 : decode cX4_two 11 = .ok (.ifCond .eq 18, 3) := by decide +kernel
theorem dX4_two_14 : decode cX4_two 14 = .ok (.iload_n 1, 1) := by decide +kernel
theorem dX4_two_15 : decode cX4_two 15 = .ok (.iload_n 2, 1) := by decide +kernel
theorem dX4_two_16 : decode cX4_two 16 = .ok (.if_icmp .eq 13, 3) := by decide +kernel
theorem dX4_two_19 : decode cX4_two 19 = .ok (.iload_n 3, 1) := by decide +kernel
theorem dX4_two_20 : decode cX4_two 20 = .ok (.iconst 0, 1) := by decide +kernel
theorem dX4_two_21 : decode cX4_two 21 = .ok (.bipush 30, 2) := by decide +kernel
theorem dX4_two_23 : decode cX4_two 23 = .ok (.invokestatic 147, 3) := by decide +kernel
theorem dX4_two_26 : decode cX4_two 26 = .ok (.goto 4, 3) := by decide +kernel
theorem dX4_two_29 : decode cX4_two 29 = .ok (.iconst (-1), 1) := by decide +kernel
theorem dX4_two_30 : decode cX4_two 30 = .ok (.istore 4, 2) := by decide +kernel
theorem dX4_two_32 : decode cX4_two 32 = .ok (.iload 4, 2) := by decide +kernel
theorem dX4_two_34 : decode cX4_two 34 = .ok (.ifCond .eq 10, 3) := by decide +kernel
theorem dX4_two_37 : decode cX4_two 37 = .ok (.aload_n 0, 1) := by decide +kernel
theorem dX4_two_38 : decode cX4_two 38 = .ok (.iload 4, 2) := by decide +kernel
theorem dX4_two_40 : decode cX4_two 40 = .ok (.invokevirtual 36, 3) := by decide +kernel
theorem dX4_two_43 : decode cX4_two 43 = .ok (.ireturn, 1) := by decide +kernel
theorem dX4_two_44 : decode cX4_two 44 = .ok (.iconst 0, 1) := by decide +kernel
theorem dX4_two_45 : decode cX4_two 45 = .ok (.istore 5, 2) := by decide +kernel
theorem dX4_two_47 : decode cX4_two 47 = .ok (.iload 5, 2) := by decide +kernel
theorem dX4_two_49 : decode cX4_two 49 = .ok (.iconst 4, 1) := by decide +kernel
theorem dX4_two_50 : decode cX4_two 50 = .ok (.if_icmp .ge 92, 3) := by decide +kernel
theorem dX4_two_53 : decode cX4_two 53 = .ok (.iload 5, 2) := by decide +kernel
theorem dX4_two_55 : decode cX4_two 55 = .ok (.iconst 2, 1) := by decide +kernel
theorem dX4_two_56 : decode cX4_two 56 = .ok (.idiv, 1) := by decide +kernel
theorem dX4_two_57 : decode cX4_two 57 = .ok (.istore 6, 2) := by decide +kernel
theorem dX4_two_59 : decode cX4_two 59 = .ok (.iload 5, 2) := by decide +kernel
theorem dX4_two_61 : decode cX4_two 61 = .ok (.iconst 2, 1) := by decide +kernel
theorem dX4_two_62 : decode cX4_two 62 = .ok (.irem, 1) := by decide +kernel
theorem dX4_two_63 : decode cX4_two 63 = .ok (.istore 7, 2) := by decide +kernel
theorem dX4_two_65 : decode cX4_two 65 = .ok (.aload_n 0, 1) := by decide +kernel
theorem dX4_two_66 : decode cX4_two 66 = .ok (.iload_n 1, 1) := by decide +kernel
theorem dX4_two_67 : decode cX4_two 67 = .ok (.iload_n 2, 1) := by decide +kernel
theorem dX4_two_68 : decode cX4_two 68 = .ok (.iload_n 1, 1) := by decide +kernel
theorem dX4_two_69 : decode cX4_two 69 = .ok (.iconst 1, 1) := by decide +kernel
theorem dX4_two_70 : decode cX4_two 70 = .ok (.iload 6, 2) := by decide +kernel
theorem dX4_two_72 : decode cX4_two 72 = .ok (.isub, 1) := by decide +kernel
theorem dX4_two_73 : decode cX4_two 73 = .ok (.iload_n 2, 1) := by decide +kernel
theorem dX4_two_74 : decode cX4_two 74 = .ok (.iload 7, 2) := by decide +kernel
theorem dX4_two_76 : decode cX4_two 76 = .ok (.iload_n 3, 1) := by decide +kernel
theorem dX4_two_77 : decode cX4_two 77 = .ok (.invokevirtual 163, 3) := by decide +kernel
theorem dX4_two_80 : decode cX4_two 80 = .ok (.aload_n 0, 1) := by decide +kernel
theorem dX4_two_81 : decode cX4_two 81 = .ok (.iload_n 1, 1) := by decide +kernel
theorem dX4_two_82 : decode cX4_two 82 = .ok (.iload_n 2, 1) := by decide +kernel
theorem dX4_two_83 : decode cX4_two 83 = .ok (.iload_n 1, 1) := by decide +kernel
theorem dX4_two_84 : decode cX4_two 84 = .ok (.iload 6, 2) := by decide +kernel
theorem dX4_two_86 : decode cX4_two 86 = .ok (.iload_n 2, 1) := by decide +kernel
theorem dX4_two_87 : decode cX4_two 87 = .ok (.iload 7, 2) := by decide +kernel
theorem dX4_two_89 : decode cX4_two 89 = .ok (.iload_n 3, 1) := by decide +kernel
theorem dX4_two_90 : decode cX4_two 90 = .ok (.invokevirtual 163, 3) := by decide +kernel
theorem dX4_two_93 : decode cX4_two 93 = .ok (.if_icmp .gt 43, 3) := by decide +kernel
theorem dX4_two_96 : decode cX4_two 96 = .ok (.aload_n 0, 1) := by decide +kernel
theorem dX4_two_97 : decode cX4_two 97 = .ok (.iload_n 2, 1) := by decide +kernel
theorem dX4_two_98 : decode cX4_two 98 = .ok (.iload_n 1, 1) := by decide +kernel
theorem dX4_two_99 : decode cX4_two 99 = .ok (.iload_n 1, 1) := by decide +kernel
theorem dX4_two_100 : decode cX4_two 100 = .ok (.iload 6, 2) := by decide +kernel
theorem dX4_two_102 : decode cX4_two 102 = .ok (.iload_n 2, 1) := by decide +kernel
theorem dX4_two_103 : decode cX4_two 103 = .ok (.iconst 1, 1) := by decide +kernel
theorem dX4_two_104 : decode cX4_two 104 = .ok (.iload 7, 2) := by decide +kernel
theorem dX4_two_106 : decode cX4_two 106 = .ok (.isub, 1) := by decide +kernel
theorem dX4_two_107 : decode cX4_two 107 = .ok (.iload_n 3, 1) := by decide +kernel
theorem dX4_two_108 : decode cX4_two 108 = .ok (.invokevirtual 163, 3) := by decide +kernel
theorem dX4_two_111 : decode cX4_two 111 = .ok (.aload_n 0, 1) := by decide +kernel
theorem dX4_two_112 : decode cX4_two 112 = .ok (.iload_n 2, 1) := by decide +kernel
theorem dX4_two_113 : decode cX4_two 113 = .ok (.iload_n 1, 1) := by decide +kernel
theorem dX4_two_114 : decode cX4_two 114 = .ok (.iload_n 1, 1) := by decide +kernel
theorem dX4_two_115 : decode cX4_two 115 = .ok (.iload 6, 2) := by decide +kernel
theorem dX4_two_117 : decode cX4_two 117 = .ok (.iload_n 2, 1) := by decide +kernel
theorem dX4_two_118 : decode cX4_two 118 = .ok (.iload 7, 2) := by decide +kernel
theorem dX4_two_120 : decode cX4_two 120 = .ok (.iload_n 3, 1) := by decide +kernel
theorem dX4_two_121 : decode cX4_two 121 = .ok (.invokevirtual 163, 3) := by decide +kernel
theorem dX4_two_124 : decode cX4_two 124 = .ok (.if_icmp .gt 12, 3) := by decide +kernel
theorem dX4_two_127 : decode cX4_two 127 = .ok (.bipush 10, 2) := by decide +kernel
theorem dX4_two_129 : decode cX4_two 129 = .ok (.iload 6, 2) := by decide +kernel
theorem dX4_two_131 : decode cX4_two 131 = .ok (.imul, 1) := by decide +kernel
theorem dX4_two_132 : decode cX4_two 132 = .ok (.iload 7, 2) := by decide +kernel
theorem dX4_two_134 : decode cX4_two 134 = .ok (.iadd, 1) := by decide +kernel
theorem dX4_two_135 : decode cX4_two 135 = .ok (.ireturn, 1) := by decide +kernel
theorem dX4_two_136 : decode cX4_two 136 = .ok (.iinc 5 1, 3) := by decide +kernel
theorem dX4_two_139 : decode cX4_two 139 = .ok (.goto (-92), 3) := by decide +kernel
theorem dX4_two_142 : decode cX4_two 142 = .ok (.bipush (-9), 2) := by decide +kernel
theorem dX4_two_144 : decode cX4_two 144 = .ok (.ireturn, 1) := by decide +kernel
theorem dX4_gcd_0 : decode cX4_gcd 0 = .ok (.lload_n 0, 1) := by decide +kernel
theorem dX4_gcd_1 : decode cX4_gcd 1 = .ok (.lstore 4, 2) := by decide +kernel
theorem dX4_gcd_3 : decode cX4_gcd 3 = .ok (.lload_n 2, 1) := by decide +kernel
theorem dX4_gcd_4 : decode cX4_gcd 4 = .ok (.lstore 6, 2) := by decide +kernel
theorem dX4_gcd_6 : decode cX4_gcd 6 = .ok (.lload 6, 2) := by decide +kernel
theorem dX4_gcd_8 : decode cX4_gcd 8 = .ok (.lconst 0, 1) := by decide +kernel
theorem dX4_gcd_9 : decode cX4_gcd 9 = .ok (.lcmp, 1) := by decide +kernel
theorem dX4_gcd_10 : decode cX4_gcd 10 = .ok (.ifCond .eq 21, 3) := by decide +kernel
theorem dX4_gcd_13 : decode cX4_gcd 13 = .ok (.lload 4, 2) := by decide +kernel
theorem dX4_gcd_15 : decode cX4_gcd 15 = .ok (.lload 6, 2) := by decide +kernel
theorem dX4_gcd_17 : decode cX4_gcd 17 = .ok (.lrem, 1) := by decide +kernel
theorem dX4_gcd_18 : decode cX4_gcd 18 = .ok (.lstore 8, 2) := by decide +kernel
theorem dX4_gcd_20 : decode cX4_gcd 20 = .ok (.lload 6, 2) := by decide +kernel
theorem dX4_gcd_22 : decode cX4_gcd 22 = .ok (.lstore 4, 2) := by decide +kernel
theorem dX4_gcd_24 : decode cX4_gcd 24 = .ok (.lload 8, 2) := by decide +kernel
theorem dX4_gcd_26 : decode cX4_gcd 26 = .ok (.lstore 6, 2) := by decide +kernel
theorem dX4_gcd_28 : decode cX4_gcd 28 = .ok (.goto (-22), 3) := by decide +kernel
theorem dX4_gcd_31 : decode cX4_gcd 31 = .ok (.lload 4, 2) := by decide +kernel
theorem dX4_gcd_33 : decode cX4_gcd 33 = .ok (.lreturn, 1) := by decide +kernel
theorem dX4_partOf_0 : decode cX4_partOf 0 = .ok (.lload_n 0, 1) := by decide +kernel
theorem dX4_partOf_1 : decode cX4_partOf 1 = .ok (.lconst 0, 1) := by decide +kernel
theorem dX4_partOf_2 : decode cX4_partOf 2 = .ok (.lcmp, 1) := by decide +kernel
theorem dX4_partOf_3 : decode cX4_partOf 3 = .ok (.ifCond .ne 7, 3) := by decide +kernel
theorem dX4_partOf_6 : decode cX4_partOf 6 = .ok (.iload 4, 2) := by decide +kernel
theorem dX4_partOf_8 : decode cX4_partOf 8 = .ok (.i2l, 1) := by decide +kernel
theorem dX4_partOf_9 : decode cX4_partOf 9 = .ok (.lreturn, 1) := by decide +kernel
theorem dX4_partOf_10 : decode cX4_partOf 10 = .ok (.iload 4, 2) := by decide +kernel
theorem dX4_partOf_12 : decode cX4_partOf 12 = .ok (.ifCond .ne 7, 3) := by decide +kernel
theorem dX4_partOf_15 : decode cX4_partOf 15 = .ok (.lload_n 0, 1) := by decide +kernel
theorem dX4_partOf_16 : decode cX4_partOf 16 = .ok (.goto 4, 3) := by decide +kernel
theorem dX4_partOf_19 : decode cX4_partOf 19 = .ok (.lload_n 2, 1) := by decide +kernel
theorem dX4_partOf_20 : decode cX4_partOf 20 = .ok (.lload_n 0, 1) := by decide +kernel
theorem dX4_partOf_21 : decode cX4_partOf 21 = .ok (.lload_n 2, 1) := by decide +kernel
theorem dX4_partOf_22 : decode cX4_partOf 22 = .ok (.invokestatic 167, 3) := by decide +kernel
theorem dX4_partOf_25 : decode cX4_partOf 25 = .ok (.ldiv, 1) := by decide +kernel
theorem dX4_partOf_26 : decode cX4_partOf 26 = .ok (.lreturn, 1) := by decide +kernel
theorem dX4_rains_0 : decode cX4_rains 0 = .ok (.iconst 0, 1) := by decide +kernel
theorem dX4_rains_1 : decode cX4_rains 1 = .ok (.istore_n 1, 1) := by decide +kernel
theorem dX4_rains_2 : decode cX4_rains 2 = .ok (.iload_n 1, 1) := by decide +kernel
theorem dX4_rains_3 : decode cX4_rains 3 = .ok (.aload_n 0, 1) := by decide +kernel
theorem dX4_rains_4 : decode cX4_rains 4 = .ok (.iconst 0, 1) := by decide +kernel
theorem dX4_rains_5 : decode cX4_rains 5 = .ok (.iaload, 1) := by decide +kernel
theorem dX4_rains_6 : decode cX4_rains 6 = .ok (.if_icmp .ge 25, 3) := by decide +kernel
theorem dX4_rains_9 : decode cX4_rains 9 = .ok (.aload_n 0, 1) := by decide +kernel
theorem dX4_rains_10 : decode cX4_rains 10 = .ok (.iload_n 1, 1) := by decide +kernel
theorem dX4_rains_11 : decode cX4_rains 11 = .ok (.iconst 4, 1) := by decide +kernel
theorem dX4_rains_12 : decode cX4_rains 12 = .ok (.invokestatic 44, 3) := by decide +kernel
theorem dX4_rains_15 : decode cX4_rains 15 = .ok (.iaload, 1) := by decide +kernel
theorem dX4_rains_16 : decode cX4_rains 16 = .ok (.iconst 1, 1) := by decide +kernel
theorem dX4_rains_17 : decode cX4_rains 17 = .ok (.if_icmp .ne 8, 3) := by decide +kernel
theorem dX4_rains_20 : decode cX4_rains 20 = .ok (.aload_n 0, 1) := by decide +kernel
theorem dX4_rains_21 : decode cX4_rains 21 = .ok (.iload_n 1, 1) := by decide +kernel
theorem dX4_rains_22 : decode cX4_rains 22 = .ok (.invokestatic 78, 3) := by decide +kernel
theorem dX4_rains_25 : decode cX4_rains 25 = .ok (.iinc 1 1, 3) := by decide +kernel
theorem dX4_rains_28 : decode cX4_rains 28 = .ok (.goto (-26), 3) := by decide +kernel
theorem dX4_rains_31 : decode cX4_rains 31 = .ok (.return_, 1) := by decide +kernel
theorem dX4_rain_0 : decode cX4_rain 0 = .ok (.iload_n 1, 1) := by decide +kernel
theorem dX4_rain_1 : decode cX4_rain 1 = .ok (.invokestatic 120, 3) := by decide +kernel
theorem dX4_rain_4 : decode cX4_rain 4 = .ok (.ifCond .ne 9, 3) := by decide +kernel
theorem dX4_rain_7 : decode cX4_rain 7 = .ok (.aload_n 0, 1) := by decide +kernel
theorem dX4_rain_8 : decode cX4_rain 8 = .ok (.iconst (-1), 1) := by decide +kernel
theorem dX4_rain_9 : decode cX4_rain 9 = .ok (.invokevirtual 171, 3) := by decide +kernel
theorem dX4_rain_12 : decode cX4_rain 12 = .ok (.lreturn, 1) := by decide +kernel
theorem dX4_rain_13 : decode cX4_rain 13 = .ok (.iload_n 2, 1) := by decide +kernel
theorem dX4_rain_14 : decode cX4_rain 14 = .ok (.ifCond .lt 8, 3) := by decide +kernel
theorem dX4_rain_17 : decode cX4_rain 17 = .ok (.iload_n 3, 1) := by decide +kernel
theorem dX4_rain_18 : decode cX4_rain 18 = .ok (.iconst 2, 1) := by decide +kernel
theorem dX4_rain_19 : decode cX4_rain 19 = .ok (.if_icmp .ge 10, 3) := by decide +kernel
theorem dX4_rain_22 : decode cX4_rain 22 = .ok (.aload_n 0, 1) := by decide +kernel
theorem dX4_rain_23 : decode cX4_rain 23 = .ok (.bipush (-4), 2) := by decide +kernel
theorem dX4_rain_25 : decode cX4_rain 25 = .ok (.invokevirtual 171, 3) := by decide +kernel
theorem dX4_rain_28 : decode cX4_rain 28 = .ok (.lreturn, 1) := by decide +kernel
theorem dX4_rain_29 : decode cX4_rain 29 = .ok (.iload_n 2, 1) := by decide +kernel
theorem dX4_rain_30 : decode cX4_rain 30 = .ok (.bipush 7, 2) := by decide +kernel
theorem dX4_rain_32 : decode cX4_rain 32 = .ok (.if_icmp .gt 9, 3) := by decide +kernel
theorem dX4_rain_35 : decode cX4_rain 35 = .ok (.iload_n 3, 1) := by decide +kernel
theorem dX4_rain_36 : decode cX4_rain 36 = .ok (.bipush 20, 2) := by decide +kernel
theorem dX4_rain_38 : decode cX4_rain 38 = .ok (.if_icmp .le 10, 3) := by decide +kernel
theorem dX4_rain_41 : decode cX4_rain 41 = .ok (.aload_n 0, 1) := by decide +kernel
theorem dX4_rain_42 : decode cX4_rain 42 = .ok (.bipush (-6), 2) := by decide +kernel
theorem dX4_rain_44 : decode cX4_rain 44 = .ok (.invokevirtual 171, 3) := by decide +kernel
theorem dX4_rain_47 : decode cX4_rain 47 = .ok (.lreturn, 1) := by decide +kernel
theorem dX4_rain_48 : decode cX4_rain 48 = .ok (.iload 4, 2) := by decide +kernel
theorem dX4_rain_50 : decode cX4_rain 50 = .ok (.iconst 0, 1) := by decide +kernel
theorem dX4_rain_51 : decode cX4_rain 51 = .ok (.iconst 1, 1) := by decide +kernel
theorem dX4_rain_52 : decode cX4_rain 52 = .ok (.invokestatic 40, 3) := by decide +kernel
theorem dX4_rain_55 : decode cX4_rain 55 = .ok (.ifCond .ne 10, 3) := by decide +kernel
theorem dX4_rain_58 : decode cX4_rain 58 = .ok (.aload_n 0, 1) := by decide +kernel
theorem dX4_rain_59 : decode cX4_rain 59 = .ok (.bipush (-2), 2) := by decide +kernel
theorem dX4_rain_61 : decode cX4_rain 61 = .ok (.invokevirtual 171, 3) := by decide +kernel
theorem dX4_rain_64 : decode cX4_rain 64 = .ok (.lreturn, 1) := by decide +kernel
theorem dX4_rain_65 : decode cX4_rain 65 = .ok (.lconst 0, 1) := by decide +kernel
theorem dX4_rain_66 : decode cX4_rain 66 = .ok (.lstore 5, 2) := by decide +kernel
theorem dX4_rain_68 : decode cX4_rain 68 = .ok (.lconst 1, 1) := by decide +kernel
theorem dX4_rain_69 : decode cX4_rain 69 = .ok (.lstore 7, 2) := by decide +kernel
theorem dX4_rain_71 : decode cX4_rain 71 = .ok (.iconst 0, 1) := by decide +kernel
theorem dX4_rain_72 : decode cX4_rain 72 = .ok (.istore 9, 2) := by decide +kernel
theorem dX4_rain_74 : decode cX4_rain 74 = .ok (.iload 9, 2) := by decide +kernel
theorem dX4_rain_76 : decode cX4_rain 76 = .ok (.iload_n 2, 1) := by decide +kernel
theorem dX4_rain_77 : decode cX4_rain 77 = .ok (.if_icmp .ge 16, 3) := by decide +kernel
theorem dX4_rain_80 : decode cX4_rain 80 = .ok (.lload 7, 2) := by decide +kernel
theorem dX4_rain_82 : decode cX4_rain 82 = .ok (.iload_n 3, 1) := by decide +kernel
theorem dX4_rain_83 : decode cX4_rain 83 = .ok (.i2l, 1) := by decide +kernel
theorem dX4_rain_84 : decode cX4_rain 84 = .ok (.lmul, 1) := by decide +kernel
theorem dX4_rain_85 : decode cX4_rain 85 = .ok (.lstore 7, 2) := by decide +kernel
theorem dX4_rain_87 : decode cX4_rain 87 = .ok (.iinc 9 1, 3) := by decide +kernel
theorem dX4_rain_90 : decode cX4_rain 90 = .ok (.goto (-16), 3) := by decide +kernel
theorem dX4_rain_93 : decode cX4_rain 93 = .ok (.iconst 0, 1) := by decide +kernel
theorem dX4_rain_94 : decode cX4_rain 94 = .ok (.istore 9, 2) := by decide +kernel
theorem dX4_rain_96 : decode cX4_rain 96 = .ok (.iload 9, 2) := by decide +kernel
theorem dX4_rain_98 : decode cX4_rain 98 = .ok (.iconst 1, 1) := by decide +kernel
theorem dX4_rain_99 : decode cX4_rain 99 = .ok (.iload_n 2, 1) := by decide +kernel
theorem dX4_rain_100 : decode cX4_rain 100 = .ok (.ishl, 1) := by decide +kernel
theorem dX4_rain_101 : decode cX4_rain 101 = .ok (.if_icmp .ge 109, 3) := by decide +kernel
theorem dX4_rain_104 : decode cX4_rain 104 = .ok (.lconst 1, 1) := by decide +kernel
theorem dX4_rain_105 : decode cX4_rain 105 = .ok (.lstore 10, 2) := by decide +kernel
theorem dX4_rain_107 : decode cX4_rain 107 = .ok (.aload_n 0, 1) := by decide +kernel
theorem dX4_rain_108 : decode cX4_rain 108 = .ok (.getfield 9, 3) := by decide +kernel
theorem dX4_rain_111 : decode cX4_rain 111 = .ok (.aload_n 0, 1) := by decide +kernel
theorem dX4_rain_112 : decode cX4_rain 112 = .ok (.getfield 13, 3) := by decide +kernel
theorem dX4_rain_115 : decode cX4_rain 115 = .ok (.invokestatic 137, 3) := by decide +kernel
theorem dX4_rain_118 : decode cX4_rain 118 = .ok (.iconst 0, 1) := by decide +kernel
theorem dX4_rain_119 : decode cX4_rain 119 = .ok (.istore 12, 2) := by decide +kernel
theorem dX4_rain_121 : decode cX4_rain 121 = .ok (.iload 12, 2) := by decide +kernel
theorem dX4_rain_123 : decode cX4_rain 123 = .ok (.iload_n 2, 1) := by decide +kernel
theorem dX4_rain_124 : decode cX4_rain 124 = .ok (.if_icmp .ge 58, 3) := by decide +kernel
theorem dX4_rain_127 : decode cX4_rain 127 = .ok (.lload 10, 2) := by decide +kernel
theorem dX4_rain_129 : decode cX4_rain 129 = .ok (.iload 9, 2) := by decide +kernel
theorem dX4_rain_131 : decode cX4_rain 131 = .ok (.iload 12, 2) := by decide +kernel
theorem dX4_rain_133 : decode cX4_rain 133 = .ok (.invokestatic 52, 3) := by decide +kernel
theorem dX4_rain_136 : decode cX4_rain 136 = .ok (.ifCond .eq 7, 3) := by decide +kernel
theorem dX4_rain_139 : decode cX4_rain 139 = .ok (.lconst 1, 1) := by decide +kernel
theorem dX4_rain_140 : decode cX4_rain 140 = .ok (.goto 7, 3) := by decide +kernel
theorem dX4_rain_143 : decode cX4_rain 143 = .ok (.iload_n 3, 1) := by decide +kernel
theorem dX4_rain_144 : decode cX4_rain 144 = .ok (.iconst 1, 1) := by decide +kernel
theorem dX4_rain_145 : decode cX4_rain 145 = .ok (.isub, 1) := by decide +kernel
theorem dX4_rain_146 : decode cX4_rain 146 = .ok (.i2l, 1) := by decide +kernel
theorem dX4_rain_147 : decode cX4_rain 147 = .ok (.lmul, 1) := by decide +kernel
theorem dX4_rain_148 : decode cX4_rain 148 = .ok (.lstore 10, 2) := by decide +kernel
theorem dX4_rain_150 : decode cX4_rain 150 = .ok (.iload 9, 2) := by decide +kernel
theorem dX4_rain_152 : decode cX4_rain 152 = .ok (.iload 12, 2) := by decide +kernel
theorem dX4_rain_154 : decode cX4_rain 154 = .ok (.invokestatic 52, 3) := by decide +kernel
theorem dX4_rain_157 : decode cX4_rain 157 = .ok (.ifCond .eq 10, 3) := by decide +kernel
theorem dX4_rain_160 : decode cX4_rain 160 = .ok (.aload_n 0, 1) := by decide +kernel
theorem dX4_rain_161 : decode cX4_rain 161 = .ok (.getfield 13, 3) := by decide +kernel
theorem dX4_rain_164 : decode cX4_rain 164 = .ok (.invokestatic 175, 3) := by decide +kernel
theorem dX4_rain_167 : decode cX4_rain 167 = .ok (.aload_n 0, 1) := by decide +kernel
theorem dX4_rain_168 : decode cX4_rain 168 = .ok (.getfield 13, 3) := by decide +kernel
theorem dX4_rain_171 : decode cX4_rain 171 = .ok (.invokestatic 92, 3) := by decide +kernel
theorem dX4_rain_174 : decode cX4_rain 174 = .ok (.istore 13, 2) := by decide +kernel
theorem dX4_rain_176 : decode cX4_rain 176 = .ok (.iinc 12 1, 3) := by decide +kernel
theorem dX4_rain_179 : decode cX4_rain 179 = .ok (.goto (-58), 3) := by decide +kernel
theorem dX4_rain_182 : decode cX4_rain 182 = .ok (.lload 5, 2) := by decide +kernel
theorem dX4_rain_184 : decode cX4_rain 184 = .ok (.aload_n 0, 1) := by decide +kernel
theorem dX4_rain_185 : decode cX4_rain 185 = .ok (.getfield 13, 3) := by decide +kernel
theorem dX4_rain_188 : decode cX4_rain 188 = .ok (.iload_n 1, 1) := by decide +kernel
theorem dX4_rain_189 : decode cX4_rain 189 = .ok (.invokestatic 72, 3) := by decide +kernel
theorem dX4_rain_192 : decode cX4_rain 192 = .ok (.ifCond .eq 8, 3) := by decide +kernel
theorem dX4_rain_195 : decode cX4_rain 195 = .ok (.lload 10, 2) := by decide +kernel
theorem dX4_rain_197 : decode cX4_rain 197 = .ok (.goto 4, 3) := by decide +kernel
theorem dX4_rain_200 : decode cX4_rain 200 = .ok (.lconst 0, 1) := by decide +kernel
theorem dX4_rain_201 : decode cX4_rain 201 = .ok (.ladd, 1) := by decide +kernel
theorem dX4_rain_202 : decode cX4_rain 202 = .ok (.lstore 5, 2) := by decide +kernel
theorem dX4_rain_204 : decode cX4_rain 204 = .ok (.iinc 9 1, 3) := by decide +kernel
theorem dX4_rain_207 : decode cX4_rain 207 = .ok (.goto (-111), 3) := by decide +kernel
theorem dX4_rain_210 : decode cX4_rain 210 = .ok (.lload 5, 2) := by decide +kernel
theorem dX4_rain_212 : decode cX4_rain 212 = .ok (.lload 7, 2) := by decide +kernel
theorem dX4_rain_214 : decode cX4_rain 214 = .ok (.iload 4, 2) := by decide +kernel
theorem dX4_rain_216 : decode cX4_rain 216 = .ok (.invokestatic 179, 3) := by decide +kernel
theorem dX4_rain_219 : decode cX4_rain 219 = .ok (.lreturn, 1) := by decide +kernel
theorem dX4_softAll_0 : decode cX4_softAll 0 = .ok (.aload_n 0, 1) := by decide +kernel
theorem dX4_softAll_1 : decode cX4_softAll 1 = .ok (.aload_n 0, 1) := by decide +kernel
theorem dX4_softAll_2 : decode cX4_softAll 2 = .ok (.invokestatic 157, 3) := by decide +kernel
theorem dX4_softAll_5 : decode cX4_softAll 5 = .ok (.iconst 1, 1) := by decide +kernel
theorem dX4_softAll_6 : decode cX4_softAll 6 = .ok (.invokestatic 69, 3) := by decide +kernel
theorem dX4_softAll_9 : decode cX4_softAll 9 = .ok (.ireturn, 1) := by decide +kernel
theorem dX4_mean_0 : decode cX4_mean 0 = .ok (.iload_n 1, 1) := by decide +kernel
theorem dX4_mean_1 : decode cX4_mean 1 = .ok (.iconst 0, 1) := by decide +kernel
theorem dX4_mean_2 : decode cX4_mean 2 = .ok (.iconst 1, 1) := by decide +kernel
theorem dX4_mean_3 : decode cX4_mean 3 = .ok (.invokestatic 40, 3) := by decide +kernel
theorem dX4_mean_6 : decode cX4_mean 6 = .ok (.ifCond .ne 10, 3) := by decide +kernel
theorem dX4_mean_9 : decode cX4_mean 9 = .ok (.aload_n 0, 1) := by decide +kernel
theorem dX4_mean_10 : decode cX4_mean 10 = .ok (.bipush (-2), 2) := by decide +kernel
theorem dX4_mean_12 : decode cX4_mean 12 = .ok (.invokevirtual 171, 3) := by decide +kernel
theorem dX4_mean_15 : decode cX4_mean 15 = .ok (.lreturn, 1) := by decide +kernel
theorem dX4_mean_16 : decode cX4_mean 16 = .ok (.iconst 0, 1) := by decide +kernel
theorem dX4_mean_17 : decode cX4_mean 17 = .ok (.istore_n 2, 1) := by decide +kernel
theorem dX4_mean_18 : decode cX4_mean 18 = .ok (.iconst 0, 1) := by decide +kernel
theorem dX4_mean_19 : decode cX4_mean 19 = .ok (.istore_n 3, 1) := by decide +kernel
theorem dX4_mean_20 : decode cX4_mean 20 = .ok (.iload_n 3, 1) := by decide +kernel
theorem dX4_mean_21 : decode cX4_mean 21 = .ok (.iconst 4, 1) := by decide +kernel
theorem dX4_mean_22 : decode cX4_mean 22 = .ok (.if_icmp .ge 28, 3) := by decide +kernel
theorem dX4_mean_25 : decode cX4_mean 25 = .ok (.iload_n 2, 1) := by decide +kernel
theorem dX4_mean_26 : decode cX4_mean 26 = .ok (.aload_n 0, 1) := by decide +kernel
theorem dX4_mean_27 : decode cX4_mean 27 = .ok (.getfield 9, 3) := by decide +kernel
theorem dX4_mean_30 : decode cX4_mean 30 = .ok (.iload_n 3, 1) := by decide +kernel
theorem dX4_mean_31 : decode cX4_mean 31 = .ok (.invokestatic 72, 3) := by decide +kernel
theorem dX4_mean_34 : decode cX4_mean 34 = .ok (.ifCond .eq 7, 3) := by decide +kernel
theorem dX4_mean_37 : decode cX4_mean 37 = .ok (.iconst 1, 1) := by decide +kernel
theorem dX4_mean_38 : decode cX4_mean 38 = .ok (.goto 4, 3) := by decide +kernel
theorem dX4_mean_41 : decode cX4_mean 41 = .ok (.iconst 0, 1) := by decide +kernel
theorem dX4_mean_42 : decode cX4_mean 42 = .ok (.iadd, 1) := by decide +kernel
theorem dX4_mean_43 : decode cX4_mean 43 = .ok (.istore_n 2, 1) := by decide +kernel
theorem dX4_mean_44 : decode cX4_mean 44 = .ok (.iinc 3 1, 3) := by decide +kernel
theorem dX4_mean_47 : decode cX4_mean 47 = .ok (.goto (-27), 3) := by decide +kernel
theorem dX4_mean_50 : decode cX4_mean 50 = .ok (.aload_n 0, 1) := by decide +kernel
theorem dX4_mean_51 : decode cX4_mean 51 = .ok (.getfield 9, 3) := by decide +kernel
theorem dX4_mean_54 : decode cX4_mean 54 = .ok (.invokestatic 183, 3) := by decide +kernel
theorem dX4_mean_57 : decode cX4_mean 57 = .ok (.i2l, 1) := by decide +kernel
theorem dX4_mean_58 : decode cX4_mean 58 = .ok (.iload_n 2, 1) := by decide +kernel
theorem dX4_mean_59 : decode cX4_mean 59 = .ok (.i2l, 1) := by decide +kernel
theorem dX4_mean_60 : decode cX4_mean 60 = .ok (.iload_n 1, 1) := by decide +kernel
theorem dX4_mean_61 : decode cX4_mean 61 = .ok (.invokestatic 179, 3) := by decide +kernel
theorem dX4_mean_64 : decode cX4_mean 64 = .ok (.lreturn, 1) := by decide +kernel
theorem dX4_whatWas_0 : decode cX4_whatWas 0 = .ok (.aload_n 0, 1) := by decide +kernel
theorem dX4_whatWas_1 : decode cX4_whatWas 1 = .ok (.iload_n 1, 1) := by decide +kernel
theorem dX4_whatWas_2 : decode cX4_whatWas 2 = .ok (.invokevirtual 128, 3) := by decide +kernel
theorem dX4_whatWas_5 : decode cX4_whatWas 5 = .ok (.ifCond .ne 9, 3) := by decide +kernel
theorem dX4_whatWas_8 : decode cX4_whatWas 8 = .ok (.aload_n 0, 1) := by decide +kernel
theorem dX4_whatWas_9 : decode cX4_whatWas 9 = .ok (.iconst (-1), 1) := by decide +kernel
theorem dX4_whatWas_10 : decode cX4_whatWas 10 = .ok (.invokevirtual 36, 3) := by decide +kernel
theorem dX4_whatWas_13 : decode cX4_whatWas 13 = .ok (.ireturn, 1) := by decide +kernel
theorem dX4_whatWas_14 : decode cX4_whatWas 14 = .ok (.iload_n 2, 1) := by decide +kernel
theorem dX4_whatWas_15 : decode cX4_whatWas 15 = .ok (.iconst 0, 1) := by decide +kernel
theorem dX4_whatWas_16 : decode cX4_whatWas 16 = .ok (.iconst 1, 1) := by decide +kernel
theorem dX4_whatWas_17 : decode cX4_whatWas 17 = .ok (.invokestatic 40, 3) := by decide +kernel
theorem dX4_whatWas_20 : decode cX4_whatWas 20 = .ok (.ifCond .ne 10, 3) := by decide +kernel
theorem dX4_whatWas_23 : decode cX4_whatWas 23 = .ok (.aload_n 0, 1) := by decide +kernel
theorem dX4_whatWas_24 : decode cX4_whatWas 24 = .ok (.bipush (-2), 2) := by decide +kernel
theorem dX4_whatWas_26 : decode cX4_whatWas 26 = .ok (.invokevirtual 36, 3) := by decide +kernel
theorem dX4_whatWas_29 : decode cX4_whatWas 29 = .ok (.ireturn, 1) := by decide +kernel
theorem dX4_whatWas_30 : decode cX4_whatWas 30 = .ok (.aload_n 0, 1) := by decide +kernel
theorem dX4_whatWas_31 : decode cX4_whatWas 31 = .ok (.getfield 9, 3) := by decide +kernel
theorem dX4_whatWas_34 : decode cX4_whatWas 34 = .ok (.iload_n 1, 1) := by decide +kernel
theorem dX4_whatWas_35 : decode cX4_whatWas 35 = .ok (.iconst 2, 1) := by decide +kernel
theorem dX4_whatWas_36 : decode cX4_whatWas 36 = .ok (.invokestatic 44, 3) := by decide +kernel
theorem dX4_whatWas_39 : decode cX4_whatWas 39 = .ok (.iaload, 1) := by decide +kernel
theorem dX4_whatWas_40 : decode cX4_whatWas 40 = .ok (.istore_n 3, 1) := by decide +kernel
theorem dX4_whatWas_41 : decode cX4_whatWas 41 = .ok (.iconst 0, 1) := by decide +kernel
theorem dX4_whatWas_42 : decode cX4_whatWas 42 = .ok (.istore 4, 2) := by decide +kernel
theorem dX4_whatWas_44 : decode cX4_whatWas 44 = .ok (.iconst 0, 1) := by decide +kernel
theorem dX4_whatWas_45 : decode cX4_whatWas 45 = .ok (.istore 5, 2) := by decide +kernel
theorem dX4_whatWas_47 : decode cX4_whatWas 47 = .ok (.iload 5, 2) := by decide +kernel
theorem dX4_whatWas_49 : decode cX4_whatWas 49 = .ok (.iload_n 2, 1) := by decide +kernel
theorem dX4_whatWas_50 : decode cX4_whatWas 50 = .ok (.ifCond .ne 8, 3) := by decide +kernel
theorem dX4_whatWas_53 : decode cX4_whatWas 53 = .ok (.bipush 6, 2) := by decide +kernel
theorem dX4_whatWas_55 : decode cX4_whatWas 55 = .ok (.goto 5, 3) := by decide +kernel
theorem dX4_whatWas_58 : decode cX4_whatWas 58 = .ok (.bipush 10, 2) := by decide +kernel
theorem dX4_whatWas_60 : decode cX4_whatWas 60 = .ok (.if_icmp .ge 116, 3) := by decide +kernel
theorem dX4_whatWas_63 : decode cX4_whatWas 63 = .ok (.iconst 1, 1) := by decide +kernel
theorem dX4_whatWas_64 : decode cX4_whatWas 64 = .ok (.istore 6, 2) := by decide +kernel
theorem dX4_whatWas_66 : decode cX4_whatWas 66 = .ok (.aload_n 0, 1) := by decide +kernel
theorem dX4_whatWas_67 : decode cX4_whatWas 67 = .ok (.getfield 9, 3) := by decide +kernel
theorem dX4_whatWas_70 : decode cX4_whatWas 70 = .ok (.aload_n 0, 1) := by decide +kernel
theorem dX4_whatWas_71 : decode cX4_whatWas 71 = .ok (.getfield 13, 3) := by decide +kernel
theorem dX4_whatWas_74 : decode cX4_whatWas 74 = .ok (.invokestatic 137, 3) := by decide +kernel
theorem dX4_whatWas_77 : decode cX4_whatWas 77 = .ok (.aload_n 0, 1) := by decide +kernel
theorem dX4_whatWas_78 : decode cX4_whatWas 78 = .ok (.getfield 13, 3) := by decide +kernel
theorem dX4_whatWas_81 : decode cX4_whatWas 81 = .ok (.iload_n 1, 1) := by decide +kernel
theorem dX4_whatWas_82 : decode cX4_whatWas 82 = .ok (.iload_n 2, 1) := by decide +kernel
theorem dX4_whatWas_83 : decode cX4_whatWas 83 = .ok (.invokestatic 44, 3) := by decide +kernel
theorem dX4_whatWas_86 : decode cX4_whatWas 86 = .ok (.iload 5, 2) := by decide +kernel
theorem dX4_whatWas_88 : decode cX4_whatWas 88 = .ok (.iastore, 1) := by decide +kernel
theorem dX4_whatWas_89 : decode cX4_whatWas 89 = .ok (.iconst 0, 1) := by decide +kernel
theorem dX4_whatWas_90 : decode cX4_whatWas 90 = .ok (.istore 7, 2) := by decide +kernel
theorem dX4_whatWas_92 : decode cX4_whatWas 92 = .ok (.iload 7, 2) := by decide +kernel
theorem dX4_whatWas_94 : decode cX4_whatWas 94 = .ok (.aload_n 0, 1) := by decide +kernel
theorem dX4_whatWas_95 : decode cX4_whatWas 95 = .ok (.getfield 186, 3) := by decide +kernel
theorem dX4_whatWas_98 : decode cX4_whatWas 98 = .ok (.if_icmp .ge 54, 3) := by decide +kernel
theorem dX4_whatWas_101 : decode cX4_whatWas 101 = .ok (.iload 6, 2) := by decide +kernel
theorem dX4_whatWas_103 : decode cX4_whatWas 103 = .ok (.aload_n 0, 1) := by decide +kernel
theorem dX4_whatWas_104 : decode cX4_whatWas 104 = .ok (.getfield 13, 3) := by decide +kernel
theorem dX4_whatWas_107 : decode cX4_whatWas 107 = .ok (.aload_n 0, 1) := by decide +kernel
theorem dX4_whatWas_108 : decode cX4_whatWas 108 = .ok (.getfield 13, 3) := by decide +kernel
theorem dX4_whatWas_111 : decode cX4_whatWas 111 = .ok (.iload_n 3, 1) := by decide +kernel
theorem dX4_whatWas_112 : decode cX4_whatWas 112 = .ok (.invokestatic 72, 3) := by decide +kernel
theorem dX4_whatWas_115 : decode cX4_whatWas 115 = .ok (.iconst 1, 1) := by decide +kernel
theorem dX4_whatWas_116 : decode cX4_whatWas 116 = .ok (.invokestatic 69, 3) := by decide +kernel
theorem dX4_whatWas_119 : decode cX4_whatWas 119 = .ok (.aload_n 0, 1) := by decide +kernel
theorem dX4_whatWas_120 : decode cX4_whatWas 120 = .ok (.getfield 25, 3) := by decide +kernel
theorem dX4_whatWas_123 : decode cX4_whatWas 123 = .ok (.iload 7, 2) := by decide +kernel
theorem dX4_whatWas_125 : decode cX4_whatWas 125 = .ok (.iaload, 1) := by decide +kernel
theorem dX4_whatWas_126 : decode cX4_whatWas 126 = .ok (.if_icmp .ne 7, 3) := by decide +kernel
theorem dX4_whatWas_129 : decode cX4_whatWas 129 = .ok (.iconst 1, 1) := by decide +kernel
theorem dX4_whatWas_130 : decode cX4_whatWas 130 = .ok (.goto 4, 3) := by decide +kernel
theorem dX4_whatWas_133 : decode cX4_whatWas 133 = .ok (.iconst 0, 1) := by decide +kernel
theorem dX4_whatWas_134 : decode cX4_whatWas 134 = .ok (.iand, 1) := by decide +kernel
theorem dX4_whatWas_135 : decode cX4_whatWas 135 = .ok (.istore 6, 2) := by decide +kernel
theorem dX4_whatWas_137 : decode cX4_whatWas 137 = .ok (.aload_n 0, 1) := by decide +kernel
theorem dX4_whatWas_138 : decode cX4_whatWas 138 = .ok (.getfield 13, 3) := by decide +kernel
theorem dX4_whatWas_141 : decode cX4_whatWas 141 = .ok (.invokestatic 92, 3) := by decide +kernel
theorem dX4_whatWas_144 : decode cX4_whatWas 144 = .ok (.istore 8, 2) := by decide +kernel
theorem dX4_whatWas_146 : decode cX4_whatWas 146 = .ok (.iinc 7 1, 3) := by decide +kernel
theorem dX4_whatWas_149 : decode cX4_whatWas 149 = .ok (.goto (-57), 3) := by decide +kernel
theorem dX4_whatWas_152 : decode cX4_whatWas 152 = .ok (.iload 4, 2) := by decide +kernel
theorem dX4_whatWas_154 : decode cX4_whatWas 154 = .ok (.iload 6, 2) := by decide +kernel
theorem dX4_whatWas_156 : decode cX4_whatWas 156 = .ok (.ifCond .eq 10, 3) := by decide +kernel
theorem dX4_whatWas_159 : decode cX4_whatWas 159 = .ok (.iconst 1, 1) := by decide +kernel
theorem dX4_whatWas_160 : decode cX4_whatWas 160 = .ok (.iload 5, 2) := by decide +kernel
theorem dX4_whatWas_162 : decode cX4_whatWas 162 = .ok (.ishl, 1) := by decide +kernel
theorem dX4_whatWas_163 : decode cX4_whatWas 163 = .ok (.goto 4, 3) := by decide +kernel
theorem dX4_whatWas_166 : decode cX4_whatWas 166 = .ok (.iconst 0, 1) := by decide +kernel
theorem dX4_whatWas_167 : decode cX4_whatWas 167 = .ok (.ior, 1) := by decide +kernel
theorem dX4_whatWas_168 : decode cX4_whatWas 168 = .ok (.istore 4, 2) := by decide +kernel
theorem dX4_whatWas_170 : decode cX4_whatWas 170 = .ok (.iinc 5 1, 3) := by decide +kernel
theorem dX4_whatWas_173 : decode cX4_whatWas 173 = .ok (.goto (-126), 3) := by decide +kernel
theorem dX4_whatWas_176 : decode cX4_whatWas 176 = .ok (.iload 4, 2) := by decide +kernel
theorem dX4_whatWas_178 : decode cX4_whatWas 178 = .ok (.ireturn, 1) := by decide +kernel
theorem dX4_row_0 : decode cX4_row 0 = .ok (.iload_n 1, 1) := by decide +kernel
theorem dX4_row_1 : decode cX4_row 1 = .ok (.iconst 0, 1) := by decide +kernel
theorem dX4_row_2 : decode cX4_row 2 = .ok (.bipush 99, 2) := by decide +kernel
theorem dX4_row_4 : decode cX4_row 4 = .ok (.invokestatic 147, 3) := by decide +kernel
theorem dX4_row_7 : decode cX4_row 7 = .ok (.istore_n 2, 1) := by decide +kernel
theorem dX4_row_8 : decode cX4_row 8 = .ok (.iload_n 2, 1) := by decide +kernel
theorem dX4_row_9 : decode cX4_row 9 = .ok (.ifCond .ne 15, 3) := by decide +kernel
theorem dX4_row_12 : decode cX4_row 12 = .ok (.aload_n 0, 1) := by decide +kernel
theorem dX4_row_13 : decode cX4_row 13 = .ok (.getfield 186, 3) := by decide +kernel
theorem dX4_row_16 : decode cX4_row 16 = .ok (.bipush 16, 2) := by decide +kernel
theorem dX4_row_18 : decode cX4_row 18 = .ok (.if_icmp .ne 6, 3) := by decide +kernel
theorem dX4_row_21 : decode cX4_row 21 = .ok (.bipush (-6), 2) := by decide +kernel
theorem dX4_row_23 : decode cX4_row 23 = .ok (.istore_n 2, 1) := by decide +kernel
theorem dX4_row_24 : decode cX4_row 24 = .ok (.iload_n 2, 1) := by decide +kernel
theorem dX4_row_25 : decode cX4_row 25 = .ok (.ifCond .eq 9, 3) := by decide +kernel
theorem dX4_row_28 : decode cX4_row 28 = .ok (.aload_n 0, 1) := by decide +kernel
theorem dX4_row_29 : decode cX4_row 29 = .ok (.iload_n 2, 1) := by decide +kernel
theorem dX4_row_30 : decode cX4_row 30 = .ok (.invokevirtual 36, 3) := by decide +kernel
theorem dX4_row_33 : decode cX4_row 33 = .ok (.ireturn, 1) := by decide +kernel
theorem dX4_row_34 : decode cX4_row 34 = .ok (.aload_n 0, 1) := by decide +kernel
theorem dX4_row_35 : decode cX4_row 35 = .ok (.getfield 25, 3) := by decide +kernel
theorem dX4_row_38 : decode cX4_row 38 = .ok (.aload_n 0, 1) := by decide +kernel
theorem dX4_row_39 : decode cX4_row 39 = .ok (.getfield 186, 3) := by decide +kernel
theorem dX4_row_42 : decode cX4_row 42 = .ok (.iload_n 1, 1) := by decide +kernel
theorem dX4_row_43 : decode cX4_row 43 = .ok (.iastore, 1) := by decide +kernel
theorem dX4_row_44 : decode cX4_row 44 = .ok (.aload_n 0, 1) := by decide +kernel
theorem dX4_row_45 : decode cX4_row 45 = .ok (.dup, 1) := by decide +kernel
theorem dX4_row_46 : decode cX4_row 46 = .ok (.getfield 186, 3) := by decide +kernel
theorem dX4_row_49 : decode cX4_row 49 = .ok (.iconst 1, 1) := by decide +kernel
theorem dX4_row_50 : decode cX4_row 50 = .ok (.iadd, 1) := by decide +kernel
theorem dX4_row_51 : decode cX4_row 51 = .ok (.putfield 186, 3) := by decide +kernel
theorem dX4_row_54 : decode cX4_row 54 = .ok (.aload_n 0, 1) := by decide +kernel
theorem dX4_row_55 : decode cX4_row 55 = .ok (.getfield 186, 3) := by decide +kernel
theorem dX4_row_58 : decode cX4_row 58 = .ok (.ireturn, 1) := by decide +kernel
theorem dX4_judge_0 : decode cX4_judge 0 = .ok (.aload_n 0, 1) := by decide +kernel
theorem dX4_judge_1 : decode cX4_judge 1 = .ok (.getfield 186, 3) := by decide +kernel
theorem dX4_judge_4 : decode cX4_judge 4 = .ok (.istore_n 1, 1) := by decide +kernel
theorem dX4_judge_5 : decode cX4_judge 5 = .ok (.aload_n 0, 1) := by decide +kernel
theorem dX4_judge_6 : decode cX4_judge 6 = .ok (.iconst 0, 1) := by decide +kernel
theorem dX4_judge_7 : decode cX4_judge 7 = .ok (.putfield 186, 3) := by decide +kernel
theorem dX4_judge_10 : decode cX4_judge 10 = .ok (.aload_n 0, 1) := by decide +kernel
theorem dX4_judge_11 : decode cX4_judge 11 = .ok (.getfield 9, 3) := by decide +kernel
theorem dX4_judge_14 : decode cX4_judge 14 = .ok (.aload_n 0, 1) := by decide +kernel
theorem dX4_judge_15 : decode cX4_judge 15 = .ok (.getfield 13, 3) := by decide +kernel
theorem dX4_judge_18 : decode cX4_judge 18 = .ok (.invokestatic 137, 3) := by decide +kernel
theorem dX4_judge_21 : decode cX4_judge 21 = .ok (.iconst 0, 1) := by decide +kernel
theorem dX4_judge_22 : decode cX4_judge 22 = .ok (.istore_n 2, 1) := by decide +kernel
theorem dX4_judge_23 : decode cX4_judge 23 = .ok (.iload_n 2, 1) := by decide +kernel
theorem dX4_judge_24 : decode cX4_judge 24 = .ok (.iload_n 1, 1) := by decide +kernel
theorem dX4_judge_25 : decode cX4_judge 25 = .ok (.if_icmp .ge 38, 3) := by decide +kernel
theorem dX4_judge_28 : decode cX4_judge 28 = .ok (.aload_n 0, 1) := by decide +kernel
theorem dX4_judge_29 : decode cX4_judge 29 = .ok (.getfield 13, 3) := by decide +kernel
theorem dX4_judge_32 : decode cX4_judge 32 = .ok (.invokestatic 157, 3) := by decide +kernel
theorem dX4_judge_35 : decode cX4_judge 35 = .ok (.invokestatic 96, 3) := by decide +kernel
theorem dX4_judge_38 : decode cX4_judge 38 = .ok (.aload_n 0, 1) := by decide +kernel
theorem dX4_judge_39 : decode cX4_judge 39 = .ok (.getfield 25, 3) := by decide +kernel
theorem dX4_judge_42 : decode cX4_judge 42 = .ok (.iload_n 2, 1) := by decide +kernel
theorem dX4_judge_43 : decode cX4_judge 43 = .ok (.iaload, 1) := by decide +kernel
theorem dX4_judge_44 : decode cX4_judge 44 = .ok (.if_icmp .eq 5, 3) := by decide +kernel
theorem dX4_judge_47 : decode cX4_judge 47 = .ok (.iload_n 2, 1) := by decide +kernel
theorem dX4_judge_48 : decode cX4_judge 48 = .ok (.ireturn, 1) := by decide +kernel
theorem dX4_judge_49 : decode cX4_judge 49 = .ok (.aload_n 0, 1) := by decide +kernel
theorem dX4_judge_50 : decode cX4_judge 50 = .ok (.getfield 13, 3) := by decide +kernel
theorem dX4_judge_53 : decode cX4_judge 53 = .ok (.invokestatic 92, 3) := by decide +kernel
theorem dX4_judge_56 : decode cX4_judge 56 = .ok (.istore_n 3, 1) := by decide +kernel
theorem dX4_judge_57 : decode cX4_judge 57 = .ok (.iinc 2 1, 3) := by decide +kernel
theorem dX4_judge_60 : decode cX4_judge 60 = .ok (.goto (-37), 3) := by decide +kernel
theorem dX4_judge_63 : decode cX4_judge 63 = .ok (.bipush (-9), 2) := by decide +kernel
theorem dX4_judge_65 : decode cX4_judge 65 = .ok (.ireturn, 1) := by decide +kernel
theorem dX4_clear_0 : decode cX4_clear 0 = .ok (.aload_n 0, 1) := by decide +kernel
theorem dX4_clear_1 : decode cX4_clear 1 = .ok (.getfield 186, 3) := by decide +kernel
theorem dX4_clear_4 : decode cX4_clear 4 = .ok (.istore_n 1, 1) := by decide +kernel
theorem dX4_clear_5 : decode cX4_clear 5 = .ok (.aload_n 0, 1) := by decide +kernel
theorem dX4_clear_6 : decode cX4_clear 6 = .ok (.iconst 0, 1) := by decide +kernel
theorem dX4_clear_7 : decode cX4_clear 7 = .ok (.putfield 186, 3) := by decide +kernel
theorem dX4_clear_10 : decode cX4_clear 10 = .ok (.iload_n 1, 1) := by decide +kernel
theorem dX4_clear_11 : decode cX4_clear 11 = .ok (.ireturn, 1) := by decide +kernel
theorem dX4_drawn_0 : decode cX4_drawn 0 = .ok (.aload_n 0, 1) := by decide +kernel
theorem dX4_drawn_1 : decode cX4_drawn 1 = .ok (.aload_n 0, 1) := by decide +kernel
theorem dX4_drawn_2 : decode cX4_drawn 2 = .ok (.getfield 189, 3) := by decide +kernel
theorem dX4_drawn_5 : decode cX4_drawn 5 = .ok (.ldc 192, 2) := by decide +kernel
theorem dX4_drawn_7 : decode cX4_drawn 7 = .ok (.imul, 1) := by decide +kernel
theorem dX4_drawn_8 : decode cX4_drawn 8 = .ok (.ldc 193, 2) := by decide +kernel
theorem dX4_drawn_10 : decode cX4_drawn 10 = .ok (.iadd, 1) := by decide +kernel
theorem dX4_drawn_11 : decode cX4_drawn 11 = .ok (.putfield 189, 3) := by decide +kernel
theorem dX4_drawn_14 : decode cX4_drawn 14 = .ok (.aload_n 0, 1) := by decide +kernel
theorem dX4_drawn_15 : decode cX4_drawn 15 = .ok (.getfield 189, 3) := by decide +kernel
theorem dX4_drawn_18 : decode cX4_drawn 18 = .ok (.ldc 194, 2) := by decide +kernel
theorem dX4_drawn_20 : decode cX4_drawn 20 = .ok (.iand, 1) := by decide +kernel
theorem dX4_drawn_21 : decode cX4_drawn 21 = .ok (.sipush 256, 3) := by decide +kernel
theorem dX4_drawn_24 : decode cX4_drawn 24 = .ok (.idiv, 1) := by decide +kernel
theorem dX4_drawn_25 : decode cX4_drawn 25 = .ok (.iload_n 1, 1) := by decide +kernel
theorem dX4_drawn_26 : decode cX4_drawn 26 = .ok (.irem, 1) := by decide +kernel
theorem dX4_drawn_27 : decode cX4_drawn 27 = .ok (.ireturn, 1) := by decide +kernel
theorem dX4_lots_0 : decode cX4_lots 0 = .ok (.iload_n 1, 1) := by decide +kernel
theorem dX4_lots_1 : decode cX4_lots 1 = .ok (.iconst 1, 1) := by decide +kernel
theorem dX4_lots_2 : decode cX4_lots 2 = .ok (.if_icmp .ge 10, 3) := by decide +kernel
theorem dX4_lots_5 : decode cX4_lots 5 = .ok (.aload_n 0, 1) := by decide +kernel
theorem dX4_lots_6 : decode cX4_lots 6 = .ok (.bipush (-4), 2) := by decide +kernel
theorem dX4_lots_8 : decode cX4_lots 8 = .ok (.invokevirtual 36, 3) := by decide +kernel
theorem dX4_lots_11 : decode cX4_lots 11 = .ok (.ireturn, 1) := by decide +kernel
theorem dX4_lots_12 : decode cX4_lots 12 = .ok (.iload_n 1, 1) := by decide +kernel
theorem dX4_lots_13 : decode cX4_lots 13 = .ok (.bipush 20, 2) := by decide +kernel
theorem dX4_lots_15 : decode cX4_lots 15 = .ok (.if_icmp .le 10, 3) := by decide +kernel
theorem dX4_lots_18 : decode cX4_lots 18 = .ok (.aload_n 0, 1) := by decide +kernel
theorem dX4_lots_19 : decode cX4_lots 19 = .ok (.bipush (-6), 2) := by decide +kernel
theorem dX4_lots_21 : decode cX4_lots 21 = .ok (.invokevirtual 36, 3) := by decide +kernel
theorem dX4_lots_24 : decode cX4_lots 24 = .ok (.ireturn, 1) := by decide +kernel
theorem dX4_lots_25 : decode cX4_lots 25 = .ok (.iload_n 3, 1) := by decide +kernel
theorem dX4_lots_26 : decode cX4_lots 26 = .ok (.iconst 0, 1) := by decide +kernel
theorem dX4_lots_27 : decode cX4_lots 27 = .ok (.iconst 1, 1) := by decide +kernel
theorem dX4_lots_28 : decode cX4_lots 28 = .ok (.invokestatic 40, 3) := by decide +kernel
theorem dX4_lots_31 : decode cX4_lots 31 = .ok (.ifCond .ne 10, 3) := by decide +kernel
theorem dX4_lots_34 : decode cX4_lots 34 = .ok (.aload_n 0, 1) := by decide +kernel
theorem dX4_lots_35 : decode cX4_lots 35 = .ok (.bipush (-2), 2) := by decide +kernel
theorem dX4_lots_37 : decode cX4_lots 37 = .ok (.invokevirtual 36, 3) := by decide +kernel
theorem dX4_lots_40 : decode cX4_lots 40 = .ok (.ireturn, 1) := by decide +kernel
theorem dX4_lots_41 : decode cX4_lots 41 = .ok (.aload_n 0, 1) := by decide +kernel
theorem dX4_lots_42 : decode cX4_lots 42 = .ok (.iload_n 2, 1) := by decide +kernel
theorem dX4_lots_43 : decode cX4_lots 43 = .ok (.putfield 189, 3) := by decide +kernel
theorem dX4_lots_46 : decode cX4_lots 46 = .ok (.iconst 0, 1) := by decide +kernel
theorem dX4_lots_47 : decode cX4_lots 47 = .ok (.istore 4, 2) := by decide +kernel
theorem dX4_lots_49 : decode cX4_lots 49 = .ok (.iconst 0, 1) := by decide +kernel
theorem dX4_lots_50 : decode cX4_lots 50 = .ok (.istore 5, 2) := by decide +kernel
theorem dX4_lots_52 : decode cX4_lots 52 = .ok (.iload 5, 2) := by decide +kernel
theorem dX4_lots_54 : decode cX4_lots 54 = .ok (.iload_n 1, 1) := by decide +kernel
theorem dX4_lots_55 : decode cX4_lots 55 = .ok (.if_icmp .ge 100, 3) := by decide +kernel
theorem dX4_lots_58 : decode cX4_lots 58 = .ok (.aload_n 0, 1) := by decide +kernel
theorem dX4_lots_59 : decode cX4_lots 59 = .ok (.getfield 9, 3) := by decide +kernel
theorem dX4_lots_62 : decode cX4_lots 62 = .ok (.aload_n 0, 1) := by decide +kernel
theorem dX4_lots_63 : decode cX4_lots 63 = .ok (.getfield 13, 3) := by decide +kernel
theorem dX4_lots_66 : decode cX4_lots 66 = .ok (.invokestatic 137, 3) := by decide +kernel
theorem dX4_lots_69 : decode cX4_lots 69 = .ok (.iconst 0, 1) := by decide +kernel
theorem dX4_lots_70 : decode cX4_lots 70 = .ok (.istore 6, 2) := by decide +kernel
theorem dX4_lots_72 : decode cX4_lots 72 = .ok (.iload 6, 2) := by decide +kernel
theorem dX4_lots_74 : decode cX4_lots 74 = .ok (.aload_n 0, 1) := by decide +kernel
theorem dX4_lots_75 : decode cX4_lots 75 = .ok (.getfield 9, 3) := by decide +kernel
theorem dX4_lots_78 : decode cX4_lots 78 = .ok (.iconst 0, 1) := by decide +kernel
theorem dX4_lots_79 : decode cX4_lots 79 = .ok (.iaload, 1) := by decide +kernel
theorem dX4_lots_80 : decode cX4_lots 80 = .ok (.if_icmp .ge 37, 3) := by decide +kernel
theorem dX4_lots_83 : decode cX4_lots 83 = .ok (.aload_n 0, 1) := by decide +kernel
theorem dX4_lots_84 : decode cX4_lots 84 = .ok (.getfield 13, 3) := by decide +kernel
theorem dX4_lots_87 : decode cX4_lots 87 = .ok (.iload 6, 2) := by decide +kernel
theorem dX4_lots_89 : decode cX4_lots 89 = .ok (.iconst 2, 1) := by decide +kernel
theorem dX4_lots_90 : decode cX4_lots 90 = .ok (.invokestatic 44, 3) := by decide +kernel
theorem dX4_lots_93 : decode cX4_lots 93 = .ok (.aload_n 0, 1) := by decide +kernel
theorem dX4_lots_94 : decode cX4_lots 94 = .ok (.iconst 4, 1) := by decide +kernel
theorem dX4_lots_95 : decode cX4_lots 95 = .ok (.invokevirtual 195, 3) := by decide +kernel
theorem dX4_lots_98 : decode cX4_lots 98 = .ok (.iastore, 1) := by decide +kernel
theorem dX4_lots_99 : decode cX4_lots 99 = .ok (.aload_n 0, 1) := by decide +kernel
theorem dX4_lots_100 : decode cX4_lots 100 = .ok (.getfield 13, 3) := by decide +kernel
theorem dX4_lots_103 : decode cX4_lots 103 = .ok (.iload 6, 2) := by decide +kernel
theorem dX4_lots_105 : decode cX4_lots 105 = .ok (.iconst 4, 1) := by decide +kernel
theorem dX4_lots_106 : decode cX4_lots 106 = .ok (.invokestatic 44, 3) := by decide +kernel
theorem dX4_lots_109 : decode cX4_lots 109 = .ok (.iconst 0, 1) := by decide +kernel
theorem dX4_lots_110 : decode cX4_lots 110 = .ok (.iastore, 1) := by decide +kernel
theorem dX4_lots_111 : decode cX4_lots 111 = .ok (.iinc 6 1, 3) := by decide +kernel
theorem dX4_lots_114 : decode cX4_lots 114 = .ok (.goto (-42), 3) := by decide +kernel
theorem dX4_lots_117 : decode cX4_lots 117 = .ok (.aload_n 0, 1) := by decide +kernel
theorem dX4_lots_118 : decode cX4_lots 118 = .ok (.getfield 13, 3) := by decide +kernel
theorem dX4_lots_121 : decode cX4_lots 121 = .ok (.bipush 15, 2) := by decide +kernel
theorem dX4_lots_123 : decode cX4_lots 123 = .ok (.invokestatic 131, 3) := by decide +kernel
theorem dX4_lots_126 : decode cX4_lots 126 = .ok (.istore 6, 2) := by decide +kernel
theorem dX4_lots_128 : decode cX4_lots 128 = .ok (.iload 4, 2) := by decide +kernel
theorem dX4_lots_130 : decode cX4_lots 130 = .ok (.iload_n 3, 1) := by decide +kernel
theorem dX4_lots_131 : decode cX4_lots 131 = .ok (.ifCond .ne 8, 3) := by decide +kernel
theorem dX4_lots_134 : decode cX4_lots 134 = .ok (.iload 6, 2) := by decide +kernel
theorem dX4_lots_136 : decode cX4_lots 136 = .ok (.goto 10, 3) := by decide +kernel
theorem dX4_lots_139 : decode cX4_lots 139 = .ok (.aload_n 0, 1) := by decide +kernel
theorem dX4_lots_140 : decode cX4_lots 140 = .ok (.getfield 13, 3) := by decide +kernel
theorem dX4_lots_143 : decode cX4_lots 143 = .ok (.invokestatic 183, 3) := by decide +kernel
theorem dX4_lots_146 : decode cX4_lots 146 = .ok (.iadd, 1) := by decide +kernel
theorem dX4_lots_147 : decode cX4_lots 147 = .ok (.istore 4, 2) := by decide +kernel
theorem dX4_lots_149 : decode cX4_lots 149 = .ok (.iinc 5 1, 3) := by decide +kernel
theorem dX4_lots_152 : decode cX4_lots 152 = .ok (.goto (-100), 3) := by decide +kernel
theorem dX4_lots_155 : decode cX4_lots 155 = .ok (.iload 4, 2) := by decide +kernel
theorem dX4_lots_157 : decode cX4_lots 157 = .ok (.ireturn, 1) := by decide +kernel
theorem dX4_image_0 : decode cX4_image 0 = .ok (.aload_n 0, 1) := by decide +kernel
theorem dX4_image_1 : decode cX4_image 1 = .ok (.getfield 9, 3) := by decide +kernel
theorem dX4_image_4 : decode cX4_image 4 = .ok (.aload_n 0, 1) := by decide +kernel
theorem dX4_image_5 : decode cX4_image 5 = .ok (.getfield 16, 3) := by decide +kernel
theorem dX4_image_8 : decode cX4_image 8 = .ok (.invokestatic 137, 3) := by decide +kernel
theorem dX4_image_11 : decode cX4_image 11 = .ok (.aload_n 0, 1) := by decide +kernel
theorem dX4_image_12 : decode cX4_image 12 = .ok (.iconst 1, 1) := by decide +kernel
theorem dX4_image_13 : decode cX4_image 13 = .ok (.putfield 198, 3) := by decide +kernel
theorem dX4_image_16 : decode cX4_image 16 = .ok (.aload_n 0, 1) := by decide +kernel
theorem dX4_image_17 : decode cX4_image 17 = .ok (.getfield 9, 3) := by decide +kernel
theorem dX4_image_20 : decode cX4_image 20 = .ok (.iconst 1, 1) := by decide +kernel
theorem dX4_image_21 : decode cX4_image 21 = .ok (.iaload, 1) := by decide +kernel
theorem dX4_image_22 : decode cX4_image 22 = .ok (.ireturn, 1) := by decide +kernel
theorem dX4_on_0 : decode cX4_on 0 = .ok (.aload_n 0, 1) := by decide +kernel
theorem dX4_on_1 : decode cX4_on 1 = .ok (.getfield 198, 3) := by decide +kernel
theorem dX4_on_4 : decode cX4_on 4 = .ok (.ifCond .ne 10, 3) := by decide +kernel
theorem dX4_on_7 : decode cX4_on 7 = .ok (.aload_n 0, 1) := by decide +kernel
theorem dX4_on_8 : decode cX4_on 8 = .ok (.bipush (-3), 2) := by decide +kernel
theorem dX4_on_10 : decode cX4_on 10 = .ok (.invokevirtual 36, 3) := by decide +kernel
theorem dX4_on_13 : decode cX4_on 13 = .ok (.ireturn, 1) := by decide +kernel
theorem dX4_on_14 : decode cX4_on 14 = .ok (.aload_n 0, 1) := by decide +kernel
theorem dX4_on_15 : decode cX4_on 15 = .ok (.getfield 16, 3) := by decide +kernel
theorem dX4_on_18 : decode cX4_on 18 = .ok (.aload_n 0, 1) := by decide +kernel
theorem dX4_on_19 : decode cX4_on 19 = .ok (.getfield 9, 3) := by decide +kernel
theorem dX4_on_22 : decode cX4_on 22 = .ok (.invokestatic 137, 3) := by decide +kernel
theorem dX4_on_25 : decode cX4_on 25 = .ok (.aload_n 0, 1) := by decide +kernel
theorem dX4_on_26 : decode cX4_on 26 = .ok (.getfield 9, 3) := by decide +kernel
theorem dX4_on_29 : decode cX4_on 29 = .ok (.iconst 1, 1) := by decide +kernel
theorem dX4_on_30 : decode cX4_on 30 = .ok (.iaload, 1) := by decide +kernel
theorem dX4_on_31 : decode cX4_on 31 = .ok (.ireturn, 1) := by decide +kernel
theorem dX4_count_0 : decode cX4_count 0 = .ok (.iload_n 1, 1) := by decide +kernel
theorem dX4_count_1 : decode cX4_count 1 = .ok (.bipush 11, 2) := by decide +kernel
theorem dX4_count_3 : decode cX4_count 3 = .ok (.bipush 16, 2) := by decide +kernel
theorem dX4_count_5 : decode cX4_count 5 = .ok (.invokestatic 40, 3) := by decide +kernel
theorem dX4_count_8 : decode cX4_count 8 = .ok (.ifCond .eq 13, 3) := by decide +kernel
theorem dX4_count_11 : decode cX4_count 11 = .ok (.aload_n 0, 1) := by decide +kernel
theorem dX4_count_12 : decode cX4_count 12 = .ok (.getfield 28, 3) := by decide +kernel
theorem dX4_count_15 : decode cX4_count 15 = .ok (.iload_n 1, 1) := by decide +kernel
theorem dX4_count_16 : decode cX4_count 16 = .ok (.bipush 10, 2) := by decide +kernel
theorem dX4_count_18 : decode cX4_count 18 = .ok (.isub, 1) := by decide +kernel
theorem dX4_count_19 : decode cX4_count 19 = .ok (.iaload, 1) := by decide +kernel
theorem dX4_count_20 : decode cX4_count 20 = .ok (.ireturn, 1) := by decide +kernel
theorem dX4_count_21 : decode cX4_count 21 = .ok (.iconst 0, 1) := by decide +kernel
theorem dX4_count_22 : decode cX4_count 22 = .ok (.istore_n 2, 1) := by decide +kernel
theorem dX4_count_23 : decode cX4_count 23 = .ok (.iload_n 1, 1) := by decide +kernel
theorem dX4_count_24 : decode cX4_count 24 = .ok (.tableswitch 114 0 7 #[48, 48, 48, 55, 63, 71, 104, 109], 48) := by decide +kernel
theorem dX4_count_72 : decode cX4_count 72 = .ok (.aload_n 0, 1) := by decide +kernel
theorem dX4_count_73 : decode cX4_count 73 = .ok (.getfield 9, 3) := by decide +kernel
theorem dX4_count_76 : decode cX4_count 76 = .ok (.iload_n 1, 1) := by decide +kernel
theorem dX4_count_77 : decode cX4_count 77 = .ok (.iaload, 1) := by decide +kernel
theorem dX4_count_78 : decode cX4_count 78 = .ok (.ireturn, 1) := by decide +kernel
theorem dX4_count_79 : decode cX4_count 79 = .ok (.aload_n 0, 1) := by decide +kernel
theorem dX4_count_80 : decode cX4_count 80 = .ok (.getfield 9, 3) := by decide +kernel
theorem dX4_count_83 : decode cX4_count 83 = .ok (.invokestatic 157, 3) := by decide +kernel
theorem dX4_count_86 : decode cX4_count 86 = .ok (.ireturn, 1) := by decide +kernel
theorem dX4_count_87 : decode cX4_count 87 = .ok (.aload_n 0, 1) := by decide +kernel
theorem dX4_count_88 : decode cX4_count 88 = .ok (.getfield 9, 3) := by decide +kernel
theorem dX4_count_91 : decode cX4_count 91 = .ok (.invokestatic 183, 3) := by decide +kernel
theorem dX4_count_94 : decode cX4_count 94 = .ok (.ireturn, 1) := by decide +kernel
theorem dX4_count_95 : decode cX4_count 95 = .ok (.iconst 0, 1) := by decide +kernel
theorem dX4_count_96 : decode cX4_count 96 = .ok (.istore_n 3, 1) := by decide +kernel
theorem dX4_count_97 : decode cX4_count 97 = .ok (.iload_n 3, 1) := by decide +kernel
theorem dX4_count_98 : decode cX4_count 98 = .ok (.aload_n 0, 1) := by decide +kernel
theorem dX4_count_99 : decode cX4_count 99 = .ok (.getfield 9, 3) := by decide +kernel
theorem dX4_count_102 : decode cX4_count 102 = .ok (.iconst 0, 1) := by decide +kernel
theorem dX4_count_103 : decode cX4_count 103 = .ok (.iaload, 1) := by decide +kernel
theorem dX4_count_104 : decode cX4_count 104 = .ok (.if_icmp .ge 22, 3) := by decide +kernel
theorem dX4_count_107 : decode cX4_count 107 = .ok (.iload_n 2, 1) := by decide +kernel
theorem dX4_count_108 : decode cX4_count 108 = .ok (.aload_n 0, 1) := by decide +kernel
theorem dX4_count_109 : decode cX4_count 109 = .ok (.getfield 9, 3) := by decide +kernel
theorem dX4_count_112 : decode cX4_count 112 = .ok (.iload_n 3, 1) := by decide +kernel
theorem dX4_count_113 : decode cX4_count 113 = .ok (.iconst 3, 1) := by decide +kernel
theorem dX4_count_114 : decode cX4_count 114 = .ok (.invokestatic 44, 3) := by decide +kernel
theorem dX4_count_117 : decode cX4_count 117 = .ok (.iaload, 1) := by decide +kernel
theorem dX4_count_118 : decode cX4_count 118 = .ok (.iadd, 1) := by decide +kernel
theorem dX4_count_119 : decode cX4_count 119 = .ok (.istore_n 2, 1) := by decide +kernel
theorem dX4_count_120 : decode cX4_count 120 = .ok (.iinc 3 1, 3) := by decide +kernel
theorem dX4_count_123 : decode cX4_count 123 = .ok (.goto (-26), 3) := by decide +kernel
theorem dX4_count_126 : decode cX4_count 126 = .ok (.iload_n 2, 1) := by decide +kernel
theorem dX4_count_127 : decode cX4_count 127 = .ok (.ireturn, 1) := by decide +kernel
theorem dX4_count_128 : decode cX4_count 128 = .ok (.aload_n 0, 1) := by decide +kernel
theorem dX4_count_129 : decode cX4_count 129 = .ok (.getfield 186, 3) := by decide +kernel
theorem dX4_count_132 : decode cX4_count 132 = .ok (.ireturn, 1) := by decide +kernel
theorem dX4_count_133 : decode cX4_count 133 = .ok (.aload_n 0, 1) := by decide +kernel
theorem dX4_count_134 : decode cX4_count 134 = .ok (.getfield 99, 3) := by decide +kernel
theorem dX4_count_137 : decode cX4_count 137 = .ok (.ireturn, 1) := by decide +kernel
theorem dX4_count_138 : decode cX4_count 138 = .ok (.bipush (-9), 2) := by decide +kernel
theorem dX4_count_140 : decode cX4_count 140 = .ok (.ireturn, 1) := by decide +kernel
theorem dJ6_bitCount_0f7a4_0 : decode cJ6_bitCount_0f7a4 0 = .ok (.iload_n 0, 1) := by decide +kernel
theorem dJ6_bitCount_0f7a4_1 : decode cJ6_bitCount_0f7a4 1 = .ok (.iload_n 0, 1) := by decide +kernel
theorem dJ6_bitCount_0f7a4_2 : decode cJ6_bitCount_0f7a4 2 = .ok (.iconst 1, 1) := by decide +kernel
theorem dJ6_bitCount_0f7a4_3 : decode cJ6_bitCount_0f7a4 3 = .ok (.iushr, 1) := by decide +kernel
theorem dJ6_bitCount_0f7a4_4 : decode cJ6_bitCount_0f7a4 4 = .ok (.ldc_w 265, 3) := by decide +kernel
theorem dJ6_bitCount_0f7a4_7 : decode cJ6_bitCount_0f7a4 7 = .ok (.iand, 1) := by decide +kernel
theorem dJ6_bitCount_0f7a4_8 : decode cJ6_bitCount_0f7a4 8 = .ok (.isub, 1) := by decide +kernel
theorem dJ6_bitCount_0f7a4_9 : decode cJ6_bitCount_0f7a4 9 = .ok (.istore_n 0, 1) := by decide +kernel
theorem dJ6_bitCount_0f7a4_10 : decode cJ6_bitCount_0f7a4 10 = .ok (.iload_n 0, 1) := by decide +kernel
theorem dJ6_bitCount_0f7a4_11 : decode cJ6_bitCount_0f7a4 11 = .ok (.ldc_w 266, 3) := by decide +kernel
theorem dJ6_bitCount_0f7a4_14 : decode cJ6_bitCount_0f7a4 14 = .ok (.iand, 1) := by decide +kernel
theorem dJ6_bitCount_0f7a4_15 : decode cJ6_bitCount_0f7a4 15 = .ok (.iload_n 0, 1) := by decide +kernel
theorem dJ6_bitCount_0f7a4_16 : decode cJ6_bitCount_0f7a4 16 = .ok (.iconst 2, 1) := by decide +kernel
theorem dJ6_bitCount_0f7a4_17 : decode cJ6_bitCount_0f7a4 17 = .ok (.iushr, 1) := by decide +kernel
theorem dJ6_bitCount_0f7a4_18 : decode cJ6_bitCount_0f7a4 18 = .ok (.ldc_w 266, 3) := by decide +kernel
theorem dJ6_bitCount_0f7a4_21 : decode cJ6_bitCount_0f7a4 21 = .ok (.iand, 1) := by decide +kernel
theorem dJ6_bitCount_0f7a4_22 : decode cJ6_bitCount_0f7a4 22 = .ok (.iadd, 1) := by decide +kernel
theorem dJ6_bitCount_0f7a4_23 : decode cJ6_bitCount_0f7a4 23 = .ok (.istore_n 0, 1) := by decide +kernel
theorem dJ6_bitCount_0f7a4_24 : decode cJ6_bitCount_0f7a4 24 = .ok (.iload_n 0, 1) := by decide +kernel
theorem dJ6_bitCount_0f7a4_25 : decode cJ6_bitCount_0f7a4 25 = .ok (.iload_n 0, 1) := by decide +kernel
theorem dJ6_bitCount_0f7a4_26 : decode cJ6_bitCount_0f7a4 26 = .ok (.iconst 4, 1) := by decide +kernel
theorem dJ6_bitCount_0f7a4_27 : decode cJ6_bitCount_0f7a4 27 = .ok (.iushr, 1) := by decide +kernel
theorem dJ6_bitCount_0f7a4_28 : decode cJ6_bitCount_0f7a4 28 = .ok (.iadd, 1) := by decide +kernel
theorem dJ6_bitCount_0f7a4_29 : decode cJ6_bitCount_0f7a4 29 = .ok (.ldc_w 267, 3) := by decide +kernel
theorem dJ6_bitCount_0f7a4_32 : decode cJ6_bitCount_0f7a4 32 = .ok (.iand, 1) := by decide +kernel
theorem dJ6_bitCount_0f7a4_33 : decode cJ6_bitCount_0f7a4 33 = .ok (.istore_n 0, 1) := by decide +kernel
theorem dJ6_bitCount_0f7a4_34 : decode cJ6_bitCount_0f7a4 34 = .ok (.iload_n 0, 1) := by decide +kernel
theorem dJ6_bitCount_0f7a4_35 : decode cJ6_bitCount_0f7a4 35 = .ok (.iload_n 0, 1) := by decide +kernel
theorem dJ6_bitCount_0f7a4_36 : decode cJ6_bitCount_0f7a4 36 = .ok (.bipush 8, 2) := by decide +kernel
theorem dJ6_bitCount_0f7a4_38 : decode cJ6_bitCount_0f7a4 38 = .ok (.iushr, 1) := by decide +kernel
theorem dJ6_bitCount_0f7a4_39 : decode cJ6_bitCount_0f7a4 39 = .ok (.iadd, 1) := by decide +kernel
theorem dJ6_bitCount_0f7a4_40 : decode cJ6_bitCount_0f7a4 40 = .ok (.istore_n 0, 1) := by decide +kernel
theorem dJ6_bitCount_0f7a4_41 : decode cJ6_bitCount_0f7a4 41 = .ok (.iload_n 0, 1) := by decide +kernel
theorem dJ6_bitCount_0f7a4_42 : decode cJ6_bitCount_0f7a4 42 = .ok (.iload_n 0, 1) := by decide +kernel
theorem dJ6_bitCount_0f7a4_43 : decode cJ6_bitCount_0f7a4 43 = .ok (.bipush 16, 2) := by decide +kernel
theorem dJ6_bitCount_0f7a4_45 : decode cJ6_bitCount_0f7a4 45 = .ok (.iushr, 1) := by decide +kernel
theorem dJ6_bitCount_0f7a4_46 : decode cJ6_bitCount_0f7a4 46 = .ok (.iadd, 1) := by decide +kernel
theorem dJ6_bitCount_0f7a4_47 : decode cJ6_bitCount_0f7a4 47 = .ok (.istore_n 0, 1) := by decide +kernel
theorem dJ6_bitCount_0f7a4_48 : decode cJ6_bitCount_0f7a4 48 = .ok (.iload_n 0, 1) := by decide +kernel
theorem dJ6_bitCount_0f7a4_49 : decode cJ6_bitCount_0f7a4 49 = .ok (.bipush 63, 2) := by decide +kernel
theorem dJ6_bitCount_0f7a4_51 : decode cJ6_bitCount_0f7a4 51 = .ok (.iand, 1) := by decide +kernel
theorem dJ6_bitCount_0f7a4_52 : decode cJ6_bitCount_0f7a4 52 = .ok (.ireturn, 1) := by decide +kernel
theorem dJ9_max_7cf53_0 : decode cJ9_max_7cf53 0 = .ok (.iload_n 0, 1) := by decide +kernel
theorem dJ9_max_7cf53_1 : decode cJ9_max_7cf53 1 = .ok (.iload_n 1, 1) := by decide +kernel
theorem dJ9_max_7cf53_2 : decode cJ9_max_7cf53 2 = .ok (.if_icmp .lt 7, 3) := by decide +kernel
theorem dJ9_max_7cf53_5 : decode cJ9_max_7cf53 5 = .ok (.iload_n 0, 1) := by decide +kernel
theorem dJ9_max_7cf53_6 : decode cJ9_max_7cf53 6 = .ok (.goto 4, 3) := by decide +kernel
theorem dJ9_max_7cf53_9 : decode cJ9_max_7cf53 9 = .ok (.iload_n 1, 1) := by decide +kernel
theorem dJ9_max_7cf53_10 : decode cJ9_max_7cf53 10 = .ok (.ireturn, 1) := by decide +kernel
theorem dJ9_max_f86c9_0 : decode cJ9_max_f86c9 0 = .ok (.lload_n 0, 1) := by decide +kernel
theorem dJ9_max_f86c9_1 : decode cJ9_max_f86c9 1 = .ok (.lload_n 2, 1) := by decide +kernel
theorem dJ9_max_f86c9_2 : decode cJ9_max_f86c9 2 = .ok (.lcmp, 1) := by decide +kernel
theorem dJ9_max_f86c9_3 : decode cJ9_max_f86c9 3 = .ok (.ifCond .lt 7, 3) := by decide +kernel
theorem dJ9_max_f86c9_6 : decode cJ9_max_f86c9 6 = .ok (.lload_n 0, 1) := by decide +kernel
theorem dJ9_max_f86c9_7 : decode cJ9_max_f86c9 7 = .ok (.goto 4, 3) := by decide +kernel
theorem dJ9_max_f86c9_10 : decode cJ9_max_f86c9 10 = .ok (.lload_n 2, 1) := by decide +kernel
theorem dJ9_max_f86c9_11 : decode cJ9_max_f86c9 11 = .ok (.lreturn, 1) := by decide +kernel
theorem dJ9_min_7cf53_0 : decode cJ9_min_7cf53 0 = .ok (.iload_n 0, 1) := by decide +kernel
theorem dJ9_min_7cf53_1 : decode cJ9_min_7cf53 1 = .ok (.iload_n 1, 1) := by decide +kernel
theorem dJ9_min_7cf53_2 : decode cJ9_min_7cf53 2 = .ok (.if_icmp .gt 7, 3) := by decide +kernel
theorem dJ9_min_7cf53_5 : decode cJ9_min_7cf53 5 = .ok (.iload_n 0, 1) := by decide +kernel
theorem dJ9_min_7cf53_6 : decode cJ9_min_7cf53 6 = .ok (.goto 4, 3) := by decide +kernel
theorem dJ9_min_7cf53_9 : decode cJ9_min_7cf53 9 = .ok (.iload_n 1, 1) := by decide +kernel
theorem dJ9_min_7cf53_10 : decode cJ9_min_7cf53 10 = .ok (.ireturn, 1) := by decide +kernel
