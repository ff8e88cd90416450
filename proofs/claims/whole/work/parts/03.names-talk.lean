theorem dX0_init_0 : decode cX0_init 0 = .ok (.aload_n 0, 1) := by decide +kernel
theorem dX0_init_1 : decode cX0_init 1 = .ok (.invokespecial 3, 3) := by decide +kernel
theorem dX0_init_4 : decode cX0_init 4 = .ok (.aload_n 0, 1) := by decide +kernel
theorem dX0_init_5 : decode cX0_init 5 = .ok (.bipush 96, 2) := by decide +kernel
theorem dX0_init_7 : decode cX0_init 7 = .ok (.newarray .int, 2) := by decide +kernel
theorem dX0_init_9 : decode cX0_init 9 = .ok (.putfield 9, 3) := by decide +kernel
theorem dX0_init_12 : decode cX0_init 12 = .ok (.aload_n 0, 1) := by decide +kernel
theorem dX0_init_13 : decode cX0_init 13 = .ok (.iconst 0, 1) := by decide +kernel
theorem dX0_init_14 : decode cX0_init 14 = .ok (.putfield 15, 3) := by decide +kernel
theorem dX0_init_17 : decode cX0_init 17 = .ok (.return_, 1) := by decide +kernel
theorem dX0_append_0 : decode cX0_append 0 = .ok (.aload_n 0, 1) := by decide +kernel
theorem dX0_append_1 : decode cX0_append 1 = .ok (.getfield 15, 3) := by decide +kernel
theorem dX0_append_4 : decode cX0_append 4 = .ok (.ifCond .lt 12, 3) := by decide +kernel
theorem dX0_append_7 : decode cX0_append 7 = .ok (.aload_n 0, 1) := by decide +kernel
theorem dX0_append_8 : decode cX0_append 8 = .ok (.getfield 15, 3) := by decide +kernel
theorem dX0_append_11 : decode cX0_append 11 = .ok (.bipush 96, 2) := by decide +kernel
theorem dX0_append_13 : decode cX0_append 13 = .ok (.if_icmp .lt 4, 3) := by decide +kernel
theorem dX0_append_16 : decode cX0_append 16 = .ok (.return_, 1) := by decide +kernel
theorem dX0_append_17 : decode cX0_append 17 = .ok (.aload_n 0, 1) := by decide +kernel
theorem dX0_append_18 : decode cX0_append 18 = .ok (.getfield 9, 3) := by decide +kernel
theorem dX0_append_21 : decode cX0_append 21 = .ok (.aload_n 0, 1) := by decide +kernel
theorem dX0_append_22 : decode cX0_append 22 = .ok (.getfield 15, 3) := by decide +kernel
theorem dX0_append_25 : decode cX0_append 25 = .ok (.iload_n 1, 1) := by decide +kernel
theorem dX0_append_26 : decode cX0_append 26 = .ok (.iastore, 1) := by decide +kernel
theorem dX0_append_27 : decode cX0_append 27 = .ok (.aload_n 0, 1) := by decide +kernel
theorem dX0_append_28 : decode cX0_append 28 = .ok (.dup, 1) := by decide +kernel
theorem dX0_append_29 : decode cX0_append 29 = .ok (.getfield 15, 3) := by decide +kernel
theorem dX0_append_32 : decode cX0_append 32 = .ok (.iconst 1, 1) := by decide +kernel
theorem dX0_append_33 : decode cX0_append 33 = .ok (.iadd, 1) := by decide +kernel
theorem dX0_append_34 : decode cX0_append 34 = .ok (.putfield 15, 3) := by decide +kernel
theorem dX0_append_37 : decode cX0_append 37 = .ok (.return_, 1) := by decide +kernel
theorem dX0_at_0 : decode cX0_at 0 = .ok (.iload_n 1, 1) := by decide +kernel
theorem dX0_at_1 : decode cX0_at 1 = .ok (.ifCond .lt 26, 3) := by decide +kernel
theorem dX0_at_4 : decode cX0_at 4 = .ok (.iload_n 1, 1) := by decide +kernel
theorem dX0_at_5 : decode cX0_at 5 = .ok (.aload_n 0, 1) := by decide +kernel
theorem dX0_at_6 : decode cX0_at 6 = .ok (.getfield 15, 3) := by decide +kernel
theorem dX0_at_9 : decode cX0_at 9 = .ok (.if_icmp .ge 18, 3) := by decide +kernel
theorem dX0_at_12 : decode cX0_at 12 = .ok (.iload_n 1, 1) := by decide +kernel
theorem dX0_at_13 : decode cX0_at 13 = .ok (.bipush 96, 2) := by decide +kernel
theorem dX0_at_15 : decode cX0_at 15 = .ok (.if_icmp .ge 12, 3) := by decide +kernel
theorem dX0_at_18 : decode cX0_at 18 = .ok (.aload_n 0, 1) := by decide +kernel
theorem dX0_at_19 : decode cX0_at 19 = .ok (.getfield 9, 3) := by decide +kernel
theorem dX0_at_22 : decode cX0_at 22 = .ok (.iload_n 1, 1) := by decide +kernel
theorem dX0_at_23 : decode cX0_at 23 = .ok (.iaload, 1) := by decide +kernel
theorem dX0_at_24 : decode cX0_at 24 = .ok (.goto 5, 3) := by decide +kernel
theorem dX0_at_27 : decode cX0_at 27 = .ok (.bipush (-9), 2) := by decide +kernel
theorem dX0_at_29 : decode cX0_at 29 = .ok (.ireturn, 1) := by decide +kernel
set_option maxRecDepth 20000 in
theorem ggX0_digitAt_X0_at : GoodIn wsX0_digitAt wsX0_at := goodIn_r _ [5, 6, 7, 8, 9] rfl (by decide +kernel)
set_option maxRecDepth 20000 in
theorem gX0_digitAt_X0_at : GoodIn wsX0_digitAt (wsV RX0 19 RX0 yX0_at wsX0_at) := goodIn_app (goodIn_r _ [1, 2, 3, 4] rfl (by decide +kernel)) ggX0_digitAt_X0_at
theorem dX0_digitAt_0 : decode cX0_digitAt 0 = .ok (.aload_n 0, 1) := by decide +kernel
theorem dX0_digitAt_1 : decode cX0_digitAt 1 = .ok (.iload_n 1, 1) := by decide +kernel
theorem dX0_digitAt_2 : decode cX0_digitAt 2 = .ok (.invokevirtual 19, 3) := by decide +kernel
theorem dX0_digitAt_5 : decode cX0_digitAt 5 = .ok (.bipush 48, 2) := by decide +kernel
theorem dX0_digitAt_7 : decode cX0_digitAt 7 = .ok (.isub, 1) := by decide +kernel
theorem dX0_digitAt_8 : decode cX0_digitAt 8 = .ok (.ireturn, 1) := by decide +kernel
theorem dX0_lengthOf_0 : decode cX0_lengthOf 0 = .ok (.iload_n 0, 1) := by decide +kernel
theorem dX0_lengthOf_1 : decode cX0_lengthOf 1 = .ok (.lookupswitch 65 #[(97, 61), (98, 63), (100, 61), (115, 59), (116, 63), (119, 61)], 59) := by decide +kernel
theorem dX0_lengthOf_60 : decode cX0_lengthOf 60 = .ok (.iconst 5, 1) := by decide +kernel
theorem dX0_lengthOf_61 : decode cX0_lengthOf 61 = .ok (.ireturn, 1) := by decide +kernel
theorem dX0_lengthOf_62 : decode cX0_lengthOf 62 = .ok (.iconst 4, 1) := by decide +kernel
theorem dX0_lengthOf_63 : decode cX0_lengthOf 63 = .ok (.ireturn, 1) := by decide +kernel
theorem dX0_lengthOf_64 : decode cX0_lengthOf 64 = .ok (.iconst 3, 1) := by decide +kernel
theorem dX0_lengthOf_65 : decode cX0_lengthOf 65 = .ok (.ireturn, 1) := by decide +kernel
theorem dX0_lengthOf_66 : decode cX0_lengthOf 66 = .ok (.iconst 0, 1) := by decide +kernel
theorem dX0_lengthOf_67 : decode cX0_lengthOf 67 = .ok (.ireturn, 1) := by decide +kernel
set_option maxRecDepth 20000 in
theorem ggX0_fits_X0_lengthOf : GoodIn wsX0_fits wsX0_lengthOf := goodIn_r _ [4] rfl (by decide +kernel)
set_option maxRecDepth 20000 in
theorem gX0_fits_X0_lengthOf : GoodIn wsX0_fits (va_wsS RX0 23 yX0_lengthOf wsX0_lengthOf) := goodIn_app (goodIn_r _ [1, 2, 3] rfl (by decide +kernel)) ggX0_fits_X0_lengthOf
set_option maxRecDepth 20000 in
theorem ggX0_fits_X1_ofLetter : GoodIn wsX0_fits wsX1_ofLetter := goodIn_r _ [8] rfl (by decide +kernel)
set_option maxRecDepth 20000 in
theorem gX0_fits_X1_ofLetter : GoodIn wsX0_fits (va_wsS RX0 26 yX1_ofLetter wsX1_ofLetter) := goodIn_app (goodIn_r _ [5, 6, 7] rfl (by decide +kernel)) ggX0_fits_X1_ofLetter
theorem dX0_fits_0 : decode cX0_fits 0 = .ok (.iload_n 2, 1) := by decide +kernel
theorem dX0_fits_1 : decode cX0_fits 1 = .ok (.ifCond .ne 16, 3) := by decide +kernel
theorem dX0_fits_4 : decode cX0_fits 4 = .ok (.iload_n 0, 1) := by decide +kernel
theorem dX0_fits_5 : decode cX0_fits 5 = .ok (.invokestatic 23, 3) := by decide +kernel
theorem dX0_fits_8 : decode cX0_fits 8 = .ok (.ifCond .le 7, 3) := by decide +kernel
theorem dX0_fits_11 : decode cX0_fits 11 = .ok (.iconst 1, 1) := by decide +kernel
theorem dX0_fits_12 : decode cX0_fits 12 = .ok (.goto 4, 3) := by decide +kernel
theorem dX0_fits_15 : decode cX0_fits 15 = .ok (.iconst 0, 1) := by decide +kernel
theorem dX0_fits_16 : decode cX0_fits 16 = .ok (.ireturn, 1) := by decide +kernel
theorem dX0_fits_17 : decode cX0_fits 17 = .ok (.iload_n 2, 1) := by decide +kernel
theorem dX0_fits_18 : decode cX0_fits 18 = .ok (.iload_n 1, 1) := by decide +kernel
theorem dX0_fits_19 : decode cX0_fits 19 = .ok (.invokestatic 23, 3) := by decide +kernel
theorem dX0_fits_22 : decode cX0_fits 22 = .ok (.iconst 1, 1) := by decide +kernel
theorem dX0_fits_23 : decode cX0_fits 23 = .ok (.isub, 1) := by decide +kernel
theorem dX0_fits_24 : decode cX0_fits 24 = .ok (.if_icmp .ne 15, 3) := by decide +kernel
theorem dX0_fits_27 : decode cX0_fits 27 = .ok (.iload_n 0, 1) := by decide +kernel
theorem dX0_fits_28 : decode cX0_fits 28 = .ok (.bipush 59, 2) := by decide +kernel
theorem dX0_fits_30 : decode cX0_fits 30 = .ok (.if_icmp .ne 7, 3) := by decide +kernel
theorem dX0_fits_33 : decode cX0_fits 33 = .ok (.iconst 1, 1) := by decide +kernel
theorem dX0_fits_34 : decode cX0_fits 34 = .ok (.goto 4, 3) := by decide +kernel
theorem dX0_fits_37 : decode cX0_fits 37 = .ok (.iconst 0, 1) := by decide +kernel
theorem dX0_fits_38 : decode cX0_fits 38 = .ok (.ireturn, 1) := by decide +kernel
theorem dX0_fits_39 : decode cX0_fits 39 = .ok (.iload_n 1, 1) := by decide +kernel
theorem dX0_fits_40 : decode cX0_fits 40 = .ok (.bipush 115, 2) := by decide +kernel
theorem dX0_fits_42 : decode cX0_fits 42 = .ok (.if_icmp .ne 23, 3) := by decide +kernel
theorem dX0_fits_45 : decode cX0_fits 45 = .ok (.iload_n 2, 1) := by decide +kernel
theorem dX0_fits_46 : decode cX0_fits 46 = .ok (.iconst 1, 1) := by decide +kernel
theorem dX0_fits_47 : decode cX0_fits 47 = .ok (.if_icmp .ne 18, 3) := by decide +kernel
theorem dX0_fits_50 : decode cX0_fits 50 = .ok (.iload_n 0, 1) := by decide +kernel
theorem dX0_fits_51 : decode cX0_fits 51 = .ok (.invokestatic 26, 3) := by decide +kernel
theorem dX0_fits_54 : decode cX0_fits 54 = .ok (.bipush (-9), 2) := by decide +kernel
theorem dX0_fits_56 : decode cX0_fits 56 = .ok (.if_icmp .eq 7, 3) := by decide +kernel
theorem dX0_fits_59 : decode cX0_fits 59 = .ok (.iconst 1, 1) := by decide +kernel
theorem dX0_fits_60 : decode cX0_fits 60 = .ok (.goto 4, 3) := by decide +kernel
theorem dX0_fits_63 : decode cX0_fits 63 = .ok (.iconst 0, 1) := by decide +kernel
theorem dX0_fits_64 : decode cX0_fits 64 = .ok (.ireturn, 1) := by decide +kernel
theorem dX0_fits_65 : decode cX0_fits 65 = .ok (.iload_n 0, 1) := by decide +kernel
theorem dX0_fits_66 : decode cX0_fits 66 = .ok (.bipush 48, 2) := by decide +kernel
theorem dX0_fits_68 : decode cX0_fits 68 = .ok (.if_icmp .lt 13, 3) := by decide +kernel
theorem dX0_fits_71 : decode cX0_fits 71 = .ok (.iload_n 0, 1) := by decide +kernel
theorem dX0_fits_72 : decode cX0_fits 72 = .ok (.bipush 57, 2) := by decide +kernel
theorem dX0_fits_74 : decode cX0_fits 74 = .ok (.if_icmp .gt 7, 3) := by decide +kernel
theorem dX0_fits_77 : decode cX0_fits 77 = .ok (.iconst 1, 1) := by decide +kernel
theorem dX0_fits_78 : decode cX0_fits 78 = .ok (.goto 4, 3) := by decide +kernel
theorem dX0_fits_81 : decode cX0_fits 81 = .ok (.iconst 0, 1) := by decide +kernel
theorem dX0_fits_82 : decode cX0_fits 82 = .ok (.ireturn, 1) := by decide +kernel
set_option maxRecDepth 20000 in
theorem ggX0_placeOfWrongLetter_X0_at : GoodIn wsX0_placeOfWrongLetter wsX0_at := goodIn_r _ [6, 1, 7, 18, 19] rfl (by decide +kernel)
set_option maxRecDepth 20000 in
theorem gX0_placeOfWrongLetter_X0_at : GoodIn wsX0_placeOfWrongLetter (wsV RX0 19 RX0 yX0_at wsX0_at) := goodIn_app (goodIn_r _ [2, 3, 4, 5] rfl (by decide +kernel)) ggX0_placeOfWrongLetter_X0_at
set_option maxRecDepth 20000 in
theorem ggX0_placeOfWrongLetter_X0_fits : GoodIn wsX0_placeOfWrongLetter wsX0_fits := goodIn_r _ [10, 11, 12, 5, 13, 14, 15, 16, 17] rfl (by decide +kernel)
set_option maxRecDepth 20000 in
theorem gX0_placeOfWrongLetter_X0_fits : GoodIn wsX0_placeOfWrongLetter (va_wsS RX0 31 yX0_fits wsX0_fits) := goodIn_app (goodIn_r _ [8, 9, 5] rfl (by decide +kernel)) ggX0_placeOfWrongLetter_X0_fits
theorem dX0_placeOfWrongLetter_0 : decode cX0_placeOfWrongLetter 0 = .ok (.iconst 0, 1) := by decide +kernel
theorem dX0_placeOfWrongLetter_1 : decode cX0_placeOfWrongLetter 1 = .ok (.istore_n 1, 1) := by decide +kernel
theorem dX0_placeOfWrongLetter_2 : decode cX0_placeOfWrongLetter 2 = .ok (.iconst 0, 1) := by decide +kernel
theorem dX0_placeOfWrongLetter_3 : decode cX0_placeOfWrongLetter 3 = .ok (.istore_n 2, 1) := by decide +kernel
theorem dX0_placeOfWrongLetter_4 : decode cX0_placeOfWrongLetter 4 = .ok (.iload_n 2, 1) := by decide +kernel
theorem dX0_placeOfWrongLetter_5 : decode cX0_placeOfWrongLetter 5 = .ok (.aload_n 0, 1) := by decide +kernel
theorem dX0_placeOfWrongLetter_6 : decode cX0_placeOfWrongLetter 6 = .ok (.getfield 15, 3) := by decide +kernel
theorem dX0_placeOfWrongLetter_9 : decode cX0_placeOfWrongLetter 9 = .ok (.if_icmp .ge 44, 3) := by decide +kernel
theorem dX0_placeOfWrongLetter_12 : decode cX0_placeOfWrongLetter 12 = .ok (.aload_n 0, 1) := by decide +kernel
theorem dX0_placeOfWrongLetter_13 : decode cX0_placeOfWrongLetter 13 = .ok (.iload_n 2, 1) := by decide +kernel
theorem dX0_placeOfWrongLetter_14 : decode cX0_placeOfWrongLetter 14 = .ok (.invokevirtual 19, 3) := by decide +kernel
theorem dX0_placeOfWrongLetter_17 : decode cX0_placeOfWrongLetter 17 = .ok (.aload_n 0, 1) := by decide +kernel
theorem dX0_placeOfWrongLetter_18 : decode cX0_placeOfWrongLetter 18 = .ok (.iload_n 1, 1) := by decide +kernel
theorem dX0_placeOfWrongLetter_19 : decode cX0_placeOfWrongLetter 19 = .ok (.invokevirtual 19, 3) := by decide +kernel
theorem dX0_placeOfWrongLetter_22 : decode cX0_placeOfWrongLetter 22 = .ok (.iload_n 2, 1) := by decide +kernel
theorem dX0_placeOfWrongLetter_23 : decode cX0_placeOfWrongLetter 23 = .ok (.iload_n 1, 1) := by decide +kernel
theorem dX0_placeOfWrongLetter_24 : decode cX0_placeOfWrongLetter 24 = .ok (.isub, 1) := by decide +kernel
theorem dX0_placeOfWrongLetter_25 : decode cX0_placeOfWrongLetter 25 = .ok (.invokestatic 31, 3) := by decide +kernel
theorem dX0_placeOfWrongLetter_28 : decode cX0_placeOfWrongLetter 28 = .ok (.ifCond .ne 5, 3) := by decide +kernel
theorem dX0_placeOfWrongLetter_31 : decode cX0_placeOfWrongLetter 31 = .ok (.iload_n 2, 1) := by decide +kernel
theorem dX0_placeOfWrongLetter_32 : decode cX0_placeOfWrongLetter 32 = .ok (.ireturn, 1) := by decide +kernel
theorem dX0_placeOfWrongLetter_33 : decode cX0_placeOfWrongLetter 33 = .ok (.aload_n 0, 1) := by decide +kernel
theorem dX0_placeOfWrongLetter_34 : decode cX0_placeOfWrongLetter 34 = .ok (.iload_n 2, 1) := by decide +kernel
theorem dX0_placeOfWrongLetter_35 : decode cX0_placeOfWrongLetter 35 = .ok (.invokevirtual 19, 3) := by decide +kernel
theorem dX0_placeOfWrongLetter_38 : decode cX0_placeOfWrongLetter 38 = .ok (.bipush 59, 2) := by decide +kernel
theorem dX0_placeOfWrongLetter_40 : decode cX0_placeOfWrongLetter 40 = .ok (.if_icmp .ne 7, 3) := by decide +kernel
theorem dX0_placeOfWrongLetter_43 : decode cX0_placeOfWrongLetter 43 = .ok (.iload_n 2, 1) := by decide +kernel
theorem dX0_placeOfWrongLetter_44 : decode cX0_placeOfWrongLetter 44 = .ok (.iconst 1, 1) := by decide +kernel
theorem dX0_placeOfWrongLetter_45 : decode cX0_placeOfWrongLetter 45 = .ok (.iadd, 1) := by decide +kernel
theorem dX0_placeOfWrongLetter_46 : decode cX0_placeOfWrongLetter 46 = .ok (.istore_n 1, 1) := by decide +kernel
theorem dX0_placeOfWrongLetter_47 : decode cX0_placeOfWrongLetter 47 = .ok (.iinc 2 1, 3) := by decide +kernel
theorem dX0_placeOfWrongLetter_50 : decode cX0_placeOfWrongLetter 50 = .ok (.goto (-46), 3) := by decide +kernel
theorem dX0_placeOfWrongLetter_53 : decode cX0_placeOfWrongLetter 53 = .ok (.aload_n 0, 1) := by decide +kernel
theorem dX0_placeOfWrongLetter_54 : decode cX0_placeOfWrongLetter 54 = .ok (.getfield 15, 3) := by decide +kernel
theorem dX0_placeOfWrongLetter_57 : decode cX0_placeOfWrongLetter 57 = .ok (.ifCond .eq 11, 3) := by decide +kernel
theorem dX0_placeOfWrongLetter_60 : decode cX0_placeOfWrongLetter 60 = .ok (.iload_n 1, 1) := by decide +kernel
theorem dX0_placeOfWrongLetter_61 : decode cX0_placeOfWrongLetter 61 = .ok (.aload_n 0, 1) := by decide +kernel
theorem dX0_placeOfWrongLetter_62 : decode cX0_placeOfWrongLetter 62 = .ok (.getfield 15, 3) := by decide +kernel
theorem dX0_placeOfWrongLetter_65 : decode cX0_placeOfWrongLetter 65 = .ok (.if_icmp .ge 10, 3) := by decide +kernel
theorem dX0_placeOfWrongLetter_68 : decode cX0_placeOfWrongLetter 68 = .ok (.aload_n 0, 1) := by decide +kernel
theorem dX0_placeOfWrongLetter_69 : decode cX0_placeOfWrongLetter 69 = .ok (.getfield 15, 3) := by decide +kernel
theorem dX0_placeOfWrongLetter_72 : decode cX0_placeOfWrongLetter 72 = .ok (.goto 5, 3) := by decide +kernel
theorem dX0_placeOfWrongLetter_75 : decode cX0_placeOfWrongLetter 75 = .ok (.bipush (-9), 2) := by decide +kernel
theorem dX0_placeOfWrongLetter_77 : decode cX0_placeOfWrongLetter 77 = .ok (.ireturn, 1) := by decide +kernel
set_option maxRecDepth 20000 in
theorem ggX0_tellTo_X0_tellStatement : GoodIn wsX0_tellTo wsX0_tellStatement := goodIn_r _ [6, 7, 8, 9, 10, 11, 5, 12, 13, 14, 15, 16, 1, 17, 18, 19, 20, 21, 22, 23, 24, 25, 26, 27, 28, 29, 30, 31, 32, 33, 34, 35, 36, 37, 38, 39, 40, 41, 42, 43, 44, 45, 46, 47, 48, 49, 50, 51, 52, 53, 54, 55, 56, 57, 58, 59, 60, 61, 62, 63, 64, 65, 66, 67, 68, 69, 70, 71, 72, 73, 74, 75, 76, 77, 78, 79, 80, 81, 82, 83, 84, 85, 86, 87, 88, 89, 90, 91, 92, 93, 94, 95, 96, 97, 98, 99, 100, 101, 102, 108, 109, 110, 111, 112, 113, 114, 115, 116, 117, 118, 119, 106, 107] rfl (by decide +kernel)
set_option maxRecDepth 20000 in
theorem gX0_tellTo_X0_tellStatement : GoodIn wsX0_tellTo (wsV RX0 35 RX0 yX0_tellStatement wsX0_tellStatement) := goodIn_app (goodIn_r _ [2, 3, 4, 5] rfl (by decide +kernel)) ggX0_tellTo_X0_tellStatement
set_option maxRecDepth 20000 in
theorem ggX0_tellTo_X0_at : GoodIn wsX0_tellTo wsX0_at := goodIn_r _ [16, 1, 17, 106, 107] rfl (by decide +kernel)
set_option maxRecDepth 20000 in
theorem gX0_tellTo_X0_at : GoodIn wsX0_tellTo (wsV RX0 19 RX0 yX0_at wsX0_at) := goodIn_app (goodIn_r _ [13, 14, 15, 5] rfl (by decide +kernel)) ggX0_tellTo_X0_at
set_option maxRecDepth 20000 in
theorem ggX0_tellTo_X0_lengthOf : GoodIn wsX0_tellTo wsX0_lengthOf := goodIn_r _ [105] rfl (by decide +kernel)
set_option maxRecDepth 20000 in
theorem gX0_tellTo_X0_lengthOf : GoodIn wsX0_tellTo (va_wsS RX0 23 yX0_lengthOf wsX0_lengthOf) := goodIn_app (goodIn_r _ [103, 104, 5] rfl (by decide +kernel)) ggX0_tellTo_X0_lengthOf
theorem dX0_tellTo_0 : decode cX0_tellTo 0 = .ok (.iconst 0, 1) := by decide +kernel
theorem dX0_tellTo_1 : decode cX0_tellTo 1 = .ok (.istore_n 2, 1) := by decide +kernel
theorem dX0_tellTo_2 : decode cX0_tellTo 2 = .ok (.iconst 0, 1) := by decide +kernel
theorem dX0_tellTo_3 : decode cX0_tellTo 3 = .ok (.istore_n 3, 1) := by decide +kernel
theorem dX0_tellTo_4 : decode cX0_tellTo 4 = .ok (.iload_n 2, 1) := by decide +kernel
theorem dX0_tellTo_5 : decode cX0_tellTo 5 = .ok (.aload_n 0, 1) := by decide +kernel
theorem dX0_tellTo_6 : decode cX0_tellTo 6 = .ok (.getfield 15, 3) := by decide +kernel
theorem dX0_tellTo_9 : decode cX0_tellTo 9 = .ok (.if_icmp .ge 41, 3) := by decide +kernel
theorem dX0_tellTo_12 : decode cX0_tellTo 12 = .ok (.iload_n 3, 1) := by decide +kernel
theorem dX0_tellTo_13 : decode cX0_tellTo 13 = .ok (.bipush 96, 2) := by decide +kernel
theorem dX0_tellTo_15 : decode cX0_tellTo 15 = .ok (.if_icmp .ge 35, 3) := by decide +kernel
theorem dX0_tellTo_18 : decode cX0_tellTo 18 = .ok (.aload_n 0, 1) := by decide +kernel
theorem dX0_tellTo_19 : decode cX0_tellTo 19 = .ok (.aload_n 1, 1) := by decide +kernel
theorem dX0_tellTo_20 : decode cX0_tellTo 20 = .ok (.iload_n 2, 1) := by decide +kernel
theorem dX0_tellTo_21 : decode cX0_tellTo 21 = .ok (.invokevirtual 35, 3) := by decide +kernel
theorem dX0_tellTo_24 : decode cX0_tellTo 24 = .ok (.ifCond .ne 9, 3) := by decide +kernel
theorem dX0_tellTo_27 : decode cX0_tellTo 27 = .ok (.sipush (-2000), 3) := by decide +kernel
theorem dX0_tellTo_30 : decode cX0_tellTo 30 = .ok (.iload_n 2, 1) := by decide +kernel
theorem dX0_tellTo_31 : decode cX0_tellTo 31 = .ok (.isub, 1) := by decide +kernel
theorem dX0_tellTo_32 : decode cX0_tellTo 32 = .ok (.ireturn, 1) := by decide +kernel
theorem dX0_tellTo_33 : decode cX0_tellTo 33 = .ok (.iload_n 2, 1) := by decide +kernel
theorem dX0_tellTo_34 : decode cX0_tellTo 34 = .ok (.aload_n 0, 1) := by decide +kernel
theorem dX0_tellTo_35 : decode cX0_tellTo 35 = .ok (.iload_n 2, 1) := by decide +kernel
theorem dX0_tellTo_36 : decode cX0_tellTo 36 = .ok (.invokevirtual 19, 3) := by decide +kernel
theorem dX0_tellTo_39 : decode cX0_tellTo 39 = .ok (.invokestatic 23, 3) := by decide +kernel
theorem dX0_tellTo_42 : decode cX0_tellTo 42 = .ok (.iadd, 1) := by decide +kernel
theorem dX0_tellTo_43 : decode cX0_tellTo 43 = .ok (.istore_n 2, 1) := by decide +kernel
theorem dX0_tellTo_44 : decode cX0_tellTo 44 = .ok (.iinc 3 1, 3) := by decide +kernel
theorem dX0_tellTo_47 : decode cX0_tellTo 47 = .ok (.goto (-43), 3) := by decide +kernel
theorem dX0_tellTo_50 : decode cX0_tellTo 50 = .ok (.iload_n 3, 1) := by decide +kernel
theorem dX0_tellTo_51 : decode cX0_tellTo 51 = .ok (.ireturn, 1) := by decide +kernel
set_option maxRecDepth 20000 in
theorem ggX0_tellStatement_X0_digitAt : GoodIn wsX0_tellStatement wsX0_digitAt := goodIn_r _ [7, 8, 9, 10, 6, 11, 12, 13, 111, 112] rfl (by decide +kernel)
set_option maxRecDepth 20000 in
theorem gX0_tellStatement_X0_digitAt : GoodIn wsX0_tellStatement (wsV RX0 39 RX0 yX0_digitAt wsX0_digitAt) := goodIn_app (goodIn_r _ [3, 4, 5, 6] rfl (by decide +kernel)) ggX0_tellStatement_X0_digitAt
set_option maxRecDepth 20000 in
theorem ggX0_tellStatement_X0_at : GoodIn wsX0_tellStatement wsX0_at := goodIn_r _ [11, 12, 13, 111, 112] rfl (by decide +kernel)
set_option maxRecDepth 20000 in
theorem gX0_tellStatement_X0_at : GoodIn wsX0_tellStatement (wsV RX0 19 RX0 yX0_at wsX0_at) := goodIn_app (goodIn_r _ [8, 9, 10, 6] rfl (by decide +kernel)) ggX0_tellStatement_X0_at
set_option maxRecDepth 20000 in
theorem ggX0_tellStatement_X1_ofLetter : GoodIn wsX0_tellStatement wsX1_ofLetter := goodIn_r _ [17] rfl (by decide +kernel)
set_option maxRecDepth 20000 in
theorem gX0_tellStatement_X1_ofLetter : GoodIn wsX0_tellStatement (va_wsS RX0 26 yX1_ofLetter wsX1_ofLetter) := goodIn_app (goodIn_r _ [14, 15, 16] rfl (by decide +kernel)) ggX0_tellStatement_X1_ofLetter
set_option maxRecDepth 20000 in
theorem ggX0_tellStatement_X2_tellMore : GoodIn wsX0_tellStatement wsX2_tellMore := goodIn_r _ [22, 23, 24, 25, 26, 27, 28, 29, 30, 31, 32, 21, 33, 34, 35, 36, 37, 38, 39, 99, 100, 101, 102, 103, 104, 105, 106, 107, 108, 109, 110] rfl (by decide +kernel)
set_option maxRecDepth 20000 in
theorem gX0_tellStatement_X2_tellMore : GoodIn wsX0_tellStatement (wsV RX0 42 RX2 yX2_tellMore wsX2_tellMore) := goodIn_app (goodIn_r _ [18, 19, 20, 21] rfl (by decide +kernel)) ggX0_tellStatement_X2_tellMore
set_option maxRecDepth 20000 in
theorem ggX0_tellStatement_X2_knows : GoodIn wsX0_tellStatement wsX2_knows := goodIn_r _ [39, 23, 99, 100, 101, 102, 103, 104, 105, 106, 107, 108, 109, 110] rfl (by decide +kernel)
set_option maxRecDepth 20000 in
theorem gX0_tellStatement_X2_knows : GoodIn wsX0_tellStatement (wsV RX0 47 RX2 yX2_knows wsX2_knows) := goodIn_app (goodIn_r _ [40, 37, 38, 21] rfl (by decide +kernel)) ggX0_tellStatement_X2_knows
set_option maxRecDepth 20000 in
theorem ggX0_tellStatement_X2_turnOver : GoodIn wsX0_tellStatement wsX2_turnOver := goodIn_r _ [44, 35, 99, 100, 101, 102, 103, 104, 105, 106, 107, 108, 109, 110] rfl (by decide +kernel)
set_option maxRecDepth 20000 in
theorem gX0_tellStatement_X2_turnOver : GoodIn wsX0_tellStatement (wsV RX0 51 RX2 yX2_turnOver wsX2_turnOver) := goodIn_app (goodIn_r _ [41, 42, 43, 21] rfl (by decide +kernel)) ggX0_tellStatement_X2_turnOver
set_option maxRecDepth 20000 in
theorem ggX0_tellStatement_X3_isWoman : GoodIn wsX0_tellStatement wsX3_isWoman := goodIn_r _ [29] rfl (by decide +kernel)
set_option maxRecDepth 20000 in
theorem gX0_tellStatement_X3_isWoman_n57 : GoodIn wsX0_tellStatement (wsX3_isWoman) := ggX0_tellStatement_X3_isWoman
set_option maxRecDepth 20000 in
theorem ggX0_tellStatement_X2_sayAbout : GoodIn wsX0_tellStatement wsX2_sayAbout := goodIn_r _ [33, 34, 35, 36, 37, 38, 21, 39, 23, 27, 28, 29, 99, 100, 101, 102, 103, 104, 105, 106, 107, 108, 109, 110] rfl (by decide +kernel)
set_option maxRecDepth 20000 in
theorem gX0_tellStatement_X2_sayAbout : GoodIn wsX0_tellStatement (wsV RX0 60 RX2 yX2_sayAbout wsX2_sayAbout) := goodIn_app (goodIn_r _ [45, 31, 32, 21] rfl (by decide +kernel)) ggX0_tellStatement_X2_sayAbout
set_option maxRecDepth 20000 in
theorem ggX0_tellStatement_X2_bringDown : GoodIn wsX0_tellStatement wsX2_bringDown := goodIn_r _ [49, 35, 50, 51, 52, 53, 54, 55, 56, 57, 58, 59, 21, 60, 34, 99, 100, 101, 102, 103, 104, 105, 106, 107, 108, 109, 110] rfl (by decide +kernel)
set_option maxRecDepth 20000 in
theorem gX0_tellStatement_X2_bringDown : GoodIn wsX0_tellStatement (wsV RX0 64 RX2 yX2_bringDown wsX2_bringDown) := goodIn_app (goodIn_r _ [46, 47, 48, 21] rfl (by decide +kernel)) ggX0_tellStatement_X2_bringDown
set_option maxRecDepth 20000 in
theorem ggX0_tellStatement_X2_passDays : GoodIn wsX0_tellStatement wsX2_passDays := goodIn_r _ [64, 65, 66, 67, 21, 68, 69, 70, 35, 71, 72, 73, 74, 23, 26, 51, 52, 53, 54, 75, 76, 77, 78, 79, 80, 81, 82, 83, 34, 57, 58, 59, 60, 84, 85, 86, 87, 24, 88, 89, 90, 91, 25, 92, 93, 16, 94, 95, 96, 97, 98, 47, 48, 49, 50, 55, 56, 99, 100, 101, 102, 103, 104, 105, 106, 107, 108, 109, 110] rfl (by decide +kernel)
set_option maxRecDepth 20000 in
theorem gX0_tellStatement_X2_passDays : GoodIn wsX0_tellStatement (wsV RX0 71 RX2 yX2_passDays wsX2_passDays) := goodIn_app (goodIn_r _ [61, 62, 63, 21] rfl (by decide +kernel)) ggX0_tellStatement_X2_passDays
theorem dX0_tellStatement_0 : decode cX0_tellStatement 0 = .ok (.aload_n 0, 1) := by decide +kernel
theorem dX0_tellStatement_1 : decode cX0_tellStatement 1 = .ok (.iload_n 2, 1) := by decide +kernel
theorem dX0_tellStatement_2 : decode cX0_tellStatement 2 = .ok (.iconst 1, 1) := by decide +kernel
theorem dX0_tellStatement_3 : decode cX0_tellStatement 3 = .ok (.iadd, 1) := by decide +kernel
theorem dX0_tellStatement_4 : decode cX0_tellStatement 4 = .ok (.invokevirtual 39, 3) := by decide +kernel
theorem dX0_tellStatement_7 : decode cX0_tellStatement 7 = .ok (.istore_n 3, 1) := by decide +kernel
theorem dX0_tellStatement_8 : decode cX0_tellStatement 8 = .ok (.aload_n 0, 1) := by decide +kernel
theorem dX0_tellStatement_9 : decode cX0_tellStatement 9 = .ok (.iload_n 2, 1) := by decide +kernel
theorem dX0_tellStatement_10 : decode cX0_tellStatement 10 = .ok (.iconst 2, 1) := by decide +kernel
theorem dX0_tellStatement_11 : decode cX0_tellStatement 11 = .ok (.iadd, 1) := by decide +kernel
theorem dX0_tellStatement_12 : decode cX0_tellStatement 12 = .ok (.invokevirtual 39, 3) := by decide +kernel
theorem dX0_tellStatement_15 : decode cX0_tellStatement 15 = .ok (.istore 4, 2) := by decide +kernel
theorem dX0_tellStatement_17 : decode cX0_tellStatement 17 = .ok (.aload_n 0, 1) := by decide +kernel
theorem dX0_tellStatement_18 : decode cX0_tellStatement 18 = .ok (.iload_n 2, 1) := by decide +kernel
theorem dX0_tellStatement_19 : decode cX0_tellStatement 19 = .ok (.invokevirtual 19, 3) := by decide +kernel
theorem dX0_tellStatement_22 : decode cX0_tellStatement 22 = .ok (.lookupswitch 208 #[(97, 120), (98, 147), (100, 163), (115, 58), (116, 82), (119, 100)], 58) := by decide +kernel
theorem dX0_tellStatement_80 : decode cX0_tellStatement 80 = .ok (.aload_n 1, 1) := by decide +kernel
theorem dX0_tellStatement_81 : decode cX0_tellStatement 81 = .ok (.aload_n 0, 1) := by decide +kernel
theorem dX0_tellStatement_82 : decode cX0_tellStatement 82 = .ok (.iload_n 2, 1) := by decide +kernel
theorem dX0_tellStatement_83 : decode cX0_tellStatement 83 = .ok (.iconst 1, 1) := by decide +kernel
theorem dX0_tellStatement_84 : decode cX0_tellStatement 84 = .ok (.iadd, 1) := by decide +kernel
theorem dX0_tellStatement_85 : decode cX0_tellStatement 85 = .ok (.invokevirtual 19, 3) := by decide +kernel
theorem dX0_tellStatement_88 : decode cX0_tellStatement 88 = .ok (.invokestatic 26, 3) := by decide +kernel
theorem dX0_tellStatement_91 : decode cX0_tellStatement 91 = .ok (.iload 4, 2) := by decide +kernel
theorem dX0_tellStatement_93 : decode cX0_tellStatement 93 = .ok (.aload_n 0, 1) := by decide +kernel
theorem dX0_tellStatement_94 : decode cX0_tellStatement 94 = .ok (.iload_n 2, 1) := by decide +kernel
theorem dX0_tellStatement_95 : decode cX0_tellStatement 95 = .ok (.iconst 3, 1) := by decide +kernel
theorem dX0_tellStatement_96 : decode cX0_tellStatement 96 = .ok (.iadd, 1) := by decide +kernel
theorem dX0_tellStatement_97 : decode cX0_tellStatement 97 = .ok (.invokevirtual 39, 3) := by decide +kernel
theorem dX0_tellStatement_100 : decode cX0_tellStatement 100 = .ok (.invokevirtual 42, 3) := by decide +kernel
theorem dX0_tellStatement_103 : decode cX0_tellStatement 103 = .ok (.ireturn, 1) := by decide +kernel
theorem dX0_tellStatement_104 : decode cX0_tellStatement 104 = .ok (.aload_n 1, 1) := by decide +kernel
theorem dX0_tellStatement_105 : decode cX0_tellStatement 105 = .ok (.iload_n 3, 1) := by decide +kernel
theorem dX0_tellStatement_106 : decode cX0_tellStatement 106 = .ok (.invokevirtual 47, 3) := by decide +kernel
theorem dX0_tellStatement_109 : decode cX0_tellStatement 109 = .ok (.ifCond .ne 5, 3) := by decide +kernel
theorem dX0_tellStatement_112 : decode cX0_tellStatement 112 = .ok (.iconst 0, 1) := by decide +kernel
theorem dX0_tellStatement_113 : decode cX0_tellStatement 113 = .ok (.ireturn, 1) := by decide +kernel
theorem dX0_tellStatement_114 : decode cX0_tellStatement 114 = .ok (.aload_n 1, 1) := by decide +kernel
theorem dX0_tellStatement_115 : decode cX0_tellStatement 115 = .ok (.iload_n 3, 1) := by decide +kernel
theorem dX0_tellStatement_116 : decode cX0_tellStatement 116 = .ok (.invokevirtual 51, 3) := by decide +kernel
theorem dX0_tellStatement_119 : decode cX0_tellStatement 119 = .ok (.pop, 1) := by decide +kernel
theorem dX0_tellStatement_120 : decode cX0_tellStatement 120 = .ok (.iconst 1, 1) := by decide +kernel
theorem dX0_tellStatement_121 : decode cX0_tellStatement 121 = .ok (.ireturn, 1) := by decide +kernel
theorem dX0_tellStatement_122 : decode cX0_tellStatement 122 = .ok (.aload_n 1, 1) := by decide +kernel
theorem dX0_tellStatement_123 : decode cX0_tellStatement 123 = .ok (.iload_n 3, 1) := by decide +kernel
theorem dX0_tellStatement_124 : decode cX0_tellStatement 124 = .ok (.invokevirtual 47, 3) := by decide +kernel
theorem dX0_tellStatement_127 : decode cX0_tellStatement 127 = .ok (.ifCond .ne 5, 3) := by decide +kernel
theorem dX0_tellStatement_130 : decode cX0_tellStatement 130 = .ok (.iconst 0, 1) := by decide +kernel
theorem dX0_tellStatement_131 : decode cX0_tellStatement 131 = .ok (.ireturn, 1) := by decide +kernel
theorem dX0_tellStatement_132 : decode cX0_tellStatement 132 = .ok (.aload_n 1, 1) := by decide +kernel
theorem dX0_tellStatement_133 : decode cX0_tellStatement 133 = .ok (.getfield 54, 3) := by decide +kernel
theorem dX0_tellStatement_136 : decode cX0_tellStatement 136 = .ok (.iload_n 3, 1) := by decide +kernel
theorem dX0_tellStatement_137 : decode cX0_tellStatement 137 = .ok (.iload 4, 2) := by decide +kernel
theorem dX0_tellStatement_139 : decode cX0_tellStatement 139 = .ok (.iastore, 1) := by decide +kernel
theorem dX0_tellStatement_140 : decode cX0_tellStatement 140 = .ok (.iconst 1, 1) := by decide +kernel
theorem dX0_tellStatement_141 : decode cX0_tellStatement 141 = .ok (.ireturn, 1) := by decide +kernel
theorem dX0_tellStatement_142 : decode cX0_tellStatement 142 = .ok (.aload_n 1, 1) := by decide +kernel
theorem dX0_tellStatement_143 : decode cX0_tellStatement 143 = .ok (.iload_n 3, 1) := by decide +kernel
theorem dX0_tellStatement_144 : decode cX0_tellStatement 144 = .ok (.invokevirtual 47, 3) := by decide +kernel
theorem dX0_tellStatement_147 : decode cX0_tellStatement 147 = .ok (.ifCond .eq 11, 3) := by decide +kernel
theorem dX0_tellStatement_150 : decode cX0_tellStatement 150 = .ok (.iload 4, 2) := by decide +kernel
theorem dX0_tellStatement_152 : decode cX0_tellStatement 152 = .ok (.invokestatic 57, 3) := by decide +kernel
theorem dX0_tellStatement_155 : decode cX0_tellStatement 155 = .ok (.ifCond .ne 5, 3) := by decide +kernel
theorem dX0_tellStatement_158 : decode cX0_tellStatement 158 = .ok (.iconst 0, 1) := by decide +kernel
theorem dX0_tellStatement_159 : decode cX0_tellStatement 159 = .ok (.ireturn, 1) := by decide +kernel
theorem dX0_tellStatement_160 : decode cX0_tellStatement 160 = .ok (.aload_n 1, 1) := by decide +kernel
theorem dX0_tellStatement_161 : decode cX0_tellStatement 161 = .ok (.iload_n 3, 1) := by decide +kernel
theorem dX0_tellStatement_162 : decode cX0_tellStatement 162 = .ok (.iload 4, 2) := by decide +kernel
theorem dX0_tellStatement_164 : decode cX0_tellStatement 164 = .ok (.invokevirtual 60, 3) := by decide +kernel
theorem dX0_tellStatement_167 : decode cX0_tellStatement 167 = .ok (.iconst 1, 1) := by decide +kernel
theorem dX0_tellStatement_168 : decode cX0_tellStatement 168 = .ok (.ireturn, 1) := by decide +kernel
theorem dX0_tellStatement_169 : decode cX0_tellStatement 169 = .ok (.iload_n 3, 1) := by decide +kernel
theorem dX0_tellStatement_170 : decode cX0_tellStatement 170 = .ok (.invokestatic 57, 3) := by decide +kernel
theorem dX0_tellStatement_173 : decode cX0_tellStatement 173 = .ok (.ifCond .ne 5, 3) := by decide +kernel
theorem dX0_tellStatement_176 : decode cX0_tellStatement 176 = .ok (.iconst 0, 1) := by decide +kernel
theorem dX0_tellStatement_177 : decode cX0_tellStatement 177 = .ok (.ireturn, 1) := by decide +kernel
theorem dX0_tellStatement_178 : decode cX0_tellStatement 178 = .ok (.aload_n 1, 1) := by decide +kernel
theorem dX0_tellStatement_179 : decode cX0_tellStatement 179 = .ok (.iload_n 3, 1) := by decide +kernel
theorem dX0_tellStatement_180 : decode cX0_tellStatement 180 = .ok (.invokevirtual 64, 3) := by decide +kernel
theorem dX0_tellStatement_183 : decode cX0_tellStatement 183 = .ok (.iconst 1, 1) := by decide +kernel
theorem dX0_tellStatement_184 : decode cX0_tellStatement 184 = .ok (.ireturn, 1) := by decide +kernel
theorem dX0_tellStatement_185 : decode cX0_tellStatement 185 = .ok (.bipush 10, 2) := by decide +kernel
theorem dX0_tellStatement_187 : decode cX0_tellStatement 187 = .ok (.iload_n 3, 1) := by decide +kernel
theorem dX0_tellStatement_188 : decode cX0_tellStatement 188 = .ok (.imul, 1) := by decide +kernel
theorem dX0_tellStatement_189 : decode cX0_tellStatement 189 = .ok (.iload 4, 2) := by decide +kernel
theorem dX0_tellStatement_191 : decode cX0_tellStatement 191 = .ok (.iadd, 1) := by decide +kernel
theorem dX0_tellStatement_192 : decode cX0_tellStatement 192 = .ok (.istore 5, 2) := by decide +kernel
theorem dX0_tellStatement_194 : decode cX0_tellStatement 194 = .ok (.iload 5, 2) := by decide +kernel
theorem dX0_tellStatement_196 : decode cX0_tellStatement 196 = .ok (.iconst 1, 1) := by decide +kernel
theorem dX0_tellStatement_197 : decode cX0_tellStatement 197 = .ok (.if_icmp .lt 23, 3) := by decide +kernel
theorem dX0_tellStatement_200 : decode cX0_tellStatement 200 = .ok (.iload 5, 2) := by decide +kernel
theorem dX0_tellStatement_202 : decode cX0_tellStatement 202 = .ok (.bipush 60, 2) := by decide +kernel
theorem dX0_tellStatement_204 : decode cX0_tellStatement 204 = .ok (.if_icmp .gt 16, 3) := by decide +kernel
theorem dX0_tellStatement_207 : decode cX0_tellStatement 207 = .ok (.aload_n 1, 1) := by decide +kernel
theorem dX0_tellStatement_208 : decode cX0_tellStatement 208 = .ok (.getfield 68, 3) := by decide +kernel
theorem dX0_tellStatement_211 : decode cX0_tellStatement 211 = .ok (.iload 5, 2) := by decide +kernel
theorem dX0_tellStatement_213 : decode cX0_tellStatement 213 = .ok (.iadd, 1) := by decide +kernel
theorem dX0_tellStatement_214 : decode cX0_tellStatement 214 = .ok (.sipush 999, 3) := by decide +kernel
theorem dX0_tellStatement_217 : decode cX0_tellStatement 217 = .ok (.if_icmp .le 5, 3) := by decide +kernel
theorem dX0_tellStatement_220 : decode cX0_tellStatement 220 = .ok (.iconst 0, 1) := by decide +kernel
theorem dX0_tellStatement_221 : decode cX0_tellStatement 221 = .ok (.ireturn, 1) := by decide +kernel
theorem dX0_tellStatement_222 : decode cX0_tellStatement 222 = .ok (.aload_n 1, 1) := by decide +kernel
theorem dX0_tellStatement_223 : decode cX0_tellStatement 223 = .ok (.iload 5, 2) := by decide +kernel
theorem dX0_tellStatement_225 : decode cX0_tellStatement 225 = .ok (.invokevirtual 71, 3) := by decide +kernel
theorem dX0_tellStatement_228 : decode cX0_tellStatement 228 = .ok (.iconst 1, 1) := by decide +kernel
theorem dX0_tellStatement_229 : decode cX0_tellStatement 229 = .ok (.ireturn, 1) := by decide +kernel
theorem dX0_tellStatement_230 : decode cX0_tellStatement 230 = .ok (.iconst 0, 1) := by decide +kernel
theorem dX0_tellStatement_231 : decode cX0_tellStatement 231 = .ok (.ireturn, 1) := by decide +kernel
theorem dX1_softOfKind_0 : decode cX1_softOfKind 0 = .ok (.iload_n 0, 1) := by decide +kernel
theorem dX1_softOfKind_1 : decode cX1_softOfKind 1 = .ok (.tableswitch 62 1 5 #[35, 39, 41, 45, 47], 35) := by decide +kernel
theorem dX1_softOfKind_36 : decode cX1_softOfKind 36 = .ok (.iload_n 1, 1) := by decide +kernel
theorem dX1_softOfKind_37 : decode cX1_softOfKind 37 = .ok (.iconst 3, 1) := by decide +kernel
theorem dX1_softOfKind_38 : decode cX1_softOfKind 38 = .ok (.iadd, 1) := by decide +kernel
theorem dX1_softOfKind_39 : decode cX1_softOfKind 39 = .ok (.ireturn, 1) := by decide +kernel
theorem dX1_softOfKind_40 : decode cX1_softOfKind 40 = .ok (.iconst 0, 1) := by decide +kernel
theorem dX1_softOfKind_41 : decode cX1_softOfKind 41 = .ok (.ireturn, 1) := by decide +kernel
theorem dX1_softOfKind_42 : decode cX1_softOfKind 42 = .ok (.iload_n 1, 1) := by decide +kernel
theorem dX1_softOfKind_43 : decode cX1_softOfKind 43 = .ok (.iconst 2, 1) := by decide +kernel
theorem dX1_softOfKind_44 : decode cX1_softOfKind 44 = .ok (.idiv, 1) := by decide +kernel
theorem dX1_softOfKind_45 : decode cX1_softOfKind 45 = .ok (.ireturn, 1) := by decide +kernel
theorem dX1_softOfKind_46 : decode cX1_softOfKind 46 = .ok (.iconst 1, 1) := by decide +kernel
theorem dX1_softOfKind_47 : decode cX1_softOfKind 47 = .ok (.ireturn, 1) := by decide +kernel
theorem dX1_softOfKind_48 : decode cX1_softOfKind 48 = .ok (.iload_n 1, 1) := by decide +kernel
theorem dX1_softOfKind_49 : decode cX1_softOfKind 49 = .ok (.iconst 4, 1) := by decide +kernel
theorem dX1_softOfKind_50 : decode cX1_softOfKind 50 = .ok (.if_icmp .le 11, 3) := by decide +kernel
theorem dX1_softOfKind_53 : decode cX1_softOfKind 53 = .ok (.iconst 2, 1) := by decide +kernel
theorem dX1_softOfKind_54 : decode cX1_softOfKind 54 = .ok (.iload_n 1, 1) := by decide +kernel
theorem dX1_softOfKind_55 : decode cX1_softOfKind 55 = .ok (.iconst 3, 1) := by decide +kernel
theorem dX1_softOfKind_56 : decode cX1_softOfKind 56 = .ok (.iadd, 1) := by decide +kernel
theorem dX1_softOfKind_57 : decode cX1_softOfKind 57 = .ok (.imul, 1) := by decide +kernel
theorem dX1_softOfKind_58 : decode cX1_softOfKind 58 = .ok (.goto 4, 3) := by decide +kernel
theorem dX1_softOfKind_61 : decode cX1_softOfKind 61 = .ok (.iconst 0, 1) := by decide +kernel
theorem dX1_softOfKind_62 : decode cX1_softOfKind 62 = .ok (.ireturn, 1) := by decide +kernel
theorem dX1_softOfKind_63 : decode cX1_softOfKind 63 = .ok (.iload_n 1, 1) := by decide +kernel
theorem dX1_softOfKind_64 : decode cX1_softOfKind 64 = .ok (.ireturn, 1) := by decide +kernel
theorem dX1_bindsOfKind_0 : decode cX1_bindsOfKind 0 = .ok (.iload_n 0, 1) := by decide +kernel
theorem dX1_bindsOfKind_1 : decode cX1_bindsOfKind 1 = .ok (.tableswitch 49 1 5 #[35, 37, 49, 43, 35], 35) := by decide +kernel
theorem dX1_bindsOfKind_36 : decode cX1_bindsOfKind 36 = .ok (.iconst 0, 1) := by decide +kernel
theorem dX1_bindsOfKind_37 : decode cX1_bindsOfKind 37 = .ok (.ireturn, 1) := by decide +kernel
theorem dX1_bindsOfKind_38 : decode cX1_bindsOfKind 38 = .ok (.iload_n 1, 1) := by decide +kernel
theorem dX1_bindsOfKind_39 : decode cX1_bindsOfKind 39 = .ok (.iconst 2, 1) := by decide +kernel
theorem dX1_bindsOfKind_40 : decode cX1_bindsOfKind 40 = .ok (.idiv, 1) := by decide +kernel
theorem dX1_bindsOfKind_41 : decode cX1_bindsOfKind 41 = .ok (.iconst 2, 1) := by decide +kernel
theorem dX1_bindsOfKind_42 : decode cX1_bindsOfKind 42 = .ok (.iadd, 1) := by decide +kernel
theorem dX1_bindsOfKind_43 : decode cX1_bindsOfKind 43 = .ok (.ireturn, 1) := by decide +kernel
theorem dX1_bindsOfKind_44 : decode cX1_bindsOfKind 44 = .ok (.iload_n 1, 1) := by decide +kernel
theorem dX1_bindsOfKind_45 : decode cX1_bindsOfKind 45 = .ok (.iconst 2, 1) := by decide +kernel
theorem dX1_bindsOfKind_46 : decode cX1_bindsOfKind 46 = .ok (.idiv, 1) := by decide +kernel
theorem dX1_bindsOfKind_47 : decode cX1_bindsOfKind 47 = .ok (.iconst 5, 1) := by decide +kernel
theorem dX1_bindsOfKind_48 : decode cX1_bindsOfKind 48 = .ok (.iadd, 1) := by decide +kernel
theorem dX1_bindsOfKind_49 : decode cX1_bindsOfKind 49 = .ok (.ireturn, 1) := by decide +kernel
theorem dX1_bindsOfKind_50 : decode cX1_bindsOfKind 50 = .ok (.iconst 1, 1) := by decide +kernel
theorem dX1_bindsOfKind_51 : decode cX1_bindsOfKind 51 = .ok (.ireturn, 1) := by decide +kernel
theorem dX1_weighsOfKind_0 : decode cX1_weighsOfKind 0 = .ok (.iload_n 0, 1) := by decide +kernel
theorem dX1_weighsOfKind_1 : decode cX1_weighsOfKind 1 = .ok (.tableswitch 42 2 4 #[27, 29, 40], 27) := by decide +kernel
theorem dX1_weighsOfKind_28 : decode cX1_weighsOfKind 28 = .ok (.iconst 2, 1) := by decide +kernel
theorem dX1_weighsOfKind_29 : decode cX1_weighsOfKind 29 = .ok (.ireturn, 1) := by decide +kernel
theorem dX1_weighsOfKind_30 : decode cX1_weighsOfKind 30 = .ok (.iload_n 1, 1) := by decide +kernel
theorem dX1_weighsOfKind_31 : decode cX1_weighsOfKind 31 = .ok (.iconst 3, 1) := by decide +kernel
theorem dX1_weighsOfKind_32 : decode cX1_weighsOfKind 32 = .ok (.if_icmp .ge 7, 3) := by decide +kernel
theorem dX1_weighsOfKind_35 : decode cX1_weighsOfKind 35 = .ok (.iconst 0, 1) := by decide +kernel
theorem dX1_weighsOfKind_36 : decode cX1_weighsOfKind 36 = .ok (.goto 4, 3) := by decide +kernel
theorem dX1_weighsOfKind_39 : decode cX1_weighsOfKind 39 = .ok (.iconst 1, 1) := by decide +kernel
theorem dX1_weighsOfKind_40 : decode cX1_weighsOfKind 40 = .ok (.ireturn, 1) := by decide +kernel
theorem dX1_weighsOfKind_41 : decode cX1_weighsOfKind 41 = .ok (.iconst 3, 1) := by decide +kernel
theorem dX1_weighsOfKind_42 : decode cX1_weighsOfKind 42 = .ok (.ireturn, 1) := by decide +kernel
theorem dX1_weighsOfKind_43 : decode cX1_weighsOfKind 43 = .ok (.iconst 1, 1) := by decide +kernel
theorem dX1_weighsOfKind_44 : decode cX1_weighsOfKind 44 = .ok (.ireturn, 1) := by decide +kernel
theorem dX1_ofLetter_0 : decode cX1_ofLetter 0 = .ok (.iload_n 0, 1) := by decide +kernel
theorem dX1_ofLetter_1 : decode cX1_ofLetter 1 = .ok (.tableswitch 83 103 116 #[71, 77, 83, 83, 83, 81, 75, 83, 83, 73, 83, 83, 83, 79], 71) := by decide +kernel
theorem dX1_ofLetter_72 : decode cX1_ofLetter 72 = .ok (.iconst 0, 1) := by decide +kernel
theorem dX1_ofLetter_73 : decode cX1_ofLetter 73 = .ok (.ireturn, 1) := by decide +kernel
theorem dX1_ofLetter_74 : decode cX1_ofLetter 74 = .ok (.iconst 1, 1) := by decide +kernel
theorem dX1_ofLetter_75 : decode cX1_ofLetter 75 = .ok (.ireturn, 1) := by decide +kernel
theorem dX1_ofLetter_76 : decode cX1_ofLetter 76 = .ok (.iconst 2, 1) := by decide +kernel
theorem dX1_ofLetter_77 : decode cX1_ofLetter 77 = .ok (.ireturn, 1) := by decide +kernel
theorem dX1_ofLetter_78 : decode cX1_ofLetter 78 = .ok (.iconst 3, 1) := by decide +kernel
theorem dX1_ofLetter_79 : decode cX1_ofLetter 79 = .ok (.ireturn, 1) := by decide +kernel
theorem dX1_ofLetter_80 : decode cX1_ofLetter 80 = .ok (.iconst 4, 1) := by decide +kernel
theorem dX1_ofLetter_81 : decode cX1_ofLetter 81 = .ok (.ireturn, 1) := by decide +kernel
theorem dX1_ofLetter_82 : decode cX1_ofLetter 82 = .ok (.iconst 5, 1) := by decide +kernel
theorem dX1_ofLetter_83 : decode cX1_ofLetter 83 = .ok (.ireturn, 1) := by decide +kernel
theorem dX1_ofLetter_84 : decode cX1_ofLetter 84 = .ok (.bipush (-9), 2) := by decide +kernel
theorem dX1_ofLetter_86 : decode cX1_ofLetter 86 = .ok (.ireturn, 1) := by decide +kernel
theorem dX2_init_0 : decode cX2_init 0 = .ok (.aload_n 0, 1) := by decide +kernel
theorem dX2_init_1 : decode cX2_init 1 = .ok (.invokespecial 3, 3) := by decide +kernel
theorem dX2_init_4 : decode cX2_init 4 = .ok (.aload_n 0, 1) := by decide +kernel
theorem dX2_init_5 : decode cX2_init 5 = .ok (.iconst 0, 1) := by decide +kernel
theorem dX2_init_6 : decode cX2_init 6 = .ok (.putfield 9, 3) := by decide +kernel
theorem dX2_init_9 : decode cX2_init 9 = .ok (.aload_n 0, 1) := by decide +kernel
theorem dX2_init_10 : decode cX2_init 10 = .ok (.iconst 0, 1) := by decide +kernel
theorem dX2_init_11 : decode cX2_init 11 = .ok (.putfield 15, 3) := by decide +kernel
theorem dX2_init_14 : decode cX2_init 14 = .ok (.aload_n 0, 1) := by decide +kernel
theorem dX2_init_15 : decode cX2_init 15 = .ok (.iconst 0, 1) := by decide +kernel
theorem dX2_init_16 : decode cX2_init 16 = .ok (.putfield 18, 3) := by decide +kernel
theorem dX2_init_19 : decode cX2_init 19 = .ok (.aload_n 0, 1) := by decide +kernel
theorem dX2_init_20 : decode cX2_init 20 = .ok (.iconst 0, 1) := by decide +kernel
theorem dX2_init_21 : decode cX2_init 21 = .ok (.putfield 21, 3) := by decide +kernel
theorem dX2_init_24 : decode cX2_init 24 = .ok (.aload_n 0, 1) := by decide +kernel
theorem dX2_init_25 : decode cX2_init 25 = .ok (.iconst 0, 1) := by decide +kernel
theorem dX2_init_26 : decode cX2_init 26 = .ok (.putfield 24, 3) := by decide +kernel
theorem dX2_init_29 : decode cX2_init 29 = .ok (.aload_n 0, 1) := by decide +kernel
theorem dX2_init_30 : decode cX2_init 30 = .ok (.iconst 0, 1) := by decide +kernel
theorem dX2_init_31 : decode cX2_init 31 = .ok (.putfield 27, 3) := by decide +kernel
theorem dX2_init_34 : decode cX2_init 34 = .ok (.aload_n 0, 1) := by decide +kernel
theorem dX2_init_35 : decode cX2_init 35 = .ok (.iconst 0, 1) := by decide +kernel
theorem dX2_init_36 : decode cX2_init 36 = .ok (.putfield 30, 3) := by decide +kernel
theorem dX2_init_39 : decode cX2_init 39 = .ok (.aload_n 0, 1) := by decide +kernel
theorem dX2_init_40 : decode cX2_init 40 = .ok (.iconst 0, 1) := by decide +kernel
theorem dX2_init_41 : decode cX2_init 41 = .ok (.putfield 33, 3) := by decide +kernel
theorem dX2_init_44 : decode cX2_init 44 = .ok (.aload_n 0, 1) := by decide +kernel
theorem dX2_init_45 : decode cX2_init 45 = .ok (.bipush 9, 2) := by decide +kernel
theorem dX2_init_47 : decode cX2_init 47 = .ok (.newarray .int, 2) := by decide +kernel
theorem dX2_init_49 : decode cX2_init 49 = .ok (.putfield 36, 3) := by decide +kernel
theorem dX2_init_52 : decode cX2_init 52 = .ok (.aload_n 0, 1) := by decide +kernel
theorem dX2_init_53 : decode cX2_init 53 = .ok (.bipush 9, 2) := by decide +kernel
theorem dX2_init_55 : decode cX2_init 55 = .ok (.newarray .int, 2) := by decide +kernel
theorem dX2_init_57 : decode cX2_init 57 = .ok (.putfield 40, 3) := by decide +kernel
theorem dX2_init_60 : decode cX2_init 60 = .ok (.aload_n 0, 1) := by decide +kernel
theorem dX2_init_61 : decode cX2_init 61 = .ok (.bipush 9, 2) := by decide +kernel
theorem dX2_init_63 : decode cX2_init 63 = .ok (.newarray .int, 2) := by decide +kernel
theorem dX2_init_65 : decode cX2_init 65 = .ok (.putfield 43, 3) := by decide +kernel
theorem dX2_init_68 : decode cX2_init 68 = .ok (.aload_n 0, 1) := by decide +kernel
theorem dX2_init_69 : decode cX2_init 69 = .ok (.iconst 4, 1) := by decide +kernel
theorem dX2_init_70 : decode cX2_init 70 = .ok (.newarray .int, 2) := by decide +kernel
theorem dX2_init_72 : decode cX2_init 72 = .ok (.putfield 46, 3) := by decide +kernel
theorem dX2_init_75 : decode cX2_init 75 = .ok (.return_, 1) := by decide +kernel
theorem dX2_becomes_0 : decode cX2_becomes 0 = .ok (.aload_n 0, 1) := by decide +kernel
theorem dX2_becomes_1 : decode cX2_becomes 1 = .ok (.aload_n 1, 1) := by decide +kernel
theorem dX2_becomes_2 : decode cX2_becomes 2 = .ok (.getfield 9, 3) := by decide +kernel
theorem dX2_becomes_5 : decode cX2_becomes 5 = .ok (.putfield 9, 3) := by decide +kernel
theorem dX2_becomes_8 : decode cX2_becomes 8 = .ok (.aload_n 0, 1) := by decide +kernel
theorem dX2_becomes_9 : decode cX2_becomes 9 = .ok (.aload_n 1, 1) := by decide +kernel
theorem dX2_becomes_10 : decode cX2_becomes 10 = .ok (.getfield 15, 3) := by decide +kernel
theorem dX2_becomes_13 : decode cX2_becomes 13 = .ok (.putfield 15, 3) := by decide +kernel
theorem dX2_becomes_16 : decode cX2_becomes 16 = .ok (.aload_n 0, 1) := by decide +kernel
theorem dX2_becomes_17 : decode cX2_becomes 17 = .ok (.aload_n 1, 1) := by decide +kernel
theorem dX2_becomes_18 : decode cX2_becomes 18 = .ok (.getfield 18, 3) := by decide +kernel
theorem dX2_becomes_21 : decode cX2_becomes 21 = .ok (.putfield 18, 3) := by decide +kernel
theorem dX2_becomes_24 : decode cX2_becomes 24 = .ok (.aload_n 0, 1) := by decide +kernel
theorem dX2_becomes_25 : decode cX2_becomes 25 = .ok (.aload_n 1, 1) := by decide +kernel
theorem dX2_becomes_26 : decode cX2_becomes 26 = .ok (.getfield 21, 3) := by decide +kernel
theorem dX2_becomes_29 : decode cX2_becomes 29 = .ok (.putfield 21, 3) := by decide +kernel
theorem dX2_becomes_32 : decode cX2_becomes 32 = .ok (.aload_n 0, 1) := by decide +kernel
theorem dX2_becomes_33 : decode cX2_becomes 33 = .ok (.iconst 0, 1) := by decide +kernel
theorem dX2_becomes_34 : decode cX2_becomes 34 = .ok (.putfield 24, 3) := by decide +kernel
theorem dX2_becomes_37 : decode cX2_becomes 37 = .ok (.aload_n 0, 1) := by decide +kernel
theorem dX2_becomes_38 : decode cX2_becomes 38 = .ok (.iconst 0, 1) := by decide +kernel
theorem dX2_becomes_39 : decode cX2_becomes 39 = .ok (.putfield 27, 3) := by decide +kernel
theorem dX2_becomes_42 : decode cX2_becomes 42 = .ok (.aload_n 0, 1) := by decide +kernel
theorem dX2_becomes_43 : decode cX2_becomes 43 = .ok (.iconst 0, 1) := by decide +kernel
theorem dX2_becomes_44 : decode cX2_becomes 44 = .ok (.putfield 30, 3) := by decide +kernel
theorem dX2_becomes_47 : decode cX2_becomes 47 = .ok (.aload_n 0, 1) := by decide +kernel
theorem dX2_becomes_48 : decode cX2_becomes 48 = .ok (.iconst 0, 1) := by decide +kernel
theorem dX2_becomes_49 : decode cX2_becomes 49 = .ok (.putfield 33, 3) := by decide +kernel
theorem dX2_becomes_52 : decode cX2_becomes 52 = .ok (.aload_n 1, 1) := by decide +kernel
theorem dX2_becomes_53 : decode cX2_becomes 53 = .ok (.getfield 36, 3) := by decide +kernel
theorem dX2_becomes_56 : decode cX2_becomes 56 = .ok (.iconst 0, 1) := by decide +kernel
theorem dX2_becomes_57 : decode cX2_becomes 57 = .ok (.aload_n 0, 1) := by decide +kernel
theorem dX2_becomes_58 : decode cX2_becomes 58 = .ok (.getfield 36, 3) := by decide +kernel
theorem dX2_becomes_61 : decode cX2_becomes 61 = .ok (.iconst 0, 1) := by decide +kernel
theorem dX2_becomes_62 : decode cX2_becomes 62 = .ok (.bipush 9, 2) := by decide +kernel
theorem dX2_becomes_64 : decode cX2_becomes 64 = .ok (.invokestatic 49, 3) := by decide +kernel
theorem dX2_becomes_67 : decode cX2_becomes 67 = .ok (.aload_n 1, 1) := by decide +kernel
theorem dX2_becomes_68 : decode cX2_becomes 68 = .ok (.getfield 40, 3) := by decide +kernel
theorem dX2_becomes_71 : decode cX2_becomes 71 = .ok (.iconst 0, 1) := by decide +kernel
theorem dX2_becomes_72 : decode cX2_becomes 72 = .ok (.aload_n 0, 1) := by decide +kernel
theorem dX2_becomes_73 : decode cX2_becomes 73 = .ok (.getfield 40, 3) := by decide +kernel
theorem dX2_becomes_76 : decode cX2_becomes 76 = .ok (.iconst 0, 1) := by decide +kernel
theorem dX2_becomes_77 : decode cX2_becomes 77 = .ok (.bipush 9, 2) := by decide +kernel
theorem dX2_becomes_79 : decode cX2_becomes 79 = .ok (.invokestatic 49, 3) := by decide +kernel
theorem dX2_becomes_82 : decode cX2_becomes 82 = .ok (.aload_n 1, 1) := by decide +kernel
theorem dX2_becomes_83 : decode cX2_becomes 83 = .ok (.getfield 43, 3) := by decide +kernel
theorem dX2_becomes_86 : decode cX2_becomes 86 = .ok (.iconst 0, 1) := by decide +kernel
theorem dX2_becomes_87 : decode cX2_becomes 87 = .ok (.aload_n 0, 1) := by decide +kernel
theorem dX2_becomes_88 : decode cX2_becomes 88 = .ok (.getfield 43, 3) := by decide +kernel
theorem dX2_becomes_91 : decode cX2_becomes 91 = .ok (.iconst 0, 1) := by decide +kernel
theorem dX2_becomes_92 : decode cX2_becomes 92 = .ok (.bipush 9, 2) := by decide +kernel
theorem dX2_becomes_94 : decode cX2_becomes 94 = .ok (.invokestatic 49, 3) := by decide +kernel
theorem dX2_becomes_97 : decode cX2_becomes 97 = .ok (.aload_n 1, 1) := by decide +kernel
theorem dX2_becomes_98 : decode cX2_becomes 98 = .ok (.getfield 46, 3) := by decide +kernel
theorem dX2_becomes_101 : decode cX2_becomes 101 = .ok (.iconst 0, 1) := by decide +kernel
theorem dX2_becomes_102 : decode cX2_becomes 102 = .ok (.aload_n 0, 1) := by decide +kernel
theorem dX2_becomes_103 : decode cX2_becomes 103 = .ok (.getfield 46, 3) := by decide +kernel
theorem dX2_becomes_106 : decode cX2_becomes 106 = .ok (.iconst 0, 1) := by decide +kernel
theorem dX2_becomes_107 : decode cX2_becomes 107 = .ok (.iconst 4, 1) := by decide +kernel
theorem dX2_becomes_108 : decode cX2_becomes 108 = .ok (.invokestatic 49, 3) := by decide +kernel
theorem dX2_becomes_111 : decode cX2_becomes 111 = .ok (.return_, 1) := by decide +kernel
theorem dX2_knows_0 : decode cX2_knows 0 = .ok (.iload_n 1, 1) := by decide +kernel
theorem dX2_knows_1 : decode cX2_knows 1 = .ok (.ifCond .lt 21, 3) := by decide +kernel
theorem dX2_knows_4 : decode cX2_knows 4 = .ok (.iload_n 1, 1) := by decide +kernel
theorem dX2_knows_5 : decode cX2_knows 5 = .ok (.aload_n 0, 1) := by decide +kernel
theorem dX2_knows_6 : decode cX2_knows 6 = .ok (.getfield 9, 3) := by decide +kernel
theorem dX2_knows_9 : decode cX2_knows 9 = .ok (.if_icmp .ge 13, 3) := by decide +kernel
theorem dX2_knows_12 : decode cX2_knows 12 = .ok (.iload_n 1, 1) := by decide +kernel
theorem dX2_knows_13 : decode cX2_knows 13 = .ok (.bipush 9, 2) := by decide +kernel
theorem dX2_knows_15 : decode cX2_knows 15 = .ok (.if_icmp .ge 7, 3) := by decide +kernel
theorem dX2_knows_18 : decode cX2_knows 18 = .ok (.iconst 1, 1) := by decide +kernel
theorem dX2_knows_19 : decode cX2_knows 19 = .ok (.goto 4, 3) := by decide +kernel
theorem dX2_knows_22 : decode cX2_knows 22 = .ok (.iconst 0, 1) := by decide +kernel
theorem dX2_knows_23 : decode cX2_knows 23 = .ok (.ireturn, 1) := by decide +kernel
theorem dX2_everySaying_0 : decode cX2_everySaying 0 = .ok (.iconst 1, 1) := by decide +kernel
theorem dX2_everySaying_1 : decode cX2_everySaying 1 = .ok (.aload_n 0, 1) := by decide +kernel
theorem dX2_everySaying_2 : decode cX2_everySaying 2 = .ok (.getfield 9, 3) := by decide +kernel
theorem dX2_everySaying_5 : decode cX2_everySaying 5 = .ok (.ishl, 1) := by decide +kernel
theorem dX2_everySaying_6 : decode cX2_everySaying 6 = .ok (.iconst 1, 1) := by decide +kernel
theorem dX2_everySaying_7 : decode cX2_everySaying 7 = .ok (.isub, 1) := by decide +kernel
theorem dX2_everySaying_8 : decode cX2_everySaying 8 = .ok (.ireturn, 1) := by decide +kernel
theorem dX2_allAbout_0 : decode cX2_allAbout 0 = .ok (.iload_n 1, 1) := by decide +kernel
theorem dX2_allAbout_1 : decode cX2_allAbout 1 = .ok (.ifCond .lt 17, 3) := by decide +kernel
theorem dX2_allAbout_4 : decode cX2_allAbout 4 = .ok (.iload_n 1, 1) := by decide +kernel
theorem dX2_allAbout_5 : decode cX2_allAbout 5 = .ok (.iconst 4, 1) := by decide +kernel
theorem dX2_allAbout_6 : decode cX2_allAbout 6 = .ok (.if_icmp .ge 12, 3) := by decide +kernel
theorem dX2_allAbout_9 : decode cX2_allAbout 9 = .ok (.aload_n 0, 1) := by decide +kernel
theorem dX2_allAbout_10 : decode cX2_allAbout 10 = .ok (.getfield 46, 3) := by decide +kernel
theorem dX2_allAbout_13 : decode cX2_allAbout 13 = .ok (.iload_n 1, 1) := by decide +kernel
theorem dX2_allAbout_14 : decode cX2_allAbout 14 = .ok (.iaload, 1) := by decide +kernel
theorem dX2_allAbout_15 : decode cX2_allAbout 15 = .ok (.goto 4, 3) := by decide +kernel
theorem dX2_allAbout_18 : decode cX2_allAbout 18 = .ok (.iconst 0, 1) := by decide +kernel
theorem dX2_allAbout_19 : decode cX2_allAbout 19 = .ok (.ireturn, 1) := by decide +kernel
theorem dX2_nestOf_0 : decode cX2_nestOf 0 = .ok (.iload_n 1, 1) := by decide +kernel
theorem dX2_nestOf_1 : decode cX2_nestOf 1 = .ok (.ifCond .lt 22, 3) := by decide +kernel
theorem dX2_nestOf_4 : decode cX2_nestOf 4 = .ok (.iload_n 1, 1) := by decide +kernel
theorem dX2_nestOf_5 : decode cX2_nestOf 5 = .ok (.iconst 4, 1) := by decide +kernel
theorem dX2_nestOf_6 : decode cX2_nestOf 6 = .ok (.if_icmp .ge 17, 3) := by decide +kernel
theorem dX2_nestOf_9 : decode cX2_nestOf 9 = .ok (.aload_n 0, 1) := by decide +kernel
theorem dX2_nestOf_10 : decode cX2_nestOf 10 = .ok (.getfield 46, 3) := by decide +kernel
theorem dX2_nestOf_13 : decode cX2_nestOf 13 = .ok (.iload_n 1, 1) := by decide +kernel
theorem dX2_nestOf_14 : decode cX2_nestOf 14 = .ok (.iaload, 1) := by decide +kernel
theorem dX2_nestOf_15 : decode cX2_nestOf 15 = .ok (.aload_n 0, 1) := by decide +kernel
theorem dX2_nestOf_16 : decode cX2_nestOf 16 = .ok (.getfield 21, 3) := by decide +kernel
theorem dX2_nestOf_19 : decode cX2_nestOf 19 = .ok (.iand, 1) := by decide +kernel
theorem dX2_nestOf_20 : decode cX2_nestOf 20 = .ok (.goto 4, 3) := by decide +kernel
theorem dX2_nestOf_23 : decode cX2_nestOf 23 = .ok (.iconst 0, 1) := by decide +kernel
theorem dX2_nestOf_24 : decode cX2_nestOf 24 = .ok (.ireturn, 1) := by decide +kernel
set_option maxRecDepth 20000 in
theorem ggX2_saidAbout_X2_allAbout : GoodIn wsX2_saidAbout wsX2_allAbout := goodIn_r _ [7, 8, 9, 10, 11, 12, 13, 14, 15, 16, 17, 18, 19, 20] rfl (by decide +kernel)
set_option maxRecDepth 20000 in
theorem gX2_saidAbout_X2_allAbout : GoodIn wsX2_saidAbout (wsV RX2 55 RX2 yX2_allAbout wsX2_allAbout) := goodIn_app (goodIn_r _ [3, 4, 5, 6] rfl (by decide +kernel)) ggX2_saidAbout_X2_allAbout
theorem dX2_saidAbout_0 : decode cX2_saidAbout 0 = .ok (.aload_n 0, 1) := by decide +kernel
theorem dX2_saidAbout_1 : decode cX2_saidAbout 1 = .ok (.iload_n 1, 1) := by decide +kernel
theorem dX2_saidAbout_2 : decode cX2_saidAbout 2 = .ok (.invokevirtual 55, 3) := by decide +kernel
theorem dX2_saidAbout_5 : decode cX2_saidAbout 5 = .ok (.aload_n 0, 1) := by decide +kernel
theorem dX2_saidAbout_6 : decode cX2_saidAbout 6 = .ok (.getfield 21, 3) := by decide +kernel
theorem dX2_saidAbout_9 : decode cX2_saidAbout 9 = .ok (.iconst (-1), 1) := by decide +kernel
theorem dX2_saidAbout_10 : decode cX2_saidAbout 10 = .ok (.ixor, 1) := by decide +kernel
theorem dX2_saidAbout_11 : decode cX2_saidAbout 11 = .ok (.iand, 1) := by decide +kernel
theorem dX2_saidAbout_12 : decode cX2_saidAbout 12 = .ok (.aload_n 0, 1) := by decide +kernel
theorem dX2_saidAbout_13 : decode cX2_saidAbout 13 = .ok (.getfield 33, 3) := by decide +kernel
theorem dX2_saidAbout_16 : decode cX2_saidAbout 16 = .ok (.iconst (-1), 1) := by decide +kernel
theorem dX2_saidAbout_17 : decode cX2_saidAbout 17 = .ok (.ixor, 1) := by decide +kernel
theorem dX2_saidAbout_18 : decode cX2_saidAbout 18 = .ok (.iand, 1) := by decide +kernel
theorem dX2_saidAbout_19 : decode cX2_saidAbout 19 = .ok (.ireturn, 1) := by decide +kernel
theorem dX2_whom_0 : decode cX2_whom 0 = .ok (.iconst 0, 1) := by decide +kernel
theorem dX2_whom_1 : decode cX2_whom 1 = .ok (.istore_n 2, 1) := by decide +kernel
theorem dX2_whom_2 : decode cX2_whom 2 = .ok (.iload_n 2, 1) := by decide +kernel
theorem dX2_whom_3 : decode cX2_whom 3 = .ok (.iconst 4, 1) := by decide +kernel
theorem dX2_whom_4 : decode cX2_whom 4 = .ok (.if_icmp .ge 25, 3) := by decide +kernel
theorem dX2_whom_7 : decode cX2_whom 7 = .ok (.aload_n 0, 1) := by decide +kernel
theorem dX2_whom_8 : decode cX2_whom 8 = .ok (.getfield 46, 3) := by decide +kernel
theorem dX2_whom_11 : decode cX2_whom 11 = .ok (.iload_n 2, 1) := by decide +kernel
theorem dX2_whom_12 : decode cX2_whom 12 = .ok (.iaload, 1) := by decide +kernel
theorem dX2_whom_13 : decode cX2_whom 13 = .ok (.iload_n 1, 1) := by decide +kernel
theorem dX2_whom_14 : decode cX2_whom 14 = .ok (.ishr, 1) := by decide +kernel
theorem dX2_whom_15 : decode cX2_whom 15 = .ok (.iconst 1, 1) := by decide +kernel
theorem dX2_whom_16 : decode cX2_whom 16 = .ok (.iand, 1) := by decide +kernel
theorem dX2_whom_17 : decode cX2_whom 17 = .ok (.iconst 1, 1) := by decide +kernel
theorem dX2_whom_18 : decode cX2_whom 18 = .ok (.if_icmp .ne 5, 3) := by decide +kernel
theorem dX2_whom_21 : decode cX2_whom 21 = .ok (.iload_n 2, 1) := by decide +kernel
theorem dX2_whom_22 : decode cX2_whom 22 = .ok (.ireturn, 1) := by decide +kernel
theorem dX2_whom_23 : decode cX2_whom 23 = .ok (.iinc 2 1, 3) := by decide +kernel
theorem dX2_whom_26 : decode cX2_whom 26 = .ok (.goto (-24), 3) := by decide +kernel
theorem dX2_whom_29 : decode cX2_whom 29 = .ok (.bipush (-9), 2) := by decide +kernel
theorem dX2_whom_31 : decode cX2_whom 31 = .ok (.ireturn, 1) := by decide +kernel
theorem dX2_freshOf_0 : decode cX2_freshOf 0 = .ok (.iload_n 1, 1) := by decide +kernel
theorem dX2_freshOf_1 : decode cX2_freshOf 1 = .ok (.ifCond .lt 24, 3) := by decide +kernel
theorem dX2_freshOf_4 : decode cX2_freshOf 4 = .ok (.iload_n 1, 1) := by decide +kernel
theorem dX2_freshOf_5 : decode cX2_freshOf 5 = .ok (.bipush 9, 2) := by decide +kernel
theorem dX2_freshOf_7 : decode cX2_freshOf 7 = .ok (.if_icmp .ge 18, 3) := by decide +kernel
theorem dX2_freshOf_10 : decode cX2_freshOf 10 = .ok (.aload_n 0, 1) := by decide +kernel
theorem dX2_freshOf_11 : decode cX2_freshOf 11 = .ok (.getfield 43, 3) := by decide +kernel
theorem dX2_freshOf_14 : decode cX2_freshOf 14 = .ok (.iload_n 1, 1) := by decide +kernel
theorem dX2_freshOf_15 : decode cX2_freshOf 15 = .ok (.iaload, 1) := by decide +kernel
theorem dX2_freshOf_16 : decode cX2_freshOf 16 = .ok (.aload_n 0, 1) := by decide +kernel
theorem dX2_freshOf_17 : decode cX2_freshOf 17 = .ok (.getfield 40, 3) := by decide +kernel
theorem dX2_freshOf_20 : decode cX2_freshOf 20 = .ok (.iload_n 1, 1) := by decide +kernel
theorem dX2_freshOf_21 : decode cX2_freshOf 21 = .ok (.iaload, 1) := by decide +kernel
theorem dX2_freshOf_22 : decode cX2_freshOf 22 = .ok (.if_icmp .le 5, 3) := by decide +kernel
theorem dX2_freshOf_25 : decode cX2_freshOf 25 = .ok (.iconst 0, 1) := by decide +kernel
theorem dX2_freshOf_26 : decode cX2_freshOf 26 = .ok (.ireturn, 1) := by decide +kernel
theorem dX2_freshOf_27 : decode cX2_freshOf 27 = .ok (.aload_n 0, 1) := by decide +kernel
theorem dX2_freshOf_28 : decode cX2_freshOf 28 = .ok (.getfield 40, 3) := by decide +kernel
theorem dX2_freshOf_31 : decode cX2_freshOf 31 = .ok (.iload_n 1, 1) := by decide +kernel
theorem dX2_freshOf_32 : decode cX2_freshOf 32 = .ok (.iaload, 1) := by decide +kernel
theorem dX2_freshOf_33 : decode cX2_freshOf 33 = .ok (.aload_n 0, 1) := by decide +kernel
theorem dX2_freshOf_34 : decode cX2_freshOf 34 = .ok (.getfield 43, 3) := by decide +kernel
theorem dX2_freshOf_37 : decode cX2_freshOf 37 = .ok (.iload_n 1, 1) := by decide +kernel
theorem dX2_freshOf_38 : decode cX2_freshOf 38 = .ok (.iaload, 1) := by decide +kernel
theorem dX2_freshOf_39 : decode cX2_freshOf 39 = .ok (.isub, 1) := by decide +kernel
theorem dX2_freshOf_40 : decode cX2_freshOf 40 = .ok (.ireturn, 1) := by decide +kernel
set_option maxRecDepth 20000 in
theorem ggX2_softOf_X2_freshOf : GoodIn wsX2_softOf wsX2_freshOf := goodIn_r _ [7, 8, 9, 14, 15, 16, 17, 18, 19, 20, 21, 22, 23, 24, 25] rfl (by decide +kernel)
set_option maxRecDepth 20000 in
theorem gX2_softOf_X2_freshOf : GoodIn wsX2_softOf (wsV RX2 59 RX2 yX2_freshOf wsX2_freshOf) := goodIn_app (goodIn_r _ [3, 4, 5, 6] rfl (by decide +kernel)) ggX2_softOf_X2_freshOf
set_option maxRecDepth 20000 in
theorem ggX2_softOf_X1_softOfKind : GoodIn wsX2_softOf wsX1_softOfKind := goodIn_r _ [13] rfl (by decide +kernel)
set_option maxRecDepth 20000 in
theorem gX2_softOf_X1_softOfKind : GoodIn wsX2_softOf (va_wsS RX2 62 yX1_softOfKind wsX1_softOfKind) := goodIn_app (goodIn_r _ [10, 11, 12] rfl (by decide +kernel)) ggX2_softOf_X1_softOfKind
theorem dX2_softOf_0 : decode cX2_softOf 0 = .ok (.iconst 0, 1) := by decide +kernel
theorem dX2_softOf_1 : decode cX2_softOf 1 = .ok (.istore_n 2, 1) := by decide +kernel
theorem dX2_softOf_2 : decode cX2_softOf 2 = .ok (.iconst 0, 1) := by decide +kernel
theorem dX2_softOf_3 : decode cX2_softOf 3 = .ok (.istore_n 3, 1) := by decide +kernel
theorem dX2_softOf_4 : decode cX2_softOf 4 = .ok (.iload_n 3, 1) := by decide +kernel
theorem dX2_softOf_5 : decode cX2_softOf 5 = .ok (.aload_n 0, 1) := by decide +kernel
theorem dX2_softOf_6 : decode cX2_softOf 6 = .ok (.getfield 9, 3) := by decide +kernel
theorem dX2_softOf_9 : decode cX2_softOf 9 = .ok (.if_icmp .ge 41, 3) := by decide +kernel
theorem dX2_softOf_12 : decode cX2_softOf 12 = .ok (.iload_n 3, 1) := by decide +kernel
theorem dX2_softOf_13 : decode cX2_softOf 13 = .ok (.bipush 9, 2) := by decide +kernel
theorem dX2_softOf_15 : decode cX2_softOf 15 = .ok (.if_icmp .ge 35, 3) := by decide +kernel
theorem dX2_softOf_18 : decode cX2_softOf 18 = .ok (.iload_n 1, 1) := by decide +kernel
theorem dX2_softOf_19 : decode cX2_softOf 19 = .ok (.iload_n 3, 1) := by decide +kernel
theorem dX2_softOf_20 : decode cX2_softOf 20 = .ok (.ishr, 1) := by decide +kernel
theorem dX2_softOf_21 : decode cX2_softOf 21 = .ok (.iconst 1, 1) := by decide +kernel
theorem dX2_softOf_22 : decode cX2_softOf 22 = .ok (.iand, 1) := by decide +kernel
theorem dX2_softOf_23 : decode cX2_softOf 23 = .ok (.iconst 1, 1) := by decide +kernel
theorem dX2_softOf_24 : decode cX2_softOf 24 = .ok (.if_icmp .ne 20, 3) := by decide +kernel
theorem dX2_softOf_27 : decode cX2_softOf 27 = .ok (.iload_n 2, 1) := by decide +kernel
theorem dX2_softOf_28 : decode cX2_softOf 28 = .ok (.aload_n 0, 1) := by decide +kernel
theorem dX2_softOf_29 : decode cX2_softOf 29 = .ok (.getfield 36, 3) := by decide +kernel
theorem dX2_softOf_32 : decode cX2_softOf 32 = .ok (.iload_n 3, 1) := by decide +kernel
theorem dX2_softOf_33 : decode cX2_softOf 33 = .ok (.iaload, 1) := by decide +kernel
theorem dX2_softOf_34 : decode cX2_softOf 34 = .ok (.aload_n 0, 1) := by decide +kernel
theorem dX2_softOf_35 : decode cX2_softOf 35 = .ok (.iload_n 3, 1) := by decide +kernel
theorem dX2_softOf_36 : decode cX2_softOf 36 = .ok (.invokevirtual 59, 3) := by decide +kernel
theorem dX2_softOf_39 : decode cX2_softOf 39 = .ok (.invokestatic 62, 3) := by decide +kernel
theorem dX2_softOf_42 : decode cX2_softOf 42 = .ok (.iadd, 1) := by decide +kernel
theorem dX2_softOf_43 : decode cX2_softOf 43 = .ok (.istore_n 2, 1) := by decide +kernel
theorem dX2_softOf_44 : decode cX2_softOf 44 = .ok (.iinc 3 1, 3) := by decide +kernel
theorem dX2_softOf_47 : decode cX2_softOf 47 = .ok (.goto (-43), 3) := by decide +kernel
theorem dX2_softOf_50 : decode cX2_softOf 50 = .ok (.iload_n 2, 1) := by decide +kernel
theorem dX2_softOf_51 : decode cX2_softOf 51 = .ok (.ireturn, 1) := by decide +kernel
set_option maxRecDepth 20000 in
theorem ggX2_bindsOf_X2_freshOf : GoodIn wsX2_bindsOf wsX2_freshOf := goodIn_r _ [7, 8, 9, 14, 15, 16, 17, 18, 19, 20, 21, 22, 23, 24, 25] rfl (by decide +kernel)
set_option maxRecDepth 20000 in
theorem gX2_bindsOf_X2_freshOf : GoodIn wsX2_bindsOf (wsV RX2 59 RX2 yX2_freshOf wsX2_freshOf) := goodIn_app (goodIn_r _ [3, 4, 5, 6] rfl (by decide +kernel)) ggX2_bindsOf_X2_freshOf
set_option maxRecDepth 20000 in
theorem ggX2_bindsOf_X1_bindsOfKind : GoodIn wsX2_bindsOf wsX1_bindsOfKind := goodIn_r _ [13] rfl (by decide +kernel)
set_option maxRecDepth 20000 in
theorem gX2_bindsOf_X1_bindsOfKind : GoodIn wsX2_bindsOf (va_wsS RX2 68 yX1_bindsOfKind wsX1_bindsOfKind) := goodIn_app (goodIn_r _ [10, 11, 12] rfl (by decide +kernel)) ggX2_bindsOf_X1_bindsOfKind
theorem dX2_bindsOf_0 : decode cX2_bindsOf 0 = .ok (.iconst 0, 1) := by decide +kernel
theorem dX2_bindsOf_1 : decode cX2_bindsOf 1 = .ok (.istore_n 2, 1) := by decide +kernel
theorem dX2_bindsOf_2 : decode cX2_bindsOf 2 = .ok (.iconst 0, 1) := by decide +kernel
theorem dX2_bindsOf_3 : decode cX2_bindsOf 3 = .ok (.istore_n 3, 1) := by decide +kernel
theorem dX2_bindsOf_4 : decode cX2_bindsOf 4 = .ok (.iload_n 3, 1) := by decide +kernel
theorem dX2_bindsOf_5 : decode cX2_bindsOf 5 = .ok (.aload_n 0, 1) := by decide +kernel
theorem dX2_bindsOf_6 : decode cX2_bindsOf 6 = .ok (.getfield 9, 3) := by decide +kernel
theorem dX2_bindsOf_9 : decode cX2_bindsOf 9 = .ok (.if_icmp .ge 41, 3) := by decide +kernel
theorem dX2_bindsOf_12 : decode cX2_bindsOf 12 = .ok (.iload_n 3, 1) := by decide +kernel
theorem dX2_bindsOf_13 : decode cX2_bindsOf 13 = .ok (.bipush 9, 2) := by decide +kernel
theorem dX2_bindsOf_15 : decode cX2_bindsOf 15 = .ok (.if_icmp .ge 35, 3) := by decide +kernel
theorem dX2_bindsOf_18 : decode cX2_bindsOf 18 = .ok (.iload_n 1, 1) := by decide +kernel
theorem dX2_bindsOf_19 : decode cX2_bindsOf 19 = .ok (.iload_n 3, 1) := by decide +kernel
theorem dX2_bindsOf_20 : decode cX2_bindsOf 20 = .ok (.ishr, 1) := by decide +kernel
theorem dX2_bindsOf_21 : decode cX2_bindsOf 21 = .ok (.iconst 1, 1) := by decide +kernel
theorem dX2_bindsOf_22 : decode cX2_bindsOf 22 = .ok (.iand, 1) := by decide +kernel
theorem dX2_bindsOf_23 : decode cX2_bindsOf 23 = .ok (.iconst 1, 1) := by decide +kernel
theorem dX2_bindsOf_24 : decode cX2_bindsOf 24 = .ok (.if_icmp .ne 20, 3) := by decide +kernel
theorem dX2_bindsOf_27 : decode cX2_bindsOf 27 = .ok (.iload_n 2, 1) := by decide +kernel
theorem dX2_bindsOf_28 : decode cX2_bindsOf 28 = .ok (.aload_n 0, 1) := by decide +kernel
theorem dX2_bindsOf_29 : decode cX2_bindsOf 29 = .ok (.getfield 36, 3) := by decide +kernel
theorem dX2_bindsOf_32 : decode cX2_bindsOf 32 = .ok (.iload_n 3, 1) := by decide +kernel
theorem dX2_bindsOf_33 : decode cX2_bindsOf 33 = .ok (.iaload, 1) := by decide +kernel
theorem dX2_bindsOf_34 : decode cX2_bindsOf 34 = .ok (.aload_n 0, 1) := by decide +kernel
theorem dX2_bindsOf_35 : decode cX2_bindsOf 35 = .ok (.iload_n 3, 1) := by decide +kernel
theorem dX2_bindsOf_36 : decode cX2_bindsOf 36 = .ok (.invokevirtual 59, 3) := by decide +kernel
theorem dX2_bindsOf_39 : decode cX2_bindsOf 39 = .ok (.invokestatic 68, 3) := by decide +kernel
theorem dX2_bindsOf_42 : decode cX2_bindsOf 42 = .ok (.iadd, 1) := by decide +kernel
theorem dX2_bindsOf_43 : decode cX2_bindsOf 43 = .ok (.istore_n 2, 1) := by decide +kernel
theorem dX2_bindsOf_44 : decode cX2_bindsOf 44 = .ok (.iinc 3 1, 3) := by decide +kernel
theorem dX2_bindsOf_47 : decode cX2_bindsOf 47 = .ok (.goto (-43), 3) := by decide +kernel
theorem dX2_bindsOf_50 : decode cX2_bindsOf 50 = .ok (.iload_n 2, 1) := by decide +kernel
theorem dX2_bindsOf_51 : decode cX2_bindsOf 51 = .ok (.ireturn, 1) := by decide +kernel
set_option maxRecDepth 20000 in
theorem ggX2_weighsOf_X2_freshOf : GoodIn wsX2_weighsOf wsX2_freshOf := goodIn_r _ [7, 8, 9, 14, 15, 16, 17, 18, 19, 20, 21, 22, 23, 24, 25] rfl (by decide +kernel)
set_option maxRecDepth 20000 in
theorem gX2_weighsOf_X2_freshOf : GoodIn wsX2_weighsOf (wsV RX2 59 RX2 yX2_freshOf wsX2_freshOf) := goodIn_app (goodIn_r _ [3, 4, 5, 6] rfl (by decide +kernel)) ggX2_weighsOf_X2_freshOf
set_option maxRecDepth 20000 in
theorem ggX2_weighsOf_X1_weighsOfKind : GoodIn wsX2_weighsOf wsX1_weighsOfKind := goodIn_r _ [13] rfl (by decide +kernel)
set_option maxRecDepth 20000 in
theorem gX2_weighsOf_X1_weighsOfKind : GoodIn wsX2_weighsOf (va_wsS RX2 71 yX1_weighsOfKind wsX1_weighsOfKind) := goodIn_app (goodIn_r _ [10, 11, 12] rfl (by decide +kernel)) ggX2_weighsOf_X1_weighsOfKind
theorem dX2_weighsOf_0 : decode cX2_weighsOf 0 = .ok (.iconst 0, 1) := by decide +kernel
theorem dX2_weighsOf_1 : decode cX2_weighsOf 1 = .ok (.istore_n 2, 1) := by decide +kernel
theorem dX2_weighsOf_2 : decode cX2_weighsOf 2 = .ok (.iconst 0, 1) := by decide +kernel
theorem dX2_weighsOf_3 : decode cX2_weighsOf 3 = .ok (.istore_n 3, 1) := by decide +kernel
theorem dX2_weighsOf_4 : decode cX2_weighsOf 4 = .ok (.iload_n 3, 1) := by decide +kernel
theorem dX2_weighsOf_5 : decode cX2_weighsOf 5 = .ok (.aload_n 0, 1) := by decide +kernel
theorem dX2_weighsOf_6 : decode cX2_weighsOf 6 = .ok (.getfield 9, 3) := by decide +kernel
theorem dX2_weighsOf_9 : decode cX2_weighsOf 9 = .ok (.if_icmp .ge 41, 3) := by decide +kernel
theorem dX2_weighsOf_12 : decode cX2_weighsOf 12 = .ok (.iload_n 3, 1) := by decide +kernel
theorem dX2_weighsOf_13 : decode cX2_weighsOf 13 = .ok (.bipush 9, 2) := by decide +kernel
theorem dX2_weighsOf_15 : decode cX2_weighsOf 15 = .ok (.if_icmp .ge 35, 3) := by decide +kernel
theorem dX2_weighsOf_18 : decode cX2_weighsOf 18 = .ok (.iload_n 1, 1) := by decide +kernel
theorem dX2_weighsOf_19 : decode cX2_weighsOf 19 = .ok (.iload_n 3, 1) := by decide +kernel
theorem dX2_weighsOf_20 : decode cX2_weighsOf 20 = .ok (.ishr, 1) := by decide +kernel
theorem dX2_weighsOf_21 : decode cX2_weighsOf 21 = .ok (.iconst 1, 1) := by decide +kernel
theorem dX2_weighsOf_22 : decode cX2_weighsOf 22 = .ok (.iand, 1) := by decide +kernel
theorem dX2_weighsOf_23 : decode cX2_weighsOf 23 = .ok (.iconst 1, 1) := by decide +kernel
theorem dX2_weighsOf_24 : decode cX2_weighsOf 24 = .ok (.if_icmp .ne 20, 3) := by decide +kernel
theorem dX2_weighsOf_27 : decode cX2_weighsOf 27 = .ok (.iload_n 2, 1) := by decide +kernel
theorem dX2_weighsOf_28 : decode cX2_weighsOf 28 = .ok (.aload_n 0, 1) := by decide +kernel
theorem dX2_weighsOf_29 : decode cX2_weighsOf 29 = .ok (.getfield 36, 3) := by decide +kernel
theorem dX2_weighsOf_32 : decode cX2_weighsOf 32 = .ok (.iload_n 3, 1) := by decide +kernel
theorem dX2_weighsOf_33 : decode cX2_weighsOf 33 = .ok (.iaload, 1) := by decide +kernel
theorem dX2_weighsOf_34 : decode cX2_weighsOf 34 = .ok (.aload_n 0, 1) := by decide +kernel
theorem dX2_weighsOf_35 : decode cX2_weighsOf 35 = .ok (.iload_n 3, 1) := by decide +kernel
theorem dX2_weighsOf_36 : decode cX2_weighsOf 36 = .ok (.invokevirtual 59, 3) := by decide +kernel
theorem dX2_weighsOf_39 : decode cX2_weighsOf 39 = .ok (.invokestatic 71, 3) := by decide +kernel
theorem dX2_weighsOf_42 : decode cX2_weighsOf 42 = .ok (.iadd, 1) := by decide +kernel
theorem dX2_weighsOf_43 : decode cX2_weighsOf 43 = .ok (.istore_n 2, 1) := by decide +kernel
theorem dX2_weighsOf_44 : decode cX2_weighsOf 44 = .ok (.iinc 3 1, 3) := by decide +kernel
theorem dX2_weighsOf_47 : decode cX2_weighsOf 47 = .ok (.goto (-43), 3) := by decide +kernel
theorem dX2_weighsOf_50 : decode cX2_weighsOf 50 = .ok (.iload_n 2, 1) := by decide +kernel
theorem dX2_weighsOf_51 : decode cX2_weighsOf 51 = .ok (.ireturn, 1) := by decide +kernel
set_option maxRecDepth 20000 in
theorem ggX2_holds_X2_freshOf : GoodIn wsX2_holds wsX2_freshOf := goodIn_r _ [7, 8, 9, 17, 18, 19, 20, 21, 22, 23, 24, 25, 26, 27, 28] rfl (by decide +kernel)
set_option maxRecDepth 20000 in
theorem gX2_holds_X2_freshOf : GoodIn wsX2_holds (wsV RX2 59 RX2 yX2_freshOf wsX2_freshOf) := goodIn_app (goodIn_r _ [3, 4, 5, 6] rfl (by decide +kernel)) ggX2_holds_X2_freshOf
set_option maxRecDepth 20000 in
theorem ggX2_holds_X1_bindsOfKind : GoodIn wsX2_holds wsX1_bindsOfKind := goodIn_r _ [13] rfl (by decide +kernel)
set_option maxRecDepth 20000 in
theorem gX2_holds_X1_bindsOfKind : GoodIn wsX2_holds (va_wsS RX2 68 yX1_bindsOfKind wsX1_bindsOfKind) := goodIn_app (goodIn_r _ [10, 11, 12] rfl (by decide +kernel)) ggX2_holds_X1_bindsOfKind
set_option maxRecDepth 20000 in
theorem ggX2_holds_X1_weighsOfKind : GoodIn wsX2_holds wsX1_weighsOfKind := goodIn_r _ [16] rfl (by decide +kernel)
set_option maxRecDepth 20000 in
theorem gX2_holds_X1_weighsOfKind : GoodIn wsX2_holds (va_wsS RX2 71 yX1_weighsOfKind wsX1_weighsOfKind) := goodIn_app (goodIn_r _ [14, 15, 12] rfl (by decide +kernel)) ggX2_holds_X1_weighsOfKind
theorem dX2_holds_0 : decode cX2_holds 0 = .ok (.iconst 0, 1) := by decide +kernel
theorem dX2_holds_1 : decode cX2_holds 1 = .ok (.istore_n 2, 1) := by decide +kernel
theorem dX2_holds_2 : decode cX2_holds 2 = .ok (.iconst 0, 1) := by decide +kernel
theorem dX2_holds_3 : decode cX2_holds 3 = .ok (.istore_n 3, 1) := by decide +kernel
theorem dX2_holds_4 : decode cX2_holds 4 = .ok (.iload_n 3, 1) := by decide +kernel
theorem dX2_holds_5 : decode cX2_holds 5 = .ok (.aload_n 0, 1) := by decide +kernel
theorem dX2_holds_6 : decode cX2_holds 6 = .ok (.getfield 9, 3) := by decide +kernel
theorem dX2_holds_9 : decode cX2_holds 9 = .ok (.if_icmp .ge 57, 3) := by decide +kernel
theorem dX2_holds_12 : decode cX2_holds 12 = .ok (.iload_n 3, 1) := by decide +kernel
theorem dX2_holds_13 : decode cX2_holds 13 = .ok (.bipush 9, 2) := by decide +kernel
theorem dX2_holds_15 : decode cX2_holds 15 = .ok (.if_icmp .ge 51, 3) := by decide +kernel
theorem dX2_holds_18 : decode cX2_holds 18 = .ok (.iload_n 1, 1) := by decide +kernel
theorem dX2_holds_19 : decode cX2_holds 19 = .ok (.iload_n 3, 1) := by decide +kernel
theorem dX2_holds_20 : decode cX2_holds 20 = .ok (.ishr, 1) := by decide +kernel
theorem dX2_holds_21 : decode cX2_holds 21 = .ok (.iconst 1, 1) := by decide +kernel
theorem dX2_holds_22 : decode cX2_holds 22 = .ok (.iand, 1) := by decide +kernel
theorem dX2_holds_23 : decode cX2_holds 23 = .ok (.iconst 1, 1) := by decide +kernel
theorem dX2_holds_24 : decode cX2_holds 24 = .ok (.if_icmp .ne 36, 3) := by decide +kernel
theorem dX2_holds_27 : decode cX2_holds 27 = .ok (.aload_n 0, 1) := by decide +kernel
theorem dX2_holds_28 : decode cX2_holds 28 = .ok (.iload_n 3, 1) := by decide +kernel
theorem dX2_holds_29 : decode cX2_holds 29 = .ok (.invokevirtual 59, 3) := by decide +kernel
theorem dX2_holds_32 : decode cX2_holds 32 = .ok (.istore 4, 2) := by decide +kernel
theorem dX2_holds_34 : decode cX2_holds 34 = .ok (.iload_n 2, 1) := by decide +kernel
theorem dX2_holds_35 : decode cX2_holds 35 = .ok (.aload_n 0, 1) := by decide +kernel
theorem dX2_holds_36 : decode cX2_holds 36 = .ok (.getfield 36, 3) := by decide +kernel
theorem dX2_holds_39 : decode cX2_holds 39 = .ok (.iload_n 3, 1) := by decide +kernel
theorem dX2_holds_40 : decode cX2_holds 40 = .ok (.iaload, 1) := by decide +kernel
theorem dX2_holds_41 : decode cX2_holds 41 = .ok (.iload 4, 2) := by decide +kernel
theorem dX2_holds_43 : decode cX2_holds 43 = .ok (.invokestatic 68, 3) := by decide +kernel
theorem dX2_holds_46 : decode cX2_holds 46 = .ok (.aload_n 0, 1) := by decide +kernel
theorem dX2_holds_47 : decode cX2_holds 47 = .ok (.getfield 36, 3) := by decide +kernel
theorem dX2_holds_50 : decode cX2_holds 50 = .ok (.iload_n 3, 1) := by decide +kernel
theorem dX2_holds_51 : decode cX2_holds 51 = .ok (.iaload, 1) := by decide +kernel
theorem dX2_holds_52 : decode cX2_holds 52 = .ok (.iload 4, 2) := by decide +kernel
theorem dX2_holds_54 : decode cX2_holds 54 = .ok (.invokestatic 71, 3) := by decide +kernel
theorem dX2_holds_57 : decode cX2_holds 57 = .ok (.isub, 1) := by decide +kernel
theorem dX2_holds_58 : decode cX2_holds 58 = .ok (.iadd, 1) := by decide +kernel
theorem dX2_holds_59 : decode cX2_holds 59 = .ok (.istore_n 2, 1) := by decide +kernel
theorem dX2_holds_60 : decode cX2_holds 60 = .ok (.iinc 3 1, 3) := by decide +kernel
theorem dX2_holds_63 : decode cX2_holds 63 = .ok (.goto (-59), 3) := by decide +kernel
theorem dX2_holds_66 : decode cX2_holds 66 = .ok (.iload_n 2, 1) := by decide +kernel
theorem dX2_holds_67 : decode cX2_holds 67 = .ok (.ifCond .lt 7, 3) := by decide +kernel
theorem dX2_holds_70 : decode cX2_holds 70 = .ok (.iconst 1, 1) := by decide +kernel
theorem dX2_holds_71 : decode cX2_holds 71 = .ok (.goto 4, 3) := by decide +kernel
theorem dX2_holds_74 : decode cX2_holds 74 = .ok (.iconst 0, 1) := by decide +kernel
theorem dX2_holds_75 : decode cX2_holds 75 = .ok (.ireturn, 1) := by decide +kernel
theorem dX2_allWorn_0 : decode cX2_allWorn 0 = .ok (.iconst 0, 1) := by decide +kernel
theorem dX2_allWorn_1 : decode cX2_allWorn 1 = .ok (.istore_n 1, 1) := by decide +kernel
theorem dX2_allWorn_2 : decode cX2_allWorn 2 = .ok (.iconst 0, 1) := by decide +kernel
theorem dX2_allWorn_3 : decode cX2_allWorn 3 = .ok (.istore_n 2, 1) := by decide +kernel
theorem dX2_allWorn_4 : decode cX2_allWorn 4 = .ok (.iload_n 2, 1) := by decide +kernel
theorem dX2_allWorn_5 : decode cX2_allWorn 5 = .ok (.aload_n 0, 1) := by decide +kernel
theorem dX2_allWorn_6 : decode cX2_allWorn 6 = .ok (.getfield 9, 3) := by decide +kernel
theorem dX2_allWorn_9 : decode cX2_allWorn 9 = .ok (.if_icmp .ge 24, 3) := by decide +kernel
theorem dX2_allWorn_12 : decode cX2_allWorn 12 = .ok (.iload_n 2, 1) := by decide +kernel
theorem dX2_allWorn_13 : decode cX2_allWorn 13 = .ok (.bipush 9, 2) := by decide +kernel
theorem dX2_allWorn_15 : decode cX2_allWorn 15 = .ok (.if_icmp .ge 18, 3) := by decide +kernel
theorem dX2_allWorn_18 : decode cX2_allWorn 18 = .ok (.iload_n 1, 1) := by decide +kernel
theorem dX2_allWorn_19 : decode cX2_allWorn 19 = .ok (.aload_n 0, 1) := by decide +kernel
theorem dX2_allWorn_20 : decode cX2_allWorn 20 = .ok (.getfield 43, 3) := by decide +kernel
theorem dX2_allWorn_23 : decode cX2_allWorn 23 = .ok (.iload_n 2, 1) := by decide +kernel
theorem dX2_allWorn_24 : decode cX2_allWorn 24 = .ok (.iaload, 1) := by decide +kernel
theorem dX2_allWorn_25 : decode cX2_allWorn 25 = .ok (.iadd, 1) := by decide +kernel
theorem dX2_allWorn_26 : decode cX2_allWorn 26 = .ok (.istore_n 1, 1) := by decide +kernel
theorem dX2_allWorn_27 : decode cX2_allWorn 27 = .ok (.iinc 2 1, 3) := by decide +kernel
theorem dX2_allWorn_30 : decode cX2_allWorn 30 = .ok (.goto (-26), 3) := by decide +kernel
theorem dX2_allWorn_33 : decode cX2_allWorn 33 = .ok (.iload_n 1, 1) := by decide +kernel
theorem dX2_allWorn_34 : decode cX2_allWorn 34 = .ok (.ireturn, 1) := by decide +kernel
set_option maxRecDepth 20000 in
theorem ggX2_tellMore_X3_isWoman : GoodIn wsX2_tellMore wsX3_isWoman := goodIn_r _ [7] rfl (by decide +kernel)
set_option maxRecDepth 20000 in
theorem gX2_tellMore_X3_isWoman_n74 : GoodIn wsX2_tellMore (wsX3_isWoman) := ggX2_tellMore_X3_isWoman
set_option maxRecDepth 20000 in
theorem ggX2_tellMore_X2_sayAbout : GoodIn wsX2_tellMore wsX2_sayAbout := goodIn_r _ [12, 13, 14, 15, 16, 17, 11, 18, 1, 5, 6, 7, 19, 20, 21, 22, 23, 24, 25, 26, 27, 28, 29, 30] rfl (by decide +kernel)
set_option maxRecDepth 20000 in
theorem gX2_tellMore_X2_sayAbout : GoodIn wsX2_tellMore (wsV RX2 78 RX2 yX2_sayAbout wsX2_sayAbout) := goodIn_app (goodIn_r _ [8, 9, 10, 11] rfl (by decide +kernel)) ggX2_tellMore_X2_sayAbout
theorem dX2_tellMore_0 : decode cX2_tellMore 0 = .ok (.aload_n 0, 1) := by decide +kernel
theorem dX2_tellMore_1 : decode cX2_tellMore 1 = .ok (.getfield 9, 3) := by decide +kernel
theorem dX2_tellMore_4 : decode cX2_tellMore 4 = .ok (.bipush 9, 2) := by decide +kernel
theorem dX2_tellMore_6 : decode cX2_tellMore 6 = .ok (.if_icmp .ge 10, 3) := by decide +kernel
theorem dX2_tellMore_9 : decode cX2_tellMore 9 = .ok (.iload_n 3, 1) := by decide +kernel
theorem dX2_tellMore_10 : decode cX2_tellMore 10 = .ok (.invokestatic 74, 3) := by decide +kernel
theorem dX2_tellMore_13 : decode cX2_tellMore 13 = .ok (.ifCond .ne 5, 3) := by decide +kernel
theorem dX2_tellMore_16 : decode cX2_tellMore 16 = .ok (.iconst 0, 1) := by decide +kernel
theorem dX2_tellMore_17 : decode cX2_tellMore 17 = .ok (.ireturn, 1) := by decide +kernel
theorem dX2_tellMore_18 : decode cX2_tellMore 18 = .ok (.aload_n 0, 1) := by decide +kernel
theorem dX2_tellMore_19 : decode cX2_tellMore 19 = .ok (.getfield 36, 3) := by decide +kernel
theorem dX2_tellMore_22 : decode cX2_tellMore 22 = .ok (.aload_n 0, 1) := by decide +kernel
theorem dX2_tellMore_23 : decode cX2_tellMore 23 = .ok (.getfield 9, 3) := by decide +kernel
theorem dX2_tellMore_26 : decode cX2_tellMore 26 = .ok (.iload_n 1, 1) := by decide +kernel
theorem dX2_tellMore_27 : decode cX2_tellMore 27 = .ok (.iastore, 1) := by decide +kernel
theorem dX2_tellMore_28 : decode cX2_tellMore 28 = .ok (.aload_n 0, 1) := by decide +kernel
theorem dX2_tellMore_29 : decode cX2_tellMore 29 = .ok (.getfield 40, 3) := by decide +kernel
theorem dX2_tellMore_32 : decode cX2_tellMore 32 = .ok (.aload_n 0, 1) := by decide +kernel
theorem dX2_tellMore_33 : decode cX2_tellMore 33 = .ok (.getfield 9, 3) := by decide +kernel
theorem dX2_tellMore_36 : decode cX2_tellMore 36 = .ok (.iload_n 2, 1) := by decide +kernel
theorem dX2_tellMore_37 : decode cX2_tellMore 37 = .ok (.iastore, 1) := by decide +kernel
theorem dX2_tellMore_38 : decode cX2_tellMore 38 = .ok (.aload_n 0, 1) := by decide +kernel
theorem dX2_tellMore_39 : decode cX2_tellMore 39 = .ok (.getfield 43, 3) := by decide +kernel
theorem dX2_tellMore_42 : decode cX2_tellMore 42 = .ok (.aload_n 0, 1) := by decide +kernel
theorem dX2_tellMore_43 : decode cX2_tellMore 43 = .ok (.getfield 9, 3) := by decide +kernel
theorem dX2_tellMore_46 : decode cX2_tellMore 46 = .ok (.iconst 0, 1) := by decide +kernel
theorem dX2_tellMore_47 : decode cX2_tellMore 47 = .ok (.iastore, 1) := by decide +kernel
theorem dX2_tellMore_48 : decode cX2_tellMore 48 = .ok (.aload_n 0, 1) := by decide +kernel
theorem dX2_tellMore_49 : decode cX2_tellMore 49 = .ok (.dup, 1) := by decide +kernel
theorem dX2_tellMore_50 : decode cX2_tellMore 50 = .ok (.getfield 9, 3) := by decide +kernel
theorem dX2_tellMore_53 : decode cX2_tellMore 53 = .ok (.iconst 1, 1) := by decide +kernel
theorem dX2_tellMore_54 : decode cX2_tellMore 54 = .ok (.iadd, 1) := by decide +kernel
theorem dX2_tellMore_55 : decode cX2_tellMore 55 = .ok (.putfield 9, 3) := by decide +kernel
theorem dX2_tellMore_58 : decode cX2_tellMore 58 = .ok (.aload_n 0, 1) := by decide +kernel
theorem dX2_tellMore_59 : decode cX2_tellMore 59 = .ok (.aload_n 0, 1) := by decide +kernel
theorem dX2_tellMore_60 : decode cX2_tellMore 60 = .ok (.getfield 9, 3) := by decide +kernel
theorem dX2_tellMore_63 : decode cX2_tellMore 63 = .ok (.iconst 1, 1) := by decide +kernel
theorem dX2_tellMore_64 : decode cX2_tellMore 64 = .ok (.isub, 1) := by decide +kernel
theorem dX2_tellMore_65 : decode cX2_tellMore 65 = .ok (.iload_n 3, 1) := by decide +kernel
theorem dX2_tellMore_66 : decode cX2_tellMore 66 = .ok (.invokevirtual 78, 3) := by decide +kernel
theorem dX2_tellMore_69 : decode cX2_tellMore 69 = .ok (.iconst 1, 1) := by decide +kernel
theorem dX2_tellMore_70 : decode cX2_tellMore 70 = .ok (.ireturn, 1) := by decide +kernel
set_option maxRecDepth 20000 in
theorem ggX2_sayAbout_X2_knows : GoodIn wsX2_sayAbout wsX2_knows := goodIn_r _ [7, 8, 12, 13, 14, 15, 16, 17, 18, 19, 20, 21, 22, 23] rfl (by decide +kernel)
set_option maxRecDepth 20000 in
theorem gX2_sayAbout_X2_knows : GoodIn wsX2_sayAbout (wsV RX2 82 RX2 yX2_knows wsX2_knows) := goodIn_app (goodIn_r _ [3, 4, 5, 6] rfl (by decide +kernel)) ggX2_sayAbout_X2_knows
set_option maxRecDepth 20000 in
theorem ggX2_sayAbout_X3_isWoman : GoodIn wsX2_sayAbout wsX3_isWoman := goodIn_r _ [11] rfl (by decide +kernel)
set_option maxRecDepth 20000 in
theorem gX2_sayAbout_X3_isWoman_n74 : GoodIn wsX2_sayAbout (wsX3_isWoman) := ggX2_sayAbout_X3_isWoman
theorem dX2_sayAbout_0 : decode cX2_sayAbout 0 = .ok (.aload_n 0, 1) := by decide +kernel
theorem dX2_sayAbout_1 : decode cX2_sayAbout 1 = .ok (.iload_n 1, 1) := by decide +kernel
theorem dX2_sayAbout_2 : decode cX2_sayAbout 2 = .ok (.invokevirtual 82, 3) := by decide +kernel
theorem dX2_sayAbout_5 : decode cX2_sayAbout 5 = .ok (.ifCond .eq 10, 3) := by decide +kernel
theorem dX2_sayAbout_8 : decode cX2_sayAbout 8 = .ok (.iload_n 2, 1) := by decide +kernel
theorem dX2_sayAbout_9 : decode cX2_sayAbout 9 = .ok (.invokestatic 74, 3) := by decide +kernel
theorem dX2_sayAbout_12 : decode cX2_sayAbout 12 = .ok (.ifCond .ne 4, 3) := by decide +kernel
theorem dX2_sayAbout_15 : decode cX2_sayAbout 15 = .ok (.return_, 1) := by decide +kernel
theorem dX2_sayAbout_16 : decode cX2_sayAbout 16 = .ok (.iconst 1, 1) := by decide +kernel
theorem dX2_sayAbout_17 : decode cX2_sayAbout 17 = .ok (.iload_n 1, 1) := by decide +kernel
theorem dX2_sayAbout_18 : decode cX2_sayAbout 18 = .ok (.ishl, 1) := by decide +kernel
theorem dX2_sayAbout_19 : decode cX2_sayAbout 19 = .ok (.istore_n 3, 1) := by decide +kernel
theorem dX2_sayAbout_20 : decode cX2_sayAbout 20 = .ok (.iconst 0, 1) := by decide +kernel
theorem dX2_sayAbout_21 : decode cX2_sayAbout 21 = .ok (.istore 4, 2) := by decide +kernel
theorem dX2_sayAbout_23 : decode cX2_sayAbout 23 = .ok (.iload 4, 2) := by decide +kernel
theorem dX2_sayAbout_25 : decode cX2_sayAbout 25 = .ok (.iconst 4, 1) := by decide +kernel
theorem dX2_sayAbout_26 : decode cX2_sayAbout 26 = .ok (.if_icmp .ge 22, 3) := by decide +kernel
theorem dX2_sayAbout_29 : decode cX2_sayAbout 29 = .ok (.aload_n 0, 1) := by decide +kernel
theorem dX2_sayAbout_30 : decode cX2_sayAbout 30 = .ok (.getfield 46, 3) := by decide +kernel
theorem dX2_sayAbout_33 : decode cX2_sayAbout 33 = .ok (.iload 4, 2) := by decide +kernel
theorem dX2_sayAbout_35 : decode cX2_sayAbout 35 = .ok (.dup2, 1) := by decide +kernel
theorem dX2_sayAbout_36 : decode cX2_sayAbout 36 = .ok (.iaload, 1) := by decide +kernel
theorem dX2_sayAbout_37 : decode cX2_sayAbout 37 = .ok (.iload_n 3, 1) := by decide +kernel
theorem dX2_sayAbout_38 : decode cX2_sayAbout 38 = .ok (.iconst (-1), 1) := by decide +kernel
theorem dX2_sayAbout_39 : decode cX2_sayAbout 39 = .ok (.ixor, 1) := by decide +kernel
theorem dX2_sayAbout_40 : decode cX2_sayAbout 40 = .ok (.iand, 1) := by decide +kernel
theorem dX2_sayAbout_41 : decode cX2_sayAbout 41 = .ok (.iastore, 1) := by decide +kernel
theorem dX2_sayAbout_42 : decode cX2_sayAbout 42 = .ok (.iinc 4 1, 3) := by decide +kernel
theorem dX2_sayAbout_45 : decode cX2_sayAbout 45 = .ok (.goto (-22), 3) := by decide +kernel
theorem dX2_sayAbout_48 : decode cX2_sayAbout 48 = .ok (.aload_n 0, 1) := by decide +kernel
theorem dX2_sayAbout_49 : decode cX2_sayAbout 49 = .ok (.getfield 46, 3) := by decide +kernel
theorem dX2_sayAbout_52 : decode cX2_sayAbout 52 = .ok (.iload_n 2, 1) := by decide +kernel
theorem dX2_sayAbout_53 : decode cX2_sayAbout 53 = .ok (.dup2, 1) := by decide +kernel
theorem dX2_sayAbout_54 : decode cX2_sayAbout 54 = .ok (.iaload, 1) := by decide +kernel
theorem dX2_sayAbout_55 : decode cX2_sayAbout 55 = .ok (.iload_n 3, 1) := by decide +kernel
theorem dX2_sayAbout_56 : decode cX2_sayAbout 56 = .ok (.ior, 1) := by decide +kernel
theorem dX2_sayAbout_57 : decode cX2_sayAbout 57 = .ok (.iastore, 1) := by decide +kernel
theorem dX2_sayAbout_58 : decode cX2_sayAbout 58 = .ok (.aload_n 0, 1) := by decide +kernel
theorem dX2_sayAbout_59 : decode cX2_sayAbout 59 = .ok (.dup, 1) := by decide +kernel
theorem dX2_sayAbout_60 : decode cX2_sayAbout 60 = .ok (.getfield 21, 3) := by decide +kernel
theorem dX2_sayAbout_63 : decode cX2_sayAbout 63 = .ok (.iload_n 3, 1) := by decide +kernel
theorem dX2_sayAbout_64 : decode cX2_sayAbout 64 = .ok (.iconst (-1), 1) := by decide +kernel
theorem dX2_sayAbout_65 : decode cX2_sayAbout 65 = .ok (.ixor, 1) := by decide +kernel
theorem dX2_sayAbout_66 : decode cX2_sayAbout 66 = .ok (.iand, 1) := by decide +kernel
theorem dX2_sayAbout_67 : decode cX2_sayAbout 67 = .ok (.putfield 21, 3) := by decide +kernel
theorem dX2_sayAbout_70 : decode cX2_sayAbout 70 = .ok (.return_, 1) := by decide +kernel
theorem dX2_turnOver_0 : decode cX2_turnOver 0 = .ok (.aload_n 0, 1) := by decide +kernel
theorem dX2_turnOver_1 : decode cX2_turnOver 1 = .ok (.dup, 1) := by decide +kernel
theorem dX2_turnOver_2 : decode cX2_turnOver 2 = .ok (.getfield 21, 3) := by decide +kernel
theorem dX2_turnOver_5 : decode cX2_turnOver 5 = .ok (.iconst 1, 1) := by decide +kernel
theorem dX2_turnOver_6 : decode cX2_turnOver 6 = .ok (.iload_n 1, 1) := by decide +kernel
theorem dX2_turnOver_7 : decode cX2_turnOver 7 = .ok (.ishl, 1) := by decide +kernel
theorem dX2_turnOver_8 : decode cX2_turnOver 8 = .ok (.ixor, 1) := by decide +kernel
theorem dX2_turnOver_9 : decode cX2_turnOver 9 = .ok (.putfield 21, 3) := by decide +kernel
theorem dX2_turnOver_12 : decode cX2_turnOver 12 = .ok (.aload_n 0, 1) := by decide +kernel
theorem dX2_turnOver_13 : decode cX2_turnOver 13 = .ok (.getfield 21, 3) := by decide +kernel
theorem dX2_turnOver_16 : decode cX2_turnOver 16 = .ok (.iload_n 1, 1) := by decide +kernel
theorem dX2_turnOver_17 : decode cX2_turnOver 17 = .ok (.ishr, 1) := by decide +kernel
theorem dX2_turnOver_18 : decode cX2_turnOver 18 = .ok (.iconst 1, 1) := by decide +kernel
theorem dX2_turnOver_19 : decode cX2_turnOver 19 = .ok (.iand, 1) := by decide +kernel
theorem dX2_turnOver_20 : decode cX2_turnOver 20 = .ok (.ireturn, 1) := by decide +kernel
theorem dX2_leaveOut_0 : decode cX2_leaveOut 0 = .ok (.aload_n 0, 1) := by decide +kernel
theorem dX2_leaveOut_1 : decode cX2_leaveOut 1 = .ok (.dup, 1) := by decide +kernel
theorem dX2_leaveOut_2 : decode cX2_leaveOut 2 = .ok (.getfield 33, 3) := by decide +kernel
theorem dX2_leaveOut_5 : decode cX2_leaveOut 5 = .ok (.iconst 1, 1) := by decide +kernel
theorem dX2_leaveOut_6 : decode cX2_leaveOut 6 = .ok (.iload_n 1, 1) := by decide +kernel
theorem dX2_leaveOut_7 : decode cX2_leaveOut 7 = .ok (.ishl, 1) := by decide +kernel
theorem dX2_leaveOut_8 : decode cX2_leaveOut 8 = .ok (.ior, 1) := by decide +kernel
theorem dX2_leaveOut_9 : decode cX2_leaveOut 9 = .ok (.putfield 33, 3) := by decide +kernel
theorem dX2_leaveOut_12 : decode cX2_leaveOut 12 = .ok (.aload_n 0, 1) := by decide +kernel
theorem dX2_leaveOut_13 : decode cX2_leaveOut 13 = .ok (.dup, 1) := by decide +kernel
theorem dX2_leaveOut_14 : decode cX2_leaveOut 14 = .ok (.getfield 21, 3) := by decide +kernel
theorem dX2_leaveOut_17 : decode cX2_leaveOut 17 = .ok (.aload_n 0, 1) := by decide +kernel
theorem dX2_leaveOut_18 : decode cX2_leaveOut 18 = .ok (.getfield 33, 3) := by decide +kernel
theorem dX2_leaveOut_21 : decode cX2_leaveOut 21 = .ok (.iconst (-1), 1) := by decide +kernel
theorem dX2_leaveOut_22 : decode cX2_leaveOut 22 = .ok (.ixor, 1) := by decide +kernel
theorem dX2_leaveOut_23 : decode cX2_leaveOut 23 = .ok (.iand, 1) := by decide +kernel
theorem dX2_leaveOut_24 : decode cX2_leaveOut 24 = .ok (.putfield 21, 3) := by decide +kernel
theorem dX2_leaveOut_27 : decode cX2_leaveOut 27 = .ok (.return_, 1) := by decide +kernel
theorem dX2_wear_0 : decode cX2_wear 0 = .ok (.iconst 0, 1) := by decide +kernel
theorem dX2_wear_1 : decode cX2_wear 1 = .ok (.istore_n 2, 1) := by decide +kernel
theorem dX2_wear_2 : decode cX2_wear 2 = .ok (.iload_n 2, 1) := by decide +kernel
theorem dX2_wear_3 : decode cX2_wear 3 = .ok (.aload_n 0, 1) := by decide +kernel
theorem dX2_wear_4 : decode cX2_wear 4 = .ok (.getfield 9, 3) := by decide +kernel
theorem dX2_wear_7 : decode cX2_wear 7 = .ok (.if_icmp .ge 43, 3) := by decide +kernel
theorem dX2_wear_10 : decode cX2_wear 10 = .ok (.iload_n 2, 1) := by decide +kernel
theorem dX2_wear_11 : decode cX2_wear 11 = .ok (.bipush 9, 2) := by decide +kernel
theorem dX2_wear_13 : decode cX2_wear 13 = .ok (.if_icmp .ge 37, 3) := by decide +kernel
theorem dX2_wear_16 : decode cX2_wear 16 = .ok (.iload_n 1, 1) := by decide +kernel
theorem dX2_wear_17 : decode cX2_wear 17 = .ok (.iload_n 2, 1) := by decide +kernel
theorem dX2_wear_18 : decode cX2_wear 18 = .ok (.ishr, 1) := by decide +kernel
theorem dX2_wear_19 : decode cX2_wear 19 = .ok (.iconst 1, 1) := by decide +kernel
theorem dX2_wear_20 : decode cX2_wear 20 = .ok (.iand, 1) := by decide +kernel
theorem dX2_wear_21 : decode cX2_wear 21 = .ok (.iconst 1, 1) := by decide +kernel
theorem dX2_wear_22 : decode cX2_wear 22 = .ok (.if_icmp .ne 22, 3) := by decide +kernel
theorem dX2_wear_25 : decode cX2_wear 25 = .ok (.aload_n 0, 1) := by decide +kernel
theorem dX2_wear_26 : decode cX2_wear 26 = .ok (.getfield 43, 3) := by decide +kernel
theorem dX2_wear_29 : decode cX2_wear 29 = .ok (.iload_n 2, 1) := by decide +kernel
theorem dX2_wear_30 : decode cX2_wear 30 = .ok (.bipush 9, 2) := by decide +kernel
theorem dX2_wear_32 : decode cX2_wear 32 = .ok (.aload_n 0, 1) := by decide +kernel
theorem dX2_wear_33 : decode cX2_wear 33 = .ok (.getfield 43, 3) := by decide +kernel
theorem dX2_wear_36 : decode cX2_wear 36 = .ok (.iload_n 2, 1) := by decide +kernel
theorem dX2_wear_37 : decode cX2_wear 37 = .ok (.iaload, 1) := by decide +kernel
theorem dX2_wear_38 : decode cX2_wear 38 = .ok (.iconst 1, 1) := by decide +kernel
theorem dX2_wear_39 : decode cX2_wear 39 = .ok (.iadd, 1) := by decide +kernel
theorem dX2_wear_40 : decode cX2_wear 40 = .ok (.invokestatic 85, 3) := by decide +kernel
theorem dX2_wear_43 : decode cX2_wear 43 = .ok (.iastore, 1) := by decide +kernel
theorem dX2_wear_44 : decode cX2_wear 44 = .ok (.iinc 2 1, 3) := by decide +kernel
theorem dX2_wear_47 : decode cX2_wear 47 = .ok (.goto (-45), 3) := by decide +kernel
theorem dX2_wear_50 : decode cX2_wear 50 = .ok (.return_, 1) := by decide +kernel
set_option maxRecDepth 20000 in
theorem ggX2_bringDown_X2_nestOf : GoodIn wsX2_bringDown wsX2_nestOf := goodIn_r _ [13, 14, 1, 15, 16, 17, 18, 19, 20, 21, 22, 23, 24, 25, 26] rfl (by decide +kernel)
set_option maxRecDepth 20000 in
theorem gX2_bringDown_X2_nestOf : GoodIn wsX2_bringDown (wsV RX2 90 RX2 yX2_nestOf wsX2_nestOf) := goodIn_app (goodIn_r _ [9, 10, 11, 12] rfl (by decide +kernel)) ggX2_bringDown_X2_nestOf
theorem dX2_bringDown_0 : decode cX2_bringDown 0 = .ok (.aload_n 0, 1) := by decide +kernel
theorem dX2_bringDown_1 : decode cX2_bringDown 1 = .ok (.iload_n 1, 1) := by decide +kernel
theorem dX2_bringDown_2 : decode cX2_bringDown 2 = .ok (.invokevirtual 90, 3) := by decide +kernel
theorem dX2_bringDown_5 : decode cX2_bringDown 5 = .ok (.istore_n 2, 1) := by decide +kernel
theorem dX2_bringDown_6 : decode cX2_bringDown 6 = .ok (.iload_n 2, 1) := by decide +kernel
theorem dX2_bringDown_7 : decode cX2_bringDown 7 = .ok (.ifCond .ne 4, 3) := by decide +kernel
theorem dX2_bringDown_10 : decode cX2_bringDown 10 = .ok (.return_, 1) := by decide +kernel
theorem dX2_bringDown_11 : decode cX2_bringDown 11 = .ok (.aload_n 0, 1) := by decide +kernel
theorem dX2_bringDown_12 : decode cX2_bringDown 12 = .ok (.dup, 1) := by decide +kernel
theorem dX2_bringDown_13 : decode cX2_bringDown 13 = .ok (.getfield 21, 3) := by decide +kernel
theorem dX2_bringDown_16 : decode cX2_bringDown 16 = .ok (.iload_n 2, 1) := by decide +kernel
theorem dX2_bringDown_17 : decode cX2_bringDown 17 = .ok (.iconst (-1), 1) := by decide +kernel
theorem dX2_bringDown_18 : decode cX2_bringDown 18 = .ok (.ixor, 1) := by decide +kernel
theorem dX2_bringDown_19 : decode cX2_bringDown 19 = .ok (.iand, 1) := by decide +kernel
theorem dX2_bringDown_20 : decode cX2_bringDown 20 = .ok (.putfield 21, 3) := by decide +kernel
theorem dX2_bringDown_23 : decode cX2_bringDown 23 = .ok (.aload_n 0, 1) := by decide +kernel
theorem dX2_bringDown_24 : decode cX2_bringDown 24 = .ok (.sipush 999, 3) := by decide +kernel
theorem dX2_bringDown_27 : decode cX2_bringDown 27 = .ok (.aload_n 0, 1) := by decide +kernel
theorem dX2_bringDown_28 : decode cX2_bringDown 28 = .ok (.getfield 18, 3) := by decide +kernel
theorem dX2_bringDown_31 : decode cX2_bringDown 31 = .ok (.iconst 1, 1) := by decide +kernel
theorem dX2_bringDown_32 : decode cX2_bringDown 32 = .ok (.iadd, 1) := by decide +kernel
theorem dX2_bringDown_33 : decode cX2_bringDown 33 = .ok (.invokestatic 85, 3) := by decide +kernel
theorem dX2_bringDown_36 : decode cX2_bringDown 36 = .ok (.putfield 18, 3) := by decide +kernel
theorem dX2_bringDown_39 : decode cX2_bringDown 39 = .ok (.aload_n 0, 1) := by decide +kernel
theorem dX2_bringDown_40 : decode cX2_bringDown 40 = .ok (.dup, 1) := by decide +kernel
theorem dX2_bringDown_41 : decode cX2_bringDown 41 = .ok (.getfield 27, 3) := by decide +kernel
theorem dX2_bringDown_44 : decode cX2_bringDown 44 = .ok (.iconst 1, 1) := by decide +kernel
theorem dX2_bringDown_45 : decode cX2_bringDown 45 = .ok (.iadd, 1) := by decide +kernel
theorem dX2_bringDown_46 : decode cX2_bringDown 46 = .ok (.putfield 27, 3) := by decide +kernel
theorem dX2_bringDown_49 : decode cX2_bringDown 49 = .ok (.aload_n 0, 1) := by decide +kernel
theorem dX2_bringDown_50 : decode cX2_bringDown 50 = .ok (.dup, 1) := by decide +kernel
theorem dX2_bringDown_51 : decode cX2_bringDown 51 = .ok (.getfield 24, 3) := by decide +kernel
theorem dX2_bringDown_54 : decode cX2_bringDown 54 = .ok (.iconst 1, 1) := by decide +kernel
theorem dX2_bringDown_55 : decode cX2_bringDown 55 = .ok (.iload_n 1, 1) := by decide +kernel
theorem dX2_bringDown_56 : decode cX2_bringDown 56 = .ok (.ishl, 1) := by decide +kernel
theorem dX2_bringDown_57 : decode cX2_bringDown 57 = .ok (.ior, 1) := by decide +kernel
theorem dX2_bringDown_58 : decode cX2_bringDown 58 = .ok (.putfield 24, 3) := by decide +kernel
theorem dX2_bringDown_61 : decode cX2_bringDown 61 = .ok (.return_, 1) := by decide +kernel
set_option maxRecDepth 20000 in
theorem ggX2_passDay_X2_wear : GoodIn wsX2_passDay wsX2_wear := goodIn_r _ [8, 9, 10, 11, 12, 13, 14, 53, 54, 55, 56, 57, 58, 59, 60, 61, 62, 63, 64] rfl (by decide +kernel)
set_option maxRecDepth 20000 in
theorem gX2_passDay_X2_wear : GoodIn wsX2_passDay (wsV RX2 93 RX2 yX2_wear wsX2_wear) := goodIn_app (goodIn_r _ [4, 5, 6, 7] rfl (by decide +kernel)) ggX2_passDay_X2_wear
set_option maxRecDepth 20000 in
theorem ggX2_passDay_X2_saidAbout : GoodIn wsX2_passDay wsX2_saidAbout := goodIn_r _ [18, 3, 19, 20, 21, 22, 7, 23, 24, 53, 54, 55, 56, 57, 58, 59, 60, 61, 62, 63, 64] rfl (by decide +kernel)
set_option maxRecDepth 20000 in
theorem gX2_passDay_X2_saidAbout : GoodIn wsX2_passDay (wsV RX2 97 RX2 yX2_saidAbout wsX2_saidAbout) := goodIn_app (goodIn_r _ [15, 16, 17, 7] rfl (by decide +kernel)) ggX2_passDay_X2_saidAbout
set_option maxRecDepth 20000 in
theorem ggX2_passDay_X2_nestOf : GoodIn wsX2_passDay wsX2_nestOf := goodIn_r _ [28, 24, 3, 53, 54, 55, 56, 57, 58, 59, 60, 61, 62, 63, 64] rfl (by decide +kernel)
set_option maxRecDepth 20000 in
theorem gX2_passDay_X2_nestOf : GoodIn wsX2_passDay (wsV RX2 90 RX2 yX2_nestOf wsX2_nestOf) := goodIn_app (goodIn_r _ [25, 26, 27, 7] rfl (by decide +kernel)) ggX2_passDay_X2_nestOf
set_option maxRecDepth 20000 in
theorem ggX2_passDay_X2_holds : GoodIn wsX2_passDay wsX2_holds := goodIn_r _ [32, 9, 33, 34, 35, 36, 7, 37, 10, 38, 39, 40, 41, 42, 43, 44, 45, 53, 54, 55, 56, 57, 58, 59, 60, 61, 62, 63, 64] rfl (by decide +kernel)
set_option maxRecDepth 20000 in
theorem gX2_passDay_X2_holds : GoodIn wsX2_passDay (wsV RX2 100 RX2 yX2_holds wsX2_holds) := goodIn_app (goodIn_r _ [29, 30, 31, 7] rfl (by decide +kernel)) ggX2_passDay_X2_holds
set_option maxRecDepth 20000 in
theorem ggX2_passDay_X2_bringDown : GoodIn wsX2_passDay wsX2_bringDown := goodIn_r _ [49, 3, 50, 11, 12, 13, 14, 51, 52, 25, 26, 27, 7, 28, 24, 53, 54, 55, 56, 57, 58, 59, 60, 61, 62, 63, 64] rfl (by decide +kernel)
set_option maxRecDepth 20000 in
theorem gX2_passDay_X2_bringDown : GoodIn wsX2_passDay (wsV RX2 103 RX2 yX2_bringDown wsX2_bringDown) := goodIn_app (goodIn_r _ [46, 47, 48, 7] rfl (by decide +kernel)) ggX2_passDay_X2_bringDown
theorem dX2_passDay_0 : decode cX2_passDay 0 = .ok (.aload_n 0, 1) := by decide +kernel
theorem dX2_passDay_1 : decode cX2_passDay 1 = .ok (.dup, 1) := by decide +kernel
theorem dX2_passDay_2 : decode cX2_passDay 2 = .ok (.getfield 15, 3) := by decide +kernel
theorem dX2_passDay_5 : decode cX2_passDay 5 = .ok (.iconst 1, 1) := by decide +kernel
theorem dX2_passDay_6 : decode cX2_passDay 6 = .ok (.iadd, 1) := by decide +kernel
theorem dX2_passDay_7 : decode cX2_passDay 7 = .ok (.putfield 15, 3) := by decide +kernel
theorem dX2_passDay_10 : decode cX2_passDay 10 = .ok (.aload_n 0, 1) := by decide +kernel
theorem dX2_passDay_11 : decode cX2_passDay 11 = .ok (.getfield 15, 3) := by decide +kernel
theorem dX2_passDay_14 : decode cX2_passDay 14 = .ok (.iconst 3, 1) := by decide +kernel
theorem dX2_passDay_15 : decode cX2_passDay 15 = .ok (.irem, 1) := by decide +kernel
theorem dX2_passDay_16 : decode cX2_passDay 16 = .ok (.ifCond .ne 13, 3) := by decide +kernel
theorem dX2_passDay_19 : decode cX2_passDay 19 = .ok (.aload_n 0, 1) := by decide +kernel
theorem dX2_passDay_20 : decode cX2_passDay 20 = .ok (.aload_n 0, 1) := by decide +kernel
theorem dX2_passDay_21 : decode cX2_passDay 21 = .ok (.getfield 30, 3) := by decide +kernel
theorem dX2_passDay_24 : decode cX2_passDay 24 = .ok (.iconst (-1), 1) := by decide +kernel
theorem dX2_passDay_25 : decode cX2_passDay 25 = .ok (.ixor, 1) := by decide +kernel
theorem dX2_passDay_26 : decode cX2_passDay 26 = .ok (.invokevirtual 93, 3) := by decide +kernel
theorem dX2_passDay_29 : decode cX2_passDay 29 = .ok (.iconst 0, 1) := by decide +kernel
theorem dX2_passDay_30 : decode cX2_passDay 30 = .ok (.istore_n 1, 1) := by decide +kernel
theorem dX2_passDay_31 : decode cX2_passDay 31 = .ok (.iload_n 1, 1) := by decide +kernel
theorem dX2_passDay_32 : decode cX2_passDay 32 = .ok (.iconst 4, 1) := by decide +kernel
theorem dX2_passDay_33 : decode cX2_passDay 33 = .ok (.if_icmp .ge 28, 3) := by decide +kernel
theorem dX2_passDay_36 : decode cX2_passDay 36 = .ok (.aload_n 0, 1) := by decide +kernel
theorem dX2_passDay_37 : decode cX2_passDay 37 = .ok (.iload_n 1, 1) := by decide +kernel
theorem dX2_passDay_38 : decode cX2_passDay 38 = .ok (.invokevirtual 97, 3) := by decide +kernel
theorem dX2_passDay_41 : decode cX2_passDay 41 = .ok (.istore_n 2, 1) := by decide +kernel
theorem dX2_passDay_42 : decode cX2_passDay 42 = .ok (.aload_n 0, 1) := by decide +kernel
theorem dX2_passDay_43 : decode cX2_passDay 43 = .ok (.dup, 1) := by decide +kernel
theorem dX2_passDay_44 : decode cX2_passDay 44 = .ok (.getfield 21, 3) := by decide +kernel
theorem dX2_passDay_47 : decode cX2_passDay 47 = .ok (.iload_n 2, 1) := by decide +kernel
theorem dX2_passDay_48 : decode cX2_passDay 48 = .ok (.iload_n 2, 1) := by decide +kernel
theorem dX2_passDay_49 : decode cX2_passDay 49 = .ok (.ineg, 1) := by decide +kernel
theorem dX2_passDay_50 : decode cX2_passDay 50 = .ok (.iand, 1) := by decide +kernel
theorem dX2_passDay_51 : decode cX2_passDay 51 = .ok (.ior, 1) := by decide +kernel
theorem dX2_passDay_52 : decode cX2_passDay 52 = .ok (.putfield 21, 3) := by decide +kernel
theorem dX2_passDay_55 : decode cX2_passDay 55 = .ok (.iinc 1 1, 3) := by decide +kernel
theorem dX2_passDay_58 : decode cX2_passDay 58 = .ok (.goto (-27), 3) := by decide +kernel
theorem dX2_passDay_61 : decode cX2_passDay 61 = .ok (.iconst 0, 1) := by decide +kernel
theorem dX2_passDay_62 : decode cX2_passDay 62 = .ok (.istore_n 1, 1) := by decide +kernel
theorem dX2_passDay_63 : decode cX2_passDay 63 = .ok (.iload_n 1, 1) := by decide +kernel
theorem dX2_passDay_64 : decode cX2_passDay 64 = .ok (.iconst 4, 1) := by decide +kernel
theorem dX2_passDay_65 : decode cX2_passDay 65 = .ok (.if_icmp .ge 26, 3) := by decide +kernel
theorem dX2_passDay_68 : decode cX2_passDay 68 = .ok (.aload_n 0, 1) := by decide +kernel
theorem dX2_passDay_69 : decode cX2_passDay 69 = .ok (.aload_n 0, 1) := by decide +kernel
theorem dX2_passDay_70 : decode cX2_passDay 70 = .ok (.iload_n 1, 1) := by decide +kernel
theorem dX2_passDay_71 : decode cX2_passDay 71 = .ok (.invokevirtual 90, 3) := by decide +kernel
theorem dX2_passDay_74 : decode cX2_passDay 74 = .ok (.invokevirtual 100, 3) := by decide +kernel
theorem dX2_passDay_77 : decode cX2_passDay 77 = .ok (.ifCond .ne 8, 3) := by decide +kernel
theorem dX2_passDay_80 : decode cX2_passDay 80 = .ok (.aload_n 0, 1) := by decide +kernel
theorem dX2_passDay_81 : decode cX2_passDay 81 = .ok (.iload_n 1, 1) := by decide +kernel
theorem dX2_passDay_82 : decode cX2_passDay 82 = .ok (.invokevirtual 103, 3) := by decide +kernel
theorem dX2_passDay_85 : decode cX2_passDay 85 = .ok (.iinc 1 1, 3) := by decide +kernel
theorem dX2_passDay_88 : decode cX2_passDay 88 = .ok (.goto (-25), 3) := by decide +kernel
theorem dX2_passDay_91 : decode cX2_passDay 91 = .ok (.return_, 1) := by decide +kernel
set_option maxRecDepth 20000 in
theorem ggX2_passDays_X2_passDay : GoodIn wsX2_passDays wsX2_passDay := goodIn_r _ [5, 6, 7, 8, 9, 10, 11, 4, 12, 13, 14, 15, 16, 17, 18, 19, 20, 21, 22, 23, 24, 25, 26, 27, 28, 29, 30, 31, 32, 33, 34, 35, 36, 37, 38, 39, 40, 41, 42, 43, 44, 45, 46, 47, 48, 49, 50, 51, 52, 53, 54, 55, 56, 57, 58, 59, 60, 61, 62, 63, 64, 65, 66, 67, 68] rfl (by decide +kernel)
set_option maxRecDepth 20000 in
theorem gX2_passDays_X2_passDay : GoodIn wsX2_passDays (wsV RX2 106 RX2 yX2_passDay wsX2_passDay) := goodIn_app (goodIn_r _ [1, 2, 3, 4] rfl (by decide +kernel)) ggX2_passDays_X2_passDay
theorem dX2_passDays_0 : decode cX2_passDays 0 = .ok (.iconst 0, 1) := by decide +kernel
theorem dX2_passDays_1 : decode cX2_passDays 1 = .ok (.istore_n 2, 1) := by decide +kernel
theorem dX2_passDays_2 : decode cX2_passDays 2 = .ok (.iload_n 2, 1) := by decide +kernel
theorem dX2_passDays_3 : decode cX2_passDays 3 = .ok (.iload_n 1, 1) := by decide +kernel
theorem dX2_passDays_4 : decode cX2_passDays 4 = .ok (.if_icmp .ge 13, 3) := by decide +kernel
theorem dX2_passDays_7 : decode cX2_passDays 7 = .ok (.aload_n 0, 1) := by decide +kernel
theorem dX2_passDays_8 : decode cX2_passDays 8 = .ok (.invokevirtual 106, 3) := by decide +kernel
theorem dX2_passDays_11 : decode cX2_passDays 11 = .ok (.iinc 2 1, 3) := by decide +kernel
theorem dX2_passDays_14 : decode cX2_passDays 14 = .ok (.goto (-12), 3) := by decide +kernel
theorem dX2_passDays_17 : decode cX2_passDays 17 = .ok (.return_, 1) := by decide +kernel
set_option maxRecDepth 20000 in
theorem ggX2_fewestMoved_J6_bitCount_0f7a4 : GoodIn wsX2_fewestMoved wsJ6_bitCount_0f7a4 := goodIn_r _ [5, 6, 7, 8] rfl (by decide +kernel)
set_option maxRecDepth 20000 in
theorem gX2_fewestMoved_J6_bitCount_0f7a4 : GoodIn wsX2_fewestMoved (va_wsS RX2 109 yJ6_bitCount_0f7a4 wsJ6_bitCount_0f7a4) := goodIn_app (goodIn_r _ [2, 3, 4] rfl (by decide +kernel)) ggX2_fewestMoved_J6_bitCount_0f7a4
set_option maxRecDepth 20000 in
theorem ggX2_fewestMoved_X2_holds : GoodIn wsX2_fewestMoved wsX2_holds := goodIn_r _ [13, 1, 14, 15, 16, 17, 12, 18, 19, 20, 21, 22, 23, 24, 25, 26, 27, 28, 29, 30, 31, 32, 33, 34, 35, 36, 37, 38, 39] rfl (by decide +kernel)
set_option maxRecDepth 20000 in
theorem gX2_fewestMoved_X2_holds : GoodIn wsX2_fewestMoved (wsV RX2 100 RX2 yX2_holds wsX2_holds) := goodIn_app (goodIn_r _ [9, 10, 11, 12] rfl (by decide +kernel)) ggX2_fewestMoved_X2_holds
theorem dX2_fewestMoved_0 : decode cX2_fewestMoved 0 = .ok (.bipush (-9), 2) := by decide +kernel
theorem dX2_fewestMoved_2 : decode cX2_fewestMoved 2 = .ok (.istore_n 3, 1) := by decide +kernel
theorem dX2_fewestMoved_3 : decode cX2_fewestMoved 3 = .ok (.bipush 10, 2) := by decide +kernel
theorem dX2_fewestMoved_5 : decode cX2_fewestMoved 5 = .ok (.istore 4, 2) := by decide +kernel
theorem dX2_fewestMoved_7 : decode cX2_fewestMoved 7 = .ok (.iconst 0, 1) := by decide +kernel
theorem dX2_fewestMoved_8 : decode cX2_fewestMoved 8 = .ok (.istore 5, 2) := by decide +kernel
theorem dX2_fewestMoved_10 : decode cX2_fewestMoved 10 = .ok (.iload 5, 2) := by decide +kernel
theorem dX2_fewestMoved_12 : decode cX2_fewestMoved 12 = .ok (.iconst 1, 1) := by decide +kernel
theorem dX2_fewestMoved_13 : decode cX2_fewestMoved 13 = .ok (.aload_n 0, 1) := by decide +kernel
theorem dX2_fewestMoved_14 : decode cX2_fewestMoved 14 = .ok (.getfield 9, 3) := by decide +kernel
theorem dX2_fewestMoved_17 : decode cX2_fewestMoved 17 = .ok (.ishl, 1) := by decide +kernel
theorem dX2_fewestMoved_18 : decode cX2_fewestMoved 18 = .ok (.if_icmp .ge 50, 3) := by decide +kernel
theorem dX2_fewestMoved_21 : decode cX2_fewestMoved 21 = .ok (.iload 5, 2) := by decide +kernel
theorem dX2_fewestMoved_23 : decode cX2_fewestMoved 23 = .ok (.invokestatic 109, 3) := by decide +kernel
theorem dX2_fewestMoved_26 : decode cX2_fewestMoved 26 = .ok (.istore 6, 2) := by decide +kernel
theorem dX2_fewestMoved_28 : decode cX2_fewestMoved 28 = .ok (.iload 5, 2) := by decide +kernel
theorem dX2_fewestMoved_30 : decode cX2_fewestMoved 30 = .ok (.iload_n 2, 1) := by decide +kernel
theorem dX2_fewestMoved_31 : decode cX2_fewestMoved 31 = .ok (.iconst (-1), 1) := by decide +kernel
theorem dX2_fewestMoved_32 : decode cX2_fewestMoved 32 = .ok (.ixor, 1) := by decide +kernel
theorem dX2_fewestMoved_33 : decode cX2_fewestMoved 33 = .ok (.iand, 1) := by decide +kernel
theorem dX2_fewestMoved_34 : decode cX2_fewestMoved 34 = .ok (.ifCond .ne 28, 3) := by decide +kernel
theorem dX2_fewestMoved_37 : decode cX2_fewestMoved 37 = .ok (.iload 6, 2) := by decide +kernel
theorem dX2_fewestMoved_39 : decode cX2_fewestMoved 39 = .ok (.iload 4, 2) := by decide +kernel
theorem dX2_fewestMoved_41 : decode cX2_fewestMoved 41 = .ok (.if_icmp .ge 21, 3) := by decide +kernel
theorem dX2_fewestMoved_44 : decode cX2_fewestMoved 44 = .ok (.aload_n 0, 1) := by decide +kernel
theorem dX2_fewestMoved_45 : decode cX2_fewestMoved 45 = .ok (.iload_n 1, 1) := by decide +kernel
theorem dX2_fewestMoved_46 : decode cX2_fewestMoved 46 = .ok (.iload 5, 2) := by decide +kernel
theorem dX2_fewestMoved_48 : decode cX2_fewestMoved 48 = .ok (.ixor, 1) := by decide +kernel
theorem dX2_fewestMoved_49 : decode cX2_fewestMoved 49 = .ok (.invokevirtual 100, 3) := by decide +kernel
theorem dX2_fewestMoved_52 : decode cX2_fewestMoved 52 = .ok (.ifCond .eq 10, 3) := by decide +kernel
theorem dX2_fewestMoved_55 : decode cX2_fewestMoved 55 = .ok (.iload 5, 2) := by decide +kernel
theorem dX2_fewestMoved_57 : decode cX2_fewestMoved 57 = .ok (.istore_n 3, 1) := by decide +kernel
theorem dX2_fewestMoved_58 : decode cX2_fewestMoved 58 = .ok (.iload 6, 2) := by decide +kernel
theorem dX2_fewestMoved_60 : decode cX2_fewestMoved 60 = .ok (.istore 4, 2) := by decide +kernel
theorem dX2_fewestMoved_62 : decode cX2_fewestMoved 62 = .ok (.iinc 5 1, 3) := by decide +kernel
theorem dX2_fewestMoved_65 : decode cX2_fewestMoved 65 = .ok (.goto (-55), 3) := by decide +kernel
theorem dX2_fewestMoved_68 : decode cX2_fewestMoved 68 = .ok (.iload_n 3, 1) := by decide +kernel
theorem dX2_fewestMoved_69 : decode cX2_fewestMoved 69 = .ok (.ireturn, 1) := by decide +kernel
set_option maxRecDepth 20000 in
theorem ggX2_softestHolding_X2_softOf : GoodIn wsX2_softestHolding wsX2_softOf := goodIn_r _ [6, 1, 7, 8, 9, 10, 5, 11, 12, 13, 14, 15, 16, 17, 28, 29, 30, 31, 32, 33, 34, 35, 36, 37, 38, 39] rfl (by decide +kernel)
set_option maxRecDepth 20000 in
theorem gX2_softestHolding_X2_softOf : GoodIn wsX2_softestHolding (wsV RX2 114 RX2 yX2_softOf wsX2_softOf) := goodIn_app (goodIn_r _ [2, 3, 4, 5] rfl (by decide +kernel)) ggX2_softestHolding_X2_softOf
set_option maxRecDepth 20000 in
theorem ggX2_softestHolding_X2_holds : GoodIn wsX2_softestHolding wsX2_holds := goodIn_r _ [21, 1, 7, 8, 9, 10, 5, 11, 12, 13, 22, 23, 16, 24, 25, 26, 27, 28, 29, 30, 31, 32, 33, 34, 35, 36, 37, 38, 39] rfl (by decide +kernel)
set_option maxRecDepth 20000 in
theorem gX2_softestHolding_X2_holds : GoodIn wsX2_softestHolding (wsV RX2 100 RX2 yX2_holds wsX2_holds) := goodIn_app (goodIn_r _ [18, 19, 20, 5] rfl (by decide +kernel)) ggX2_softestHolding_X2_holds
theorem dX2_softestHolding_0 : decode cX2_softestHolding 0 = .ok (.iconst 0, 1) := by decide +kernel
theorem dX2_softestHolding_1 : decode cX2_softestHolding 1 = .ok (.istore_n 2, 1) := by decide +kernel
theorem dX2_softestHolding_2 : decode cX2_softestHolding 2 = .ok (.iconst 0, 1) := by decide +kernel
theorem dX2_softestHolding_3 : decode cX2_softestHolding 3 = .ok (.istore_n 3, 1) := by decide +kernel
theorem dX2_softestHolding_4 : decode cX2_softestHolding 4 = .ok (.iconst 1, 1) := by decide +kernel
theorem dX2_softestHolding_5 : decode cX2_softestHolding 5 = .ok (.istore 4, 2) := by decide +kernel
theorem dX2_softestHolding_7 : decode cX2_softestHolding 7 = .ok (.iload 4, 2) := by decide +kernel
theorem dX2_softestHolding_9 : decode cX2_softestHolding 9 = .ok (.iconst 1, 1) := by decide +kernel
theorem dX2_softestHolding_10 : decode cX2_softestHolding 10 = .ok (.aload_n 0, 1) := by decide +kernel
theorem dX2_softestHolding_11 : decode cX2_softestHolding 11 = .ok (.getfield 9, 3) := by decide +kernel
theorem dX2_softestHolding_14 : decode cX2_softestHolding 14 = .ok (.ishl, 1) := by decide +kernel
theorem dX2_softestHolding_15 : decode cX2_softestHolding 15 = .ok (.if_icmp .ge 47, 3) := by decide +kernel
theorem dX2_softestHolding_18 : decode cX2_softestHolding 18 = .ok (.iload 4, 2) := by decide +kernel
theorem dX2_softestHolding_20 : decode cX2_softestHolding 20 = .ok (.iload_n 1, 1) := by decide +kernel
theorem dX2_softestHolding_21 : decode cX2_softestHolding 21 = .ok (.iconst (-1), 1) := by decide +kernel
theorem dX2_softestHolding_22 : decode cX2_softestHolding 22 = .ok (.ixor, 1) := by decide +kernel
theorem dX2_softestHolding_23 : decode cX2_softestHolding 23 = .ok (.iand, 1) := by decide +kernel
theorem dX2_softestHolding_24 : decode cX2_softestHolding 24 = .ok (.ifCond .ne 32, 3) := by decide +kernel
theorem dX2_softestHolding_27 : decode cX2_softestHolding 27 = .ok (.aload_n 0, 1) := by decide +kernel
theorem dX2_softestHolding_28 : decode cX2_softestHolding 28 = .ok (.iload 4, 2) := by decide +kernel
theorem dX2_softestHolding_30 : decode cX2_softestHolding 30 = .ok (.invokevirtual 114, 3) := by decide +kernel
theorem dX2_softestHolding_33 : decode cX2_softestHolding 33 = .ok (.iload_n 3, 1) := by decide +kernel
theorem dX2_softestHolding_34 : decode cX2_softestHolding 34 = .ok (.if_icmp .le 22, 3) := by decide +kernel
theorem dX2_softestHolding_37 : decode cX2_softestHolding 37 = .ok (.aload_n 0, 1) := by decide +kernel
theorem dX2_softestHolding_38 : decode cX2_softestHolding 38 = .ok (.iload 4, 2) := by decide +kernel
theorem dX2_softestHolding_40 : decode cX2_softestHolding 40 = .ok (.invokevirtual 100, 3) := by decide +kernel
theorem dX2_softestHolding_43 : decode cX2_softestHolding 43 = .ok (.ifCond .eq 13, 3) := by decide +kernel
theorem dX2_softestHolding_46 : decode cX2_softestHolding 46 = .ok (.iload 4, 2) := by decide +kernel
theorem dX2_softestHolding_48 : decode cX2_softestHolding 48 = .ok (.istore_n 2, 1) := by decide +kernel
theorem dX2_softestHolding_49 : decode cX2_softestHolding 49 = .ok (.aload_n 0, 1) := by decide +kernel
theorem dX2_softestHolding_50 : decode cX2_softestHolding 50 = .ok (.iload 4, 2) := by decide +kernel
theorem dX2_softestHolding_52 : decode cX2_softestHolding 52 = .ok (.invokevirtual 114, 3) := by decide +kernel
theorem dX2_softestHolding_55 : decode cX2_softestHolding 55 = .ok (.istore_n 3, 1) := by decide +kernel
theorem dX2_softestHolding_56 : decode cX2_softestHolding 56 = .ok (.iinc 4 1, 3) := by decide +kernel
theorem dX2_softestHolding_59 : decode cX2_softestHolding 59 = .ok (.goto (-52), 3) := by decide +kernel
theorem dX2_softestHolding_62 : decode cX2_softestHolding 62 = .ok (.iload_n 2, 1) := by decide +kernel
theorem dX2_softestHolding_63 : decode cX2_softestHolding 63 = .ok (.ireturn, 1) := by decide +kernel
set_option maxRecDepth 20000 in
theorem ggX3_init_X2_init : GoodIn wsX3_init wsX2_init := goodIn_r _ [21, 22, 2, 3, 23, 24, 25, 26, 27, 28, 29, 30, 15, 31, 32, 33, 34, 40, 41, 42, 43, 44, 45, 46, 47, 48, 49, 50, 51] rfl (by decide +kernel)
set_option maxRecDepth 20000 in
theorem gX3_init_X2_init_n9 : GoodIn wsX3_init (wsX2_init) := ggX3_init_X2_init
set_option maxRecDepth 20000 in
theorem ggX3_init_X0_init : GoodIn wsX3_init wsX0_init := goodIn_r _ [36, 37, 2, 3, 15, 38, 39, 61, 62] rfl (by decide +kernel)
set_option maxRecDepth 20000 in
theorem gX3_init_X0_init_n28 : GoodIn wsX3_init (wsX0_init) := ggX3_init_X0_init
