theorem dX3_init_0 : decode cX3_init 0 = .ok (.aload_n 0, 1) := by decide +kernel
theorem dX3_init_1 : decode cX3_init 1 = .ok (.invokespecial 1, 3) := by decide +kernel
theorem dX3_init_4 : decode cX3_init 4 = .ok (.aload_n 0, 1) := by decide +kernel
theorem dX3_init_5 : decode cX3_init 5 = .ok (.new 7, 3) := by decide +kernel
theorem dX3_init_8 : decode cX3_init 8 = .ok (.dup, 1) := by decide +kernel
theorem dX3_init_9 : decode cX3_init 9 = .ok (.invokespecial 9, 3) := by decide +kernel
theorem dX3_init_12 : decode cX3_init 12 = .ok (.putfield 10, 3) := by decide +kernel
theorem dX3_init_15 : decode cX3_init 15 = .ok (.aload_n 0, 1) := by decide +kernel
theorem dX3_init_16 : decode cX3_init 16 = .ok (.new 7, 3) := by decide +kernel
theorem dX3_init_19 : decode cX3_init 19 = .ok (.dup, 1) := by decide +kernel
theorem dX3_init_20 : decode cX3_init 20 = .ok (.invokespecial 9, 3) := by decide +kernel
theorem dX3_init_23 : decode cX3_init 23 = .ok (.putfield 16, 3) := by decide +kernel
theorem dX3_init_26 : decode cX3_init 26 = .ok (.aload_n 0, 1) := by decide +kernel
theorem dX3_init_27 : decode cX3_init 27 = .ok (.new 7, 3) := by decide +kernel
theorem dX3_init_30 : decode cX3_init 30 = .ok (.dup, 1) := by decide +kernel
theorem dX3_init_31 : decode cX3_init 31 = .ok (.invokespecial 9, 3) := by decide +kernel
theorem dX3_init_34 : decode cX3_init 34 = .ok (.putfield 19, 3) := by decide +kernel
theorem dX3_init_37 : decode cX3_init 37 = .ok (.aload_n 0, 1) := by decide +kernel
theorem dX3_init_38 : decode cX3_init 38 = .ok (.iconst 0, 1) := by decide +kernel
theorem dX3_init_39 : decode cX3_init 39 = .ok (.putfield 22, 3) := by decide +kernel
theorem dX3_init_42 : decode cX3_init 42 = .ok (.aload_n 0, 1) := by decide +kernel
theorem dX3_init_43 : decode cX3_init 43 = .ok (.new 26, 3) := by decide +kernel
theorem dX3_init_46 : decode cX3_init 46 = .ok (.dup, 1) := by decide +kernel
theorem dX3_init_47 : decode cX3_init 47 = .ok (.invokespecial 28, 3) := by decide +kernel
theorem dX3_init_50 : decode cX3_init 50 = .ok (.putfield 29, 3) := by decide +kernel
theorem dX3_init_53 : decode cX3_init 53 = .ok (.aload_n 0, 1) := by decide +kernel
theorem dX3_init_54 : decode cX3_init 54 = .ok (.bipush 16, 2) := by decide +kernel
theorem dX3_init_56 : decode cX3_init 56 = .ok (.newarray .int, 2) := by decide +kernel
theorem dX3_init_58 : decode cX3_init 58 = .ok (.putfield 33, 3) := by decide +kernel
theorem dX3_init_61 : decode cX3_init 61 = .ok (.aload_n 0, 1) := by decide +kernel
theorem dX3_init_62 : decode cX3_init 62 = .ok (.iconst 0, 1) := by decide +kernel
theorem dX3_init_63 : decode cX3_init 63 = .ok (.putfield 37, 3) := by decide +kernel
theorem dX3_init_66 : decode cX3_init 66 = .ok (.aload_n 0, 1) := by decide +kernel
theorem dX3_init_67 : decode cX3_init 67 = .ok (.bipush 7, 2) := by decide +kernel
theorem dX3_init_69 : decode cX3_init 69 = .ok (.newarray .int, 2) := by decide +kernel
theorem dX3_init_71 : decode cX3_init 71 = .ok (.putfield 41, 3) := by decide +kernel
theorem dX3_init_74 : decode cX3_init 74 = .ok (.aload_n 0, 1) := by decide +kernel
theorem dX3_init_75 : decode cX3_init 75 = .ok (.iconst 4, 1) := by decide +kernel
theorem dX3_init_76 : decode cX3_init 76 = .ok (.newarray .int, 2) := by decide +kernel
theorem dX3_init_78 : decode cX3_init 78 = .ok (.putfield 44, 3) := by decide +kernel
theorem dX3_init_81 : decode cX3_init 81 = .ok (.return_, 1) := by decide +kernel
set_option maxRecDepth 20000 in
theorem ggX3_letter_X3_refuse : GoodIn wsX3_letter wsX3_refuse := goodIn_r _ [7, 8, 16, 17, 18, 19, 20, 21, 22, 23, 24] rfl (by decide +kernel)
set_option maxRecDepth 20000 in
theorem gX3_letter_X3_refuse : GoodIn wsX3_letter (wsV RX3 47 RX3 yX3_refuse wsX3_refuse) := goodIn_app (goodIn_r _ [3, 4, 5, 6] rfl (by decide +kernel)) ggX3_letter_X3_refuse
set_option maxRecDepth 20000 in
theorem ggX3_letter_X0_append : GoodIn wsX3_letter wsX0_append := goodIn_r _ [13, 14, 15, 25, 26] rfl (by decide +kernel)
set_option maxRecDepth 20000 in
theorem gX3_letter_X0_append : GoodIn wsX3_letter (wsV RX3 54 RX0 yX0_append wsX0_append) := goodIn_app (goodIn_r _ [9, 10, 11, 12] rfl (by decide +kernel)) ggX3_letter_X0_append
theorem dX3_letter_0 : decode cX3_letter 0 = .ok (.iload_n 1, 1) := by decide +kernel
theorem dX3_letter_1 : decode cX3_letter 1 = .ok (.ifCond .ge 10, 3) := by decide +kernel
theorem dX3_letter_4 : decode cX3_letter 4 = .ok (.aload_n 0, 1) := by decide +kernel
theorem dX3_letter_5 : decode cX3_letter 5 = .ok (.bipush (-4), 2) := by decide +kernel
theorem dX3_letter_7 : decode cX3_letter 7 = .ok (.invokevirtual 47, 3) := by decide +kernel
theorem dX3_letter_10 : decode cX3_letter 10 = .ok (.ireturn, 1) := by decide +kernel
theorem dX3_letter_11 : decode cX3_letter 11 = .ok (.iload_n 1, 1) := by decide +kernel
theorem dX3_letter_12 : decode cX3_letter 12 = .ok (.sipush 255, 3) := by decide +kernel
theorem dX3_letter_15 : decode cX3_letter 15 = .ok (.if_icmp .gt 15, 3) := by decide +kernel
theorem dX3_letter_18 : decode cX3_letter 18 = .ok (.aload_n 0, 1) := by decide +kernel
theorem dX3_letter_19 : decode cX3_letter 19 = .ok (.getfield 29, 3) := by decide +kernel
theorem dX3_letter_22 : decode cX3_letter 22 = .ok (.getfield 51, 3) := by decide +kernel
theorem dX3_letter_25 : decode cX3_letter 25 = .ok (.bipush 96, 2) := by decide +kernel
theorem dX3_letter_27 : decode cX3_letter 27 = .ok (.if_icmp .lt 10, 3) := by decide +kernel
theorem dX3_letter_30 : decode cX3_letter 30 = .ok (.aload_n 0, 1) := by decide +kernel
theorem dX3_letter_31 : decode cX3_letter 31 = .ok (.bipush (-6), 2) := by decide +kernel
theorem dX3_letter_33 : decode cX3_letter 33 = .ok (.invokevirtual 47, 3) := by decide +kernel
theorem dX3_letter_36 : decode cX3_letter 36 = .ok (.ireturn, 1) := by decide +kernel
theorem dX3_letter_37 : decode cX3_letter 37 = .ok (.aload_n 0, 1) := by decide +kernel
theorem dX3_letter_38 : decode cX3_letter 38 = .ok (.getfield 29, 3) := by decide +kernel
theorem dX3_letter_41 : decode cX3_letter 41 = .ok (.iload_n 1, 1) := by decide +kernel
theorem dX3_letter_42 : decode cX3_letter 42 = .ok (.invokevirtual 54, 3) := by decide +kernel
theorem dX3_letter_45 : decode cX3_letter 45 = .ok (.aload_n 0, 1) := by decide +kernel
theorem dX3_letter_46 : decode cX3_letter 46 = .ok (.getfield 29, 3) := by decide +kernel
theorem dX3_letter_49 : decode cX3_letter 49 = .ok (.getfield 51, 3) := by decide +kernel
theorem dX3_letter_52 : decode cX3_letter 52 = .ok (.ireturn, 1) := by decide +kernel
set_option maxRecDepth 20000 in
theorem ggX3_close_X0_placeOfWrongLetter : GoodIn wsX3_close wsX0_placeOfWrongLetter := goodIn_r _ [9, 10, 11, 12, 13, 8, 14, 15, 16, 17, 18, 19, 20, 21, 22, 23, 24, 25, 138, 139] rfl (by decide +kernel)
set_option maxRecDepth 20000 in
theorem gX3_close_X0_placeOfWrongLetter : GoodIn wsX3_close (wsV RX3 58 RX0 yX0_placeOfWrongLetter wsX0_placeOfWrongLetter) := goodIn_app (goodIn_r _ [5, 6, 7, 8] rfl (by decide +kernel)) ggX3_close_X0_placeOfWrongLetter
set_option maxRecDepth 20000 in
theorem ggX3_close_X2_becomes : GoodIn wsX3_close wsX2_becomes := goodIn_r _ [30, 31, 32, 33, 34, 35, 36, 37, 38, 39, 40, 41, 42, 43, 44, 45, 46, 140, 141, 142, 143, 144, 145, 146, 147, 148, 149, 150, 151] rfl (by decide +kernel)
set_option maxRecDepth 20000 in
theorem gX3_close_X2_becomes : GoodIn wsX3_close (wsV RX3 62 RX2 yX2_becomes wsX2_becomes) := goodIn_app (goodIn_r _ [26, 27, 28, 29] rfl (by decide +kernel)) ggX3_close_X2_becomes
set_option maxRecDepth 20000 in
theorem ggX3_close_X0_tellTo : GoodIn wsX3_close wsX0_tellTo := goodIn_r _ [50, 10, 51, 52, 53, 8, 54, 55, 56, 57, 58, 59, 60, 11, 12, 13, 14, 15, 22, 23, 24, 25, 61, 62, 63, 29, 64, 31, 39, 44, 45, 65, 66, 67, 68, 69, 70, 71, 46, 34, 72, 73, 74, 75, 76, 77, 78, 79, 80, 81, 82, 83, 84, 85, 33, 86, 87, 88, 89, 36, 35, 90, 91, 92, 93, 94, 95, 96, 97, 98, 99, 100, 101, 32, 37, 102, 103, 104, 105, 106, 107, 108, 109, 38, 110, 111, 112, 113, 114, 115, 116, 117, 118, 119, 120, 121, 122, 123, 124, 125, 126, 127, 128, 19, 20, 21, 138, 139, 140, 141, 142, 143, 144, 145, 146, 147, 148, 149, 150, 151] rfl (by decide +kernel)
set_option maxRecDepth 20000 in
theorem gX3_close_X0_tellTo : GoodIn wsX3_close (wsV RX3 66 RX0 yX0_tellTo wsX0_tellTo) := goodIn_app (goodIn_r _ [47, 48, 49, 8] rfl (by decide +kernel)) ggX3_close_X0_tellTo
theorem dX3_close_0 : decode cX3_close 0 = .ok (.aload_n 0, 1) := by decide +kernel
theorem dX3_close_1 : decode cX3_close 1 = .ok (.getfield 29, 3) := by decide +kernel
theorem dX3_close_4 : decode cX3_close 4 = .ok (.invokevirtual 58, 3) := by decide +kernel
theorem dX3_close_7 : decode cX3_close 7 = .ok (.istore_n 1, 1) := by decide +kernel
theorem dX3_close_8 : decode cX3_close 8 = .ok (.iload_n 1, 1) := by decide +kernel
theorem dX3_close_9 : decode cX3_close 9 = .ok (.ifCond .lt 12, 3) := by decide +kernel
theorem dX3_close_12 : decode cX3_close 12 = .ok (.sipush (-1000), 3) := by decide +kernel
theorem dX3_close_15 : decode cX3_close 15 = .ok (.iload_n 1, 1) := by decide +kernel
theorem dX3_close_16 : decode cX3_close 16 = .ok (.isub, 1) := by decide +kernel
theorem dX3_close_17 : decode cX3_close 17 = .ok (.istore_n 2, 1) := by decide +kernel
theorem dX3_close_18 : decode cX3_close 18 = .ok (.goto 41, 3) := by decide +kernel
theorem dX3_close_21 : decode cX3_close 21 = .ok (.aload_n 0, 1) := by decide +kernel
theorem dX3_close_22 : decode cX3_close 22 = .ok (.getfield 16, 3) := by decide +kernel
theorem dX3_close_25 : decode cX3_close 25 = .ok (.aload_n 0, 1) := by decide +kernel
theorem dX3_close_26 : decode cX3_close 26 = .ok (.getfield 10, 3) := by decide +kernel
theorem dX3_close_29 : decode cX3_close 29 = .ok (.invokevirtual 62, 3) := by decide +kernel
theorem dX3_close_32 : decode cX3_close 32 = .ok (.aload_n 0, 1) := by decide +kernel
theorem dX3_close_33 : decode cX3_close 33 = .ok (.getfield 29, 3) := by decide +kernel
theorem dX3_close_36 : decode cX3_close 36 = .ok (.aload_n 0, 1) := by decide +kernel
theorem dX3_close_37 : decode cX3_close 37 = .ok (.getfield 16, 3) := by decide +kernel
theorem dX3_close_40 : decode cX3_close 40 = .ok (.invokevirtual 66, 3) := by decide +kernel
theorem dX3_close_43 : decode cX3_close 43 = .ok (.istore_n 2, 1) := by decide +kernel
theorem dX3_close_44 : decode cX3_close 44 = .ok (.iload_n 2, 1) := by decide +kernel
theorem dX3_close_45 : decode cX3_close 45 = .ok (.ifCond .lt 14, 3) := by decide +kernel
theorem dX3_close_48 : decode cX3_close 48 = .ok (.aload_n 0, 1) := by decide +kernel
theorem dX3_close_49 : decode cX3_close 49 = .ok (.getfield 10, 3) := by decide +kernel
theorem dX3_close_52 : decode cX3_close 52 = .ok (.aload_n 0, 1) := by decide +kernel
theorem dX3_close_53 : decode cX3_close 53 = .ok (.getfield 16, 3) := by decide +kernel
theorem dX3_close_56 : decode cX3_close 56 = .ok (.invokevirtual 62, 3) := by decide +kernel
theorem dX3_close_59 : decode cX3_close 59 = .ok (.aload_n 0, 1) := by decide +kernel
theorem dX3_close_60 : decode cX3_close 60 = .ok (.getfield 29, 3) := by decide +kernel
theorem dX3_close_63 : decode cX3_close 63 = .ok (.iconst 0, 1) := by decide +kernel
theorem dX3_close_64 : decode cX3_close 64 = .ok (.putfield 51, 3) := by decide +kernel
theorem dX3_close_67 : decode cX3_close 67 = .ok (.iload_n 2, 1) := by decide +kernel
theorem dX3_close_68 : decode cX3_close 68 = .ok (.ireturn, 1) := by decide +kernel
set_option maxRecDepth 20000 in
theorem ggX3_saying_X2_knows : GoodIn wsX3_saying wsX2_knows := goodIn_r _ [10, 11, 61, 62, 63, 64, 65, 66, 67, 68, 69, 70, 71, 72] rfl (by decide +kernel)
set_option maxRecDepth 20000 in
theorem gX3_saying_X2_knows : GoodIn wsX3_saying (wsV RX3 70 RX2 yX2_knows wsX2_knows) := goodIn_app (goodIn_r _ [6, 7, 8, 9] rfl (by decide +kernel)) ggX3_saying_X2_knows
set_option maxRecDepth 20000 in
theorem ggX3_saying_X3_refuse : GoodIn wsX3_saying wsX3_refuse := goodIn_r _ [16, 17, 52, 53, 54, 55, 56, 57, 58, 59, 60] rfl (by decide +kernel)
set_option maxRecDepth 20000 in
theorem gX3_saying_X3_refuse : GoodIn wsX3_saying (wsV RX3 47 RX3 yX3_refuse wsX3_refuse) := goodIn_app (goodIn_r _ [12, 13, 14, 15] rfl (by decide +kernel)) ggX3_saying_X3_refuse
set_option maxRecDepth 20000 in
theorem ggX3_saying_X2_whom : GoodIn wsX3_saying wsX2_whom := goodIn_r _ [21, 22, 61, 62, 63, 64, 65, 66, 67, 68, 69, 70, 71, 72] rfl (by decide +kernel)
set_option maxRecDepth 20000 in
theorem gX3_saying_X2_whom : GoodIn wsX3_saying (wsV RX3 80 RX2 yX2_whom wsX2_whom) := goodIn_app (goodIn_r _ [18, 19, 20, 9] rfl (by decide +kernel)) ggX3_saying_X2_whom
set_option maxRecDepth 20000 in
theorem ggX3_saying_X2_softOf : GoodIn wsX3_saying wsX2_softOf := goodIn_r _ [26, 11, 27, 28, 29, 30, 9, 31, 32, 33, 34, 35, 36, 37, 61, 62, 63, 64, 65, 66, 67, 68, 69, 70, 71, 72] rfl (by decide +kernel)
set_option maxRecDepth 20000 in
theorem gX3_saying_X2_softOf : GoodIn wsX3_saying (wsV RX3 89 RX2 yX2_softOf wsX2_softOf) := goodIn_app (goodIn_r _ [23, 24, 25, 9] rfl (by decide +kernel)) ggX3_saying_X2_softOf
set_option maxRecDepth 20000 in
theorem ggX3_saying_X2_bindsOf : GoodIn wsX3_saying wsX2_bindsOf := goodIn_r _ [41, 11, 27, 28, 29, 30, 9, 31, 32, 33, 42, 43, 36, 44, 61, 62, 63, 64, 65, 66, 67, 68, 69, 70, 71, 72] rfl (by decide +kernel)
set_option maxRecDepth 20000 in
theorem gX3_saying_X2_bindsOf : GoodIn wsX3_saying (wsV RX3 92 RX2 yX2_bindsOf wsX2_bindsOf) := goodIn_app (goodIn_r _ [38, 39, 40, 9] rfl (by decide +kernel)) ggX3_saying_X2_bindsOf
set_option maxRecDepth 20000 in
theorem ggX3_saying_X2_weighsOf : GoodIn wsX3_saying wsX2_weighsOf := goodIn_r _ [48, 11, 27, 28, 29, 30, 9, 31, 32, 33, 49, 50, 36, 51, 61, 62, 63, 64, 65, 66, 67, 68, 69, 70, 71, 72] rfl (by decide +kernel)
set_option maxRecDepth 20000 in
theorem gX3_saying_X2_weighsOf : GoodIn wsX3_saying (wsV RX3 95 RX2 yX2_weighsOf wsX2_weighsOf) := goodIn_app (goodIn_r _ [45, 46, 47, 9] rfl (by decide +kernel)) ggX3_saying_X2_weighsOf
theorem dX3_saying_0 : decode cX3_saying 0 = .ok (.aload_n 0, 1) := by decide +kernel
theorem dX3_saying_1 : decode cX3_saying 1 = .ok (.getfield 10, 3) := by decide +kernel
theorem dX3_saying_4 : decode cX3_saying 4 = .ok (.iload_n 1, 1) := by decide +kernel
theorem dX3_saying_5 : decode cX3_saying 5 = .ok (.invokevirtual 70, 3) := by decide +kernel
theorem dX3_saying_8 : decode cX3_saying 8 = .ok (.ifCond .ne 9, 3) := by decide +kernel
theorem dX3_saying_11 : decode cX3_saying 11 = .ok (.aload_n 0, 1) := by decide +kernel
theorem dX3_saying_12 : decode cX3_saying 12 = .ok (.iconst (-1), 1) := by decide +kernel
theorem dX3_saying_13 : decode cX3_saying 13 = .ok (.invokevirtual 47, 3) := by decide +kernel
theorem dX3_saying_16 : decode cX3_saying 16 = .ok (.ireturn, 1) := by decide +kernel
theorem dX3_saying_17 : decode cX3_saying 17 = .ok (.iload_n 2, 1) := by decide +kernel
theorem dX3_saying_18 : decode cX3_saying 18 = .ok (.tableswitch 130 0 7 #[46, 56, 66, 75, 85, 97, 108, 119], 46) := by decide +kernel
theorem dX3_saying_64 : decode cX3_saying 64 = .ok (.aload_n 0, 1) := by decide +kernel
theorem dX3_saying_65 : decode cX3_saying 65 = .ok (.getfield 10, 3) := by decide +kernel
theorem dX3_saying_68 : decode cX3_saying 68 = .ok (.getfield 74, 3) := by decide +kernel
theorem dX3_saying_71 : decode cX3_saying 71 = .ok (.iload_n 1, 1) := by decide +kernel
theorem dX3_saying_72 : decode cX3_saying 72 = .ok (.iaload, 1) := by decide +kernel
theorem dX3_saying_73 : decode cX3_saying 73 = .ok (.ireturn, 1) := by decide +kernel
theorem dX3_saying_74 : decode cX3_saying 74 = .ok (.aload_n 0, 1) := by decide +kernel
theorem dX3_saying_75 : decode cX3_saying 75 = .ok (.getfield 10, 3) := by decide +kernel
theorem dX3_saying_78 : decode cX3_saying 78 = .ok (.getfield 77, 3) := by decide +kernel
theorem dX3_saying_81 : decode cX3_saying 81 = .ok (.iload_n 1, 1) := by decide +kernel
theorem dX3_saying_82 : decode cX3_saying 82 = .ok (.iaload, 1) := by decide +kernel
theorem dX3_saying_83 : decode cX3_saying 83 = .ok (.ireturn, 1) := by decide +kernel
theorem dX3_saying_84 : decode cX3_saying 84 = .ok (.aload_n 0, 1) := by decide +kernel
theorem dX3_saying_85 : decode cX3_saying 85 = .ok (.getfield 10, 3) := by decide +kernel
theorem dX3_saying_88 : decode cX3_saying 88 = .ok (.iload_n 1, 1) := by decide +kernel
theorem dX3_saying_89 : decode cX3_saying 89 = .ok (.invokevirtual 80, 3) := by decide +kernel
theorem dX3_saying_92 : decode cX3_saying 92 = .ok (.ireturn, 1) := by decide +kernel
theorem dX3_saying_93 : decode cX3_saying 93 = .ok (.aload_n 0, 1) := by decide +kernel
theorem dX3_saying_94 : decode cX3_saying 94 = .ok (.getfield 10, 3) := by decide +kernel
theorem dX3_saying_97 : decode cX3_saying 97 = .ok (.getfield 83, 3) := by decide +kernel
theorem dX3_saying_100 : decode cX3_saying 100 = .ok (.iload_n 1, 1) := by decide +kernel
theorem dX3_saying_101 : decode cX3_saying 101 = .ok (.iaload, 1) := by decide +kernel
theorem dX3_saying_102 : decode cX3_saying 102 = .ok (.ireturn, 1) := by decide +kernel
theorem dX3_saying_103 : decode cX3_saying 103 = .ok (.aload_n 0, 1) := by decide +kernel
theorem dX3_saying_104 : decode cX3_saying 104 = .ok (.getfield 10, 3) := by decide +kernel
theorem dX3_saying_107 : decode cX3_saying 107 = .ok (.getfield 86, 3) := by decide +kernel
theorem dX3_saying_110 : decode cX3_saying 110 = .ok (.iload_n 1, 1) := by decide +kernel
theorem dX3_saying_111 : decode cX3_saying 111 = .ok (.ishr, 1) := by decide +kernel
theorem dX3_saying_112 : decode cX3_saying 112 = .ok (.iconst 1, 1) := by decide +kernel
theorem dX3_saying_113 : decode cX3_saying 113 = .ok (.iand, 1) := by decide +kernel
theorem dX3_saying_114 : decode cX3_saying 114 = .ok (.ireturn, 1) := by decide +kernel
theorem dX3_saying_115 : decode cX3_saying 115 = .ok (.aload_n 0, 1) := by decide +kernel
theorem dX3_saying_116 : decode cX3_saying 116 = .ok (.getfield 10, 3) := by decide +kernel
theorem dX3_saying_119 : decode cX3_saying 119 = .ok (.iconst 1, 1) := by decide +kernel
theorem dX3_saying_120 : decode cX3_saying 120 = .ok (.iload_n 1, 1) := by decide +kernel
theorem dX3_saying_121 : decode cX3_saying 121 = .ok (.ishl, 1) := by decide +kernel
theorem dX3_saying_122 : decode cX3_saying 122 = .ok (.invokevirtual 89, 3) := by decide +kernel
theorem dX3_saying_125 : decode cX3_saying 125 = .ok (.ireturn, 1) := by decide +kernel
theorem dX3_saying_126 : decode cX3_saying 126 = .ok (.aload_n 0, 1) := by decide +kernel
theorem dX3_saying_127 : decode cX3_saying 127 = .ok (.getfield 10, 3) := by decide +kernel
theorem dX3_saying_130 : decode cX3_saying 130 = .ok (.iconst 1, 1) := by decide +kernel
theorem dX3_saying_131 : decode cX3_saying 131 = .ok (.iload_n 1, 1) := by decide +kernel
theorem dX3_saying_132 : decode cX3_saying 132 = .ok (.ishl, 1) := by decide +kernel
theorem dX3_saying_133 : decode cX3_saying 133 = .ok (.invokevirtual 92, 3) := by decide +kernel
theorem dX3_saying_136 : decode cX3_saying 136 = .ok (.ireturn, 1) := by decide +kernel
theorem dX3_saying_137 : decode cX3_saying 137 = .ok (.aload_n 0, 1) := by decide +kernel
theorem dX3_saying_138 : decode cX3_saying 138 = .ok (.getfield 10, 3) := by decide +kernel
theorem dX3_saying_141 : decode cX3_saying 141 = .ok (.iconst 1, 1) := by decide +kernel
theorem dX3_saying_142 : decode cX3_saying 142 = .ok (.iload_n 1, 1) := by decide +kernel
theorem dX3_saying_143 : decode cX3_saying 143 = .ok (.ishl, 1) := by decide +kernel
theorem dX3_saying_144 : decode cX3_saying 144 = .ok (.invokevirtual 95, 3) := by decide +kernel
theorem dX3_saying_147 : decode cX3_saying 147 = .ok (.ireturn, 1) := by decide +kernel
theorem dX3_saying_148 : decode cX3_saying 148 = .ok (.aload_n 0, 1) := by decide +kernel
theorem dX3_saying_149 : decode cX3_saying 149 = .ok (.bipush (-2), 2) := by decide +kernel
theorem dX3_saying_151 : decode cX3_saying 151 = .ok (.invokevirtual 47, 3) := by decide +kernel
theorem dX3_saying_154 : decode cX3_saying 154 = .ok (.ireturn, 1) := by decide +kernel
set_option maxRecDepth 20000 in
theorem ggX3_nest_X3_isWoman : GoodIn wsX3_nest wsX3_isWoman := goodIn_r _ [9] rfl (by decide +kernel)
set_option maxRecDepth 20000 in
theorem gX3_nest_X3_isWoman : GoodIn wsX3_nest (va_wsS RX3 98 yX3_isWoman wsX3_isWoman) := goodIn_app (goodIn_r _ [6, 7, 8] rfl (by decide +kernel)) ggX3_nest_X3_isWoman
set_option maxRecDepth 20000 in
theorem ggX3_nest_X3_refuse : GoodIn wsX3_nest wsX3_refuse := goodIn_r _ [13, 14, 56, 57, 58, 59, 60, 61, 62, 63, 64] rfl (by decide +kernel)
set_option maxRecDepth 20000 in
theorem gX3_nest_X3_refuse : GoodIn wsX3_nest (wsV RX3 47 RX3 yX3_refuse wsX3_refuse) := goodIn_app (goodIn_r _ [10, 11, 12, 8] rfl (by decide +kernel)) ggX3_nest_X3_refuse
set_option maxRecDepth 20000 in
theorem ggX3_nest_X2_nestOf : GoodIn wsX3_nest wsX2_nestOf := goodIn_r _ [19, 20, 21, 65, 66, 67, 68, 69, 70, 71, 72, 73, 74, 75, 76] rfl (by decide +kernel)
set_option maxRecDepth 20000 in
theorem gX3_nest_X2_nestOf : GoodIn wsX3_nest (wsV RX3 101 RX2 yX2_nestOf wsX2_nestOf) := goodIn_app (goodIn_r _ [15, 16, 17, 18] rfl (by decide +kernel)) ggX3_nest_X2_nestOf
set_option maxRecDepth 20000 in
theorem ggX3_nest_X2_softOf : GoodIn wsX3_nest wsX2_softOf := goodIn_r _ [25, 26, 27, 28, 29, 30, 18, 31, 32, 33, 34, 35, 36, 37, 65, 66, 67, 68, 69, 70, 71, 72, 73, 74, 75, 76] rfl (by decide +kernel)
set_option maxRecDepth 20000 in
theorem gX3_nest_X2_softOf : GoodIn wsX3_nest (wsV RX3 89 RX2 yX2_softOf wsX2_softOf) := goodIn_app (goodIn_r _ [22, 23, 24, 18] rfl (by decide +kernel)) ggX3_nest_X2_softOf
set_option maxRecDepth 20000 in
theorem ggX3_nest_X2_bindsOf : GoodIn wsX3_nest wsX2_bindsOf := goodIn_r _ [41, 26, 27, 28, 29, 30, 18, 31, 32, 33, 42, 43, 36, 44, 65, 66, 67, 68, 69, 70, 71, 72, 73, 74, 75, 76] rfl (by decide +kernel)
set_option maxRecDepth 20000 in
theorem gX3_nest_X2_bindsOf : GoodIn wsX3_nest (wsV RX3 92 RX2 yX2_bindsOf wsX2_bindsOf) := goodIn_app (goodIn_r _ [38, 39, 40, 18] rfl (by decide +kernel)) ggX3_nest_X2_bindsOf
set_option maxRecDepth 20000 in
theorem ggX3_nest_X2_weighsOf : GoodIn wsX3_nest wsX2_weighsOf := goodIn_r _ [48, 26, 27, 28, 29, 30, 18, 31, 32, 33, 49, 50, 36, 51, 65, 66, 67, 68, 69, 70, 71, 72, 73, 74, 75, 76] rfl (by decide +kernel)
set_option maxRecDepth 20000 in
theorem gX3_nest_X2_weighsOf : GoodIn wsX3_nest (wsV RX3 95 RX2 yX2_weighsOf wsX2_weighsOf) := goodIn_app (goodIn_r _ [45, 46, 47, 18] rfl (by decide +kernel)) ggX3_nest_X2_weighsOf
set_option maxRecDepth 20000 in
theorem ggX3_nest_X2_holds : GoodIn wsX3_nest wsX2_holds := goodIn_r _ [55, 26, 27, 28, 29, 30, 18, 31, 32, 33, 42, 43, 36, 44, 49, 50, 51, 65, 66, 67, 68, 69, 70, 71, 72, 73, 74, 75, 76] rfl (by decide +kernel)
set_option maxRecDepth 20000 in
theorem gX3_nest_X2_holds : GoodIn wsX3_nest (wsV RX3 104 RX2 yX2_holds wsX2_holds) := goodIn_app (goodIn_r _ [52, 53, 54, 18] rfl (by decide +kernel)) ggX3_nest_X2_holds
theorem dX3_nest_0 : decode cX3_nest 0 = .ok (.iload_n 1, 1) := by decide +kernel
theorem dX3_nest_1 : decode cX3_nest 1 = .ok (.invokestatic 98, 3) := by decide +kernel
theorem dX3_nest_4 : decode cX3_nest 4 = .ok (.ifCond .ne 9, 3) := by decide +kernel
theorem dX3_nest_7 : decode cX3_nest 7 = .ok (.aload_n 0, 1) := by decide +kernel
theorem dX3_nest_8 : decode cX3_nest 8 = .ok (.iconst (-1), 1) := by decide +kernel
theorem dX3_nest_9 : decode cX3_nest 9 = .ok (.invokevirtual 47, 3) := by decide +kernel
theorem dX3_nest_12 : decode cX3_nest 12 = .ok (.ireturn, 1) := by decide +kernel
theorem dX3_nest_13 : decode cX3_nest 13 = .ok (.aload_n 0, 1) := by decide +kernel
theorem dX3_nest_14 : decode cX3_nest 14 = .ok (.getfield 10, 3) := by decide +kernel
theorem dX3_nest_17 : decode cX3_nest 17 = .ok (.iload_n 1, 1) := by decide +kernel
theorem dX3_nest_18 : decode cX3_nest 18 = .ok (.invokevirtual 101, 3) := by decide +kernel
theorem dX3_nest_21 : decode cX3_nest 21 = .ok (.istore_n 3, 1) := by decide +kernel
theorem dX3_nest_22 : decode cX3_nest 22 = .ok (.iload_n 2, 1) := by decide +kernel
theorem dX3_nest_23 : decode cX3_nest 23 = .ok (.tableswitch 105 0 5 #[37, 39, 48, 57, 66, 83], 37) := by decide +kernel
theorem dX3_nest_60 : decode cX3_nest 60 = .ok (.iload_n 3, 1) := by decide +kernel
theorem dX3_nest_61 : decode cX3_nest 61 = .ok (.ireturn, 1) := by decide +kernel
theorem dX3_nest_62 : decode cX3_nest 62 = .ok (.aload_n 0, 1) := by decide +kernel
theorem dX3_nest_63 : decode cX3_nest 63 = .ok (.getfield 10, 3) := by decide +kernel
theorem dX3_nest_66 : decode cX3_nest 66 = .ok (.iload_n 3, 1) := by decide +kernel
theorem dX3_nest_67 : decode cX3_nest 67 = .ok (.invokevirtual 89, 3) := by decide +kernel
theorem dX3_nest_70 : decode cX3_nest 70 = .ok (.ireturn, 1) := by decide +kernel
theorem dX3_nest_71 : decode cX3_nest 71 = .ok (.aload_n 0, 1) := by decide +kernel
theorem dX3_nest_72 : decode cX3_nest 72 = .ok (.getfield 10, 3) := by decide +kernel
theorem dX3_nest_75 : decode cX3_nest 75 = .ok (.iload_n 3, 1) := by decide +kernel
theorem dX3_nest_76 : decode cX3_nest 76 = .ok (.invokevirtual 92, 3) := by decide +kernel
theorem dX3_nest_79 : decode cX3_nest 79 = .ok (.ireturn, 1) := by decide +kernel
theorem dX3_nest_80 : decode cX3_nest 80 = .ok (.aload_n 0, 1) := by decide +kernel
theorem dX3_nest_81 : decode cX3_nest 81 = .ok (.getfield 10, 3) := by decide +kernel
theorem dX3_nest_84 : decode cX3_nest 84 = .ok (.iload_n 3, 1) := by decide +kernel
theorem dX3_nest_85 : decode cX3_nest 85 = .ok (.invokevirtual 95, 3) := by decide +kernel
theorem dX3_nest_88 : decode cX3_nest 88 = .ok (.ireturn, 1) := by decide +kernel
theorem dX3_nest_89 : decode cX3_nest 89 = .ok (.aload_n 0, 1) := by decide +kernel
theorem dX3_nest_90 : decode cX3_nest 90 = .ok (.getfield 10, 3) := by decide +kernel
theorem dX3_nest_93 : decode cX3_nest 93 = .ok (.iload_n 3, 1) := by decide +kernel
theorem dX3_nest_94 : decode cX3_nest 94 = .ok (.invokevirtual 104, 3) := by decide +kernel
theorem dX3_nest_97 : decode cX3_nest 97 = .ok (.ifCond .eq 7, 3) := by decide +kernel
theorem dX3_nest_100 : decode cX3_nest 100 = .ok (.iconst 1, 1) := by decide +kernel
theorem dX3_nest_101 : decode cX3_nest 101 = .ok (.goto 4, 3) := by decide +kernel
theorem dX3_nest_104 : decode cX3_nest 104 = .ok (.iconst 0, 1) := by decide +kernel
theorem dX3_nest_105 : decode cX3_nest 105 = .ok (.ireturn, 1) := by decide +kernel
theorem dX3_nest_106 : decode cX3_nest 106 = .ok (.iconst 0, 1) := by decide +kernel
theorem dX3_nest_107 : decode cX3_nest 107 = .ok (.aload_n 0, 1) := by decide +kernel
theorem dX3_nest_108 : decode cX3_nest 108 = .ok (.getfield 10, 3) := by decide +kernel
theorem dX3_nest_111 : decode cX3_nest 111 = .ok (.iload_n 3, 1) := by decide +kernel
theorem dX3_nest_112 : decode cX3_nest 112 = .ok (.invokevirtual 95, 3) := by decide +kernel
theorem dX3_nest_115 : decode cX3_nest 115 = .ok (.aload_n 0, 1) := by decide +kernel
theorem dX3_nest_116 : decode cX3_nest 116 = .ok (.getfield 10, 3) := by decide +kernel
theorem dX3_nest_119 : decode cX3_nest 119 = .ok (.iload_n 3, 1) := by decide +kernel
theorem dX3_nest_120 : decode cX3_nest 120 = .ok (.invokevirtual 92, 3) := by decide +kernel
theorem dX3_nest_123 : decode cX3_nest 123 = .ok (.isub, 1) := by decide +kernel
theorem dX3_nest_124 : decode cX3_nest 124 = .ok (.invokestatic 107, 3) := by decide +kernel
theorem dX3_nest_127 : decode cX3_nest 127 = .ok (.ireturn, 1) := by decide +kernel
theorem dX3_nest_128 : decode cX3_nest 128 = .ok (.aload_n 0, 1) := by decide +kernel
theorem dX3_nest_129 : decode cX3_nest 129 = .ok (.bipush (-2), 2) := by decide +kernel
theorem dX3_nest_131 : decode cX3_nest 131 = .ok (.invokevirtual 47, 3) := by decide +kernel
theorem dX3_nest_134 : decode cX3_nest 134 = .ok (.ireturn, 1) := by decide +kernel
set_option maxRecDepth 20000 in
theorem ggX3_takes_X2_knows : GoodIn wsX3_takes wsX2_knows := goodIn_r _ [6, 7, 28, 29, 30, 31, 32, 33, 34, 35, 36, 37, 38, 39] rfl (by decide +kernel)
set_option maxRecDepth 20000 in
theorem gX3_takes_X2_knows : GoodIn wsX3_takes (wsV RX3 70 RX2 yX2_knows wsX2_knows) := goodIn_app (goodIn_r _ [2, 3, 4, 5] rfl (by decide +kernel)) ggX3_takes_X2_knows
set_option maxRecDepth 20000 in
theorem ggX3_takes_X3_refuse : GoodIn wsX3_takes wsX3_refuse := goodIn_r _ [12, 13, 19, 20, 21, 22, 23, 24, 25, 26, 27] rfl (by decide +kernel)
set_option maxRecDepth 20000 in
theorem gX3_takes_X3_refuse : GoodIn wsX3_takes (wsV RX3 47 RX3 yX3_refuse wsX3_refuse) := goodIn_app (goodIn_r _ [8, 9, 10, 11] rfl (by decide +kernel)) ggX3_takes_X3_refuse
set_option maxRecDepth 20000 in
theorem ggX3_takes_X2_turnOver : GoodIn wsX3_takes wsX2_turnOver := goodIn_r _ [17, 18, 28, 29, 30, 31, 32, 33, 34, 35, 36, 37, 38, 39] rfl (by decide +kernel)
set_option maxRecDepth 20000 in
theorem gX3_takes_X2_turnOver : GoodIn wsX3_takes (wsV RX3 113 RX2 yX2_turnOver wsX2_turnOver) := goodIn_app (goodIn_r _ [14, 15, 16, 5] rfl (by decide +kernel)) ggX3_takes_X2_turnOver
theorem dX3_takes_0 : decode cX3_takes 0 = .ok (.aload_n 0, 1) := by decide +kernel
theorem dX3_takes_1 : decode cX3_takes 1 = .ok (.getfield 10, 3) := by decide +kernel
theorem dX3_takes_4 : decode cX3_takes 4 = .ok (.iload_n 1, 1) := by decide +kernel
theorem dX3_takes_5 : decode cX3_takes 5 = .ok (.invokevirtual 70, 3) := by decide +kernel
theorem dX3_takes_8 : decode cX3_takes 8 = .ok (.ifCond .ne 9, 3) := by decide +kernel
theorem dX3_takes_11 : decode cX3_takes 11 = .ok (.aload_n 0, 1) := by decide +kernel
theorem dX3_takes_12 : decode cX3_takes 12 = .ok (.iconst (-1), 1) := by decide +kernel
theorem dX3_takes_13 : decode cX3_takes 13 = .ok (.invokevirtual 47, 3) := by decide +kernel
theorem dX3_takes_16 : decode cX3_takes 16 = .ok (.ireturn, 1) := by decide +kernel
theorem dX3_takes_17 : decode cX3_takes 17 = .ok (.aload_n 0, 1) := by decide +kernel
theorem dX3_takes_18 : decode cX3_takes 18 = .ok (.getfield 10, 3) := by decide +kernel
theorem dX3_takes_21 : decode cX3_takes 21 = .ok (.iload_n 1, 1) := by decide +kernel
theorem dX3_takes_22 : decode cX3_takes 22 = .ok (.invokevirtual 113, 3) := by decide +kernel
theorem dX3_takes_25 : decode cX3_takes 25 = .ok (.ireturn, 1) := by decide +kernel
set_option maxRecDepth 20000 in
theorem ggX3_wears_X2_knows : GoodIn wsX3_wears wsX2_knows := goodIn_r _ [7, 8, 24, 25, 26, 27, 28, 29, 30, 31, 32, 33, 34, 35] rfl (by decide +kernel)
set_option maxRecDepth 20000 in
theorem gX3_wears_X2_knows : GoodIn wsX3_wears (wsV RX3 70 RX2 yX2_knows wsX2_knows) := goodIn_app (goodIn_r _ [3, 4, 5, 6] rfl (by decide +kernel)) ggX3_wears_X2_knows
set_option maxRecDepth 20000 in
theorem ggX3_wears_X3_refuse : GoodIn wsX3_wears wsX3_refuse := goodIn_r _ [13, 14, 15, 16, 17, 18, 19, 20, 21, 22, 23] rfl (by decide +kernel)
set_option maxRecDepth 20000 in
theorem gX3_wears_X3_refuse : GoodIn wsX3_wears (wsV RX3 47 RX3 yX3_refuse wsX3_refuse) := goodIn_app (goodIn_r _ [9, 10, 11, 12] rfl (by decide +kernel)) ggX3_wears_X3_refuse
theorem dX3_wears_0 : decode cX3_wears 0 = .ok (.aload_n 0, 1) := by decide +kernel
theorem dX3_wears_1 : decode cX3_wears 1 = .ok (.getfield 10, 3) := by decide +kernel
theorem dX3_wears_4 : decode cX3_wears 4 = .ok (.iload_n 1, 1) := by decide +kernel
theorem dX3_wears_5 : decode cX3_wears 5 = .ok (.invokevirtual 70, 3) := by decide +kernel
theorem dX3_wears_8 : decode cX3_wears 8 = .ok (.ifCond .ne 9, 3) := by decide +kernel
theorem dX3_wears_11 : decode cX3_wears 11 = .ok (.aload_n 0, 1) := by decide +kernel
theorem dX3_wears_12 : decode cX3_wears 12 = .ok (.iconst (-1), 1) := by decide +kernel
theorem dX3_wears_13 : decode cX3_wears 13 = .ok (.invokevirtual 47, 3) := by decide +kernel
theorem dX3_wears_16 : decode cX3_wears 16 = .ok (.ireturn, 1) := by decide +kernel
theorem dX3_wears_17 : decode cX3_wears 17 = .ok (.iload_n 2, 1) := by decide +kernel
theorem dX3_wears_18 : decode cX3_wears 18 = .ok (.ifCond .ge 10, 3) := by decide +kernel
theorem dX3_wears_21 : decode cX3_wears 21 = .ok (.aload_n 0, 1) := by decide +kernel
theorem dX3_wears_22 : decode cX3_wears 22 = .ok (.bipush (-4), 2) := by decide +kernel
theorem dX3_wears_24 : decode cX3_wears 24 = .ok (.invokevirtual 47, 3) := by decide +kernel
theorem dX3_wears_27 : decode cX3_wears 27 = .ok (.ireturn, 1) := by decide +kernel
theorem dX3_wears_28 : decode cX3_wears 28 = .ok (.iload_n 2, 1) := by decide +kernel
theorem dX3_wears_29 : decode cX3_wears 29 = .ok (.bipush 9, 2) := by decide +kernel
theorem dX3_wears_31 : decode cX3_wears 31 = .ok (.if_icmp .le 10, 3) := by decide +kernel
theorem dX3_wears_34 : decode cX3_wears 34 = .ok (.aload_n 0, 1) := by decide +kernel
theorem dX3_wears_35 : decode cX3_wears 35 = .ok (.bipush (-6), 2) := by decide +kernel
theorem dX3_wears_37 : decode cX3_wears 37 = .ok (.invokevirtual 47, 3) := by decide +kernel
theorem dX3_wears_40 : decode cX3_wears 40 = .ok (.ireturn, 1) := by decide +kernel
theorem dX3_wears_41 : decode cX3_wears 41 = .ok (.aload_n 0, 1) := by decide +kernel
theorem dX3_wears_42 : decode cX3_wears 42 = .ok (.getfield 10, 3) := by decide +kernel
theorem dX3_wears_45 : decode cX3_wears 45 = .ok (.getfield 83, 3) := by decide +kernel
theorem dX3_wears_48 : decode cX3_wears 48 = .ok (.iload_n 1, 1) := by decide +kernel
theorem dX3_wears_49 : decode cX3_wears 49 = .ok (.iaload, 1) := by decide +kernel
theorem dX3_wears_50 : decode cX3_wears 50 = .ok (.istore_n 3, 1) := by decide +kernel
theorem dX3_wears_51 : decode cX3_wears 51 = .ok (.aload_n 0, 1) := by decide +kernel
theorem dX3_wears_52 : decode cX3_wears 52 = .ok (.getfield 10, 3) := by decide +kernel
theorem dX3_wears_55 : decode cX3_wears 55 = .ok (.getfield 83, 3) := by decide +kernel
theorem dX3_wears_58 : decode cX3_wears 58 = .ok (.iload_n 1, 1) := by decide +kernel
theorem dX3_wears_59 : decode cX3_wears 59 = .ok (.iload_n 2, 1) := by decide +kernel
theorem dX3_wears_60 : decode cX3_wears 60 = .ok (.iastore, 1) := by decide +kernel
theorem dX3_wears_61 : decode cX3_wears 61 = .ok (.iload_n 3, 1) := by decide +kernel
theorem dX3_wears_62 : decode cX3_wears 62 = .ok (.ireturn, 1) := by decide +kernel
set_option maxRecDepth 20000 in
theorem ggX3_concerns_X2_knows : GoodIn wsX3_concerns wsX2_knows := goodIn_r _ [6, 7, 37, 38, 39, 40, 41, 42, 43, 44, 45, 46, 47, 48] rfl (by decide +kernel)
set_option maxRecDepth 20000 in
theorem gX3_concerns_X2_knows : GoodIn wsX3_concerns (wsV RX3 70 RX2 yX2_knows wsX2_knows) := goodIn_app (goodIn_r _ [2, 3, 4, 5] rfl (by decide +kernel)) ggX3_concerns_X2_knows
set_option maxRecDepth 20000 in
theorem ggX3_concerns_X3_isWoman : GoodIn wsX3_concerns wsX3_isWoman := goodIn_r _ [11] rfl (by decide +kernel)
set_option maxRecDepth 20000 in
theorem gX3_concerns_X3_isWoman : GoodIn wsX3_concerns (va_wsS RX3 98 yX3_isWoman wsX3_isWoman) := goodIn_app (goodIn_r _ [8, 9, 10] rfl (by decide +kernel)) ggX3_concerns_X3_isWoman
set_option maxRecDepth 20000 in
theorem ggX3_concerns_X3_refuse : GoodIn wsX3_concerns wsX3_refuse := goodIn_r _ [15, 16, 28, 29, 30, 31, 32, 33, 34, 35, 36] rfl (by decide +kernel)
set_option maxRecDepth 20000 in
theorem gX3_concerns_X3_refuse : GoodIn wsX3_concerns (wsV RX3 47 RX3 yX3_refuse wsX3_refuse) := goodIn_app (goodIn_r _ [12, 13, 14, 10] rfl (by decide +kernel)) ggX3_concerns_X3_refuse
set_option maxRecDepth 20000 in
theorem ggX3_concerns_X2_whom : GoodIn wsX3_concerns wsX2_whom := goodIn_r _ [20, 21, 37, 38, 39, 40, 41, 42, 43, 44, 45, 46, 47, 48] rfl (by decide +kernel)
set_option maxRecDepth 20000 in
theorem gX3_concerns_X2_whom : GoodIn wsX3_concerns (wsV RX3 80 RX2 yX2_whom wsX2_whom) := goodIn_app (goodIn_r _ [17, 18, 19, 5] rfl (by decide +kernel)) ggX3_concerns_X2_whom
set_option maxRecDepth 20000 in
theorem ggX3_concerns_X2_sayAbout : GoodIn wsX3_concerns wsX2_sayAbout := goodIn_r _ [25, 21, 26, 27, 3, 4, 5, 6, 7, 9, 10, 11, 37, 38, 39, 40, 41, 42, 43, 44, 45, 46, 47, 48] rfl (by decide +kernel)
set_option maxRecDepth 20000 in
theorem gX3_concerns_X2_sayAbout : GoodIn wsX3_concerns (wsV RX3 116 RX2 yX2_sayAbout wsX2_sayAbout) := goodIn_app (goodIn_r _ [22, 23, 24, 5] rfl (by decide +kernel)) ggX3_concerns_X2_sayAbout
theorem dX3_concerns_0 : decode cX3_concerns 0 = .ok (.aload_n 0, 1) := by decide +kernel
theorem dX3_concerns_1 : decode cX3_concerns 1 = .ok (.getfield 10, 3) := by decide +kernel
theorem dX3_concerns_4 : decode cX3_concerns 4 = .ok (.iload_n 1, 1) := by decide +kernel
theorem dX3_concerns_5 : decode cX3_concerns 5 = .ok (.invokevirtual 70, 3) := by decide +kernel
theorem dX3_concerns_8 : decode cX3_concerns 8 = .ok (.ifCond .eq 10, 3) := by decide +kernel
theorem dX3_concerns_11 : decode cX3_concerns 11 = .ok (.iload_n 2, 1) := by decide +kernel
theorem dX3_concerns_12 : decode cX3_concerns 12 = .ok (.invokestatic 98, 3) := by decide +kernel
theorem dX3_concerns_15 : decode cX3_concerns 15 = .ok (.ifCond .ne 9, 3) := by decide +kernel
theorem dX3_concerns_18 : decode cX3_concerns 18 = .ok (.aload_n 0, 1) := by decide +kernel
theorem dX3_concerns_19 : decode cX3_concerns 19 = .ok (.iconst (-1), 1) := by decide +kernel
theorem dX3_concerns_20 : decode cX3_concerns 20 = .ok (.invokevirtual 47, 3) := by decide +kernel
theorem dX3_concerns_23 : decode cX3_concerns 23 = .ok (.ireturn, 1) := by decide +kernel
theorem dX3_concerns_24 : decode cX3_concerns 24 = .ok (.aload_n 0, 1) := by decide +kernel
theorem dX3_concerns_25 : decode cX3_concerns 25 = .ok (.getfield 10, 3) := by decide +kernel
theorem dX3_concerns_28 : decode cX3_concerns 28 = .ok (.iload_n 1, 1) := by decide +kernel
theorem dX3_concerns_29 : decode cX3_concerns 29 = .ok (.invokevirtual 80, 3) := by decide +kernel
theorem dX3_concerns_32 : decode cX3_concerns 32 = .ok (.istore_n 3, 1) := by decide +kernel
theorem dX3_concerns_33 : decode cX3_concerns 33 = .ok (.aload_n 0, 1) := by decide +kernel
theorem dX3_concerns_34 : decode cX3_concerns 34 = .ok (.getfield 10, 3) := by decide +kernel
theorem dX3_concerns_37 : decode cX3_concerns 37 = .ok (.iload_n 1, 1) := by decide +kernel
theorem dX3_concerns_38 : decode cX3_concerns 38 = .ok (.iload_n 2, 1) := by decide +kernel
theorem dX3_concerns_39 : decode cX3_concerns 39 = .ok (.invokevirtual 116, 3) := by decide +kernel
theorem dX3_concerns_42 : decode cX3_concerns 42 = .ok (.iload_n 3, 1) := by decide +kernel
theorem dX3_concerns_43 : decode cX3_concerns 43 = .ok (.ireturn, 1) := by decide +kernel
set_option maxRecDepth 20000 in
theorem ggX3_boy_X3_isWoman : GoodIn wsX3_boy wsX3_isWoman := goodIn_r _ [5] rfl (by decide +kernel)
set_option maxRecDepth 20000 in
theorem gX3_boy_X3_isWoman : GoodIn wsX3_boy (va_wsS RX3 98 yX3_isWoman wsX3_isWoman) := goodIn_app (goodIn_r _ [2, 3, 4] rfl (by decide +kernel)) ggX3_boy_X3_isWoman
set_option maxRecDepth 20000 in
theorem ggX3_boy_X3_refuse : GoodIn wsX3_boy wsX3_refuse := goodIn_r _ [9, 10, 37, 38, 39, 40, 41, 42, 43, 44, 45] rfl (by decide +kernel)
set_option maxRecDepth 20000 in
theorem gX3_boy_X3_refuse : GoodIn wsX3_boy (wsV RX3 47 RX3 yX3_refuse wsX3_refuse) := goodIn_app (goodIn_r _ [6, 7, 8, 4] rfl (by decide +kernel)) ggX3_boy_X3_refuse
set_option maxRecDepth 20000 in
theorem ggX3_boy_X2_nestOf : GoodIn wsX3_boy wsX2_nestOf := goodIn_r _ [15, 16, 17, 46, 47, 48, 49, 50, 51, 52, 53, 54, 55, 56, 57] rfl (by decide +kernel)
set_option maxRecDepth 20000 in
theorem gX3_boy_X2_nestOf : GoodIn wsX3_boy (wsV RX3 101 RX2 yX2_nestOf wsX2_nestOf) := goodIn_app (goodIn_r _ [11, 12, 13, 14] rfl (by decide +kernel)) ggX3_boy_X2_nestOf
set_option maxRecDepth 20000 in
theorem ggX3_boy_X2_bringDown : GoodIn wsX3_boy wsX2_bringDown := goodIn_r _ [21, 17, 22, 23, 24, 25, 26, 27, 28, 29, 12, 13, 14, 15, 16, 46, 47, 48, 49, 50, 51, 52, 53, 54, 55, 56, 57] rfl (by decide +kernel)
set_option maxRecDepth 20000 in
theorem gX3_boy_X2_bringDown : GoodIn wsX3_boy (wsV RX3 120 RX2 yX2_bringDown wsX2_bringDown) := goodIn_app (goodIn_r _ [18, 19, 20, 14] rfl (by decide +kernel)) ggX3_boy_X2_bringDown
set_option maxRecDepth 20000 in
theorem ggX3_boy_J6_bitCount_0f7a4 : GoodIn wsX3_boy wsJ6_bitCount_0f7a4 := goodIn_r _ [33, 34, 35, 36] rfl (by decide +kernel)
set_option maxRecDepth 20000 in
theorem gX3_boy_J6_bitCount_0f7a4 : GoodIn wsX3_boy (va_wsS RX3 123 yJ6_bitCount_0f7a4 wsJ6_bitCount_0f7a4) := goodIn_app (goodIn_r _ [30, 31, 32] rfl (by decide +kernel)) ggX3_boy_J6_bitCount_0f7a4
theorem dX3_boy_0 : decode cX3_boy 0 = .ok (.iload_n 1, 1) := by decide +kernel
theorem dX3_boy_1 : decode cX3_boy 1 = .ok (.invokestatic 98, 3) := by decide +kernel
theorem dX3_boy_4 : decode cX3_boy 4 = .ok (.ifCond .ne 9, 3) := by decide +kernel
theorem dX3_boy_7 : decode cX3_boy 7 = .ok (.aload_n 0, 1) := by decide +kernel
theorem dX3_boy_8 : decode cX3_boy 8 = .ok (.iconst (-1), 1) := by decide +kernel
theorem dX3_boy_9 : decode cX3_boy 9 = .ok (.invokevirtual 47, 3) := by decide +kernel
theorem dX3_boy_12 : decode cX3_boy 12 = .ok (.ireturn, 1) := by decide +kernel
theorem dX3_boy_13 : decode cX3_boy 13 = .ok (.aload_n 0, 1) := by decide +kernel
theorem dX3_boy_14 : decode cX3_boy 14 = .ok (.getfield 10, 3) := by decide +kernel
theorem dX3_boy_17 : decode cX3_boy 17 = .ok (.iload_n 1, 1) := by decide +kernel
theorem dX3_boy_18 : decode cX3_boy 18 = .ok (.invokevirtual 101, 3) := by decide +kernel
theorem dX3_boy_21 : decode cX3_boy 21 = .ok (.istore_n 2, 1) := by decide +kernel
theorem dX3_boy_22 : decode cX3_boy 22 = .ok (.iload_n 2, 1) := by decide +kernel
theorem dX3_boy_23 : decode cX3_boy 23 = .ok (.ifCond .ne 10, 3) := by decide +kernel
theorem dX3_boy_26 : decode cX3_boy 26 = .ok (.aload_n 0, 1) := by decide +kernel
theorem dX3_boy_27 : decode cX3_boy 27 = .ok (.bipush (-3), 2) := by decide +kernel
theorem dX3_boy_29 : decode cX3_boy 29 = .ok (.invokevirtual 47, 3) := by decide +kernel
theorem dX3_boy_32 : decode cX3_boy 32 = .ok (.ireturn, 1) := by decide +kernel
theorem dX3_boy_33 : decode cX3_boy 33 = .ok (.aload_n 0, 1) := by decide +kernel
theorem dX3_boy_34 : decode cX3_boy 34 = .ok (.getfield 10, 3) := by decide +kernel
theorem dX3_boy_37 : decode cX3_boy 37 = .ok (.iload_n 1, 1) := by decide +kernel
theorem dX3_boy_38 : decode cX3_boy 38 = .ok (.invokevirtual 120, 3) := by decide +kernel
theorem dX3_boy_41 : decode cX3_boy 41 = .ok (.iload_n 2, 1) := by decide +kernel
theorem dX3_boy_42 : decode cX3_boy 42 = .ok (.invokestatic 123, 3) := by decide +kernel
theorem dX3_boy_45 : decode cX3_boy 45 = .ok (.ireturn, 1) := by decide +kernel
set_option maxRecDepth 20000 in
theorem ggX3_turn_X2_knows : GoodIn wsX3_turn wsX2_knows := goodIn_r _ [8, 9, 25, 26, 27, 28, 29, 30, 31, 32, 33, 34, 35, 36] rfl (by decide +kernel)
set_option maxRecDepth 20000 in
theorem gX3_turn_X2_knows : GoodIn wsX3_turn (wsV RX3 70 RX2 yX2_knows wsX2_knows) := goodIn_app (goodIn_r _ [4, 5, 6, 7] rfl (by decide +kernel)) ggX3_turn_X2_knows
set_option maxRecDepth 20000 in
theorem ggX3_turn_X3_refuse : GoodIn wsX3_turn wsX3_refuse := goodIn_r _ [14, 15, 16, 17, 18, 19, 20, 21, 22, 23, 24] rfl (by decide +kernel)
set_option maxRecDepth 20000 in
theorem gX3_turn_X3_refuse : GoodIn wsX3_turn (wsV RX3 47 RX3 yX3_refuse wsX3_refuse) := goodIn_app (goodIn_r _ [10, 11, 12, 13] rfl (by decide +kernel)) ggX3_turn_X3_refuse
theorem dX3_turn_0 : decode cX3_turn 0 = .ok (.aload_n 0, 1) := by decide +kernel
theorem dX3_turn_1 : decode cX3_turn 1 = .ok (.getfield 10, 3) := by decide +kernel
theorem dX3_turn_4 : decode cX3_turn 4 = .ok (.iload_n 1, 1) := by decide +kernel
theorem dX3_turn_5 : decode cX3_turn 5 = .ok (.invokevirtual 70, 3) := by decide +kernel
theorem dX3_turn_8 : decode cX3_turn 8 = .ok (.ifCond .ne 9, 3) := by decide +kernel
theorem dX3_turn_11 : decode cX3_turn 11 = .ok (.aload_n 0, 1) := by decide +kernel
theorem dX3_turn_12 : decode cX3_turn 12 = .ok (.iconst (-1), 1) := by decide +kernel
theorem dX3_turn_13 : decode cX3_turn 13 = .ok (.invokevirtual 47, 3) := by decide +kernel
theorem dX3_turn_16 : decode cX3_turn 16 = .ok (.ireturn, 1) := by decide +kernel
theorem dX3_turn_17 : decode cX3_turn 17 = .ok (.iload_n 2, 1) := by decide +kernel
theorem dX3_turn_18 : decode cX3_turn 18 = .ok (.ifCond .lt 9, 3) := by decide +kernel
theorem dX3_turn_21 : decode cX3_turn 21 = .ok (.iload_n 2, 1) := by decide +kernel
theorem dX3_turn_22 : decode cX3_turn 22 = .ok (.bipush 6, 2) := by decide +kernel
theorem dX3_turn_24 : decode cX3_turn 24 = .ok (.if_icmp .lt 10, 3) := by decide +kernel
theorem dX3_turn_27 : decode cX3_turn 27 = .ok (.aload_n 0, 1) := by decide +kernel
theorem dX3_turn_28 : decode cX3_turn 28 = .ok (.bipush (-2), 2) := by decide +kernel
theorem dX3_turn_30 : decode cX3_turn 30 = .ok (.invokevirtual 47, 3) := by decide +kernel
theorem dX3_turn_33 : decode cX3_turn 33 = .ok (.ireturn, 1) := by decide +kernel
theorem dX3_turn_34 : decode cX3_turn 34 = .ok (.iload_n 3, 1) := by decide +kernel
theorem dX3_turn_35 : decode cX3_turn 35 = .ok (.ifCond .ge 10, 3) := by decide +kernel
theorem dX3_turn_38 : decode cX3_turn 38 = .ok (.aload_n 0, 1) := by decide +kernel
theorem dX3_turn_39 : decode cX3_turn 39 = .ok (.bipush (-4), 2) := by decide +kernel
theorem dX3_turn_41 : decode cX3_turn 41 = .ok (.invokevirtual 47, 3) := by decide +kernel
theorem dX3_turn_44 : decode cX3_turn 44 = .ok (.ireturn, 1) := by decide +kernel
theorem dX3_turn_45 : decode cX3_turn 45 = .ok (.iload_n 3, 1) := by decide +kernel
theorem dX3_turn_46 : decode cX3_turn 46 = .ok (.bipush 9, 2) := by decide +kernel
theorem dX3_turn_48 : decode cX3_turn 48 = .ok (.if_icmp .le 10, 3) := by decide +kernel
theorem dX3_turn_51 : decode cX3_turn 51 = .ok (.aload_n 0, 1) := by decide +kernel
theorem dX3_turn_52 : decode cX3_turn 52 = .ok (.bipush (-6), 2) := by decide +kernel
theorem dX3_turn_54 : decode cX3_turn 54 = .ok (.invokevirtual 47, 3) := by decide +kernel
theorem dX3_turn_57 : decode cX3_turn 57 = .ok (.ireturn, 1) := by decide +kernel
theorem dX3_turn_58 : decode cX3_turn 58 = .ok (.bipush 10, 2) := by decide +kernel
theorem dX3_turn_60 : decode cX3_turn 60 = .ok (.aload_n 0, 1) := by decide +kernel
theorem dX3_turn_61 : decode cX3_turn 61 = .ok (.getfield 10, 3) := by decide +kernel
theorem dX3_turn_64 : decode cX3_turn 64 = .ok (.getfield 74, 3) := by decide +kernel
theorem dX3_turn_67 : decode cX3_turn 67 = .ok (.iload_n 1, 1) := by decide +kernel
theorem dX3_turn_68 : decode cX3_turn 68 = .ok (.iaload, 1) := by decide +kernel
theorem dX3_turn_69 : decode cX3_turn 69 = .ok (.imul, 1) := by decide +kernel
theorem dX3_turn_70 : decode cX3_turn 70 = .ok (.aload_n 0, 1) := by decide +kernel
theorem dX3_turn_71 : decode cX3_turn 71 = .ok (.getfield 10, 3) := by decide +kernel
theorem dX3_turn_74 : decode cX3_turn 74 = .ok (.getfield 77, 3) := by decide +kernel
theorem dX3_turn_77 : decode cX3_turn 77 = .ok (.iload_n 1, 1) := by decide +kernel
theorem dX3_turn_78 : decode cX3_turn 78 = .ok (.iaload, 1) := by decide +kernel
theorem dX3_turn_79 : decode cX3_turn 79 = .ok (.iadd, 1) := by decide +kernel
theorem dX3_turn_80 : decode cX3_turn 80 = .ok (.istore 4, 2) := by decide +kernel
theorem dX3_turn_82 : decode cX3_turn 82 = .ok (.aload_n 0, 1) := by decide +kernel
theorem dX3_turn_83 : decode cX3_turn 83 = .ok (.getfield 10, 3) := by decide +kernel
theorem dX3_turn_86 : decode cX3_turn 86 = .ok (.getfield 74, 3) := by decide +kernel
theorem dX3_turn_89 : decode cX3_turn 89 = .ok (.iload_n 1, 1) := by decide +kernel
theorem dX3_turn_90 : decode cX3_turn 90 = .ok (.iload_n 2, 1) := by decide +kernel
theorem dX3_turn_91 : decode cX3_turn 91 = .ok (.iastore, 1) := by decide +kernel
theorem dX3_turn_92 : decode cX3_turn 92 = .ok (.aload_n 0, 1) := by decide +kernel
theorem dX3_turn_93 : decode cX3_turn 93 = .ok (.getfield 10, 3) := by decide +kernel
theorem dX3_turn_96 : decode cX3_turn 96 = .ok (.getfield 77, 3) := by decide +kernel
theorem dX3_turn_99 : decode cX3_turn 99 = .ok (.iload_n 1, 1) := by decide +kernel
theorem dX3_turn_100 : decode cX3_turn 100 = .ok (.iload_n 3, 1) := by decide +kernel
theorem dX3_turn_101 : decode cX3_turn 101 = .ok (.iastore, 1) := by decide +kernel
theorem dX3_turn_102 : decode cX3_turn 102 = .ok (.iload 4, 2) := by decide +kernel
theorem dX3_turn_104 : decode cX3_turn 104 = .ok (.ireturn, 1) := by decide +kernel
set_option maxRecDepth 20000 in
theorem ggX3_days_X3_refuse : GoodIn wsX3_days wsX3_refuse := goodIn_r _ [8, 9, 70, 71, 72, 73, 74, 75, 76, 77, 78] rfl (by decide +kernel)
set_option maxRecDepth 20000 in
theorem gX3_days_X3_refuse : GoodIn wsX3_days (wsV RX3 47 RX3 yX3_refuse wsX3_refuse) := goodIn_app (goodIn_r _ [4, 5, 6, 7] rfl (by decide +kernel)) ggX3_days_X3_refuse
set_option maxRecDepth 20000 in
theorem ggX3_days_X2_passDays : GoodIn wsX3_days wsX2_passDays := goodIn_r _ [14, 15, 16, 17, 13, 18, 19, 20, 21, 22, 23, 24, 25, 26, 27, 28, 29, 30, 31, 32, 33, 34, 35, 36, 37, 38, 39, 40, 41, 42, 43, 44, 45, 46, 47, 48, 49, 50, 51, 52, 53, 54, 55, 56, 57, 58, 59, 60, 61, 62, 63, 64, 65, 66, 67, 68, 69, 79, 80, 81, 82, 83, 84, 85, 86, 87, 88, 89, 90] rfl (by decide +kernel)
set_option maxRecDepth 20000 in
theorem gX3_days_X2_passDays : GoodIn wsX3_days (wsV RX3 131 RX2 yX2_passDays wsX2_passDays) := goodIn_app (goodIn_r _ [10, 11, 12, 13] rfl (by decide +kernel)) ggX3_days_X2_passDays
theorem dX3_days_0 : decode cX3_days 0 = .ok (.iload_n 1, 1) := by decide +kernel
theorem dX3_days_1 : decode cX3_days 1 = .ok (.iconst 1, 1) := by decide +kernel
theorem dX3_days_2 : decode cX3_days 2 = .ok (.if_icmp .ge 10, 3) := by decide +kernel
theorem dX3_days_5 : decode cX3_days 5 = .ok (.aload_n 0, 1) := by decide +kernel
theorem dX3_days_6 : decode cX3_days 6 = .ok (.bipush (-4), 2) := by decide +kernel
theorem dX3_days_8 : decode cX3_days 8 = .ok (.invokevirtual 47, 3) := by decide +kernel
theorem dX3_days_11 : decode cX3_days 11 = .ok (.ireturn, 1) := by decide +kernel
theorem dX3_days_12 : decode cX3_days 12 = .ok (.iload_n 1, 1) := by decide +kernel
theorem dX3_days_13 : decode cX3_days 13 = .ok (.bipush 60, 2) := by decide +kernel
theorem dX3_days_15 : decode cX3_days 15 = .ok (.if_icmp .gt 18, 3) := by decide +kernel
theorem dX3_days_18 : decode cX3_days 18 = .ok (.aload_n 0, 1) := by decide +kernel
theorem dX3_days_19 : decode cX3_days 19 = .ok (.getfield 10, 3) := by decide +kernel
theorem dX3_days_22 : decode cX3_days 22 = .ok (.getfield 128, 3) := by decide +kernel
theorem dX3_days_25 : decode cX3_days 25 = .ok (.iload_n 1, 1) := by decide +kernel
theorem dX3_days_26 : decode cX3_days 26 = .ok (.iadd, 1) := by decide +kernel
theorem dX3_days_27 : decode cX3_days 27 = .ok (.sipush 999, 3) := by decide +kernel
theorem dX3_days_30 : decode cX3_days 30 = .ok (.if_icmp .le 10, 3) := by decide +kernel
theorem dX3_days_33 : decode cX3_days 33 = .ok (.aload_n 0, 1) := by decide +kernel
theorem dX3_days_34 : decode cX3_days 34 = .ok (.bipush (-6), 2) := by decide +kernel
theorem dX3_days_36 : decode cX3_days 36 = .ok (.invokevirtual 47, 3) := by decide +kernel
theorem dX3_days_39 : decode cX3_days 39 = .ok (.ireturn, 1) := by decide +kernel
theorem dX3_days_40 : decode cX3_days 40 = .ok (.aload_n 0, 1) := by decide +kernel
theorem dX3_days_41 : decode cX3_days 41 = .ok (.getfield 10, 3) := by decide +kernel
theorem dX3_days_44 : decode cX3_days 44 = .ok (.iload_n 1, 1) := by decide +kernel
theorem dX3_days_45 : decode cX3_days 45 = .ok (.invokevirtual 131, 3) := by decide +kernel
theorem dX3_days_48 : decode cX3_days 48 = .ok (.aload_n 0, 1) := by decide +kernel
theorem dX3_days_49 : decode cX3_days 49 = .ok (.getfield 10, 3) := by decide +kernel
theorem dX3_days_52 : decode cX3_days 52 = .ok (.getfield 134, 3) := by decide +kernel
theorem dX3_days_55 : decode cX3_days 55 = .ok (.ireturn, 1) := by decide +kernel
set_option maxRecDepth 20000 in
theorem ggX3_nestThen_X3_isWoman : GoodIn wsX3_nestThen wsX3_isWoman := goodIn_r _ [5] rfl (by decide +kernel)
set_option maxRecDepth 20000 in
theorem gX3_nestThen_X3_isWoman : GoodIn wsX3_nestThen (va_wsS RX3 98 yX3_isWoman wsX3_isWoman) := goodIn_app (goodIn_r _ [2, 3, 4] rfl (by decide +kernel)) ggX3_nestThen_X3_isWoman
set_option maxRecDepth 20000 in
theorem ggX3_nestThen_X3_refuse : GoodIn wsX3_nestThen wsX3_refuse := goodIn_r _ [9, 10, 100, 101, 102, 103, 104, 105, 106, 107, 108] rfl (by decide +kernel)
set_option maxRecDepth 20000 in
theorem gX3_nestThen_X3_refuse : GoodIn wsX3_nestThen (wsV RX3 47 RX3 yX3_refuse wsX3_refuse) := goodIn_app (goodIn_r _ [6, 7, 8, 4] rfl (by decide +kernel)) ggX3_nestThen_X3_refuse
set_option maxRecDepth 20000 in
theorem ggX3_nestThen_X3_think : GoodIn wsX3_nestThen wsX3_think := goodIn_r _ [14, 1, 15, 16, 17, 18, 19, 20, 21, 22, 23, 24, 25, 26, 27, 28, 29, 30, 31, 32, 33, 34, 35, 36, 37, 38, 39, 40, 41, 42, 43, 44, 45, 46, 47, 48, 49, 50, 51, 52, 53, 54, 55, 56, 57, 58, 59, 60, 61, 62, 63, 64, 65, 66, 67, 68, 69, 70, 71, 72, 73, 74, 75, 76, 77, 78, 79, 80, 81, 82, 83, 100, 101, 102, 103, 104, 105, 106, 107, 108, 109, 110, 111, 112, 113, 114, 115, 116, 117, 118, 119, 120] rfl (by decide +kernel)
set_option maxRecDepth 20000 in
theorem gX3_nestThen_X3_think : GoodIn wsX3_nestThen (wsV RX3 137 RX3 yX3_think wsX3_think) := goodIn_app (goodIn_r _ [11, 12, 13, 4] rfl (by decide +kernel)) ggX3_nestThen_X3_think
set_option maxRecDepth 20000 in
theorem ggX3_nestThen_X2_nestOf : GoodIn wsX3_nestThen wsX2_nestOf := goodIn_r _ [64, 36, 24, 109, 110, 111, 112, 113, 114, 115, 116, 117, 118, 119, 120] rfl (by decide +kernel)
set_option maxRecDepth 20000 in
theorem gX3_nestThen_X2_nestOf : GoodIn wsX3_nestThen (wsV RX3 101 RX2 yX2_nestOf wsX2_nestOf) := goodIn_app (goodIn_r _ [84, 62, 63, 19] rfl (by decide +kernel)) ggX3_nestThen_X2_nestOf
set_option maxRecDepth 20000 in
theorem ggX3_nestThen_X2_softOf : GoodIn wsX3_nestThen wsX2_softOf := goodIn_r _ [88, 21, 29, 69, 70, 71, 19, 72, 35, 34, 89, 90, 75, 91, 109, 110, 111, 112, 113, 114, 115, 116, 117, 118, 119, 120] rfl (by decide +kernel)
set_option maxRecDepth 20000 in
theorem gX3_nestThen_X2_softOf : GoodIn wsX3_nestThen (wsV RX3 89 RX2 yX2_softOf wsX2_softOf) := goodIn_app (goodIn_r _ [85, 86, 87, 19] rfl (by decide +kernel)) ggX3_nestThen_X2_softOf
set_option maxRecDepth 20000 in
theorem ggX3_nestThen_X2_bindsOf : GoodIn wsX3_nestThen wsX2_bindsOf := goodIn_r _ [95, 21, 29, 69, 70, 71, 19, 72, 35, 34, 73, 74, 75, 76, 109, 110, 111, 112, 113, 114, 115, 116, 117, 118, 119, 120] rfl (by decide +kernel)
set_option maxRecDepth 20000 in
theorem gX3_nestThen_X2_bindsOf : GoodIn wsX3_nestThen (wsV RX3 92 RX2 yX2_bindsOf wsX2_bindsOf) := goodIn_app (goodIn_r _ [92, 93, 94, 19] rfl (by decide +kernel)) ggX3_nestThen_X2_bindsOf
set_option maxRecDepth 20000 in
theorem ggX3_nestThen_X2_weighsOf : GoodIn wsX3_nestThen wsX2_weighsOf := goodIn_r _ [99, 21, 29, 69, 70, 71, 19, 72, 35, 34, 77, 78, 75, 79, 109, 110, 111, 112, 113, 114, 115, 116, 117, 118, 119, 120] rfl (by decide +kernel)
set_option maxRecDepth 20000 in
theorem gX3_nestThen_X2_weighsOf : GoodIn wsX3_nestThen (wsV RX3 95 RX2 yX2_weighsOf wsX2_weighsOf) := goodIn_app (goodIn_r _ [96, 97, 98, 19] rfl (by decide +kernel)) ggX3_nestThen_X2_weighsOf
theorem dX3_nestThen_0 : decode cX3_nestThen 0 = .ok (.iload_n 1, 1) := by decide +kernel
theorem dX3_nestThen_1 : decode cX3_nestThen 1 = .ok (.invokestatic 98, 3) := by decide +kernel
theorem dX3_nestThen_4 : decode cX3_nestThen 4 = .ok (.ifCond .ne 9, 3) := by decide +kernel
theorem dX3_nestThen_7 : decode cX3_nestThen 7 = .ok (.aload_n 0, 1) := by decide +kernel
theorem dX3_nestThen_8 : decode cX3_nestThen 8 = .ok (.iconst (-1), 1) := by decide +kernel
theorem dX3_nestThen_9 : decode cX3_nestThen 9 = .ok (.invokevirtual 47, 3) := by decide +kernel
theorem dX3_nestThen_12 : decode cX3_nestThen 12 = .ok (.ireturn, 1) := by decide +kernel
theorem dX3_nestThen_13 : decode cX3_nestThen 13 = .ok (.iload_n 2, 1) := by decide +kernel
theorem dX3_nestThen_14 : decode cX3_nestThen 14 = .ok (.ifCond .ge 10, 3) := by decide +kernel
theorem dX3_nestThen_17 : decode cX3_nestThen 17 = .ok (.aload_n 0, 1) := by decide +kernel
theorem dX3_nestThen_18 : decode cX3_nestThen 18 = .ok (.bipush (-4), 2) := by decide +kernel
theorem dX3_nestThen_20 : decode cX3_nestThen 20 = .ok (.invokevirtual 47, 3) := by decide +kernel
theorem dX3_nestThen_23 : decode cX3_nestThen 23 = .ok (.ireturn, 1) := by decide +kernel
theorem dX3_nestThen_24 : decode cX3_nestThen 24 = .ok (.iload_n 2, 1) := by decide +kernel
theorem dX3_nestThen_25 : decode cX3_nestThen 25 = .ok (.bipush 60, 2) := by decide +kernel
theorem dX3_nestThen_27 : decode cX3_nestThen 27 = .ok (.if_icmp .le 10, 3) := by decide +kernel
theorem dX3_nestThen_30 : decode cX3_nestThen 30 = .ok (.aload_n 0, 1) := by decide +kernel
theorem dX3_nestThen_31 : decode cX3_nestThen 31 = .ok (.bipush (-6), 2) := by decide +kernel
theorem dX3_nestThen_33 : decode cX3_nestThen 33 = .ok (.invokevirtual 47, 3) := by decide +kernel
theorem dX3_nestThen_36 : decode cX3_nestThen 36 = .ok (.ireturn, 1) := by decide +kernel
theorem dX3_nestThen_37 : decode cX3_nestThen 37 = .ok (.iload_n 3, 1) := by decide +kernel
theorem dX3_nestThen_38 : decode cX3_nestThen 38 = .ok (.ifCond .lt 8, 3) := by decide +kernel
theorem dX3_nestThen_41 : decode cX3_nestThen 41 = .ok (.iload_n 3, 1) := by decide +kernel
theorem dX3_nestThen_42 : decode cX3_nestThen 42 = .ok (.iconst 3, 1) := by decide +kernel
theorem dX3_nestThen_43 : decode cX3_nestThen 43 = .ok (.if_icmp .le 10, 3) := by decide +kernel
theorem dX3_nestThen_46 : decode cX3_nestThen 46 = .ok (.aload_n 0, 1) := by decide +kernel
theorem dX3_nestThen_47 : decode cX3_nestThen 47 = .ok (.bipush (-2), 2) := by decide +kernel
theorem dX3_nestThen_49 : decode cX3_nestThen 49 = .ok (.invokevirtual 47, 3) := by decide +kernel
theorem dX3_nestThen_52 : decode cX3_nestThen 52 = .ok (.ireturn, 1) := by decide +kernel
theorem dX3_nestThen_53 : decode cX3_nestThen 53 = .ok (.aload_n 0, 1) := by decide +kernel
theorem dX3_nestThen_54 : decode cX3_nestThen 54 = .ok (.iload_n 2, 1) := by decide +kernel
theorem dX3_nestThen_55 : decode cX3_nestThen 55 = .ok (.invokevirtual 137, 3) := by decide +kernel
theorem dX3_nestThen_58 : decode cX3_nestThen 58 = .ok (.aload_n 0, 1) := by decide +kernel
theorem dX3_nestThen_59 : decode cX3_nestThen 59 = .ok (.getfield 16, 3) := by decide +kernel
theorem dX3_nestThen_62 : decode cX3_nestThen 62 = .ok (.iload_n 1, 1) := by decide +kernel
theorem dX3_nestThen_63 : decode cX3_nestThen 63 = .ok (.invokevirtual 101, 3) := by decide +kernel
theorem dX3_nestThen_66 : decode cX3_nestThen 66 = .ok (.istore 4, 2) := by decide +kernel
theorem dX3_nestThen_68 : decode cX3_nestThen 68 = .ok (.iload_n 3, 1) := by decide +kernel
theorem dX3_nestThen_69 : decode cX3_nestThen 69 = .ok (.tableswitch 50 0 2 #[27, 30, 40], 27) := by decide +kernel
theorem dX3_nestThen_96 : decode cX3_nestThen 96 = .ok (.iload 4, 2) := by decide +kernel
theorem dX3_nestThen_98 : decode cX3_nestThen 98 = .ok (.ireturn, 1) := by decide +kernel
theorem dX3_nestThen_99 : decode cX3_nestThen 99 = .ok (.aload_n 0, 1) := by decide +kernel
theorem dX3_nestThen_100 : decode cX3_nestThen 100 = .ok (.getfield 16, 3) := by decide +kernel
theorem dX3_nestThen_103 : decode cX3_nestThen 103 = .ok (.iload 4, 2) := by decide +kernel
theorem dX3_nestThen_105 : decode cX3_nestThen 105 = .ok (.invokevirtual 89, 3) := by decide +kernel
theorem dX3_nestThen_108 : decode cX3_nestThen 108 = .ok (.ireturn, 1) := by decide +kernel
theorem dX3_nestThen_109 : decode cX3_nestThen 109 = .ok (.aload_n 0, 1) := by decide +kernel
theorem dX3_nestThen_110 : decode cX3_nestThen 110 = .ok (.getfield 16, 3) := by decide +kernel
theorem dX3_nestThen_113 : decode cX3_nestThen 113 = .ok (.iload 4, 2) := by decide +kernel
theorem dX3_nestThen_115 : decode cX3_nestThen 115 = .ok (.invokevirtual 92, 3) := by decide +kernel
theorem dX3_nestThen_118 : decode cX3_nestThen 118 = .ok (.ireturn, 1) := by decide +kernel
theorem dX3_nestThen_119 : decode cX3_nestThen 119 = .ok (.aload_n 0, 1) := by decide +kernel
theorem dX3_nestThen_120 : decode cX3_nestThen 120 = .ok (.getfield 16, 3) := by decide +kernel
theorem dX3_nestThen_123 : decode cX3_nestThen 123 = .ok (.iload 4, 2) := by decide +kernel
theorem dX3_nestThen_125 : decode cX3_nestThen 125 = .ok (.invokevirtual 95, 3) := by decide +kernel
theorem dX3_nestThen_128 : decode cX3_nestThen 128 = .ok (.ireturn, 1) := by decide +kernel
set_option maxRecDepth 20000 in
theorem ggX3_robbedThen_X3_refuse : GoodIn wsX3_robbedThen wsX3_refuse := goodIn_r _ [7, 8, 82, 83, 84, 85, 86, 87, 88, 89, 90] rfl (by decide +kernel)
set_option maxRecDepth 20000 in
theorem gX3_robbedThen_X3_refuse : GoodIn wsX3_robbedThen (wsV RX3 47 RX3 yX3_refuse wsX3_refuse) := goodIn_app (goodIn_r _ [3, 4, 5, 6] rfl (by decide +kernel)) ggX3_robbedThen_X3_refuse
set_option maxRecDepth 20000 in
theorem ggX3_robbedThen_X3_think : GoodIn wsX3_robbedThen wsX3_think := goodIn_r _ [12, 1, 13, 14, 15, 16, 17, 18, 19, 20, 21, 22, 23, 24, 25, 26, 27, 28, 29, 30, 31, 32, 33, 34, 35, 36, 37, 38, 39, 40, 41, 42, 43, 44, 45, 46, 47, 48, 49, 50, 51, 52, 53, 54, 55, 56, 57, 58, 59, 60, 61, 62, 63, 64, 65, 66, 67, 68, 69, 70, 71, 72, 73, 74, 75, 76, 77, 78, 79, 80, 81, 82, 83, 84, 85, 86, 87, 88, 89, 90, 91, 92, 93, 94, 95, 96, 97, 98, 99, 100, 101, 102] rfl (by decide +kernel)
set_option maxRecDepth 20000 in
theorem gX3_robbedThen_X3_think : GoodIn wsX3_robbedThen (wsV RX3 137 RX3 yX3_think wsX3_think) := goodIn_app (goodIn_r _ [9, 10, 11, 6] rfl (by decide +kernel)) ggX3_robbedThen_X3_think
theorem dX3_robbedThen_0 : decode cX3_robbedThen 0 = .ok (.iload_n 1, 1) := by decide +kernel
theorem dX3_robbedThen_1 : decode cX3_robbedThen 1 = .ok (.ifCond .ge 10, 3) := by decide +kernel
theorem dX3_robbedThen_4 : decode cX3_robbedThen 4 = .ok (.aload_n 0, 1) := by decide +kernel
theorem dX3_robbedThen_5 : decode cX3_robbedThen 5 = .ok (.bipush (-4), 2) := by decide +kernel
theorem dX3_robbedThen_7 : decode cX3_robbedThen 7 = .ok (.invokevirtual 47, 3) := by decide +kernel
theorem dX3_robbedThen_10 : decode cX3_robbedThen 10 = .ok (.ireturn, 1) := by decide +kernel
theorem dX3_robbedThen_11 : decode cX3_robbedThen 11 = .ok (.iload_n 1, 1) := by decide +kernel
theorem dX3_robbedThen_12 : decode cX3_robbedThen 12 = .ok (.bipush 60, 2) := by decide +kernel
theorem dX3_robbedThen_14 : decode cX3_robbedThen 14 = .ok (.if_icmp .le 10, 3) := by decide +kernel
theorem dX3_robbedThen_17 : decode cX3_robbedThen 17 = .ok (.aload_n 0, 1) := by decide +kernel
theorem dX3_robbedThen_18 : decode cX3_robbedThen 18 = .ok (.bipush (-6), 2) := by decide +kernel
theorem dX3_robbedThen_20 : decode cX3_robbedThen 20 = .ok (.invokevirtual 47, 3) := by decide +kernel
theorem dX3_robbedThen_23 : decode cX3_robbedThen 23 = .ok (.ireturn, 1) := by decide +kernel
theorem dX3_robbedThen_24 : decode cX3_robbedThen 24 = .ok (.aload_n 0, 1) := by decide +kernel
theorem dX3_robbedThen_25 : decode cX3_robbedThen 25 = .ok (.iload_n 1, 1) := by decide +kernel
theorem dX3_robbedThen_26 : decode cX3_robbedThen 26 = .ok (.invokevirtual 137, 3) := by decide +kernel
theorem dX3_robbedThen_29 : decode cX3_robbedThen 29 = .ok (.aload_n 0, 1) := by decide +kernel
theorem dX3_robbedThen_30 : decode cX3_robbedThen 30 = .ok (.getfield 16, 3) := by decide +kernel
theorem dX3_robbedThen_33 : decode cX3_robbedThen 33 = .ok (.getfield 134, 3) := by decide +kernel
theorem dX3_robbedThen_36 : decode cX3_robbedThen 36 = .ok (.ireturn, 1) := by decide +kernel
set_option maxRecDepth 20000 in
theorem ggX3_falls_X3_isWoman : GoodIn wsX3_falls wsX3_isWoman := goodIn_r _ [7] rfl (by decide +kernel)
set_option maxRecDepth 20000 in
theorem gX3_falls_X3_isWoman : GoodIn wsX3_falls (va_wsS RX3 98 yX3_isWoman wsX3_isWoman) := goodIn_app (goodIn_r _ [4, 5, 6] rfl (by decide +kernel)) ggX3_falls_X3_isWoman
set_option maxRecDepth 20000 in
theorem ggX3_falls_X3_refuse : GoodIn wsX3_falls wsX3_refuse := goodIn_r _ [11, 12, 77, 78, 79, 80, 81, 82, 83, 84, 85] rfl (by decide +kernel)
set_option maxRecDepth 20000 in
theorem gX3_falls_X3_refuse : GoodIn wsX3_falls (wsV RX3 47 RX3 yX3_refuse wsX3_refuse) := goodIn_app (goodIn_r _ [8, 9, 10, 6] rfl (by decide +kernel)) ggX3_falls_X3_refuse
set_option maxRecDepth 20000 in
theorem ggX3_falls_X2_becomes : GoodIn wsX3_falls wsX2_becomes := goodIn_r _ [17, 18, 19, 20, 21, 22, 23, 24, 25, 26, 27, 28, 29, 30, 31, 32, 33, 86, 87, 88, 89, 90, 91, 92, 93, 94, 95, 96, 97] rfl (by decide +kernel)
set_option maxRecDepth 20000 in
theorem gX3_falls_X2_becomes : GoodIn wsX3_falls (wsV RX3 62 RX2 yX2_becomes wsX2_becomes) := goodIn_app (goodIn_r _ [13, 14, 15, 16] rfl (by decide +kernel)) ggX3_falls_X2_becomes
set_option maxRecDepth 20000 in
theorem ggX3_falls_X2_passDay : GoodIn wsX3_falls wsX2_passDay := goodIn_r _ [37, 19, 24, 21, 38, 39, 40, 16, 41, 18, 32, 42, 43, 44, 45, 46, 47, 48, 49, 25, 50, 51, 52, 53, 33, 54, 55, 56, 57, 58, 59, 60, 61, 26, 62, 63, 64, 65, 31, 66, 67, 68, 69, 70, 71, 72, 73, 74, 75, 76, 20, 23, 22, 86, 87, 88, 89, 90, 91, 92, 93, 94, 95, 96, 97] rfl (by decide +kernel)
set_option maxRecDepth 20000 in
theorem gX3_falls_X2_passDay : GoodIn wsX3_falls (wsV RX3 140 RX2 yX2_passDay wsX2_passDay) := goodIn_app (goodIn_r _ [34, 35, 36, 16] rfl (by decide +kernel)) ggX3_falls_X2_passDay
theorem dX3_falls_0 : decode cX3_falls 0 = .ok (.iload_n 1, 1) := by decide +kernel
theorem dX3_falls_1 : decode cX3_falls 1 = .ok (.invokestatic 98, 3) := by decide +kernel
theorem dX3_falls_4 : decode cX3_falls 4 = .ok (.ifCond .ne 9, 3) := by decide +kernel
theorem dX3_falls_7 : decode cX3_falls 7 = .ok (.aload_n 0, 1) := by decide +kernel
theorem dX3_falls_8 : decode cX3_falls 8 = .ok (.iconst (-1), 1) := by decide +kernel
theorem dX3_falls_9 : decode cX3_falls 9 = .ok (.invokevirtual 47, 3) := by decide +kernel
theorem dX3_falls_12 : decode cX3_falls 12 = .ok (.ireturn, 1) := by decide +kernel
theorem dX3_falls_13 : decode cX3_falls 13 = .ok (.aload_n 0, 1) := by decide +kernel
theorem dX3_falls_14 : decode cX3_falls 14 = .ok (.getfield 16, 3) := by decide +kernel
theorem dX3_falls_17 : decode cX3_falls 17 = .ok (.aload_n 0, 1) := by decide +kernel
theorem dX3_falls_18 : decode cX3_falls 18 = .ok (.getfield 10, 3) := by decide +kernel
theorem dX3_falls_21 : decode cX3_falls 21 = .ok (.invokevirtual 62, 3) := by decide +kernel
theorem dX3_falls_24 : decode cX3_falls 24 = .ok (.iconst 1, 1) := by decide +kernel
theorem dX3_falls_25 : decode cX3_falls 25 = .ok (.istore_n 2, 1) := by decide +kernel
theorem dX3_falls_26 : decode cX3_falls 26 = .ok (.iload_n 2, 1) := by decide +kernel
theorem dX3_falls_27 : decode cX3_falls 27 = .ok (.bipush 60, 2) := by decide +kernel
theorem dX3_falls_29 : decode cX3_falls 29 = .ok (.if_icmp .gt 33, 3) := by decide +kernel
theorem dX3_falls_32 : decode cX3_falls 32 = .ok (.aload_n 0, 1) := by decide +kernel
theorem dX3_falls_33 : decode cX3_falls 33 = .ok (.getfield 16, 3) := by decide +kernel
theorem dX3_falls_36 : decode cX3_falls 36 = .ok (.invokevirtual 140, 3) := by decide +kernel
theorem dX3_falls_39 : decode cX3_falls 39 = .ok (.aload_n 0, 1) := by decide +kernel
theorem dX3_falls_40 : decode cX3_falls 40 = .ok (.getfield 16, 3) := by decide +kernel
theorem dX3_falls_43 : decode cX3_falls 43 = .ok (.getfield 143, 3) := by decide +kernel
theorem dX3_falls_46 : decode cX3_falls 46 = .ok (.iload_n 1, 1) := by decide +kernel
theorem dX3_falls_47 : decode cX3_falls 47 = .ok (.ishr, 1) := by decide +kernel
theorem dX3_falls_48 : decode cX3_falls 48 = .ok (.iconst 1, 1) := by decide +kernel
theorem dX3_falls_49 : decode cX3_falls 49 = .ok (.iand, 1) := by decide +kernel
theorem dX3_falls_50 : decode cX3_falls 50 = .ok (.iconst 1, 1) := by decide +kernel
theorem dX3_falls_51 : decode cX3_falls 51 = .ok (.if_icmp .ne 5, 3) := by decide +kernel
theorem dX3_falls_54 : decode cX3_falls 54 = .ok (.iload_n 2, 1) := by decide +kernel
theorem dX3_falls_55 : decode cX3_falls 55 = .ok (.ireturn, 1) := by decide +kernel
theorem dX3_falls_56 : decode cX3_falls 56 = .ok (.iinc 2 1, 3) := by decide +kernel
theorem dX3_falls_59 : decode cX3_falls 59 = .ok (.goto (-33), 3) := by decide +kernel
theorem dX3_falls_62 : decode cX3_falls 62 = .ok (.bipush (-9), 2) := by decide +kernel
theorem dX3_falls_64 : decode cX3_falls 64 = .ok (.ireturn, 1) := by decide +kernel
set_option maxRecDepth 20000 in
theorem ggX3_first_X3_refuse : GoodIn wsX3_first wsX3_refuse := goodIn_r _ [8, 9, 82, 83, 84, 85, 86, 87, 88, 89, 90] rfl (by decide +kernel)
set_option maxRecDepth 20000 in
theorem gX3_first_X3_refuse : GoodIn wsX3_first (wsV RX3 47 RX3 yX3_refuse wsX3_refuse) := goodIn_app (goodIn_r _ [4, 5, 6, 7] rfl (by decide +kernel)) ggX3_first_X3_refuse
set_option maxRecDepth 20000 in
theorem ggX3_first_X3_firstStillDay : GoodIn wsX3_first wsX3_firstStillDay := goodIn_r _ [13, 1, 2, 14, 15, 16, 17, 18, 19, 20, 21, 22, 23, 24, 25, 26, 27, 28, 29, 30, 31, 32, 33, 34, 35, 36, 37, 38, 39, 40, 41, 42, 43, 44, 45, 46, 47, 48, 49, 50, 51, 52, 53, 54, 55, 56, 57, 58, 59, 60, 61, 62, 63, 64, 65, 66, 67, 68, 69, 70, 71, 72, 73, 74, 75, 76, 77, 78, 82, 83, 84, 85, 86, 87, 88, 89, 90, 91, 92, 93, 94, 95, 96, 97, 98, 99, 100, 101, 102] rfl (by decide +kernel)
set_option maxRecDepth 20000 in
theorem gX3_first_X3_firstStillDay : GoodIn wsX3_first (wsV RX3 146 RX3 yX3_firstStillDay wsX3_firstStillDay) := goodIn_app (goodIn_r _ [10, 11, 12, 7] rfl (by decide +kernel)) ggX3_first_X3_firstStillDay
set_option maxRecDepth 20000 in
theorem ggX3_first_X2_becomes : GoodIn wsX3_first wsX2_becomes := goodIn_r _ [19, 20, 21, 22, 23, 24, 25, 26, 27, 28, 29, 30, 31, 32, 33, 34, 35, 91, 92, 93, 94, 95, 96, 97, 98, 99, 100, 101, 102] rfl (by decide +kernel)
set_option maxRecDepth 20000 in
theorem gX3_first_X2_becomes : GoodIn wsX3_first (wsV RX3 62 RX2 yX2_becomes wsX2_becomes) := goodIn_app (goodIn_r _ [15, 16, 17, 18] rfl (by decide +kernel)) ggX3_first_X2_becomes
set_option maxRecDepth 20000 in
theorem ggX3_first_X2_passDay : GoodIn wsX3_first wsX2_passDay := goodIn_r _ [39, 21, 26, 23, 40, 41, 42, 18, 43, 20, 34, 44, 45, 46, 47, 48, 49, 50, 51, 27, 52, 53, 54, 55, 35, 56, 57, 58, 59, 60, 61, 62, 63, 28, 64, 65, 66, 67, 33, 68, 69, 70, 71, 72, 73, 74, 75, 76, 77, 78, 22, 25, 24, 91, 92, 93, 94, 95, 96, 97, 98, 99, 100, 101, 102] rfl (by decide +kernel)
set_option maxRecDepth 20000 in
theorem gX3_first_X2_passDay : GoodIn wsX3_first (wsV RX3 140 RX2 yX2_passDay wsX2_passDay) := goodIn_app (goodIn_r _ [36, 37, 38, 18] rfl (by decide +kernel)) ggX3_first_X2_passDay
set_option maxRecDepth 20000 in
theorem ggX3_first_X3_leastWomanOf : GoodIn wsX3_first wsX3_leastWomanOf := goodIn_r _ [81] rfl (by decide +kernel)
set_option maxRecDepth 20000 in
theorem gX3_first_X3_leastWomanOf : GoodIn wsX3_first (va_wsS RX3 149 yX3_leastWomanOf wsX3_leastWomanOf) := goodIn_app (goodIn_r _ [79, 80, 7] rfl (by decide +kernel)) ggX3_first_X3_leastWomanOf
theorem dX3_first_0 : decode cX3_first 0 = .ok (.iload_n 1, 1) := by decide +kernel
theorem dX3_first_1 : decode cX3_first 1 = .ok (.ifCond .lt 8, 3) := by decide +kernel
theorem dX3_first_4 : decode cX3_first 4 = .ok (.iload_n 1, 1) := by decide +kernel
theorem dX3_first_5 : decode cX3_first 5 = .ok (.iconst 2, 1) := by decide +kernel
theorem dX3_first_6 : decode cX3_first 6 = .ok (.if_icmp .le 10, 3) := by decide +kernel
theorem dX3_first_9 : decode cX3_first 9 = .ok (.aload_n 0, 1) := by decide +kernel
theorem dX3_first_10 : decode cX3_first 10 = .ok (.bipush (-2), 2) := by decide +kernel
theorem dX3_first_12 : decode cX3_first 12 = .ok (.invokevirtual 47, 3) := by decide +kernel
theorem dX3_first_15 : decode cX3_first 15 = .ok (.ireturn, 1) := by decide +kernel
theorem dX3_first_16 : decode cX3_first 16 = .ok (.iload_n 1, 1) := by decide +kernel
theorem dX3_first_17 : decode cX3_first 17 = .ok (.iconst 2, 1) := by decide +kernel
theorem dX3_first_18 : decode cX3_first 18 = .ok (.if_icmp .ne 8, 3) := by decide +kernel
theorem dX3_first_21 : decode cX3_first 21 = .ok (.aload_n 0, 1) := by decide +kernel
theorem dX3_first_22 : decode cX3_first 22 = .ok (.invokevirtual 146, 3) := by decide +kernel
theorem dX3_first_25 : decode cX3_first 25 = .ok (.ireturn, 1) := by decide +kernel
theorem dX3_first_26 : decode cX3_first 26 = .ok (.aload_n 0, 1) := by decide +kernel
theorem dX3_first_27 : decode cX3_first 27 = .ok (.getfield 16, 3) := by decide +kernel
theorem dX3_first_30 : decode cX3_first 30 = .ok (.aload_n 0, 1) := by decide +kernel
theorem dX3_first_31 : decode cX3_first 31 = .ok (.getfield 10, 3) := by decide +kernel
theorem dX3_first_34 : decode cX3_first 34 = .ok (.invokevirtual 62, 3) := by decide +kernel
theorem dX3_first_37 : decode cX3_first 37 = .ok (.iconst 1, 1) := by decide +kernel
theorem dX3_first_38 : decode cX3_first 38 = .ok (.istore_n 2, 1) := by decide +kernel
theorem dX3_first_39 : decode cX3_first 39 = .ok (.iload_n 2, 1) := by decide +kernel
theorem dX3_first_40 : decode cX3_first 40 = .ok (.bipush 60, 2) := by decide +kernel
theorem dX3_first_42 : decode cX3_first 42 = .ok (.if_icmp .gt 45, 3) := by decide +kernel
theorem dX3_first_45 : decode cX3_first 45 = .ok (.aload_n 0, 1) := by decide +kernel
theorem dX3_first_46 : decode cX3_first 46 = .ok (.getfield 16, 3) := by decide +kernel
theorem dX3_first_49 : decode cX3_first 49 = .ok (.invokevirtual 140, 3) := by decide +kernel
theorem dX3_first_52 : decode cX3_first 52 = .ok (.aload_n 0, 1) := by decide +kernel
theorem dX3_first_53 : decode cX3_first 53 = .ok (.getfield 16, 3) := by decide +kernel
theorem dX3_first_56 : decode cX3_first 56 = .ok (.getfield 143, 3) := by decide +kernel
theorem dX3_first_59 : decode cX3_first 59 = .ok (.ifCond .eq 22, 3) := by decide +kernel
theorem dX3_first_62 : decode cX3_first 62 = .ok (.iload_n 1, 1) := by decide +kernel
theorem dX3_first_63 : decode cX3_first 63 = .ok (.ifCond .ne 16, 3) := by decide +kernel
theorem dX3_first_66 : decode cX3_first 66 = .ok (.aload_n 0, 1) := by decide +kernel
theorem dX3_first_67 : decode cX3_first 67 = .ok (.getfield 16, 3) := by decide +kernel
theorem dX3_first_70 : decode cX3_first 70 = .ok (.getfield 143, 3) := by decide +kernel
theorem dX3_first_73 : decode cX3_first 73 = .ok (.invokestatic 149, 3) := by decide +kernel
theorem dX3_first_76 : decode cX3_first 76 = .ok (.goto 4, 3) := by decide +kernel
theorem dX3_first_79 : decode cX3_first 79 = .ok (.iload_n 2, 1) := by decide +kernel
theorem dX3_first_80 : decode cX3_first 80 = .ok (.ireturn, 1) := by decide +kernel
theorem dX3_first_81 : decode cX3_first 81 = .ok (.iinc 2 1, 3) := by decide +kernel
theorem dX3_first_84 : decode cX3_first 84 = .ok (.goto (-45), 3) := by decide +kernel
theorem dX3_first_87 : decode cX3_first 87 = .ok (.bipush (-9), 2) := by decide +kernel
theorem dX3_first_89 : decode cX3_first 89 = .ok (.ireturn, 1) := by decide +kernel
set_option maxRecDepth 20000 in
theorem ggX3_firstStillDay_X2_becomes : GoodIn wsX3_firstStillDay wsX2_becomes := goodIn_r _ [8, 9, 10, 11, 12, 13, 14, 15, 16, 17, 18, 19, 20, 21, 22, 23, 24, 77, 78, 79, 80, 81, 82, 83, 84, 85, 86, 87, 88] rfl (by decide +kernel)
set_option maxRecDepth 20000 in
theorem gX3_firstStillDay_X2_becomes : GoodIn wsX3_firstStillDay (wsV RX3 62 RX2 yX2_becomes wsX2_becomes) := goodIn_app (goodIn_r _ [4, 5, 6, 7] rfl (by decide +kernel)) ggX3_firstStillDay_X2_becomes
set_option maxRecDepth 20000 in
theorem ggX3_firstStillDay_X2_passDay : GoodIn wsX3_firstStillDay wsX2_passDay := goodIn_r _ [28, 10, 15, 12, 29, 30, 31, 7, 32, 9, 23, 33, 34, 35, 36, 37, 38, 39, 40, 16, 41, 42, 43, 44, 24, 45, 46, 47, 48, 49, 50, 51, 52, 17, 53, 54, 55, 56, 22, 57, 58, 59, 60, 61, 62, 63, 64, 65, 66, 67, 11, 14, 13, 77, 78, 79, 80, 81, 82, 83, 84, 85, 86, 87, 88] rfl (by decide +kernel)
set_option maxRecDepth 20000 in
theorem gX3_firstStillDay_X2_passDay : GoodIn wsX3_firstStillDay (wsV RX3 140 RX2 yX2_passDay wsX2_passDay) := goodIn_app (goodIn_r _ [25, 26, 27, 7] rfl (by decide +kernel)) ggX3_firstStillDay_X2_passDay
theorem dX3_firstStillDay_0 : decode cX3_firstStillDay 0 = .ok (.aload_n 0, 1) := by decide +kernel
theorem dX3_firstStillDay_1 : decode cX3_firstStillDay 1 = .ok (.getfield 16, 3) := by decide +kernel
theorem dX3_firstStillDay_4 : decode cX3_firstStillDay 4 = .ok (.aload_n 0, 1) := by decide +kernel
theorem dX3_firstStillDay_5 : decode cX3_firstStillDay 5 = .ok (.getfield 10, 3) := by decide +kernel
theorem dX3_firstStillDay_8 : decode cX3_firstStillDay 8 = .ok (.invokevirtual 62, 3) := by decide +kernel
theorem dX3_firstStillDay_11 : decode cX3_firstStillDay 11 = .ok (.iconst 0, 1) := by decide +kernel
theorem dX3_firstStillDay_12 : decode cX3_firstStillDay 12 = .ok (.istore_n 1, 1) := by decide +kernel
theorem dX3_firstStillDay_13 : decode cX3_firstStillDay 13 = .ok (.iload_n 1, 1) := by decide +kernel
theorem dX3_firstStillDay_14 : decode cX3_firstStillDay 14 = .ok (.bipush 60, 2) := by decide +kernel
theorem dX3_firstStillDay_16 : decode cX3_firstStillDay 16 = .ok (.if_icmp .gt 37, 3) := by decide +kernel
theorem dX3_firstStillDay_19 : decode cX3_firstStillDay 19 = .ok (.aload_n 0, 1) := by decide +kernel
theorem dX3_firstStillDay_20 : decode cX3_firstStillDay 20 = .ok (.getfield 16, 3) := by decide +kernel
theorem dX3_firstStillDay_23 : decode cX3_firstStillDay 23 = .ok (.getfield 86, 3) := by decide +kernel
theorem dX3_firstStillDay_26 : decode cX3_firstStillDay 26 = .ok (.istore_n 2, 1) := by decide +kernel
theorem dX3_firstStillDay_27 : decode cX3_firstStillDay 27 = .ok (.aload_n 0, 1) := by decide +kernel
theorem dX3_firstStillDay_28 : decode cX3_firstStillDay 28 = .ok (.getfield 16, 3) := by decide +kernel
theorem dX3_firstStillDay_31 : decode cX3_firstStillDay 31 = .ok (.invokevirtual 140, 3) := by decide +kernel
theorem dX3_firstStillDay_34 : decode cX3_firstStillDay 34 = .ok (.aload_n 0, 1) := by decide +kernel
theorem dX3_firstStillDay_35 : decode cX3_firstStillDay 35 = .ok (.getfield 16, 3) := by decide +kernel
theorem dX3_firstStillDay_38 : decode cX3_firstStillDay 38 = .ok (.getfield 86, 3) := by decide +kernel
theorem dX3_firstStillDay_41 : decode cX3_firstStillDay 41 = .ok (.iload_n 2, 1) := by decide +kernel
theorem dX3_firstStillDay_42 : decode cX3_firstStillDay 42 = .ok (.if_icmp .ne 5, 3) := by decide +kernel
theorem dX3_firstStillDay_45 : decode cX3_firstStillDay 45 = .ok (.iload_n 1, 1) := by decide +kernel
theorem dX3_firstStillDay_46 : decode cX3_firstStillDay 46 = .ok (.ireturn, 1) := by decide +kernel
theorem dX3_firstStillDay_47 : decode cX3_firstStillDay 47 = .ok (.iinc 1 1, 3) := by decide +kernel
theorem dX3_firstStillDay_50 : decode cX3_firstStillDay 50 = .ok (.goto (-37), 3) := by decide +kernel
theorem dX3_firstStillDay_53 : decode cX3_firstStillDay 53 = .ok (.bipush (-9), 2) := by decide +kernel
theorem dX3_firstStillDay_55 : decode cX3_firstStillDay 55 = .ok (.ireturn, 1) := by decide +kernel
set_option maxRecDepth 20000 in
theorem ggX3_cushion_X3_refuse : GoodIn wsX3_cushion wsX3_refuse := goodIn_r _ [7, 8, 81, 82, 83, 84, 85, 86, 87, 88, 89] rfl (by decide +kernel)
set_option maxRecDepth 20000 in
theorem gX3_cushion_X3_refuse : GoodIn wsX3_cushion (wsV RX3 47 RX3 yX3_refuse wsX3_refuse) := goodIn_app (goodIn_r _ [3, 4, 5, 6] rfl (by decide +kernel)) ggX3_cushion_X3_refuse
set_option maxRecDepth 20000 in
theorem ggX3_cushion_X2_becomes : GoodIn wsX3_cushion wsX2_becomes := goodIn_r _ [13, 14, 15, 16, 17, 18, 19, 20, 21, 22, 23, 24, 25, 26, 27, 28, 29, 90, 91, 92, 93, 94, 95, 96, 97, 98, 99, 100, 101] rfl (by decide +kernel)
set_option maxRecDepth 20000 in
theorem gX3_cushion_X2_becomes : GoodIn wsX3_cushion (wsV RX3 62 RX2 yX2_becomes wsX2_becomes) := goodIn_app (goodIn_r _ [9, 10, 11, 12] rfl (by decide +kernel)) ggX3_cushion_X2_becomes
set_option maxRecDepth 20000 in
theorem ggX3_cushion_X2_nestOf : GoodIn wsX3_cushion wsX2_nestOf := goodIn_r _ [33, 29, 17, 90, 91, 92, 93, 94, 95, 96, 97, 98, 99, 100, 101] rfl (by decide +kernel)
set_option maxRecDepth 20000 in
theorem gX3_cushion_X2_nestOf : GoodIn wsX3_cushion (wsV RX3 101 RX2 yX2_nestOf wsX2_nestOf) := goodIn_app (goodIn_r _ [30, 31, 32, 12] rfl (by decide +kernel)) ggX3_cushion_X2_nestOf
set_option maxRecDepth 20000 in
theorem ggX3_cushion_X2_softOf : GoodIn wsX3_cushion wsX2_softOf := goodIn_r _ [37, 14, 22, 38, 39, 40, 12, 41, 28, 27, 42, 43, 44, 45, 90, 91, 92, 93, 94, 95, 96, 97, 98, 99, 100, 101] rfl (by decide +kernel)
set_option maxRecDepth 20000 in
theorem gX3_cushion_X2_softOf : GoodIn wsX3_cushion (wsV RX3 89 RX2 yX2_softOf wsX2_softOf) := goodIn_app (goodIn_r _ [34, 35, 36, 12] rfl (by decide +kernel)) ggX3_cushion_X2_softOf
set_option maxRecDepth 20000 in
theorem ggX3_cushion_X2_passDay : GoodIn wsX3_cushion wsX2_passDay := goodIn_r _ [49, 15, 20, 17, 50, 51, 52, 12, 53, 14, 28, 54, 55, 56, 57, 58, 59, 60, 61, 21, 62, 63, 64, 65, 29, 66, 31, 32, 33, 67, 68, 69, 70, 22, 38, 39, 40, 41, 27, 71, 72, 44, 73, 74, 75, 76, 77, 78, 79, 80, 16, 19, 18, 90, 91, 92, 93, 94, 95, 96, 97, 98, 99, 100, 101] rfl (by decide +kernel)
set_option maxRecDepth 20000 in
theorem gX3_cushion_X2_passDay : GoodIn wsX3_cushion (wsV RX3 140 RX2 yX2_passDay wsX2_passDay) := goodIn_app (goodIn_r _ [46, 47, 48, 12] rfl (by decide +kernel)) ggX3_cushion_X2_passDay
theorem dX3_cushion_0 : decode cX3_cushion 0 = .ok (.iload_n 1, 1) := by decide +kernel
theorem dX3_cushion_1 : decode cX3_cushion 1 = .ok (.ifCond .lt 8, 3) := by decide +kernel
theorem dX3_cushion_4 : decode cX3_cushion 4 = .ok (.iload_n 1, 1) := by decide +kernel
theorem dX3_cushion_5 : decode cX3_cushion 5 = .ok (.iconst 1, 1) := by decide +kernel
theorem dX3_cushion_6 : decode cX3_cushion 6 = .ok (.if_icmp .le 10, 3) := by decide +kernel
theorem dX3_cushion_9 : decode cX3_cushion 9 = .ok (.aload_n 0, 1) := by decide +kernel
theorem dX3_cushion_10 : decode cX3_cushion 10 = .ok (.bipush (-2), 2) := by decide +kernel
theorem dX3_cushion_12 : decode cX3_cushion 12 = .ok (.invokevirtual 47, 3) := by decide +kernel
theorem dX3_cushion_15 : decode cX3_cushion 15 = .ok (.ireturn, 1) := by decide +kernel
theorem dX3_cushion_16 : decode cX3_cushion 16 = .ok (.aload_n 0, 1) := by decide +kernel
theorem dX3_cushion_17 : decode cX3_cushion 17 = .ok (.getfield 16, 3) := by decide +kernel
theorem dX3_cushion_20 : decode cX3_cushion 20 = .ok (.aload_n 0, 1) := by decide +kernel
theorem dX3_cushion_21 : decode cX3_cushion 21 = .ok (.getfield 10, 3) := by decide +kernel
theorem dX3_cushion_24 : decode cX3_cushion 24 = .ok (.invokevirtual 62, 3) := by decide +kernel
theorem dX3_cushion_27 : decode cX3_cushion 27 = .ok (.iconst 0, 1) := by decide +kernel
theorem dX3_cushion_28 : decode cX3_cushion 28 = .ok (.istore_n 2, 1) := by decide +kernel
theorem dX3_cushion_29 : decode cX3_cushion 29 = .ok (.iload_n 2, 1) := by decide +kernel
theorem dX3_cushion_30 : decode cX3_cushion 30 = .ok (.bipush 60, 2) := by decide +kernel
theorem dX3_cushion_32 : decode cX3_cushion 32 = .ok (.if_icmp .gt 59, 3) := by decide +kernel
theorem dX3_cushion_35 : decode cX3_cushion 35 = .ok (.iconst 0, 1) := by decide +kernel
theorem dX3_cushion_36 : decode cX3_cushion 36 = .ok (.istore_n 3, 1) := by decide +kernel
theorem dX3_cushion_37 : decode cX3_cushion 37 = .ok (.iload_n 3, 1) := by decide +kernel
theorem dX3_cushion_38 : decode cX3_cushion 38 = .ok (.iconst 4, 1) := by decide +kernel
theorem dX3_cushion_39 : decode cX3_cushion 39 = .ok (.if_icmp .ge 39, 3) := by decide +kernel
theorem dX3_cushion_42 : decode cX3_cushion 42 = .ok (.aload_n 0, 1) := by decide +kernel
theorem dX3_cushion_43 : decode cX3_cushion 43 = .ok (.getfield 16, 3) := by decide +kernel
theorem dX3_cushion_46 : decode cX3_cushion 46 = .ok (.aload_n 0, 1) := by decide +kernel
theorem dX3_cushion_47 : decode cX3_cushion 47 = .ok (.getfield 16, 3) := by decide +kernel
theorem dX3_cushion_50 : decode cX3_cushion 50 = .ok (.iload_n 3, 1) := by decide +kernel
theorem dX3_cushion_51 : decode cX3_cushion 51 = .ok (.invokevirtual 101, 3) := by decide +kernel
theorem dX3_cushion_54 : decode cX3_cushion 54 = .ok (.invokevirtual 89, 3) := by decide +kernel
theorem dX3_cushion_57 : decode cX3_cushion 57 = .ok (.bipush 20, 2) := by decide +kernel
theorem dX3_cushion_59 : decode cX3_cushion 59 = .ok (.if_icmp .lt 13, 3) := by decide +kernel
theorem dX3_cushion_62 : decode cX3_cushion 62 = .ok (.iload_n 1, 1) := by decide +kernel
theorem dX3_cushion_63 : decode cX3_cushion 63 = .ok (.ifCond .ne 7, 3) := by decide +kernel
theorem dX3_cushion_66 : decode cX3_cushion 66 = .ok (.iload_n 2, 1) := by decide +kernel
theorem dX3_cushion_67 : decode cX3_cushion 67 = .ok (.goto 4, 3) := by decide +kernel
theorem dX3_cushion_70 : decode cX3_cushion 70 = .ok (.iload_n 3, 1) := by decide +kernel
theorem dX3_cushion_71 : decode cX3_cushion 71 = .ok (.ireturn, 1) := by decide +kernel
theorem dX3_cushion_72 : decode cX3_cushion 72 = .ok (.iinc 3 1, 3) := by decide +kernel
theorem dX3_cushion_75 : decode cX3_cushion 75 = .ok (.goto (-38), 3) := by decide +kernel
theorem dX3_cushion_78 : decode cX3_cushion 78 = .ok (.aload_n 0, 1) := by decide +kernel
theorem dX3_cushion_79 : decode cX3_cushion 79 = .ok (.getfield 16, 3) := by decide +kernel
theorem dX3_cushion_82 : decode cX3_cushion 82 = .ok (.invokevirtual 140, 3) := by decide +kernel
theorem dX3_cushion_85 : decode cX3_cushion 85 = .ok (.iinc 2 1, 3) := by decide +kernel
theorem dX3_cushion_88 : decode cX3_cushion 88 = .ok (.goto (-59), 3) := by decide +kernel
theorem dX3_cushion_91 : decode cX3_cushion 91 = .ok (.bipush (-9), 2) := by decide +kernel
theorem dX3_cushion_93 : decode cX3_cushion 93 = .ok (.ireturn, 1) := by decide +kernel
set_option maxRecDepth 20000 in
theorem ggX3_more_X3_isWoman : GoodIn wsX3_more wsX3_isWoman := goodIn_r _ [5] rfl (by decide +kernel)
set_option maxRecDepth 20000 in
theorem gX3_more_X3_isWoman : GoodIn wsX3_more (va_wsS RX3 98 yX3_isWoman wsX3_isWoman) := goodIn_app (goodIn_r _ [2, 3, 4] rfl (by decide +kernel)) ggX3_more_X3_isWoman
set_option maxRecDepth 20000 in
theorem ggX3_more_X3_refuse : GoodIn wsX3_more wsX3_refuse := goodIn_r _ [9, 10, 57, 58, 59, 60, 61, 62, 63, 64, 65] rfl (by decide +kernel)
set_option maxRecDepth 20000 in
theorem gX3_more_X3_refuse : GoodIn wsX3_more (wsV RX3 47 RX3 yX3_refuse wsX3_refuse) := goodIn_app (goodIn_r _ [6, 7, 8, 4] rfl (by decide +kernel)) ggX3_more_X3_refuse
set_option maxRecDepth 20000 in
theorem ggX3_more_X2_nestOf : GoodIn wsX3_more wsX2_nestOf := goodIn_r _ [15, 16, 17, 66, 67, 68, 69, 70, 71, 72, 73, 74, 75, 76, 77] rfl (by decide +kernel)
set_option maxRecDepth 20000 in
theorem gX3_more_X2_nestOf : GoodIn wsX3_more (wsV RX3 101 RX2 yX2_nestOf wsX2_nestOf) := goodIn_app (goodIn_r _ [11, 12, 13, 14] rfl (by decide +kernel)) ggX3_more_X2_nestOf
set_option maxRecDepth 20000 in
theorem ggX3_more_X2_saidAbout : GoodIn wsX3_more wsX2_saidAbout := goodIn_r _ [21, 17, 22, 23, 24, 25, 14, 26, 16, 66, 67, 68, 69, 70, 71, 72, 73, 74, 75, 76, 77] rfl (by decide +kernel)
set_option maxRecDepth 20000 in
theorem gX3_more_X2_saidAbout : GoodIn wsX3_more (wsV RX3 152 RX2 yX2_saidAbout wsX2_saidAbout) := goodIn_app (goodIn_r _ [18, 19, 20, 14] rfl (by decide +kernel)) ggX3_more_X2_saidAbout
set_option maxRecDepth 20000 in
theorem ggX3_more_X2_fewestMoved : GoodIn wsX3_more wsX2_fewestMoved := goodIn_r _ [30, 31, 32, 33, 34, 35, 36, 37, 38, 39, 40, 41, 14, 42, 43, 44, 45, 46, 47, 48, 49, 50, 51, 52, 53, 54, 55, 56, 66, 67, 68, 69, 70, 71, 72, 73, 74, 75, 76, 77] rfl (by decide +kernel)
set_option maxRecDepth 20000 in
theorem gX3_more_X2_fewestMoved : GoodIn wsX3_more (wsV RX3 155 RX2 yX2_fewestMoved wsX2_fewestMoved) := goodIn_app (goodIn_r _ [27, 28, 29, 14] rfl (by decide +kernel)) ggX3_more_X2_fewestMoved
theorem dX3_more_0 : decode cX3_more 0 = .ok (.iload_n 1, 1) := by decide +kernel
theorem dX3_more_1 : decode cX3_more 1 = .ok (.invokestatic 98, 3) := by decide +kernel
theorem dX3_more_4 : decode cX3_more 4 = .ok (.ifCond .ne 9, 3) := by decide +kernel
theorem dX3_more_7 : decode cX3_more 7 = .ok (.aload_n 0, 1) := by decide +kernel
theorem dX3_more_8 : decode cX3_more 8 = .ok (.iconst (-1), 1) := by decide +kernel
theorem dX3_more_9 : decode cX3_more 9 = .ok (.invokevirtual 47, 3) := by decide +kernel
theorem dX3_more_12 : decode cX3_more 12 = .ok (.ireturn, 1) := by decide +kernel
theorem dX3_more_13 : decode cX3_more 13 = .ok (.aload_n 0, 1) := by decide +kernel
theorem dX3_more_14 : decode cX3_more 14 = .ok (.getfield 10, 3) := by decide +kernel
theorem dX3_more_17 : decode cX3_more 17 = .ok (.aload_n 0, 1) := by decide +kernel
theorem dX3_more_18 : decode cX3_more 18 = .ok (.getfield 10, 3) := by decide +kernel
theorem dX3_more_21 : decode cX3_more 21 = .ok (.iload_n 1, 1) := by decide +kernel
theorem dX3_more_22 : decode cX3_more 22 = .ok (.invokevirtual 101, 3) := by decide +kernel
theorem dX3_more_25 : decode cX3_more 25 = .ok (.aload_n 0, 1) := by decide +kernel
theorem dX3_more_26 : decode cX3_more 26 = .ok (.getfield 10, 3) := by decide +kernel
theorem dX3_more_29 : decode cX3_more 29 = .ok (.iload_n 1, 1) := by decide +kernel
theorem dX3_more_30 : decode cX3_more 30 = .ok (.invokevirtual 152, 3) := by decide +kernel
theorem dX3_more_33 : decode cX3_more 33 = .ok (.invokevirtual 155, 3) := by decide +kernel
theorem dX3_more_36 : decode cX3_more 36 = .ok (.ireturn, 1) := by decide +kernel
set_option maxRecDepth 20000 in
theorem ggX3_softest_X3_isWoman : GoodIn wsX3_softest wsX3_isWoman := goodIn_r _ [5] rfl (by decide +kernel)
set_option maxRecDepth 20000 in
theorem gX3_softest_X3_isWoman : GoodIn wsX3_softest (va_wsS RX3 98 yX3_isWoman wsX3_isWoman) := goodIn_app (goodIn_r _ [2, 3, 4] rfl (by decide +kernel)) ggX3_softest_X3_isWoman
set_option maxRecDepth 20000 in
theorem ggX3_softest_X3_refuse : GoodIn wsX3_softest wsX3_refuse := goodIn_r _ [9, 10, 48, 49, 50, 51, 52, 53, 54, 55, 56] rfl (by decide +kernel)
set_option maxRecDepth 20000 in
theorem gX3_softest_X3_refuse : GoodIn wsX3_softest (wsV RX3 47 RX3 yX3_refuse wsX3_refuse) := goodIn_app (goodIn_r _ [6, 7, 8, 4] rfl (by decide +kernel)) ggX3_softest_X3_refuse
set_option maxRecDepth 20000 in
theorem ggX3_softest_X2_allAbout : GoodIn wsX3_softest wsX2_allAbout := goodIn_r _ [15, 16, 57, 58, 59, 60, 61, 62, 63, 64, 65, 66, 67, 68] rfl (by decide +kernel)
set_option maxRecDepth 20000 in
theorem gX3_softest_X2_allAbout : GoodIn wsX3_softest (wsV RX3 158 RX2 yX2_allAbout wsX2_allAbout) := goodIn_app (goodIn_r _ [11, 12, 13, 14] rfl (by decide +kernel)) ggX3_softest_X2_allAbout
set_option maxRecDepth 20000 in
theorem ggX3_softest_X2_softestHolding : GoodIn wsX3_softest wsX2_softestHolding := goodIn_r _ [20, 21, 22, 23, 24, 14, 25, 26, 27, 28, 29, 30, 31, 32, 33, 34, 35, 36, 37, 38, 39, 40, 41, 42, 43, 44, 45, 46, 57, 58, 59, 60, 61, 62, 63, 64, 65, 66, 67, 68] rfl (by decide +kernel)
set_option maxRecDepth 20000 in
theorem gX3_softest_X2_softestHolding : GoodIn wsX3_softest (wsV RX3 161 RX2 yX2_softestHolding wsX2_softestHolding) := goodIn_app (goodIn_r _ [17, 18, 19, 14] rfl (by decide +kernel)) ggX3_softest_X2_softestHolding
set_option maxRecDepth 20000 in
theorem ggX3_softest_X2_softOf : GoodIn wsX3_softest wsX2_softOf := goodIn_r _ [25, 21, 26, 27, 28, 29, 14, 30, 31, 32, 33, 34, 35, 36, 57, 58, 59, 60, 61, 62, 63, 64, 65, 66, 67, 68] rfl (by decide +kernel)
set_option maxRecDepth 20000 in
theorem gX3_softest_X2_softOf : GoodIn wsX3_softest (wsV RX3 89 RX2 yX2_softOf wsX2_softOf) := goodIn_app (goodIn_r _ [47, 23, 24, 14] rfl (by decide +kernel)) ggX3_softest_X2_softOf
theorem dX3_softest_0 : decode cX3_softest 0 = .ok (.iload_n 1, 1) := by decide +kernel
theorem dX3_softest_1 : decode cX3_softest 1 = .ok (.invokestatic 98, 3) := by decide +kernel
theorem dX3_softest_4 : decode cX3_softest 4 = .ok (.ifCond .ne 9, 3) := by decide +kernel
theorem dX3_softest_7 : decode cX3_softest 7 = .ok (.aload_n 0, 1) := by decide +kernel
theorem dX3_softest_8 : decode cX3_softest 8 = .ok (.iconst (-1), 1) := by decide +kernel
theorem dX3_softest_9 : decode cX3_softest 9 = .ok (.invokevirtual 47, 3) := by decide +kernel
theorem dX3_softest_12 : decode cX3_softest 12 = .ok (.ireturn, 1) := by decide +kernel
theorem dX3_softest_13 : decode cX3_softest 13 = .ok (.iload_n 2, 1) := by decide +kernel
theorem dX3_softest_14 : decode cX3_softest 14 = .ok (.ifCond .lt 8, 3) := by decide +kernel
theorem dX3_softest_17 : decode cX3_softest 17 = .ok (.iload_n 2, 1) := by decide +kernel
theorem dX3_softest_18 : decode cX3_softest 18 = .ok (.iconst 1, 1) := by decide +kernel
theorem dX3_softest_19 : decode cX3_softest 19 = .ok (.if_icmp .le 10, 3) := by decide +kernel
theorem dX3_softest_22 : decode cX3_softest 22 = .ok (.aload_n 0, 1) := by decide +kernel
theorem dX3_softest_23 : decode cX3_softest 23 = .ok (.bipush (-2), 2) := by decide +kernel
theorem dX3_softest_25 : decode cX3_softest 25 = .ok (.invokevirtual 47, 3) := by decide +kernel
theorem dX3_softest_28 : decode cX3_softest 28 = .ok (.ireturn, 1) := by decide +kernel
theorem dX3_softest_29 : decode cX3_softest 29 = .ok (.aload_n 0, 1) := by decide +kernel
theorem dX3_softest_30 : decode cX3_softest 30 = .ok (.getfield 10, 3) := by decide +kernel
theorem dX3_softest_33 : decode cX3_softest 33 = .ok (.aload_n 0, 1) := by decide +kernel
theorem dX3_softest_34 : decode cX3_softest 34 = .ok (.getfield 10, 3) := by decide +kernel
theorem dX3_softest_37 : decode cX3_softest 37 = .ok (.iload_n 1, 1) := by decide +kernel
theorem dX3_softest_38 : decode cX3_softest 38 = .ok (.invokevirtual 158, 3) := by decide +kernel
theorem dX3_softest_41 : decode cX3_softest 41 = .ok (.invokevirtual 161, 3) := by decide +kernel
theorem dX3_softest_44 : decode cX3_softest 44 = .ok (.istore_n 3, 1) := by decide +kernel
theorem dX3_softest_45 : decode cX3_softest 45 = .ok (.iload_n 2, 1) := by decide +kernel
theorem dX3_softest_46 : decode cX3_softest 46 = .ok (.ifCond .ne 7, 3) := by decide +kernel
theorem dX3_softest_49 : decode cX3_softest 49 = .ok (.iload_n 3, 1) := by decide +kernel
theorem dX3_softest_50 : decode cX3_softest 50 = .ok (.goto 11, 3) := by decide +kernel
theorem dX3_softest_53 : decode cX3_softest 53 = .ok (.aload_n 0, 1) := by decide +kernel
theorem dX3_softest_54 : decode cX3_softest 54 = .ok (.getfield 10, 3) := by decide +kernel
theorem dX3_softest_57 : decode cX3_softest 57 = .ok (.iload_n 3, 1) := by decide +kernel
theorem dX3_softest_58 : decode cX3_softest 58 = .ok (.invokevirtual 89, 3) := by decide +kernel
theorem dX3_softest_61 : decode cX3_softest 61 = .ok (.ireturn, 1) := by decide +kernel
set_option maxRecDepth 20000 in
theorem ggX3_prop_X3_isWoman : GoodIn wsX3_prop wsX3_isWoman := goodIn_r _ [6] rfl (by decide +kernel)
set_option maxRecDepth 20000 in
theorem gX3_prop_X3_isWoman : GoodIn wsX3_prop (va_wsS RX3 98 yX3_isWoman wsX3_isWoman) := goodIn_app (goodIn_r _ [3, 4, 5] rfl (by decide +kernel)) ggX3_prop_X3_isWoman
set_option maxRecDepth 20000 in
theorem ggX3_prop_X3_refuse : GoodIn wsX3_prop wsX3_refuse := goodIn_r _ [10, 11, 38, 39, 40, 41, 42, 43, 44, 45, 46] rfl (by decide +kernel)
set_option maxRecDepth 20000 in
theorem gX3_prop_X3_refuse : GoodIn wsX3_prop (wsV RX3 47 RX3 yX3_refuse wsX3_refuse) := goodIn_app (goodIn_r _ [7, 8, 9, 5] rfl (by decide +kernel)) ggX3_prop_X3_refuse
set_option maxRecDepth 20000 in
theorem ggX3_prop_X2_nestOf : GoodIn wsX3_prop wsX2_nestOf := goodIn_r _ [16, 17, 18, 47, 48, 49, 50, 51, 52, 53, 54, 55, 56, 57, 58] rfl (by decide +kernel)
set_option maxRecDepth 20000 in
theorem gX3_prop_X2_nestOf : GoodIn wsX3_prop (wsV RX3 101 RX2 yX2_nestOf wsX2_nestOf) := goodIn_app (goodIn_r _ [12, 13, 14, 15] rfl (by decide +kernel)) ggX3_prop_X2_nestOf
set_option maxRecDepth 20000 in
theorem ggX3_prop_X2_holds : GoodIn wsX3_prop wsX2_holds := goodIn_r _ [22, 23, 24, 25, 26, 27, 15, 28, 29, 30, 31, 32, 33, 34, 35, 36, 37, 47, 48, 49, 50, 51, 52, 53, 54, 55, 56, 57, 58] rfl (by decide +kernel)
set_option maxRecDepth 20000 in
theorem gX3_prop_X2_holds : GoodIn wsX3_prop (wsV RX3 104 RX2 yX2_holds wsX2_holds) := goodIn_app (goodIn_r _ [19, 20, 21, 15] rfl (by decide +kernel)) ggX3_prop_X2_holds
theorem dX3_prop_0 : decode cX3_prop 0 = .ok (.iload_n 1, 1) := by decide +kernel
theorem dX3_prop_1 : decode cX3_prop 1 = .ok (.invokestatic 98, 3) := by decide +kernel
theorem dX3_prop_4 : decode cX3_prop 4 = .ok (.ifCond .ne 9, 3) := by decide +kernel
theorem dX3_prop_7 : decode cX3_prop 7 = .ok (.aload_n 0, 1) := by decide +kernel
theorem dX3_prop_8 : decode cX3_prop 8 = .ok (.iconst (-1), 1) := by decide +kernel
theorem dX3_prop_9 : decode cX3_prop 9 = .ok (.invokevirtual 47, 3) := by decide +kernel
theorem dX3_prop_12 : decode cX3_prop 12 = .ok (.ireturn, 1) := by decide +kernel
theorem dX3_prop_13 : decode cX3_prop 13 = .ok (.aload_n 0, 1) := by decide +kernel
theorem dX3_prop_14 : decode cX3_prop 14 = .ok (.getfield 10, 3) := by decide +kernel
theorem dX3_prop_17 : decode cX3_prop 17 = .ok (.iload_n 1, 1) := by decide +kernel
theorem dX3_prop_18 : decode cX3_prop 18 = .ok (.invokevirtual 101, 3) := by decide +kernel
theorem dX3_prop_21 : decode cX3_prop 21 = .ok (.istore_n 2, 1) := by decide +kernel
theorem dX3_prop_22 : decode cX3_prop 22 = .ok (.iconst 0, 1) := by decide +kernel
theorem dX3_prop_23 : decode cX3_prop 23 = .ok (.istore_n 3, 1) := by decide +kernel
theorem dX3_prop_24 : decode cX3_prop 24 = .ok (.iconst 0, 1) := by decide +kernel
theorem dX3_prop_25 : decode cX3_prop 25 = .ok (.istore 4, 2) := by decide +kernel
theorem dX3_prop_27 : decode cX3_prop 27 = .ok (.iload 4, 2) := by decide +kernel
theorem dX3_prop_29 : decode cX3_prop 29 = .ok (.aload_n 0, 1) := by decide +kernel
theorem dX3_prop_30 : decode cX3_prop 30 = .ok (.getfield 10, 3) := by decide +kernel
theorem dX3_prop_33 : decode cX3_prop 33 = .ok (.getfield 164, 3) := by decide +kernel
theorem dX3_prop_36 : decode cX3_prop 36 = .ok (.if_icmp .ge 43, 3) := by decide +kernel
theorem dX3_prop_39 : decode cX3_prop 39 = .ok (.iconst 1, 1) := by decide +kernel
theorem dX3_prop_40 : decode cX3_prop 40 = .ok (.iload 4, 2) := by decide +kernel
theorem dX3_prop_42 : decode cX3_prop 42 = .ok (.ishl, 1) := by decide +kernel
theorem dX3_prop_43 : decode cX3_prop 43 = .ok (.istore 5, 2) := by decide +kernel
theorem dX3_prop_45 : decode cX3_prop 45 = .ok (.iload_n 2, 1) := by decide +kernel
theorem dX3_prop_46 : decode cX3_prop 46 = .ok (.iload 5, 2) := by decide +kernel
theorem dX3_prop_48 : decode cX3_prop 48 = .ok (.iand, 1) := by decide +kernel
theorem dX3_prop_49 : decode cX3_prop 49 = .ok (.ifCond .eq 24, 3) := by decide +kernel
theorem dX3_prop_52 : decode cX3_prop 52 = .ok (.aload_n 0, 1) := by decide +kernel
theorem dX3_prop_53 : decode cX3_prop 53 = .ok (.getfield 10, 3) := by decide +kernel
theorem dX3_prop_56 : decode cX3_prop 56 = .ok (.iload_n 2, 1) := by decide +kernel
theorem dX3_prop_57 : decode cX3_prop 57 = .ok (.iload 5, 2) := by decide +kernel
theorem dX3_prop_59 : decode cX3_prop 59 = .ok (.iconst (-1), 1) := by decide +kernel
theorem dX3_prop_60 : decode cX3_prop 60 = .ok (.ixor, 1) := by decide +kernel
theorem dX3_prop_61 : decode cX3_prop 61 = .ok (.iand, 1) := by decide +kernel
theorem dX3_prop_62 : decode cX3_prop 62 = .ok (.invokevirtual 104, 3) := by decide +kernel
theorem dX3_prop_65 : decode cX3_prop 65 = .ok (.ifCond .ne 8, 3) := by decide +kernel
theorem dX3_prop_68 : decode cX3_prop 68 = .ok (.iload_n 3, 1) := by decide +kernel
theorem dX3_prop_69 : decode cX3_prop 69 = .ok (.iload 5, 2) := by decide +kernel
theorem dX3_prop_71 : decode cX3_prop 71 = .ok (.ior, 1) := by decide +kernel
theorem dX3_prop_72 : decode cX3_prop 72 = .ok (.istore_n 3, 1) := by decide +kernel
theorem dX3_prop_73 : decode cX3_prop 73 = .ok (.iinc 4 1, 3) := by decide +kernel
theorem dX3_prop_76 : decode cX3_prop 76 = .ok (.goto (-49), 3) := by decide +kernel
theorem dX3_prop_79 : decode cX3_prop 79 = .ok (.iload_n 3, 1) := by decide +kernel
theorem dX3_prop_80 : decode cX3_prop 80 = .ok (.ireturn, 1) := by decide +kernel
set_option maxRecDepth 20000 in
theorem ggX3_lighten_X3_isWoman : GoodIn wsX3_lighten wsX3_isWoman := goodIn_r _ [5] rfl (by decide +kernel)
set_option maxRecDepth 20000 in
theorem gX3_lighten_X3_isWoman : GoodIn wsX3_lighten (va_wsS RX3 98 yX3_isWoman wsX3_isWoman) := goodIn_app (goodIn_r _ [2, 3, 4] rfl (by decide +kernel)) ggX3_lighten_X3_isWoman
set_option maxRecDepth 20000 in
theorem ggX3_lighten_X3_refuse : GoodIn wsX3_lighten wsX3_refuse := goodIn_r _ [9, 10, 48, 49, 50, 51, 52, 53, 54, 55, 56] rfl (by decide +kernel)
set_option maxRecDepth 20000 in
theorem gX3_lighten_X3_refuse : GoodIn wsX3_lighten (wsV RX3 47 RX3 yX3_refuse wsX3_refuse) := goodIn_app (goodIn_r _ [6, 7, 8, 4] rfl (by decide +kernel)) ggX3_lighten_X3_refuse
set_option maxRecDepth 20000 in
theorem ggX3_lighten_X2_nestOf : GoodIn wsX3_lighten wsX2_nestOf := goodIn_r _ [15, 16, 17, 57, 58, 59, 60, 61, 62, 63, 64, 65, 66, 67, 68] rfl (by decide +kernel)
set_option maxRecDepth 20000 in
theorem gX3_lighten_X2_nestOf : GoodIn wsX3_lighten (wsV RX3 101 RX2 yX2_nestOf wsX2_nestOf) := goodIn_app (goodIn_r _ [11, 12, 13, 14] rfl (by decide +kernel)) ggX3_lighten_X2_nestOf
set_option maxRecDepth 20000 in
theorem ggX3_lighten_X2_fewestMoved : GoodIn wsX3_lighten wsX2_fewestMoved := goodIn_r _ [21, 22, 23, 24, 25, 26, 27, 28, 29, 30, 31, 32, 14, 33, 34, 35, 36, 37, 38, 39, 40, 41, 42, 43, 44, 45, 46, 47, 57, 58, 59, 60, 61, 62, 63, 64, 65, 66, 67, 68] rfl (by decide +kernel)
set_option maxRecDepth 20000 in
theorem gX3_lighten_X2_fewestMoved : GoodIn wsX3_lighten (wsV RX3 155 RX2 yX2_fewestMoved wsX2_fewestMoved) := goodIn_app (goodIn_r _ [18, 19, 20, 14] rfl (by decide +kernel)) ggX3_lighten_X2_fewestMoved
theorem dX3_lighten_0 : decode cX3_lighten 0 = .ok (.iload_n 1, 1) := by decide +kernel
theorem dX3_lighten_1 : decode cX3_lighten 1 = .ok (.invokestatic 98, 3) := by decide +kernel
theorem dX3_lighten_4 : decode cX3_lighten 4 = .ok (.ifCond .ne 9, 3) := by decide +kernel
theorem dX3_lighten_7 : decode cX3_lighten 7 = .ok (.aload_n 0, 1) := by decide +kernel
theorem dX3_lighten_8 : decode cX3_lighten 8 = .ok (.iconst (-1), 1) := by decide +kernel
theorem dX3_lighten_9 : decode cX3_lighten 9 = .ok (.invokevirtual 47, 3) := by decide +kernel
theorem dX3_lighten_12 : decode cX3_lighten 12 = .ok (.ireturn, 1) := by decide +kernel
theorem dX3_lighten_13 : decode cX3_lighten 13 = .ok (.aload_n 0, 1) := by decide +kernel
theorem dX3_lighten_14 : decode cX3_lighten 14 = .ok (.getfield 10, 3) := by decide +kernel
theorem dX3_lighten_17 : decode cX3_lighten 17 = .ok (.iload_n 1, 1) := by decide +kernel
theorem dX3_lighten_18 : decode cX3_lighten 18 = .ok (.invokevirtual 101, 3) := by decide +kernel
theorem dX3_lighten_21 : decode cX3_lighten 21 = .ok (.istore_n 2, 1) := by decide +kernel
theorem dX3_lighten_22 : decode cX3_lighten 22 = .ok (.aload_n 0, 1) := by decide +kernel
theorem dX3_lighten_23 : decode cX3_lighten 23 = .ok (.getfield 10, 3) := by decide +kernel
theorem dX3_lighten_26 : decode cX3_lighten 26 = .ok (.iload_n 2, 1) := by decide +kernel
theorem dX3_lighten_27 : decode cX3_lighten 27 = .ok (.iload_n 2, 1) := by decide +kernel
theorem dX3_lighten_28 : decode cX3_lighten 28 = .ok (.invokevirtual 155, 3) := by decide +kernel
theorem dX3_lighten_31 : decode cX3_lighten 31 = .ok (.ireturn, 1) := by decide +kernel
set_option maxRecDepth 20000 in
theorem ggX3_about_X2_knows : GoodIn wsX3_about wsX2_knows := goodIn_r _ [6, 7, 54, 55, 56, 57, 58, 59, 60, 61, 62, 63, 64, 65] rfl (by decide +kernel)
set_option maxRecDepth 20000 in
theorem gX3_about_X2_knows : GoodIn wsX3_about (wsV RX3 70 RX2 yX2_knows wsX2_knows) := goodIn_app (goodIn_r _ [2, 3, 4, 5] rfl (by decide +kernel)) ggX3_about_X2_knows
set_option maxRecDepth 20000 in
theorem ggX3_about_X3_refuse : GoodIn wsX3_about wsX3_refuse := goodIn_r _ [12, 13, 45, 46, 47, 48, 49, 50, 51, 52, 53] rfl (by decide +kernel)
set_option maxRecDepth 20000 in
theorem gX3_about_X3_refuse : GoodIn wsX3_about (wsV RX3 47 RX3 yX3_refuse wsX3_refuse) := goodIn_app (goodIn_r _ [8, 9, 10, 11] rfl (by decide +kernel)) ggX3_about_X3_refuse
set_option maxRecDepth 20000 in
theorem ggX3_about_X2_nestOf : GoodIn wsX3_about wsX2_nestOf := goodIn_r _ [17, 18, 19, 54, 55, 56, 57, 58, 59, 60, 61, 62, 63, 64, 65] rfl (by decide +kernel)
set_option maxRecDepth 20000 in
theorem gX3_about_X2_nestOf : GoodIn wsX3_about (wsV RX3 101 RX2 yX2_nestOf wsX2_nestOf) := goodIn_app (goodIn_r _ [14, 15, 16, 5] rfl (by decide +kernel)) ggX3_about_X2_nestOf
set_option maxRecDepth 20000 in
theorem ggX3_about_X2_softOf : GoodIn wsX3_about wsX2_softOf := goodIn_r _ [23, 7, 24, 25, 26, 27, 5, 28, 29, 30, 31, 32, 33, 34, 54, 55, 56, 57, 58, 59, 60, 61, 62, 63, 64, 65] rfl (by decide +kernel)
set_option maxRecDepth 20000 in
theorem gX3_about_X2_softOf : GoodIn wsX3_about (wsV RX3 89 RX2 yX2_softOf wsX2_softOf) := goodIn_app (goodIn_r _ [20, 21, 22, 5] rfl (by decide +kernel)) ggX3_about_X2_softOf
set_option maxRecDepth 20000 in
theorem ggX3_about_X2_holds : GoodIn wsX3_about wsX2_holds := goodIn_r _ [38, 7, 24, 25, 26, 27, 5, 28, 29, 30, 39, 40, 33, 41, 42, 43, 44, 54, 55, 56, 57, 58, 59, 60, 61, 62, 63, 64, 65] rfl (by decide +kernel)
set_option maxRecDepth 20000 in
theorem gX3_about_X2_holds : GoodIn wsX3_about (wsV RX3 104 RX2 yX2_holds wsX2_holds) := goodIn_app (goodIn_r _ [35, 36, 37, 5] rfl (by decide +kernel)) ggX3_about_X2_holds
theorem dX3_about_0 : decode cX3_about 0 = .ok (.aload_n 0, 1) := by decide +kernel
theorem dX3_about_1 : decode cX3_about 1 = .ok (.getfield 10, 3) := by decide +kernel
theorem dX3_about_4 : decode cX3_about 4 = .ok (.iload_n 1, 1) := by decide +kernel
theorem dX3_about_5 : decode cX3_about 5 = .ok (.invokevirtual 70, 3) := by decide +kernel
theorem dX3_about_8 : decode cX3_about 8 = .ok (.ifCond .ne 9, 3) := by decide +kernel
theorem dX3_about_11 : decode cX3_about 11 = .ok (.aload_n 0, 1) := by decide +kernel
theorem dX3_about_12 : decode cX3_about 12 = .ok (.iconst (-1), 1) := by decide +kernel
theorem dX3_about_13 : decode cX3_about 13 = .ok (.invokevirtual 47, 3) := by decide +kernel
theorem dX3_about_16 : decode cX3_about 16 = .ok (.ireturn, 1) := by decide +kernel
theorem dX3_about_17 : decode cX3_about 17 = .ok (.iload_n 2, 1) := by decide +kernel
theorem dX3_about_18 : decode cX3_about 18 = .ok (.ifCond .lt 8, 3) := by decide +kernel
theorem dX3_about_21 : decode cX3_about 21 = .ok (.iload_n 2, 1) := by decide +kernel
theorem dX3_about_22 : decode cX3_about 22 = .ok (.iconst 1, 1) := by decide +kernel
theorem dX3_about_23 : decode cX3_about 23 = .ok (.if_icmp .le 10, 3) := by decide +kernel
theorem dX3_about_26 : decode cX3_about 26 = .ok (.aload_n 0, 1) := by decide +kernel
theorem dX3_about_27 : decode cX3_about 27 = .ok (.bipush (-2), 2) := by decide +kernel
theorem dX3_about_29 : decode cX3_about 29 = .ok (.invokevirtual 47, 3) := by decide +kernel
theorem dX3_about_32 : decode cX3_about 32 = .ok (.ireturn, 1) := by decide +kernel
theorem dX3_about_33 : decode cX3_about 33 = .ok (.bipush (-9), 2) := by decide +kernel
theorem dX3_about_35 : decode cX3_about 35 = .ok (.istore_n 3, 1) := by decide +kernel
theorem dX3_about_36 : decode cX3_about 36 = .ok (.iconst 0, 1) := by decide +kernel
theorem dX3_about_37 : decode cX3_about 37 = .ok (.istore 4, 2) := by decide +kernel
theorem dX3_about_39 : decode cX3_about 39 = .ok (.iconst 0, 1) := by decide +kernel
theorem dX3_about_40 : decode cX3_about 40 = .ok (.istore 5, 2) := by decide +kernel
theorem dX3_about_42 : decode cX3_about 42 = .ok (.iload 5, 2) := by decide +kernel
theorem dX3_about_44 : decode cX3_about 44 = .ok (.iconst 4, 1) := by decide +kernel
theorem dX3_about_45 : decode cX3_about 45 = .ok (.if_icmp .ge 67, 3) := by decide +kernel
theorem dX3_about_48 : decode cX3_about 48 = .ok (.aload_n 0, 1) := by decide +kernel
theorem dX3_about_49 : decode cX3_about 49 = .ok (.getfield 10, 3) := by decide +kernel
theorem dX3_about_52 : decode cX3_about 52 = .ok (.iload 5, 2) := by decide +kernel
theorem dX3_about_54 : decode cX3_about 54 = .ok (.invokevirtual 101, 3) := by decide +kernel
theorem dX3_about_57 : decode cX3_about 57 = .ok (.iconst 1, 1) := by decide +kernel
theorem dX3_about_58 : decode cX3_about 58 = .ok (.iload_n 1, 1) := by decide +kernel
theorem dX3_about_59 : decode cX3_about 59 = .ok (.ishl, 1) := by decide +kernel
theorem dX3_about_60 : decode cX3_about 60 = .ok (.ior, 1) := by decide +kernel
theorem dX3_about_61 : decode cX3_about 61 = .ok (.istore 6, 2) := by decide +kernel
theorem dX3_about_63 : decode cX3_about 63 = .ok (.aload_n 0, 1) := by decide +kernel
theorem dX3_about_64 : decode cX3_about 64 = .ok (.getfield 10, 3) := by decide +kernel
theorem dX3_about_67 : decode cX3_about 67 = .ok (.iload 6, 2) := by decide +kernel
theorem dX3_about_69 : decode cX3_about 69 = .ok (.invokevirtual 89, 3) := by decide +kernel
theorem dX3_about_72 : decode cX3_about 72 = .ok (.istore 7, 2) := by decide +kernel
theorem dX3_about_74 : decode cX3_about 74 = .ok (.aload_n 0, 1) := by decide +kernel
theorem dX3_about_75 : decode cX3_about 75 = .ok (.getfield 10, 3) := by decide +kernel
theorem dX3_about_78 : decode cX3_about 78 = .ok (.iload 6, 2) := by decide +kernel
theorem dX3_about_80 : decode cX3_about 80 = .ok (.invokevirtual 104, 3) := by decide +kernel
theorem dX3_about_83 : decode cX3_about 83 = .ok (.ifCond .eq 23, 3) := by decide +kernel
theorem dX3_about_86 : decode cX3_about 86 = .ok (.iload_n 3, 1) := by decide +kernel
theorem dX3_about_87 : decode cX3_about 87 = .ok (.bipush (-9), 2) := by decide +kernel
theorem dX3_about_89 : decode cX3_about 89 = .ok (.if_icmp .eq 10, 3) := by decide +kernel
theorem dX3_about_92 : decode cX3_about 92 = .ok (.iload 7, 2) := by decide +kernel
theorem dX3_about_94 : decode cX3_about 94 = .ok (.iload 4, 2) := by decide +kernel
theorem dX3_about_96 : decode cX3_about 96 = .ok (.if_icmp .le 10, 3) := by decide +kernel
theorem dX3_about_99 : decode cX3_about 99 = .ok (.iload 5, 2) := by decide +kernel
theorem dX3_about_101 : decode cX3_about 101 = .ok (.istore_n 3, 1) := by decide +kernel
theorem dX3_about_102 : decode cX3_about 102 = .ok (.iload 7, 2) := by decide +kernel
theorem dX3_about_104 : decode cX3_about 104 = .ok (.istore 4, 2) := by decide +kernel
theorem dX3_about_106 : decode cX3_about 106 = .ok (.iinc 5 1, 3) := by decide +kernel
theorem dX3_about_109 : decode cX3_about 109 = .ok (.goto (-67), 3) := by decide +kernel
theorem dX3_about_112 : decode cX3_about 112 = .ok (.iload_n 2, 1) := by decide +kernel
theorem dX3_about_113 : decode cX3_about 113 = .ok (.ifCond .ne 7, 3) := by decide +kernel
theorem dX3_about_116 : decode cX3_about 116 = .ok (.iload_n 3, 1) := by decide +kernel
theorem dX3_about_117 : decode cX3_about 117 = .ok (.goto 5, 3) := by decide +kernel
theorem dX3_about_120 : decode cX3_about 120 = .ok (.iload 4, 2) := by decide +kernel
theorem dX3_about_122 : decode cX3_about 122 = .ok (.ireturn, 1) := by decide +kernel
set_option maxRecDepth 20000 in
theorem ggX3_known_X2_allAbout : GoodIn wsX3_known wsX2_allAbout := goodIn_r _ [6, 7, 24, 25, 26, 27, 28, 29, 30, 31, 32, 33, 34, 35] rfl (by decide +kernel)
set_option maxRecDepth 20000 in
theorem gX3_known_X2_allAbout : GoodIn wsX3_known (wsV RX3 158 RX2 yX2_allAbout wsX2_allAbout) := goodIn_app (goodIn_r _ [2, 3, 4, 5] rfl (by decide +kernel)) ggX3_known_X2_allAbout
set_option maxRecDepth 20000 in
theorem ggX3_known_J6_bitCount_0f7a4 : GoodIn wsX3_known wsJ6_bitCount_0f7a4 := goodIn_r _ [11, 12, 13, 14] rfl (by decide +kernel)
set_option maxRecDepth 20000 in
theorem gX3_known_J6_bitCount_0f7a4 : GoodIn wsX3_known (va_wsS RX3 123 yJ6_bitCount_0f7a4 wsJ6_bitCount_0f7a4) := goodIn_app (goodIn_r _ [8, 9, 10] rfl (by decide +kernel)) ggX3_known_J6_bitCount_0f7a4
theorem dX3_known_0 : decode cX3_known 0 = .ok (.iconst 0, 1) := by decide +kernel
theorem dX3_known_1 : decode cX3_known 1 = .ok (.istore_n 1, 1) := by decide +kernel
theorem dX3_known_2 : decode cX3_known 2 = .ok (.iconst 1, 1) := by decide +kernel
theorem dX3_known_3 : decode cX3_known 3 = .ok (.istore_n 2, 1) := by decide +kernel
theorem dX3_known_4 : decode cX3_known 4 = .ok (.iload_n 2, 1) := by decide +kernel
theorem dX3_known_5 : decode cX3_known 5 = .ok (.iconst 4, 1) := by decide +kernel
theorem dX3_known_6 : decode cX3_known 6 = .ok (.if_icmp .ge 36, 3) := by decide +kernel
theorem dX3_known_9 : decode cX3_known 9 = .ok (.aload_n 0, 1) := by decide +kernel
theorem dX3_known_10 : decode cX3_known 10 = .ok (.getfield 10, 3) := by decide +kernel
theorem dX3_known_13 : decode cX3_known 13 = .ok (.iload_n 2, 1) := by decide +kernel
theorem dX3_known_14 : decode cX3_known 14 = .ok (.invokevirtual 158, 3) := by decide +kernel
theorem dX3_known_17 : decode cX3_known 17 = .ok (.invokestatic 123, 3) := by decide +kernel
theorem dX3_known_20 : decode cX3_known 20 = .ok (.aload_n 0, 1) := by decide +kernel
theorem dX3_known_21 : decode cX3_known 21 = .ok (.getfield 10, 3) := by decide +kernel
theorem dX3_known_24 : decode cX3_known 24 = .ok (.iload_n 1, 1) := by decide +kernel
theorem dX3_known_25 : decode cX3_known 25 = .ok (.invokevirtual 158, 3) := by decide +kernel
theorem dX3_known_28 : decode cX3_known 28 = .ok (.invokestatic 123, 3) := by decide +kernel
theorem dX3_known_31 : decode cX3_known 31 = .ok (.if_icmp .le 5, 3) := by decide +kernel
theorem dX3_known_34 : decode cX3_known 34 = .ok (.iload_n 2, 1) := by decide +kernel
theorem dX3_known_35 : decode cX3_known 35 = .ok (.istore_n 1, 1) := by decide +kernel
theorem dX3_known_36 : decode cX3_known 36 = .ok (.iinc 2 1, 3) := by decide +kernel
theorem dX3_known_39 : decode cX3_known 39 = .ok (.goto (-35), 3) := by decide +kernel
theorem dX3_known_42 : decode cX3_known 42 = .ok (.iload_n 1, 1) := by decide +kernel
theorem dX3_known_43 : decode cX3_known 43 = .ok (.ireturn, 1) := by decide +kernel
set_option maxRecDepth 20000 in
theorem ggX3_lodge_X2_nestOf : GoodIn wsX3_lodge wsX2_nestOf := goodIn_r _ [6, 7, 8, 44, 45, 46, 47, 48, 49, 50, 51, 52, 53, 54, 55] rfl (by decide +kernel)
set_option maxRecDepth 20000 in
theorem gX3_lodge_X2_nestOf : GoodIn wsX3_lodge (wsV RX3 101 RX2 yX2_nestOf wsX2_nestOf) := goodIn_app (goodIn_r _ [2, 3, 4, 5] rfl (by decide +kernel)) ggX3_lodge_X2_nestOf
set_option maxRecDepth 20000 in
theorem ggX3_lodge_X2_softOf : GoodIn wsX3_lodge wsX2_softOf := goodIn_r _ [12, 13, 14, 15, 16, 17, 5, 18, 19, 20, 21, 22, 23, 24, 44, 45, 46, 47, 48, 49, 50, 51, 52, 53, 54, 55] rfl (by decide +kernel)
set_option maxRecDepth 20000 in
theorem gX3_lodge_X2_softOf : GoodIn wsX3_lodge (wsV RX3 89 RX2 yX2_softOf wsX2_softOf) := goodIn_app (goodIn_r _ [9, 10, 11, 5] rfl (by decide +kernel)) ggX3_lodge_X2_softOf
set_option maxRecDepth 20000 in
theorem ggX3_lodge_X2_holds : GoodIn wsX3_lodge wsX2_holds := goodIn_r _ [28, 13, 14, 15, 16, 17, 5, 18, 19, 20, 29, 30, 23, 31, 32, 33, 34, 44, 45, 46, 47, 48, 49, 50, 51, 52, 53, 54, 55] rfl (by decide +kernel)
set_option maxRecDepth 20000 in
theorem gX3_lodge_X2_holds : GoodIn wsX3_lodge (wsV RX3 104 RX2 yX2_holds wsX2_holds) := goodIn_app (goodIn_r _ [25, 26, 27, 5] rfl (by decide +kernel)) ggX3_lodge_X2_holds
theorem dX3_lodge_0 : decode cX3_lodge 0 = .ok (.bipush (-9), 2) := by decide +kernel
theorem dX3_lodge_2 : decode cX3_lodge 2 = .ok (.istore_n 1, 1) := by decide +kernel
theorem dX3_lodge_3 : decode cX3_lodge 3 = .ok (.iconst 0, 1) := by decide +kernel
theorem dX3_lodge_4 : decode cX3_lodge 4 = .ok (.istore_n 2, 1) := by decide +kernel
theorem dX3_lodge_5 : decode cX3_lodge 5 = .ok (.iconst 0, 1) := by decide +kernel
theorem dX3_lodge_6 : decode cX3_lodge 6 = .ok (.istore_n 3, 1) := by decide +kernel
theorem dX3_lodge_7 : decode cX3_lodge 7 = .ok (.iload_n 3, 1) := by decide +kernel
theorem dX3_lodge_8 : decode cX3_lodge 8 = .ok (.iconst 4, 1) := by decide +kernel
theorem dX3_lodge_9 : decode cX3_lodge 9 = .ok (.if_icmp .ge 64, 3) := by decide +kernel
theorem dX3_lodge_12 : decode cX3_lodge 12 = .ok (.aload_n 0, 1) := by decide +kernel
theorem dX3_lodge_13 : decode cX3_lodge 13 = .ok (.getfield 10, 3) := by decide +kernel
theorem dX3_lodge_16 : decode cX3_lodge 16 = .ok (.iload_n 3, 1) := by decide +kernel
theorem dX3_lodge_17 : decode cX3_lodge 17 = .ok (.invokevirtual 101, 3) := by decide +kernel
theorem dX3_lodge_20 : decode cX3_lodge 20 = .ok (.istore 4, 2) := by decide +kernel
theorem dX3_lodge_22 : decode cX3_lodge 22 = .ok (.aload_n 0, 1) := by decide +kernel
theorem dX3_lodge_23 : decode cX3_lodge 23 = .ok (.getfield 10, 3) := by decide +kernel
theorem dX3_lodge_26 : decode cX3_lodge 26 = .ok (.iload 4, 2) := by decide +kernel
theorem dX3_lodge_28 : decode cX3_lodge 28 = .ok (.invokevirtual 89, 3) := by decide +kernel
theorem dX3_lodge_31 : decode cX3_lodge 31 = .ok (.istore 5, 2) := by decide +kernel
theorem dX3_lodge_33 : decode cX3_lodge 33 = .ok (.iload 4, 2) := by decide +kernel
theorem dX3_lodge_35 : decode cX3_lodge 35 = .ok (.ifCond .eq 32, 3) := by decide +kernel
theorem dX3_lodge_38 : decode cX3_lodge 38 = .ok (.aload_n 0, 1) := by decide +kernel
theorem dX3_lodge_39 : decode cX3_lodge 39 = .ok (.getfield 10, 3) := by decide +kernel
theorem dX3_lodge_42 : decode cX3_lodge 42 = .ok (.iload 4, 2) := by decide +kernel
theorem dX3_lodge_44 : decode cX3_lodge 44 = .ok (.invokevirtual 104, 3) := by decide +kernel
theorem dX3_lodge_47 : decode cX3_lodge 47 = .ok (.ifCond .eq 20, 3) := by decide +kernel
theorem dX3_lodge_50 : decode cX3_lodge 50 = .ok (.iload_n 1, 1) := by decide +kernel
theorem dX3_lodge_51 : decode cX3_lodge 51 = .ok (.bipush (-9), 2) := by decide +kernel
theorem dX3_lodge_53 : decode cX3_lodge 53 = .ok (.if_icmp .eq 9, 3) := by decide +kernel
theorem dX3_lodge_56 : decode cX3_lodge 56 = .ok (.iload 5, 2) := by decide +kernel
theorem dX3_lodge_58 : decode cX3_lodge 58 = .ok (.iload_n 2, 1) := by decide +kernel
theorem dX3_lodge_59 : decode cX3_lodge 59 = .ok (.if_icmp .le 8, 3) := by decide +kernel
theorem dX3_lodge_62 : decode cX3_lodge 62 = .ok (.iload_n 3, 1) := by decide +kernel
theorem dX3_lodge_63 : decode cX3_lodge 63 = .ok (.istore_n 1, 1) := by decide +kernel
theorem dX3_lodge_64 : decode cX3_lodge 64 = .ok (.iload 5, 2) := by decide +kernel
theorem dX3_lodge_66 : decode cX3_lodge 66 = .ok (.istore_n 2, 1) := by decide +kernel
theorem dX3_lodge_67 : decode cX3_lodge 67 = .ok (.iinc 3 1, 3) := by decide +kernel
theorem dX3_lodge_70 : decode cX3_lodge 70 = .ok (.goto (-63), 3) := by decide +kernel
theorem dX3_lodge_73 : decode cX3_lodge 73 = .ok (.iload_n 1, 1) := by decide +kernel
theorem dX3_lodge_74 : decode cX3_lodge 74 = .ok (.ireturn, 1) := by decide +kernel
set_option maxRecDepth 20000 in
theorem ggX3_fullest_X2_nestOf : GoodIn wsX3_fullest wsX2_nestOf := goodIn_r _ [6, 7, 8, 25, 26, 27, 28, 29, 30, 31, 32, 33, 34, 35, 36] rfl (by decide +kernel)
set_option maxRecDepth 20000 in
theorem gX3_fullest_X2_nestOf : GoodIn wsX3_fullest (wsV RX3 101 RX2 yX2_nestOf wsX2_nestOf) := goodIn_app (goodIn_r _ [2, 3, 4, 5] rfl (by decide +kernel)) ggX3_fullest_X2_nestOf
set_option maxRecDepth 20000 in
theorem ggX3_fullest_J6_bitCount_0f7a4 : GoodIn wsX3_fullest wsJ6_bitCount_0f7a4 := goodIn_r _ [12, 13, 14, 15] rfl (by decide +kernel)
set_option maxRecDepth 20000 in
theorem gX3_fullest_J6_bitCount_0f7a4 : GoodIn wsX3_fullest (va_wsS RX3 123 yJ6_bitCount_0f7a4 wsJ6_bitCount_0f7a4) := goodIn_app (goodIn_r _ [9, 10, 11] rfl (by decide +kernel)) ggX3_fullest_J6_bitCount_0f7a4
theorem dX3_fullest_0 : decode cX3_fullest 0 = .ok (.bipush (-9), 2) := by decide +kernel
theorem dX3_fullest_2 : decode cX3_fullest 2 = .ok (.istore_n 1, 1) := by decide +kernel
theorem dX3_fullest_3 : decode cX3_fullest 3 = .ok (.iconst 0, 1) := by decide +kernel
theorem dX3_fullest_4 : decode cX3_fullest 4 = .ok (.istore_n 2, 1) := by decide +kernel
theorem dX3_fullest_5 : decode cX3_fullest 5 = .ok (.iconst 0, 1) := by decide +kernel
theorem dX3_fullest_6 : decode cX3_fullest 6 = .ok (.istore_n 3, 1) := by decide +kernel
theorem dX3_fullest_7 : decode cX3_fullest 7 = .ok (.iload_n 3, 1) := by decide +kernel
theorem dX3_fullest_8 : decode cX3_fullest 8 = .ok (.iconst 4, 1) := by decide +kernel
theorem dX3_fullest_9 : decode cX3_fullest 9 = .ok (.if_icmp .ge 33, 3) := by decide +kernel
theorem dX3_fullest_12 : decode cX3_fullest 12 = .ok (.aload_n 0, 1) := by decide +kernel
theorem dX3_fullest_13 : decode cX3_fullest 13 = .ok (.getfield 10, 3) := by decide +kernel
theorem dX3_fullest_16 : decode cX3_fullest 16 = .ok (.iload_n 3, 1) := by decide +kernel
theorem dX3_fullest_17 : decode cX3_fullest 17 = .ok (.invokevirtual 101, 3) := by decide +kernel
theorem dX3_fullest_20 : decode cX3_fullest 20 = .ok (.invokestatic 123, 3) := by decide +kernel
theorem dX3_fullest_23 : decode cX3_fullest 23 = .ok (.istore 4, 2) := by decide +kernel
theorem dX3_fullest_25 : decode cX3_fullest 25 = .ok (.iload 4, 2) := by decide +kernel
theorem dX3_fullest_27 : decode cX3_fullest 27 = .ok (.iload_n 2, 1) := by decide +kernel
theorem dX3_fullest_28 : decode cX3_fullest 28 = .ok (.if_icmp .le 8, 3) := by decide +kernel
theorem dX3_fullest_31 : decode cX3_fullest 31 = .ok (.iload_n 3, 1) := by decide +kernel
theorem dX3_fullest_32 : decode cX3_fullest 32 = .ok (.istore_n 1, 1) := by decide +kernel
theorem dX3_fullest_33 : decode cX3_fullest 33 = .ok (.iload 4, 2) := by decide +kernel
theorem dX3_fullest_35 : decode cX3_fullest 35 = .ok (.istore_n 2, 1) := by decide +kernel
theorem dX3_fullest_36 : decode cX3_fullest 36 = .ok (.iinc 3 1, 3) := by decide +kernel
theorem dX3_fullest_39 : decode cX3_fullest 39 = .ok (.goto (-32), 3) := by decide +kernel
theorem dX3_fullest_42 : decode cX3_fullest 42 = .ok (.iload_n 1, 1) := by decide +kernel
theorem dX3_fullest_43 : decode cX3_fullest 43 = .ok (.ireturn, 1) := by decide +kernel
set_option maxRecDepth 20000 in
theorem ggX3_talk_X2_everySaying : GoodIn wsX3_talk wsX2_everySaying := goodIn_r _ [7, 8, 18, 19, 20, 21, 22, 23, 24, 25, 26, 27, 28, 29] rfl (by decide +kernel)
set_option maxRecDepth 20000 in
theorem gX3_talk_X2_everySaying : GoodIn wsX3_talk (wsV RX3 167 RX2 yX2_everySaying wsX2_everySaying) := goodIn_app (goodIn_r _ [3, 4, 5, 6] rfl (by decide +kernel)) ggX3_talk_X2_everySaying
theorem dX3_talk_0 : decode cX3_talk 0 = .ok (.aload_n 0, 1) := by decide +kernel
theorem dX3_talk_1 : decode cX3_talk 1 = .ok (.getfield 10, 3) := by decide +kernel
theorem dX3_talk_4 : decode cX3_talk 4 = .ok (.invokevirtual 167, 3) := by decide +kernel
theorem dX3_talk_7 : decode cX3_talk 7 = .ok (.aload_n 0, 1) := by decide +kernel
theorem dX3_talk_8 : decode cX3_talk 8 = .ok (.getfield 10, 3) := by decide +kernel
theorem dX3_talk_11 : decode cX3_talk 11 = .ok (.getfield 86, 3) := by decide +kernel
theorem dX3_talk_14 : decode cX3_talk 14 = .ok (.iconst (-1), 1) := by decide +kernel
theorem dX3_talk_15 : decode cX3_talk 15 = .ok (.ixor, 1) := by decide +kernel
theorem dX3_talk_16 : decode cX3_talk 16 = .ok (.iand, 1) := by decide +kernel
theorem dX3_talk_17 : decode cX3_talk 17 = .ok (.ireturn, 1) := by decide +kernel
set_option maxRecDepth 20000 in
theorem ggX3_keep_X3_refuse : GoodIn wsX3_keep wsX3_refuse := goodIn_r _ [5, 6, 92, 93, 94, 95, 96, 97, 98, 99, 100] rfl (by decide +kernel)
set_option maxRecDepth 20000 in
theorem gX3_keep_X3_refuse : GoodIn wsX3_keep (wsV RX3 47 RX3 yX3_refuse wsX3_refuse) := goodIn_app (goodIn_r _ [1, 2, 3, 4] rfl (by decide +kernel)) ggX3_keep_X3_refuse
set_option maxRecDepth 20000 in
theorem ggX3_keep_X3_sparingMostFalls : GoodIn wsX3_keep wsX3_sparingMostFalls := goodIn_r _ [10, 11, 12, 13, 14, 15, 16, 17, 18, 4, 19, 20, 21, 22, 23, 24, 25, 26, 27, 28, 29, 30, 31, 32, 33, 34, 35, 36, 37, 38, 39, 40, 41, 42, 43, 44, 45, 46, 47, 48, 49, 50, 51, 52, 53, 54, 55, 56, 57, 58, 59, 60, 61, 62, 63, 64, 65, 66, 67, 68, 69, 70, 71, 72, 73, 74, 75, 76, 77, 78, 79, 80, 81, 82, 83, 84, 85, 86, 87, 88, 89, 90, 91, 92, 93, 94, 95, 96, 97, 98, 99, 100, 101, 102, 103, 104, 105, 106, 107, 108, 109, 110, 111, 112] rfl (by decide +kernel)
set_option maxRecDepth 20000 in
theorem gX3_keep_X3_sparingMostFalls : GoodIn wsX3_keep (wsV RX3 170 RX3 yX3_sparingMostFalls wsX3_sparingMostFalls) := goodIn_app (goodIn_r _ [7, 8, 9, 4] rfl (by decide +kernel)) ggX3_keep_X3_sparingMostFalls
theorem dX3_keep_0 : decode cX3_keep 0 = .ok (.iload_n 1, 1) := by decide +kernel
theorem dX3_keep_1 : decode cX3_keep 1 = .ok (.iconst 1, 1) := by decide +kernel
theorem dX3_keep_2 : decode cX3_keep 2 = .ok (.if_icmp .ge 10, 3) := by decide +kernel
theorem dX3_keep_5 : decode cX3_keep 5 = .ok (.aload_n 0, 1) := by decide +kernel
theorem dX3_keep_6 : decode cX3_keep 6 = .ok (.bipush (-4), 2) := by decide +kernel
theorem dX3_keep_8 : decode cX3_keep 8 = .ok (.invokevirtual 47, 3) := by decide +kernel
theorem dX3_keep_11 : decode cX3_keep 11 = .ok (.ireturn, 1) := by decide +kernel
theorem dX3_keep_12 : decode cX3_keep 12 = .ok (.iload_n 1, 1) := by decide +kernel
theorem dX3_keep_13 : decode cX3_keep 13 = .ok (.bipush 60, 2) := by decide +kernel
theorem dX3_keep_15 : decode cX3_keep 15 = .ok (.if_icmp .le 10, 3) := by decide +kernel
theorem dX3_keep_18 : decode cX3_keep 18 = .ok (.aload_n 0, 1) := by decide +kernel
theorem dX3_keep_19 : decode cX3_keep 19 = .ok (.bipush (-6), 2) := by decide +kernel
theorem dX3_keep_21 : decode cX3_keep 21 = .ok (.invokevirtual 47, 3) := by decide +kernel
theorem dX3_keep_24 : decode cX3_keep 24 = .ok (.ireturn, 1) := by decide +kernel
theorem dX3_keep_25 : decode cX3_keep 25 = .ok (.aload_n 0, 1) := by decide +kernel
theorem dX3_keep_26 : decode cX3_keep 26 = .ok (.iload_n 1, 1) := by decide +kernel
theorem dX3_keep_27 : decode cX3_keep 27 = .ok (.iconst 0, 1) := by decide +kernel
theorem dX3_keep_28 : decode cX3_keep 28 = .ok (.invokevirtual 170, 3) := by decide +kernel
theorem dX3_keep_31 : decode cX3_keep 31 = .ok (.ireturn, 1) := by decide +kernel
set_option maxRecDepth 20000 in
theorem ggX3_hush_X3_refuse : GoodIn wsX3_hush wsX3_refuse := goodIn_r _ [5, 6, 92, 93, 94, 95, 96, 97, 98, 99, 100] rfl (by decide +kernel)
set_option maxRecDepth 20000 in
theorem gX3_hush_X3_refuse : GoodIn wsX3_hush (wsV RX3 47 RX3 yX3_refuse wsX3_refuse) := goodIn_app (goodIn_r _ [1, 2, 3, 4] rfl (by decide +kernel)) ggX3_hush_X3_refuse
set_option maxRecDepth 20000 in
theorem ggX3_hush_X3_sparingMostFalls : GoodIn wsX3_hush wsX3_sparingMostFalls := goodIn_r _ [10, 11, 12, 13, 14, 15, 16, 17, 18, 4, 19, 20, 21, 22, 23, 24, 25, 26, 27, 28, 29, 30, 31, 32, 33, 34, 35, 36, 37, 38, 39, 40, 41, 42, 43, 44, 45, 46, 47, 48, 49, 50, 51, 52, 53, 54, 55, 56, 57, 58, 59, 60, 61, 62, 63, 64, 65, 66, 67, 68, 69, 70, 71, 72, 73, 74, 75, 76, 77, 78, 79, 80, 81, 82, 83, 84, 85, 86, 87, 88, 89, 90, 91, 92, 93, 94, 95, 96, 97, 98, 99, 100, 101, 102, 103, 104, 105, 106, 107, 108, 109, 110, 111, 112] rfl (by decide +kernel)
set_option maxRecDepth 20000 in
theorem gX3_hush_X3_sparingMostFalls : GoodIn wsX3_hush (wsV RX3 170 RX3 yX3_sparingMostFalls wsX3_sparingMostFalls) := goodIn_app (goodIn_r _ [7, 8, 9, 4] rfl (by decide +kernel)) ggX3_hush_X3_sparingMostFalls
theorem dX3_hush_0 : decode cX3_hush 0 = .ok (.iload_n 1, 1) := by decide +kernel
theorem dX3_hush_1 : decode cX3_hush 1 = .ok (.iconst 1, 1) := by decide +kernel
theorem dX3_hush_2 : decode cX3_hush 2 = .ok (.if_icmp .ge 10, 3) := by decide +kernel
theorem dX3_hush_5 : decode cX3_hush 5 = .ok (.aload_n 0, 1) := by decide +kernel
theorem dX3_hush_6 : decode cX3_hush 6 = .ok (.bipush (-4), 2) := by decide +kernel
theorem dX3_hush_8 : decode cX3_hush 8 = .ok (.invokevirtual 47, 3) := by decide +kernel
theorem dX3_hush_11 : decode cX3_hush 11 = .ok (.ireturn, 1) := by decide +kernel
theorem dX3_hush_12 : decode cX3_hush 12 = .ok (.iload_n 1, 1) := by decide +kernel
theorem dX3_hush_13 : decode cX3_hush 13 = .ok (.bipush 60, 2) := by decide +kernel
theorem dX3_hush_15 : decode cX3_hush 15 = .ok (.if_icmp .le 10, 3) := by decide +kernel
theorem dX3_hush_18 : decode cX3_hush 18 = .ok (.aload_n 0, 1) := by decide +kernel
theorem dX3_hush_19 : decode cX3_hush 19 = .ok (.bipush (-6), 2) := by decide +kernel
theorem dX3_hush_21 : decode cX3_hush 21 = .ok (.invokevirtual 47, 3) := by decide +kernel
theorem dX3_hush_24 : decode cX3_hush 24 = .ok (.ireturn, 1) := by decide +kernel
theorem dX3_hush_25 : decode cX3_hush 25 = .ok (.aload_n 0, 1) := by decide +kernel
theorem dX3_hush_26 : decode cX3_hush 26 = .ok (.iload_n 1, 1) := by decide +kernel
theorem dX3_hush_27 : decode cX3_hush 27 = .ok (.iconst 1, 1) := by decide +kernel
theorem dX3_hush_28 : decode cX3_hush 28 = .ok (.invokevirtual 170, 3) := by decide +kernel
theorem dX3_hush_31 : decode cX3_hush 31 = .ok (.ireturn, 1) := by decide +kernel
set_option maxRecDepth 20000 in
theorem ggX3_sparingMostFalls_X3_think : GoodIn wsX3_sparingMostFalls wsX3_think := goodIn_r _ [10, 1, 3, 11, 12, 13, 14, 15, 16, 17, 18, 19, 20, 21, 22, 23, 24, 25, 26, 27, 28, 29, 30, 31, 32, 33, 34, 35, 36, 37, 38, 39, 40, 41, 42, 43, 44, 45, 46, 47, 48, 49, 50, 51, 52, 53, 54, 55, 56, 57, 58, 59, 60, 61, 62, 63, 64, 65, 66, 67, 68, 69, 70, 71, 72, 73, 74, 75, 76, 77, 78, 83, 84, 85, 86, 87, 88, 89, 90, 91, 92, 93, 94, 95, 96, 97, 98, 99, 100, 101, 102, 103] rfl (by decide +kernel)
set_option maxRecDepth 20000 in
theorem gX3_sparingMostFalls_X3_think : GoodIn wsX3_sparingMostFalls (wsV RX3 137 RX3 yX3_think wsX3_think) := goodIn_app (goodIn_r _ [6, 7, 8, 9] rfl (by decide +kernel)) ggX3_sparingMostFalls_X3_think
set_option maxRecDepth 20000 in
theorem ggX3_sparingMostFalls_X2_becomes : GoodIn wsX3_sparingMostFalls wsX2_becomes := goodIn_r _ [15, 16, 17, 18, 19, 20, 21, 22, 23, 24, 25, 26, 27, 28, 29, 30, 31, 92, 93, 94, 95, 96, 97, 98, 99, 100, 101, 102, 103] rfl (by decide +kernel)
set_option maxRecDepth 20000 in
theorem gX3_sparingMostFalls_X2_becomes : GoodIn wsX3_sparingMostFalls (wsV RX3 62 RX2 yX2_becomes wsX2_becomes) := goodIn_app (goodIn_r _ [11, 12, 13, 14] rfl (by decide +kernel)) ggX3_sparingMostFalls_X2_becomes
set_option maxRecDepth 20000 in
theorem ggX3_sparingMostFalls_X2_leaveOut : GoodIn wsX3_sparingMostFalls wsX2_leaveOut := goodIn_r _ [82, 23, 19, 92, 93, 94, 95, 96, 97, 98, 99, 100, 101, 102, 103] rfl (by decide +kernel)
set_option maxRecDepth 20000 in
theorem gX3_sparingMostFalls_X2_leaveOut : GoodIn wsX3_sparingMostFalls (wsV RX3 177 RX2 yX2_leaveOut wsX2_leaveOut) := goodIn_app (goodIn_r _ [79, 80, 81, 14] rfl (by decide +kernel)) ggX3_sparingMostFalls_X2_leaveOut
set_option maxRecDepth 20000 in
theorem ggX3_sparingMostFalls_X2_passDays : GoodIn wsX3_sparingMostFalls wsX2_passDays := goodIn_r _ [35, 36, 37, 38, 14, 39, 17, 22, 19, 40, 41, 42, 43, 16, 30, 44, 45, 46, 47, 48, 49, 50, 51, 23, 52, 53, 54, 55, 31, 56, 57, 58, 59, 60, 61, 62, 63, 24, 64, 65, 66, 67, 29, 68, 69, 70, 71, 72, 73, 74, 75, 76, 77, 78, 18, 21, 20, 92, 93, 94, 95, 96, 97, 98, 99, 100, 101, 102, 103] rfl (by decide +kernel)
set_option maxRecDepth 20000 in
theorem gX3_sparingMostFalls_X2_passDays : GoodIn wsX3_sparingMostFalls (wsV RX3 131 RX2 yX2_passDays wsX2_passDays) := goodIn_app (goodIn_r _ [32, 33, 34, 14] rfl (by decide +kernel)) ggX3_sparingMostFalls_X2_passDays
theorem dX3_sparingMostFalls_0 : decode cX3_sparingMostFalls 0 = .ok (.aload_n 0, 1) := by decide +kernel
theorem dX3_sparingMostFalls_1 : decode cX3_sparingMostFalls 1 = .ok (.iload_n 1, 1) := by decide +kernel
theorem dX3_sparingMostFalls_2 : decode cX3_sparingMostFalls 2 = .ok (.invokevirtual 137, 3) := by decide +kernel
theorem dX3_sparingMostFalls_5 : decode cX3_sparingMostFalls 5 = .ok (.bipush (-9), 2) := by decide +kernel
theorem dX3_sparingMostFalls_7 : decode cX3_sparingMostFalls 7 = .ok (.istore_n 3, 1) := by decide +kernel
theorem dX3_sparingMostFalls_8 : decode cX3_sparingMostFalls 8 = .ok (.aload_n 0, 1) := by decide +kernel
theorem dX3_sparingMostFalls_9 : decode cX3_sparingMostFalls 9 = .ok (.getfield 16, 3) := by decide +kernel
theorem dX3_sparingMostFalls_12 : decode cX3_sparingMostFalls 12 = .ok (.getfield 174, 3) := by decide +kernel
theorem dX3_sparingMostFalls_15 : decode cX3_sparingMostFalls 15 = .ok (.istore 4, 2) := by decide +kernel
theorem dX3_sparingMostFalls_17 : decode cX3_sparingMostFalls 17 = .ok (.iconst 0, 1) := by decide +kernel
theorem dX3_sparingMostFalls_18 : decode cX3_sparingMostFalls 18 = .ok (.istore 5, 2) := by decide +kernel
theorem dX3_sparingMostFalls_20 : decode cX3_sparingMostFalls 20 = .ok (.iload 5, 2) := by decide +kernel
theorem dX3_sparingMostFalls_22 : decode cX3_sparingMostFalls 22 = .ok (.aload_n 0, 1) := by decide +kernel
theorem dX3_sparingMostFalls_23 : decode cX3_sparingMostFalls 23 = .ok (.getfield 10, 3) := by decide +kernel
theorem dX3_sparingMostFalls_26 : decode cX3_sparingMostFalls 26 = .ok (.getfield 164, 3) := by decide +kernel
theorem dX3_sparingMostFalls_29 : decode cX3_sparingMostFalls 29 = .ok (.if_icmp .ge 79, 3) := by decide +kernel
theorem dX3_sparingMostFalls_32 : decode cX3_sparingMostFalls 32 = .ok (.aload_n 0, 1) := by decide +kernel
theorem dX3_sparingMostFalls_33 : decode cX3_sparingMostFalls 33 = .ok (.getfield 16, 3) := by decide +kernel
theorem dX3_sparingMostFalls_36 : decode cX3_sparingMostFalls 36 = .ok (.aload_n 0, 1) := by decide +kernel
theorem dX3_sparingMostFalls_37 : decode cX3_sparingMostFalls 37 = .ok (.getfield 10, 3) := by decide +kernel
theorem dX3_sparingMostFalls_40 : decode cX3_sparingMostFalls 40 = .ok (.invokevirtual 62, 3) := by decide +kernel
theorem dX3_sparingMostFalls_43 : decode cX3_sparingMostFalls 43 = .ok (.iload_n 2, 1) := by decide +kernel
theorem dX3_sparingMostFalls_44 : decode cX3_sparingMostFalls 44 = .ok (.ifCond .eq 15, 3) := by decide +kernel
theorem dX3_sparingMostFalls_47 : decode cX3_sparingMostFalls 47 = .ok (.aload_n 0, 1) := by decide +kernel
theorem dX3_sparingMostFalls_48 : decode cX3_sparingMostFalls 48 = .ok (.getfield 16, 3) := by decide +kernel
theorem dX3_sparingMostFalls_51 : decode cX3_sparingMostFalls 51 = .ok (.iload 5, 2) := by decide +kernel
theorem dX3_sparingMostFalls_53 : decode cX3_sparingMostFalls 53 = .ok (.invokevirtual 177, 3) := by decide +kernel
theorem dX3_sparingMostFalls_56 : decode cX3_sparingMostFalls 56 = .ok (.goto 14, 3) := by decide +kernel
theorem dX3_sparingMostFalls_59 : decode cX3_sparingMostFalls 59 = .ok (.aload_n 0, 1) := by decide +kernel
theorem dX3_sparingMostFalls_60 : decode cX3_sparingMostFalls 60 = .ok (.getfield 16, 3) := by decide +kernel
theorem dX3_sparingMostFalls_63 : decode cX3_sparingMostFalls 63 = .ok (.iconst 1, 1) := by decide +kernel
theorem dX3_sparingMostFalls_64 : decode cX3_sparingMostFalls 64 = .ok (.iload 5, 2) := by decide +kernel
theorem dX3_sparingMostFalls_66 : decode cX3_sparingMostFalls 66 = .ok (.ishl, 1) := by decide +kernel
theorem dX3_sparingMostFalls_67 : decode cX3_sparingMostFalls 67 = .ok (.putfield 180, 3) := by decide +kernel
theorem dX3_sparingMostFalls_70 : decode cX3_sparingMostFalls 70 = .ok (.aload_n 0, 1) := by decide +kernel
theorem dX3_sparingMostFalls_71 : decode cX3_sparingMostFalls 71 = .ok (.getfield 16, 3) := by decide +kernel
theorem dX3_sparingMostFalls_74 : decode cX3_sparingMostFalls 74 = .ok (.iload_n 1, 1) := by decide +kernel
theorem dX3_sparingMostFalls_75 : decode cX3_sparingMostFalls 75 = .ok (.invokevirtual 131, 3) := by decide +kernel
theorem dX3_sparingMostFalls_78 : decode cX3_sparingMostFalls 78 = .ok (.aload_n 0, 1) := by decide +kernel
theorem dX3_sparingMostFalls_79 : decode cX3_sparingMostFalls 79 = .ok (.getfield 16, 3) := by decide +kernel
theorem dX3_sparingMostFalls_82 : decode cX3_sparingMostFalls 82 = .ok (.getfield 174, 3) := by decide +kernel
theorem dX3_sparingMostFalls_85 : decode cX3_sparingMostFalls 85 = .ok (.iload 4, 2) := by decide +kernel
theorem dX3_sparingMostFalls_87 : decode cX3_sparingMostFalls 87 = .ok (.if_icmp .ge 15, 3) := by decide +kernel
theorem dX3_sparingMostFalls_90 : decode cX3_sparingMostFalls 90 = .ok (.iload 5, 2) := by decide +kernel
theorem dX3_sparingMostFalls_92 : decode cX3_sparingMostFalls 92 = .ok (.istore_n 3, 1) := by decide +kernel
theorem dX3_sparingMostFalls_93 : decode cX3_sparingMostFalls 93 = .ok (.aload_n 0, 1) := by decide +kernel
theorem dX3_sparingMostFalls_94 : decode cX3_sparingMostFalls 94 = .ok (.getfield 16, 3) := by decide +kernel
theorem dX3_sparingMostFalls_97 : decode cX3_sparingMostFalls 97 = .ok (.getfield 174, 3) := by decide +kernel
theorem dX3_sparingMostFalls_100 : decode cX3_sparingMostFalls 100 = .ok (.istore 4, 2) := by decide +kernel
theorem dX3_sparingMostFalls_102 : decode cX3_sparingMostFalls 102 = .ok (.iinc 5 1, 3) := by decide +kernel
theorem dX3_sparingMostFalls_105 : decode cX3_sparingMostFalls 105 = .ok (.goto (-85), 3) := by decide +kernel
theorem dX3_sparingMostFalls_108 : decode cX3_sparingMostFalls 108 = .ok (.iload_n 3, 1) := by decide +kernel
theorem dX3_sparingMostFalls_109 : decode cX3_sparingMostFalls 109 = .ok (.ireturn, 1) := by decide +kernel
set_option maxRecDepth 20000 in
theorem ggX3_add_X3_isWoman : GoodIn wsX3_add wsX3_isWoman := goodIn_r _ [7] rfl (by decide +kernel)
set_option maxRecDepth 20000 in
theorem gX3_add_X3_isWoman : GoodIn wsX3_add (va_wsS RX3 98 yX3_isWoman wsX3_isWoman) := goodIn_app (goodIn_r _ [4, 5, 6] rfl (by decide +kernel)) ggX3_add_X3_isWoman
set_option maxRecDepth 20000 in
theorem ggX3_add_X3_refuse : GoodIn wsX3_add wsX3_refuse := goodIn_r _ [11, 12, 101, 102, 103, 104, 105, 106, 107, 108, 109] rfl (by decide +kernel)
set_option maxRecDepth 20000 in
theorem gX3_add_X3_refuse : GoodIn wsX3_add (wsV RX3 47 RX3 yX3_refuse wsX3_refuse) := goodIn_app (goodIn_r _ [8, 9, 10, 6] rfl (by decide +kernel)) ggX3_add_X3_refuse
set_option maxRecDepth 20000 in
theorem ggX3_add_X2_becomes : GoodIn wsX3_add wsX2_becomes := goodIn_r _ [17, 18, 19, 20, 21, 22, 23, 24, 25, 26, 27, 28, 29, 30, 31, 32, 33, 110, 111, 112, 113, 114, 115, 116, 117, 118, 119, 120, 121] rfl (by decide +kernel)
set_option maxRecDepth 20000 in
theorem gX3_add_X2_becomes : GoodIn wsX3_add (wsV RX3 62 RX2 yX2_becomes wsX2_becomes) := goodIn_app (goodIn_r _ [13, 14, 15, 16] rfl (by decide +kernel)) ggX3_add_X2_becomes
set_option maxRecDepth 20000 in
theorem ggX3_add_X2_tellMore : GoodIn wsX3_add wsX2_tellMore := goodIn_r _ [37, 18, 26, 31, 32, 5, 6, 7, 38, 39, 40, 16, 41, 33, 21, 42, 43, 44, 45, 110, 111, 112, 113, 114, 115, 116, 117, 118, 119, 120, 121] rfl (by decide +kernel)
set_option maxRecDepth 20000 in
theorem gX3_add_X2_tellMore : GoodIn wsX3_add (wsV RX3 183 RX2 yX2_tellMore wsX2_tellMore) := goodIn_app (goodIn_r _ [34, 35, 36, 16] rfl (by decide +kernel)) ggX3_add_X2_tellMore
set_option maxRecDepth 20000 in
theorem ggX3_add_X2_passDays : GoodIn wsX3_add wsX2_passDays := goodIn_r _ [49, 50, 51, 52, 16, 53, 19, 24, 21, 54, 55, 56, 57, 18, 32, 58, 59, 60, 61, 62, 63, 64, 65, 25, 66, 67, 68, 69, 33, 70, 71, 72, 73, 74, 75, 76, 77, 26, 78, 79, 80, 81, 31, 82, 83, 84, 85, 86, 87, 88, 89, 90, 91, 92, 20, 23, 22, 110, 111, 112, 113, 114, 115, 116, 117, 118, 119, 120, 121] rfl (by decide +kernel)
set_option maxRecDepth 20000 in
theorem gX3_add_X2_passDays : GoodIn wsX3_add (wsV RX3 131 RX2 yX2_passDays wsX2_passDays) := goodIn_app (goodIn_r _ [46, 47, 48, 16] rfl (by decide +kernel)) ggX3_add_X2_passDays
set_option maxRecDepth 20000 in
theorem ggX3_add_X2_nestOf : GoodIn wsX3_add wsX2_nestOf := goodIn_r _ [73, 33, 21, 110, 111, 112, 113, 114, 115, 116, 117, 118, 119, 120, 121] rfl (by decide +kernel)
set_option maxRecDepth 20000 in
theorem gX3_add_X2_nestOf : GoodIn wsX3_add (wsV RX3 101 RX2 yX2_nestOf wsX2_nestOf) := goodIn_app (goodIn_r _ [93, 71, 72, 16] rfl (by decide +kernel)) ggX3_add_X2_nestOf
set_option maxRecDepth 20000 in
theorem ggX3_add_X2_softOf : GoodIn wsX3_add wsX2_softOf := goodIn_r _ [97, 18, 26, 78, 79, 80, 16, 81, 32, 31, 98, 99, 84, 100, 110, 111, 112, 113, 114, 115, 116, 117, 118, 119, 120, 121] rfl (by decide +kernel)
set_option maxRecDepth 20000 in
theorem gX3_add_X2_softOf : GoodIn wsX3_add (wsV RX3 89 RX2 yX2_softOf wsX2_softOf) := goodIn_app (goodIn_r _ [94, 95, 96, 16] rfl (by decide +kernel)) ggX3_add_X2_softOf
theorem dX3_add_0 : decode cX3_add 0 = .ok (.iload_n 1, 1) := by decide +kernel
theorem dX3_add_1 : decode cX3_add 1 = .ok (.invokestatic 98, 3) := by decide +kernel
theorem dX3_add_4 : decode cX3_add 4 = .ok (.ifCond .ne 9, 3) := by decide +kernel
theorem dX3_add_7 : decode cX3_add 7 = .ok (.aload_n 0, 1) := by decide +kernel
theorem dX3_add_8 : decode cX3_add 8 = .ok (.iconst (-1), 1) := by decide +kernel
theorem dX3_add_9 : decode cX3_add 9 = .ok (.invokevirtual 47, 3) := by decide +kernel
theorem dX3_add_12 : decode cX3_add 12 = .ok (.ireturn, 1) := by decide +kernel
theorem dX3_add_13 : decode cX3_add 13 = .ok (.iload_n 2, 1) := by decide +kernel
theorem dX3_add_14 : decode cX3_add 14 = .ok (.ifCond .ge 10, 3) := by decide +kernel
theorem dX3_add_17 : decode cX3_add 17 = .ok (.aload_n 0, 1) := by decide +kernel
theorem dX3_add_18 : decode cX3_add 18 = .ok (.bipush (-4), 2) := by decide +kernel
theorem dX3_add_20 : decode cX3_add 20 = .ok (.invokevirtual 47, 3) := by decide +kernel
theorem dX3_add_23 : decode cX3_add 23 = .ok (.ireturn, 1) := by decide +kernel
theorem dX3_add_24 : decode cX3_add 24 = .ok (.iload_n 2, 1) := by decide +kernel
theorem dX3_add_25 : decode cX3_add 25 = .ok (.bipush 60, 2) := by decide +kernel
theorem dX3_add_27 : decode cX3_add 27 = .ok (.if_icmp .le 10, 3) := by decide +kernel
theorem dX3_add_30 : decode cX3_add 30 = .ok (.aload_n 0, 1) := by decide +kernel
theorem dX3_add_31 : decode cX3_add 31 = .ok (.bipush (-6), 2) := by decide +kernel
theorem dX3_add_33 : decode cX3_add 33 = .ok (.invokevirtual 47, 3) := by decide +kernel
theorem dX3_add_36 : decode cX3_add 36 = .ok (.ireturn, 1) := by decide +kernel
theorem dX3_add_37 : decode cX3_add 37 = .ok (.iload_n 3, 1) := by decide +kernel
theorem dX3_add_38 : decode cX3_add 38 = .ok (.ifCond .lt 8, 3) := by decide +kernel
theorem dX3_add_41 : decode cX3_add 41 = .ok (.iload_n 3, 1) := by decide +kernel
theorem dX3_add_42 : decode cX3_add 42 = .ok (.iconst 1, 1) := by decide +kernel
theorem dX3_add_43 : decode cX3_add 43 = .ok (.if_icmp .le 10, 3) := by decide +kernel
theorem dX3_add_46 : decode cX3_add 46 = .ok (.aload_n 0, 1) := by decide +kernel
theorem dX3_add_47 : decode cX3_add 47 = .ok (.bipush (-2), 2) := by decide +kernel
theorem dX3_add_49 : decode cX3_add 49 = .ok (.invokevirtual 47, 3) := by decide +kernel
theorem dX3_add_52 : decode cX3_add 52 = .ok (.ireturn, 1) := by decide +kernel
theorem dX3_add_53 : decode cX3_add 53 = .ok (.aload_n 0, 1) := by decide +kernel
theorem dX3_add_54 : decode cX3_add 54 = .ok (.getfield 10, 3) := by decide +kernel
theorem dX3_add_57 : decode cX3_add 57 = .ok (.getfield 164, 3) := by decide +kernel
theorem dX3_add_60 : decode cX3_add 60 = .ok (.bipush 9, 2) := by decide +kernel
theorem dX3_add_62 : decode cX3_add 62 = .ok (.if_icmp .lt 6, 3) := by decide +kernel
theorem dX3_add_65 : decode cX3_add 65 = .ok (.bipush (-9), 2) := by decide +kernel
theorem dX3_add_67 : decode cX3_add 67 = .ok (.ireturn, 1) := by decide +kernel
theorem dX3_add_68 : decode cX3_add 68 = .ok (.bipush (-9), 2) := by decide +kernel
theorem dX3_add_70 : decode cX3_add 70 = .ok (.istore 4, 2) := by decide +kernel
theorem dX3_add_72 : decode cX3_add 72 = .ok (.bipush (-9), 2) := by decide +kernel
theorem dX3_add_74 : decode cX3_add 74 = .ok (.istore 5, 2) := by decide +kernel
theorem dX3_add_76 : decode cX3_add 76 = .ok (.iconst 0, 1) := by decide +kernel
theorem dX3_add_77 : decode cX3_add 77 = .ok (.istore 6, 2) := by decide +kernel
theorem dX3_add_79 : decode cX3_add 79 = .ok (.iload 6, 2) := by decide +kernel
theorem dX3_add_81 : decode cX3_add 81 = .ok (.bipush 6, 2) := by decide +kernel
theorem dX3_add_83 : decode cX3_add 83 = .ok (.if_icmp .ge 73, 3) := by decide +kernel
theorem dX3_add_86 : decode cX3_add 86 = .ok (.aload_n 0, 1) := by decide +kernel
theorem dX3_add_87 : decode cX3_add 87 = .ok (.getfield 16, 3) := by decide +kernel
theorem dX3_add_90 : decode cX3_add 90 = .ok (.aload_n 0, 1) := by decide +kernel
theorem dX3_add_91 : decode cX3_add 91 = .ok (.getfield 10, 3) := by decide +kernel
theorem dX3_add_94 : decode cX3_add 94 = .ok (.invokevirtual 62, 3) := by decide +kernel
theorem dX3_add_97 : decode cX3_add 97 = .ok (.aload_n 0, 1) := by decide +kernel
theorem dX3_add_98 : decode cX3_add 98 = .ok (.getfield 16, 3) := by decide +kernel
theorem dX3_add_101 : decode cX3_add 101 = .ok (.iload 6, 2) := by decide +kernel
theorem dX3_add_103 : decode cX3_add 103 = .ok (.bipush 9, 2) := by decide +kernel
theorem dX3_add_105 : decode cX3_add 105 = .ok (.iload_n 1, 1) := by decide +kernel
theorem dX3_add_106 : decode cX3_add 106 = .ok (.invokevirtual 183, 3) := by decide +kernel
theorem dX3_add_109 : decode cX3_add 109 = .ok (.pop, 1) := by decide +kernel
theorem dX3_add_110 : decode cX3_add 110 = .ok (.aload_n 0, 1) := by decide +kernel
theorem dX3_add_111 : decode cX3_add 111 = .ok (.getfield 16, 3) := by decide +kernel
theorem dX3_add_114 : decode cX3_add 114 = .ok (.iload_n 2, 1) := by decide +kernel
theorem dX3_add_115 : decode cX3_add 115 = .ok (.invokevirtual 131, 3) := by decide +kernel
theorem dX3_add_118 : decode cX3_add 118 = .ok (.aload_n 0, 1) := by decide +kernel
theorem dX3_add_119 : decode cX3_add 119 = .ok (.getfield 16, 3) := by decide +kernel
theorem dX3_add_122 : decode cX3_add 122 = .ok (.aload_n 0, 1) := by decide +kernel
theorem dX3_add_123 : decode cX3_add 123 = .ok (.getfield 16, 3) := by decide +kernel
theorem dX3_add_126 : decode cX3_add 126 = .ok (.iload_n 1, 1) := by decide +kernel
theorem dX3_add_127 : decode cX3_add 127 = .ok (.invokevirtual 101, 3) := by decide +kernel
theorem dX3_add_130 : decode cX3_add 130 = .ok (.invokevirtual 89, 3) := by decide +kernel
theorem dX3_add_133 : decode cX3_add 133 = .ok (.istore 7, 2) := by decide +kernel
theorem dX3_add_135 : decode cX3_add 135 = .ok (.iload 7, 2) := by decide +kernel
theorem dX3_add_137 : decode cX3_add 137 = .ok (.iload 5, 2) := by decide +kernel
theorem dX3_add_139 : decode cX3_add 139 = .ok (.if_icmp .le 11, 3) := by decide +kernel
theorem dX3_add_142 : decode cX3_add 142 = .ok (.iload 6, 2) := by decide +kernel
theorem dX3_add_144 : decode cX3_add 144 = .ok (.istore 4, 2) := by decide +kernel
theorem dX3_add_146 : decode cX3_add 146 = .ok (.iload 7, 2) := by decide +kernel
theorem dX3_add_148 : decode cX3_add 148 = .ok (.istore 5, 2) := by decide +kernel
theorem dX3_add_150 : decode cX3_add 150 = .ok (.iinc 6 1, 3) := by decide +kernel
theorem dX3_add_153 : decode cX3_add 153 = .ok (.goto (-74), 3) := by decide +kernel
theorem dX3_add_156 : decode cX3_add 156 = .ok (.iload_n 3, 1) := by decide +kernel
theorem dX3_add_157 : decode cX3_add 157 = .ok (.ifCond .ne 8, 3) := by decide +kernel
theorem dX3_add_160 : decode cX3_add 160 = .ok (.iload 4, 2) := by decide +kernel
theorem dX3_add_162 : decode cX3_add 162 = .ok (.goto 5, 3) := by decide +kernel
theorem dX3_add_165 : decode cX3_add 165 = .ok (.iload 5, 2) := by decide +kernel
theorem dX3_add_167 : decode cX3_add 167 = .ok (.ireturn, 1) := by decide +kernel
set_option maxRecDepth 20000 in
theorem ggX3_two_X3_isWoman : GoodIn wsX3_two wsX3_isWoman := goodIn_r _ [5] rfl (by decide +kernel)
set_option maxRecDepth 20000 in
theorem gX3_two_X3_isWoman : GoodIn wsX3_two (va_wsS RX3 98 yX3_isWoman wsX3_isWoman) := goodIn_app (goodIn_r _ [2, 3, 4] rfl (by decide +kernel)) ggX3_two_X3_isWoman
set_option maxRecDepth 20000 in
theorem ggX3_two_X3_refuse : GoodIn wsX3_two wsX3_refuse := goodIn_r _ [9, 10, 105, 106, 107, 108, 109, 110, 111, 112, 113] rfl (by decide +kernel)
set_option maxRecDepth 20000 in
theorem gX3_two_X3_refuse : GoodIn wsX3_two (wsV RX3 47 RX3 yX3_refuse wsX3_refuse) := goodIn_app (goodIn_r _ [6, 7, 8, 4] rfl (by decide +kernel)) ggX3_two_X3_refuse
set_option maxRecDepth 20000 in
theorem ggX3_two_X3_gainOfFirst : GoodIn wsX3_two wsX3_gainOfFirst := goodIn_r _ [14, 15, 16, 17, 18, 19, 20, 21, 22, 23, 24, 25, 26, 27, 28, 29, 30, 31, 32, 33, 34, 35, 36, 37, 38, 39, 40, 41, 3, 4, 5, 42, 43, 44, 45, 46, 47, 48, 49, 50, 51, 52, 53, 54, 55, 56, 57, 58, 59, 60, 61, 62, 63, 64, 65, 66, 67, 68, 69, 70, 71, 72, 73, 74, 75, 76, 77, 78, 79, 80, 81, 82, 83, 84, 85, 86, 87, 88, 89, 90, 91, 92, 93, 94, 95, 96, 97, 98, 99, 100, 101, 102, 103, 104, 105, 106, 107, 108, 109, 110, 111, 112, 113, 114, 115, 116, 117, 118, 119, 120, 121, 122, 123, 124, 125] rfl (by decide +kernel)
set_option maxRecDepth 20000 in
theorem gX3_two_X3_gainOfFirst : GoodIn wsX3_two (wsV RX3 187 RX3 yX3_gainOfFirst wsX3_gainOfFirst) := goodIn_app (goodIn_r _ [11, 12, 13, 4] rfl (by decide +kernel)) ggX3_two_X3_gainOfFirst
theorem dX3_two_0 : decode cX3_two 0 = .ok (.iload_n 1, 1) := by decide +kernel
theorem dX3_two_1 : decode cX3_two 1 = .ok (.invokestatic 98, 3) := by decide +kernel
theorem dX3_two_4 : decode cX3_two 4 = .ok (.ifCond .eq 15, 3) := by decide +kernel
theorem dX3_two_7 : decode cX3_two 7 = .ok (.iload_n 2, 1) := by decide +kernel
theorem dX3_two_8 : decode cX3_two 8 = .ok (.invokestatic 98, 3) := by decide +kernel
theorem dX3_two_11 : decode cX3_two 11 = .ok (.ifCond .eq 8, 3) := by decide +kernel
theorem dX3_two_14 : decode cX3_two 14 = .ok (.iload_n 1, 1) := by decide +kernel
theorem dX3_two_15 : decode cX3_two 15 = .ok (.iload_n 2, 1) := by decide +kernel
theorem dX3_two_16 : decode cX3_two 16 = .ok (.if_icmp .ne 9, 3) := by decide +kernel
theorem dX3_two_19 : decode cX3_two 19 = .ok (.aload_n 0, 1) := by decide +kernel
theorem dX3_two_20 : decode cX3_two 20 = .ok (.iconst (-1), 1) := by decide +kernel
theorem dX3_two_21 : decode cX3_two 21 = .ok (.invokevirtual 47, 3) := by decide +kernel
theorem dX3_two_24 : decode cX3_two 24 = .ok (.ireturn, 1) := by decide +kernel
theorem dX3_two_25 : decode cX3_two 25 = .ok (.iload_n 3, 1) := by decide +kernel
theorem dX3_two_26 : decode cX3_two 26 = .ok (.ifCond .ge 10, 3) := by decide +kernel
theorem dX3_two_29 : decode cX3_two 29 = .ok (.aload_n 0, 1) := by decide +kernel
theorem dX3_two_30 : decode cX3_two 30 = .ok (.bipush (-4), 2) := by decide +kernel
theorem dX3_two_32 : decode cX3_two 32 = .ok (.invokevirtual 47, 3) := by decide +kernel
theorem dX3_two_35 : decode cX3_two 35 = .ok (.ireturn, 1) := by decide +kernel
theorem dX3_two_36 : decode cX3_two 36 = .ok (.iload_n 3, 1) := by decide +kernel
theorem dX3_two_37 : decode cX3_two 37 = .ok (.bipush 30, 2) := by decide +kernel
theorem dX3_two_39 : decode cX3_two 39 = .ok (.if_icmp .le 10, 3) := by decide +kernel
theorem dX3_two_42 : decode cX3_two 42 = .ok (.aload_n 0, 1) := by decide +kernel
theorem dX3_two_43 : decode cX3_two 43 = .ok (.bipush (-6), 2) := by decide +kernel
theorem dX3_two_45 : decode cX3_two 45 = .ok (.invokevirtual 47, 3) := by decide +kernel
theorem dX3_two_48 : decode cX3_two 48 = .ok (.ireturn, 1) := by decide +kernel
theorem dX3_two_49 : decode cX3_two 49 = .ok (.iconst 0, 1) := by decide +kernel
theorem dX3_two_50 : decode cX3_two 50 = .ok (.istore 4, 2) := by decide +kernel
theorem dX3_two_52 : decode cX3_two 52 = .ok (.iload 4, 2) := by decide +kernel
theorem dX3_two_54 : decode cX3_two 54 = .ok (.aload_n 0, 1) := by decide +kernel
theorem dX3_two_55 : decode cX3_two 55 = .ok (.getfield 44, 3) := by decide +kernel
theorem dX3_two_58 : decode cX3_two 58 = .ok (.arraylength, 1) := by decide +kernel
theorem dX3_two_59 : decode cX3_two 59 = .ok (.if_icmp .ge 25, 3) := by decide +kernel
theorem dX3_two_62 : decode cX3_two 62 = .ok (.aload_n 0, 1) := by decide +kernel
theorem dX3_two_63 : decode cX3_two 63 = .ok (.getfield 44, 3) := by decide +kernel
theorem dX3_two_66 : decode cX3_two 66 = .ok (.iload 4, 2) := by decide +kernel
theorem dX3_two_68 : decode cX3_two 68 = .ok (.aload_n 0, 1) := by decide +kernel
theorem dX3_two_69 : decode cX3_two 69 = .ok (.iload_n 1, 1) := by decide +kernel
theorem dX3_two_70 : decode cX3_two 70 = .ok (.iload_n 2, 1) := by decide +kernel
theorem dX3_two_71 : decode cX3_two 71 = .ok (.iload 4, 2) := by decide +kernel
theorem dX3_two_73 : decode cX3_two 73 = .ok (.iload_n 3, 1) := by decide +kernel
theorem dX3_two_74 : decode cX3_two 74 = .ok (.invokevirtual 187, 3) := by decide +kernel
theorem dX3_two_77 : decode cX3_two 77 = .ok (.iastore, 1) := by decide +kernel
theorem dX3_two_78 : decode cX3_two 78 = .ok (.iinc 4 1, 3) := by decide +kernel
theorem dX3_two_81 : decode cX3_two 81 = .ok (.goto (-29), 3) := by decide +kernel
theorem dX3_two_84 : decode cX3_two 84 = .ok (.iconst 0, 1) := by decide +kernel
theorem dX3_two_85 : decode cX3_two 85 = .ok (.istore 4, 2) := by decide +kernel
theorem dX3_two_87 : decode cX3_two 87 = .ok (.iload 4, 2) := by decide +kernel
theorem dX3_two_89 : decode cX3_two 89 = .ok (.aload_n 0, 1) := by decide +kernel
theorem dX3_two_90 : decode cX3_two 90 = .ok (.getfield 44, 3) := by decide +kernel
theorem dX3_two_93 : decode cX3_two 93 = .ok (.arraylength, 1) := by decide +kernel
theorem dX3_two_94 : decode cX3_two 94 = .ok (.if_icmp .ge 60, 3) := by decide +kernel
theorem dX3_two_97 : decode cX3_two 97 = .ok (.aload_n 0, 1) := by decide +kernel
theorem dX3_two_98 : decode cX3_two 98 = .ok (.getfield 44, 3) := by decide +kernel
theorem dX3_two_101 : decode cX3_two 101 = .ok (.iload 4, 2) := by decide +kernel
theorem dX3_two_103 : decode cX3_two 103 = .ok (.iaload, 1) := by decide +kernel
theorem dX3_two_104 : decode cX3_two 104 = .ok (.aload_n 0, 1) := by decide +kernel
theorem dX3_two_105 : decode cX3_two 105 = .ok (.getfield 44, 3) := by decide +kernel
theorem dX3_two_108 : decode cX3_two 108 = .ok (.iload 4, 2) := by decide +kernel
theorem dX3_two_110 : decode cX3_two 110 = .ok (.iconst 2, 1) := by decide +kernel
theorem dX3_two_111 : decode cX3_two 111 = .ok (.ixor, 1) := by decide +kernel
theorem dX3_two_112 : decode cX3_two 112 = .ok (.iaload, 1) := by decide +kernel
theorem dX3_two_113 : decode cX3_two 113 = .ok (.if_icmp .lt 35, 3) := by decide +kernel
theorem dX3_two_116 : decode cX3_two 116 = .ok (.aload_n 0, 1) := by decide +kernel
theorem dX3_two_117 : decode cX3_two 117 = .ok (.getfield 44, 3) := by decide +kernel
theorem dX3_two_120 : decode cX3_two 120 = .ok (.iload 4, 2) := by decide +kernel
theorem dX3_two_122 : decode cX3_two 122 = .ok (.iaload, 1) := by decide +kernel
theorem dX3_two_123 : decode cX3_two 123 = .ok (.aload_n 0, 1) := by decide +kernel
theorem dX3_two_124 : decode cX3_two 124 = .ok (.getfield 44, 3) := by decide +kernel
theorem dX3_two_127 : decode cX3_two 127 = .ok (.iload 4, 2) := by decide +kernel
theorem dX3_two_129 : decode cX3_two 129 = .ok (.iconst 1, 1) := by decide +kernel
theorem dX3_two_130 : decode cX3_two 130 = .ok (.ixor, 1) := by decide +kernel
theorem dX3_two_131 : decode cX3_two 131 = .ok (.iaload, 1) := by decide +kernel
theorem dX3_two_132 : decode cX3_two 132 = .ok (.if_icmp .gt 16, 3) := by decide +kernel
theorem dX3_two_135 : decode cX3_two 135 = .ok (.iload 4, 2) := by decide +kernel
theorem dX3_two_137 : decode cX3_two 137 = .ok (.iconst 2, 1) := by decide +kernel
theorem dX3_two_138 : decode cX3_two 138 = .ok (.idiv, 1) := by decide +kernel
theorem dX3_two_139 : decode cX3_two 139 = .ok (.bipush 10, 2) := by decide +kernel
theorem dX3_two_141 : decode cX3_two 141 = .ok (.imul, 1) := by decide +kernel
theorem dX3_two_142 : decode cX3_two 142 = .ok (.iload 4, 2) := by decide +kernel
theorem dX3_two_144 : decode cX3_two 144 = .ok (.iconst 2, 1) := by decide +kernel
theorem dX3_two_145 : decode cX3_two 145 = .ok (.irem, 1) := by decide +kernel
theorem dX3_two_146 : decode cX3_two 146 = .ok (.iadd, 1) := by decide +kernel
theorem dX3_two_147 : decode cX3_two 147 = .ok (.ireturn, 1) := by decide +kernel
theorem dX3_two_148 : decode cX3_two 148 = .ok (.iinc 4 1, 3) := by decide +kernel
theorem dX3_two_151 : decode cX3_two 151 = .ok (.goto (-64), 3) := by decide +kernel
theorem dX3_two_154 : decode cX3_two 154 = .ok (.bipush (-9), 2) := by decide +kernel
theorem dX3_two_156 : decode cX3_two 156 = .ok (.ireturn, 1) := by decide +kernel
set_option maxRecDepth 20000 in
theorem ggX3_gainOfFirst_X2_becomes : GoodIn wsX3_gainOfFirst wsX2_becomes := goodIn_r _ [7, 8, 9, 10, 11, 12, 13, 14, 15, 16, 17, 18, 19, 20, 21, 22, 23, 103, 104, 105, 106, 107, 108, 109, 110, 111, 112, 113, 114] rfl (by decide +kernel)
set_option maxRecDepth 20000 in
theorem gX3_gainOfFirst_X2_becomes : GoodIn wsX3_gainOfFirst (wsV RX3 62 RX2 yX2_becomes wsX2_becomes) := goodIn_app (goodIn_r _ [3, 4, 5, 6] rfl (by decide +kernel)) ggX3_gainOfFirst_X2_becomes
set_option maxRecDepth 20000 in
theorem ggX3_gainOfFirst_X2_tellMore : GoodIn wsX3_gainOfFirst wsX2_tellMore := goodIn_r _ [27, 8, 16, 21, 22, 28, 29, 30, 31, 32, 33, 6, 34, 23, 11, 35, 36, 37, 38, 103, 104, 105, 106, 107, 108, 109, 110, 111, 112, 113, 114] rfl (by decide +kernel)
set_option maxRecDepth 20000 in
theorem gX3_gainOfFirst_X2_tellMore : GoodIn wsX3_gainOfFirst (wsV RX3 183 RX2 yX2_tellMore wsX2_tellMore) := goodIn_app (goodIn_r _ [24, 25, 26, 6] rfl (by decide +kernel)) ggX3_gainOfFirst_X2_tellMore
set_option maxRecDepth 20000 in
theorem ggX3_gainOfFirst_X2_passDays : GoodIn wsX3_gainOfFirst wsX2_passDays := goodIn_r _ [42, 43, 44, 45, 6, 46, 9, 14, 11, 47, 48, 49, 50, 8, 22, 51, 52, 53, 54, 55, 56, 57, 58, 15, 59, 60, 61, 62, 23, 63, 64, 65, 66, 67, 68, 69, 70, 16, 71, 72, 73, 74, 21, 75, 76, 77, 78, 79, 80, 81, 82, 83, 84, 85, 10, 13, 12, 103, 104, 105, 106, 107, 108, 109, 110, 111, 112, 113, 114] rfl (by decide +kernel)
set_option maxRecDepth 20000 in
theorem gX3_gainOfFirst_X2_passDays : GoodIn wsX3_gainOfFirst (wsV RX3 131 RX2 yX2_passDays wsX2_passDays) := goodIn_app (goodIn_r _ [39, 40, 41, 6] rfl (by decide +kernel)) ggX3_gainOfFirst_X2_passDays
set_option maxRecDepth 20000 in
theorem ggX3_gainOfFirst_X2_nestOf : GoodIn wsX3_gainOfFirst wsX2_nestOf := goodIn_r _ [66, 23, 11, 103, 104, 105, 106, 107, 108, 109, 110, 111, 112, 113, 114] rfl (by decide +kernel)
set_option maxRecDepth 20000 in
theorem gX3_gainOfFirst_X2_nestOf : GoodIn wsX3_gainOfFirst (wsV RX3 101 RX2 yX2_nestOf wsX2_nestOf) := goodIn_app (goodIn_r _ [86, 64, 65, 6] rfl (by decide +kernel)) ggX3_gainOfFirst_X2_nestOf
set_option maxRecDepth 20000 in
theorem ggX3_gainOfFirst_X2_softOf : GoodIn wsX3_gainOfFirst wsX2_softOf := goodIn_r _ [90, 8, 16, 71, 72, 73, 6, 74, 22, 21, 91, 92, 77, 93, 103, 104, 105, 106, 107, 108, 109, 110, 111, 112, 113, 114] rfl (by decide +kernel)
set_option maxRecDepth 20000 in
theorem gX3_gainOfFirst_X2_softOf : GoodIn wsX3_gainOfFirst (wsV RX3 89 RX2 yX2_softOf wsX2_softOf) := goodIn_app (goodIn_r _ [87, 88, 89, 6] rfl (by decide +kernel)) ggX3_gainOfFirst_X2_softOf
theorem dX3_gainOfFirst_0 : decode cX3_gainOfFirst 0 = .ok (.aload_n 0, 1) := by decide +kernel
theorem dX3_gainOfFirst_1 : decode cX3_gainOfFirst 1 = .ok (.getfield 16, 3) := by decide +kernel
theorem dX3_gainOfFirst_4 : decode cX3_gainOfFirst 4 = .ok (.aload_n 0, 1) := by decide +kernel
theorem dX3_gainOfFirst_5 : decode cX3_gainOfFirst 5 = .ok (.getfield 10, 3) := by decide +kernel
theorem dX3_gainOfFirst_8 : decode cX3_gainOfFirst 8 = .ok (.invokevirtual 62, 3) := by decide +kernel
theorem dX3_gainOfFirst_11 : decode cX3_gainOfFirst 11 = .ok (.iload_n 3, 1) := by decide +kernel
theorem dX3_gainOfFirst_12 : decode cX3_gainOfFirst 12 = .ok (.iconst 2, 1) := by decide +kernel
theorem dX3_gainOfFirst_13 : decode cX3_gainOfFirst 13 = .ok (.iand, 1) := by decide +kernel
theorem dX3_gainOfFirst_14 : decode cX3_gainOfFirst 14 = .ok (.ifCond .eq 14, 3) := by decide +kernel
theorem dX3_gainOfFirst_17 : decode cX3_gainOfFirst 17 = .ok (.aload_n 0, 1) := by decide +kernel
theorem dX3_gainOfFirst_18 : decode cX3_gainOfFirst 18 = .ok (.getfield 16, 3) := by decide +kernel
theorem dX3_gainOfFirst_21 : decode cX3_gainOfFirst 21 = .ok (.iconst 4, 1) := by decide +kernel
theorem dX3_gainOfFirst_22 : decode cX3_gainOfFirst 22 = .ok (.iconst 5, 1) := by decide +kernel
theorem dX3_gainOfFirst_23 : decode cX3_gainOfFirst 23 = .ok (.iload_n 2, 1) := by decide +kernel
theorem dX3_gainOfFirst_24 : decode cX3_gainOfFirst 24 = .ok (.invokevirtual 183, 3) := by decide +kernel
theorem dX3_gainOfFirst_27 : decode cX3_gainOfFirst 27 = .ok (.pop, 1) := by decide +kernel
theorem dX3_gainOfFirst_28 : decode cX3_gainOfFirst 28 = .ok (.iload_n 3, 1) := by decide +kernel
theorem dX3_gainOfFirst_29 : decode cX3_gainOfFirst 29 = .ok (.iconst 1, 1) := by decide +kernel
theorem dX3_gainOfFirst_30 : decode cX3_gainOfFirst 30 = .ok (.iand, 1) := by decide +kernel
theorem dX3_gainOfFirst_31 : decode cX3_gainOfFirst 31 = .ok (.ifCond .eq 14, 3) := by decide +kernel
theorem dX3_gainOfFirst_34 : decode cX3_gainOfFirst 34 = .ok (.aload_n 0, 1) := by decide +kernel
theorem dX3_gainOfFirst_35 : decode cX3_gainOfFirst 35 = .ok (.getfield 16, 3) := by decide +kernel
theorem dX3_gainOfFirst_38 : decode cX3_gainOfFirst 38 = .ok (.iconst 4, 1) := by decide +kernel
theorem dX3_gainOfFirst_39 : decode cX3_gainOfFirst 39 = .ok (.iconst 5, 1) := by decide +kernel
theorem dX3_gainOfFirst_40 : decode cX3_gainOfFirst 40 = .ok (.iload_n 1, 1) := by decide +kernel
theorem dX3_gainOfFirst_41 : decode cX3_gainOfFirst 41 = .ok (.invokevirtual 183, 3) := by decide +kernel
theorem dX3_gainOfFirst_44 : decode cX3_gainOfFirst 44 = .ok (.pop, 1) := by decide +kernel
theorem dX3_gainOfFirst_45 : decode cX3_gainOfFirst 45 = .ok (.aload_n 0, 1) := by decide +kernel
theorem dX3_gainOfFirst_46 : decode cX3_gainOfFirst 46 = .ok (.getfield 16, 3) := by decide +kernel
theorem dX3_gainOfFirst_49 : decode cX3_gainOfFirst 49 = .ok (.iload 4, 2) := by decide +kernel
theorem dX3_gainOfFirst_51 : decode cX3_gainOfFirst 51 = .ok (.invokevirtual 131, 3) := by decide +kernel
theorem dX3_gainOfFirst_54 : decode cX3_gainOfFirst 54 = .ok (.aload_n 0, 1) := by decide +kernel
theorem dX3_gainOfFirst_55 : decode cX3_gainOfFirst 55 = .ok (.getfield 16, 3) := by decide +kernel
theorem dX3_gainOfFirst_58 : decode cX3_gainOfFirst 58 = .ok (.aload_n 0, 1) := by decide +kernel
theorem dX3_gainOfFirst_59 : decode cX3_gainOfFirst 59 = .ok (.getfield 16, 3) := by decide +kernel
theorem dX3_gainOfFirst_62 : decode cX3_gainOfFirst 62 = .ok (.iload_n 1, 1) := by decide +kernel
theorem dX3_gainOfFirst_63 : decode cX3_gainOfFirst 63 = .ok (.invokevirtual 101, 3) := by decide +kernel
theorem dX3_gainOfFirst_66 : decode cX3_gainOfFirst 66 = .ok (.invokevirtual 89, 3) := by decide +kernel
theorem dX3_gainOfFirst_69 : decode cX3_gainOfFirst 69 = .ok (.aload_n 0, 1) := by decide +kernel
theorem dX3_gainOfFirst_70 : decode cX3_gainOfFirst 70 = .ok (.getfield 16, 3) := by decide +kernel
theorem dX3_gainOfFirst_73 : decode cX3_gainOfFirst 73 = .ok (.aload_n 0, 1) := by decide +kernel
theorem dX3_gainOfFirst_74 : decode cX3_gainOfFirst 74 = .ok (.getfield 16, 3) := by decide +kernel
theorem dX3_gainOfFirst_77 : decode cX3_gainOfFirst 77 = .ok (.iload_n 2, 1) := by decide +kernel
theorem dX3_gainOfFirst_78 : decode cX3_gainOfFirst 78 = .ok (.invokevirtual 101, 3) := by decide +kernel
theorem dX3_gainOfFirst_81 : decode cX3_gainOfFirst 81 = .ok (.invokevirtual 89, 3) := by decide +kernel
theorem dX3_gainOfFirst_84 : decode cX3_gainOfFirst 84 = .ok (.isub, 1) := by decide +kernel
theorem dX3_gainOfFirst_85 : decode cX3_gainOfFirst 85 = .ok (.ireturn, 1) := by decide +kernel
set_option maxRecDepth 20000 in
theorem ggX3_rain_X3_isWoman : GoodIn wsX3_rain wsX3_isWoman := goodIn_r _ [5] rfl (by decide +kernel)
set_option maxRecDepth 20000 in
theorem gX3_rain_X3_isWoman : GoodIn wsX3_rain (va_wsS RX3 98 yX3_isWoman wsX3_isWoman) := goodIn_app (goodIn_r _ [2, 3, 4] rfl (by decide +kernel)) ggX3_rain_X3_isWoman
set_option maxRecDepth 20000 in
theorem ggX3_rain_X3_refuseLong : GoodIn wsX3_rain wsX3_refuseLong := goodIn_r _ [9, 10, 11, 12, 13, 4, 14, 15, 107, 108, 109, 110, 111, 112, 113, 114, 115] rfl (by decide +kernel)
set_option maxRecDepth 20000 in
theorem gX3_rain_X3_refuseLong : GoodIn wsX3_rain (wsV RX3 191 RX3 yX3_refuseLong wsX3_refuseLong) := goodIn_app (goodIn_r _ [6, 7, 8, 4] rfl (by decide +kernel)) ggX3_rain_X3_refuseLong
set_option maxRecDepth 20000 in
theorem ggX3_rain_X3_thinkOfRain : GoodIn wsX3_rain wsX3_thinkOfRain := goodIn_r _ [19, 1, 20, 21, 22, 23, 24, 25, 26, 27, 28, 29, 30, 31, 32, 33, 34, 35, 36, 37, 38, 39, 40, 41, 42, 43, 44, 45, 46, 47, 48, 49, 50, 51, 52, 53, 54, 55, 56, 57, 58, 59, 60, 61, 62, 63, 64, 65, 66, 67, 68, 69, 70, 71, 72, 73, 74, 75, 76, 77, 78, 79, 80, 81, 82, 83, 84, 85, 86, 107, 108, 109, 110, 111, 112, 113, 114, 115, 116, 117, 118, 119, 120, 121, 122, 123, 124, 125, 126, 127] rfl (by decide +kernel)
set_option maxRecDepth 20000 in
theorem gX3_rain_X3_thinkOfRain : GoodIn wsX3_rain (wsV RX3 195 RX3 yX3_thinkOfRain wsX3_thinkOfRain) := goodIn_app (goodIn_r _ [16, 17, 18, 4] rfl (by decide +kernel)) ggX3_rain_X3_thinkOfRain
set_option maxRecDepth 20000 in
theorem ggX3_rain_X2_nestOf : GoodIn wsX3_rain wsX2_nestOf := goodIn_r _ [67, 42, 30, 116, 117, 118, 119, 120, 121, 122, 123, 124, 125, 126, 127] rfl (by decide +kernel)
set_option maxRecDepth 20000 in
theorem gX3_rain_X2_nestOf : GoodIn wsX3_rain (wsV RX3 101 RX2 yX2_nestOf wsX2_nestOf) := goodIn_app (goodIn_r _ [87, 65, 66, 25] rfl (by decide +kernel)) ggX3_rain_X2_nestOf
set_option maxRecDepth 20000 in
theorem ggX3_rain_J6_bitCount_0f7a4 : GoodIn wsX3_rain wsJ6_bitCount_0f7a4 := goodIn_r _ [91, 92, 93, 94] rfl (by decide +kernel)
set_option maxRecDepth 20000 in
theorem gX3_rain_J6_bitCount_0f7a4 : GoodIn wsX3_rain (va_wsS RX3 123 yJ6_bitCount_0f7a4 wsJ6_bitCount_0f7a4) := goodIn_app (goodIn_r _ [88, 89, 90] rfl (by decide +kernel)) ggX3_rain_J6_bitCount_0f7a4
set_option maxRecDepth 20000 in
theorem ggX3_rain_X3_power : GoodIn wsX3_rain wsX3_power := goodIn_r _ [97] rfl (by decide +kernel)
set_option maxRecDepth 20000 in
theorem gX3_rain_X3_power : GoodIn wsX3_rain (va_wsS RX3 198 yX3_power wsX3_power) := goodIn_app (goodIn_r _ [95, 96, 4] rfl (by decide +kernel)) ggX3_rain_X3_power
set_option maxRecDepth 20000 in
theorem ggX3_rain_X3_partOfFraction : GoodIn wsX3_rain wsX3_partOfFraction := goodIn_r _ [100, 101, 102, 49, 103, 104, 105, 4, 106] rfl (by decide +kernel)
set_option maxRecDepth 20000 in
theorem gX3_rain_X3_partOfFraction : GoodIn wsX3_rain (va_wsS RX3 202 yX3_partOfFraction wsX3_partOfFraction) := goodIn_app (goodIn_r _ [98, 99, 4] rfl (by decide +kernel)) ggX3_rain_X3_partOfFraction
theorem dX3_rain_0 : decode cX3_rain 0 = .ok (.iload_n 1, 1) := by decide +kernel
theorem dX3_rain_1 : decode cX3_rain 1 = .ok (.invokestatic 98, 3) := by decide +kernel
theorem dX3_rain_4 : decode cX3_rain 4 = .ok (.ifCond .ne 9, 3) := by decide +kernel
theorem dX3_rain_7 : decode cX3_rain 7 = .ok (.aload_n 0, 1) := by decide +kernel
theorem dX3_rain_8 : decode cX3_rain 8 = .ok (.iconst (-1), 1) := by decide +kernel
theorem dX3_rain_9 : decode cX3_rain 9 = .ok (.invokevirtual 191, 3) := by decide +kernel
theorem dX3_rain_12 : decode cX3_rain 12 = .ok (.lreturn, 1) := by decide +kernel
theorem dX3_rain_13 : decode cX3_rain 13 = .ok (.iload_n 2, 1) := by decide +kernel
theorem dX3_rain_14 : decode cX3_rain 14 = .ok (.ifCond .lt 8, 3) := by decide +kernel
theorem dX3_rain_17 : decode cX3_rain 17 = .ok (.iload_n 3, 1) := by decide +kernel
theorem dX3_rain_18 : decode cX3_rain 18 = .ok (.iconst 2, 1) := by decide +kernel
theorem dX3_rain_19 : decode cX3_rain 19 = .ok (.if_icmp .ge 10, 3) := by decide +kernel
theorem dX3_rain_22 : decode cX3_rain 22 = .ok (.aload_n 0, 1) := by decide +kernel
theorem dX3_rain_23 : decode cX3_rain 23 = .ok (.bipush (-4), 2) := by decide +kernel
theorem dX3_rain_25 : decode cX3_rain 25 = .ok (.invokevirtual 191, 3) := by decide +kernel
theorem dX3_rain_28 : decode cX3_rain 28 = .ok (.lreturn, 1) := by decide +kernel
theorem dX3_rain_29 : decode cX3_rain 29 = .ok (.iload_n 2, 1) := by decide +kernel
theorem dX3_rain_30 : decode cX3_rain 30 = .ok (.bipush 7, 2) := by decide +kernel
theorem dX3_rain_32 : decode cX3_rain 32 = .ok (.if_icmp .gt 9, 3) := by decide +kernel
theorem dX3_rain_35 : decode cX3_rain 35 = .ok (.iload_n 3, 1) := by decide +kernel
theorem dX3_rain_36 : decode cX3_rain 36 = .ok (.bipush 20, 2) := by decide +kernel
theorem dX3_rain_38 : decode cX3_rain 38 = .ok (.if_icmp .le 10, 3) := by decide +kernel
theorem dX3_rain_41 : decode cX3_rain 41 = .ok (.aload_n 0, 1) := by decide +kernel
theorem dX3_rain_42 : decode cX3_rain 42 = .ok (.bipush (-6), 2) := by decide +kernel
theorem dX3_rain_44 : decode cX3_rain 44 = .ok (.invokevirtual 191, 3) := by decide +kernel
theorem dX3_rain_47 : decode cX3_rain 47 = .ok (.lreturn, 1) := by decide +kernel
theorem dX3_rain_48 : decode cX3_rain 48 = .ok (.iload 4, 2) := by decide +kernel
theorem dX3_rain_50 : decode cX3_rain 50 = .ok (.ifCond .lt 9, 3) := by decide +kernel
theorem dX3_rain_53 : decode cX3_rain 53 = .ok (.iload 4, 2) := by decide +kernel
theorem dX3_rain_55 : decode cX3_rain 55 = .ok (.iconst 1, 1) := by decide +kernel
theorem dX3_rain_56 : decode cX3_rain 56 = .ok (.if_icmp .le 10, 3) := by decide +kernel
theorem dX3_rain_59 : decode cX3_rain 59 = .ok (.aload_n 0, 1) := by decide +kernel
theorem dX3_rain_60 : decode cX3_rain 60 = .ok (.bipush (-2), 2) := by decide +kernel
theorem dX3_rain_62 : decode cX3_rain 62 = .ok (.invokevirtual 191, 3) := by decide +kernel
theorem dX3_rain_65 : decode cX3_rain 65 = .ok (.lreturn, 1) := by decide +kernel
theorem dX3_rain_66 : decode cX3_rain 66 = .ok (.lconst 0, 1) := by decide +kernel
theorem dX3_rain_67 : decode cX3_rain 67 = .ok (.lstore 5, 2) := by decide +kernel
theorem dX3_rain_69 : decode cX3_rain 69 = .ok (.iconst 0, 1) := by decide +kernel
theorem dX3_rain_70 : decode cX3_rain 70 = .ok (.istore 7, 2) := by decide +kernel
theorem dX3_rain_72 : decode cX3_rain 72 = .ok (.iload 7, 2) := by decide +kernel
theorem dX3_rain_74 : decode cX3_rain 74 = .ok (.iconst 1, 1) := by decide +kernel
theorem dX3_rain_75 : decode cX3_rain 75 = .ok (.iload_n 2, 1) := by decide +kernel
theorem dX3_rain_76 : decode cX3_rain 76 = .ok (.ishl, 1) := by decide +kernel
theorem dX3_rain_77 : decode cX3_rain 77 = .ok (.if_icmp .ge 46, 3) := by decide +kernel
theorem dX3_rain_80 : decode cX3_rain 80 = .ok (.aload_n 0, 1) := by decide +kernel
theorem dX3_rain_81 : decode cX3_rain 81 = .ok (.iload_n 2, 1) := by decide +kernel
theorem dX3_rain_82 : decode cX3_rain 82 = .ok (.iload 7, 2) := by decide +kernel
theorem dX3_rain_84 : decode cX3_rain 84 = .ok (.invokevirtual 195, 3) := by decide +kernel
theorem dX3_rain_87 : decode cX3_rain 87 = .ok (.aload_n 0, 1) := by decide +kernel
theorem dX3_rain_88 : decode cX3_rain 88 = .ok (.getfield 16, 3) := by decide +kernel
theorem dX3_rain_91 : decode cX3_rain 91 = .ok (.iload_n 1, 1) := by decide +kernel
theorem dX3_rain_92 : decode cX3_rain 92 = .ok (.invokevirtual 101, 3) := by decide +kernel
theorem dX3_rain_95 : decode cX3_rain 95 = .ok (.ifCond .eq 22, 3) := by decide +kernel
theorem dX3_rain_98 : decode cX3_rain 98 = .ok (.lload 5, 2) := by decide +kernel
theorem dX3_rain_100 : decode cX3_rain 100 = .ok (.iload_n 3, 1) := by decide +kernel
theorem dX3_rain_101 : decode cX3_rain 101 = .ok (.iconst 1, 1) := by decide +kernel
theorem dX3_rain_102 : decode cX3_rain 102 = .ok (.isub, 1) := by decide +kernel
theorem dX3_rain_103 : decode cX3_rain 103 = .ok (.i2l, 1) := by decide +kernel
theorem dX3_rain_104 : decode cX3_rain 104 = .ok (.iload_n 2, 1) := by decide +kernel
theorem dX3_rain_105 : decode cX3_rain 105 = .ok (.iload 7, 2) := by decide +kernel
theorem dX3_rain_107 : decode cX3_rain 107 = .ok (.invokestatic 123, 3) := by decide +kernel
theorem dX3_rain_110 : decode cX3_rain 110 = .ok (.isub, 1) := by decide +kernel
theorem dX3_rain_111 : decode cX3_rain 111 = .ok (.invokestatic 198, 3) := by decide +kernel
theorem dX3_rain_114 : decode cX3_rain 114 = .ok (.ladd, 1) := by decide +kernel
theorem dX3_rain_115 : decode cX3_rain 115 = .ok (.lstore 5, 2) := by decide +kernel
theorem dX3_rain_117 : decode cX3_rain 117 = .ok (.iinc 7 1, 3) := by decide +kernel
theorem dX3_rain_120 : decode cX3_rain 120 = .ok (.goto (-48), 3) := by decide +kernel
theorem dX3_rain_123 : decode cX3_rain 123 = .ok (.lload 5, 2) := by decide +kernel
theorem dX3_rain_125 : decode cX3_rain 125 = .ok (.iload_n 3, 1) := by decide +kernel
theorem dX3_rain_126 : decode cX3_rain 126 = .ok (.i2l, 1) := by decide +kernel
theorem dX3_rain_127 : decode cX3_rain 127 = .ok (.iload_n 2, 1) := by decide +kernel
theorem dX3_rain_128 : decode cX3_rain 128 = .ok (.invokestatic 198, 3) := by decide +kernel
theorem dX3_rain_131 : decode cX3_rain 131 = .ok (.iload 4, 2) := by decide +kernel
theorem dX3_rain_133 : decode cX3_rain 133 = .ok (.invokestatic 202, 3) := by decide +kernel
theorem dX3_rain_136 : decode cX3_rain 136 = .ok (.lreturn, 1) := by decide +kernel
set_option maxRecDepth 20000 in
theorem ggX3_thinkOfRain_X2_becomes : GoodIn wsX3_thinkOfRain wsX2_becomes := goodIn_r _ [8, 9, 10, 11, 12, 13, 14, 15, 16, 17, 18, 19, 20, 21, 22, 23, 24, 78, 79, 80, 81, 82, 83, 84, 85, 86, 87, 88, 89] rfl (by decide +kernel)
set_option maxRecDepth 20000 in
theorem gX3_thinkOfRain_X2_becomes : GoodIn wsX3_thinkOfRain (wsV RX3 62 RX2 yX2_becomes wsX2_becomes) := goodIn_app (goodIn_r _ [4, 5, 6, 7] rfl (by decide +kernel)) ggX3_thinkOfRain_X2_becomes
set_option maxRecDepth 20000 in
theorem ggX3_thinkOfRain_X2_wear : GoodIn wsX3_thinkOfRain wsX2_wear := goodIn_r _ [28, 9, 23, 29, 30, 31, 32, 78, 79, 80, 81, 82, 83, 84, 85, 86, 87, 88, 89] rfl (by decide +kernel)
set_option maxRecDepth 20000 in
theorem gX3_thinkOfRain_X2_wear : GoodIn wsX3_thinkOfRain (wsV RX3 206 RX2 yX2_wear wsX2_wear) := goodIn_app (goodIn_r _ [25, 26, 27, 7] rfl (by decide +kernel)) ggX3_thinkOfRain_X2_wear
set_option maxRecDepth 20000 in
theorem ggX3_thinkOfRain_X2_passDay : GoodIn wsX3_thinkOfRain wsX2_passDay := goodIn_r _ [36, 10, 15, 12, 37, 26, 27, 7, 28, 9, 23, 29, 30, 31, 32, 38, 39, 40, 41, 16, 42, 43, 44, 45, 24, 46, 47, 48, 49, 50, 51, 52, 53, 17, 54, 55, 56, 57, 22, 58, 59, 60, 61, 62, 63, 64, 65, 66, 67, 68, 11, 14, 13, 78, 79, 80, 81, 82, 83, 84, 85, 86, 87, 88, 89] rfl (by decide +kernel)
set_option maxRecDepth 20000 in
theorem gX3_thinkOfRain_X2_passDay : GoodIn wsX3_thinkOfRain (wsV RX3 140 RX2 yX2_passDay wsX2_passDay) := goodIn_app (goodIn_r _ [33, 34, 35, 7] rfl (by decide +kernel)) ggX3_thinkOfRain_X2_passDay
theorem dX3_thinkOfRain_0 : decode cX3_thinkOfRain 0 = .ok (.aload_n 0, 1) := by decide +kernel
theorem dX3_thinkOfRain_1 : decode cX3_thinkOfRain 1 = .ok (.getfield 16, 3) := by decide +kernel
theorem dX3_thinkOfRain_4 : decode cX3_thinkOfRain 4 = .ok (.aload_n 0, 1) := by decide +kernel
theorem dX3_thinkOfRain_5 : decode cX3_thinkOfRain 5 = .ok (.getfield 10, 3) := by decide +kernel
theorem dX3_thinkOfRain_8 : decode cX3_thinkOfRain 8 = .ok (.invokevirtual 62, 3) := by decide +kernel
theorem dX3_thinkOfRain_11 : decode cX3_thinkOfRain 11 = .ok (.iconst 0, 1) := by decide +kernel
theorem dX3_thinkOfRain_12 : decode cX3_thinkOfRain 12 = .ok (.istore_n 3, 1) := by decide +kernel
theorem dX3_thinkOfRain_13 : decode cX3_thinkOfRain 13 = .ok (.iload_n 3, 1) := by decide +kernel
theorem dX3_thinkOfRain_14 : decode cX3_thinkOfRain 14 = .ok (.iload_n 1, 1) := by decide +kernel
theorem dX3_thinkOfRain_15 : decode cX3_thinkOfRain 15 = .ok (.if_icmp .ge 39, 3) := by decide +kernel
theorem dX3_thinkOfRain_18 : decode cX3_thinkOfRain 18 = .ok (.iload_n 2, 1) := by decide +kernel
theorem dX3_thinkOfRain_19 : decode cX3_thinkOfRain 19 = .ok (.iload_n 3, 1) := by decide +kernel
theorem dX3_thinkOfRain_20 : decode cX3_thinkOfRain 20 = .ok (.ishr, 1) := by decide +kernel
theorem dX3_thinkOfRain_21 : decode cX3_thinkOfRain 21 = .ok (.iconst 1, 1) := by decide +kernel
theorem dX3_thinkOfRain_22 : decode cX3_thinkOfRain 22 = .ok (.iand, 1) := by decide +kernel
theorem dX3_thinkOfRain_23 : decode cX3_thinkOfRain 23 = .ok (.iconst 1, 1) := by decide +kernel
theorem dX3_thinkOfRain_24 : decode cX3_thinkOfRain 24 = .ok (.if_icmp .ne 17, 3) := by decide +kernel
theorem dX3_thinkOfRain_27 : decode cX3_thinkOfRain 27 = .ok (.aload_n 0, 1) := by decide +kernel
theorem dX3_thinkOfRain_28 : decode cX3_thinkOfRain 28 = .ok (.getfield 16, 3) := by decide +kernel
theorem dX3_thinkOfRain_31 : decode cX3_thinkOfRain 31 = .ok (.aload_n 0, 1) := by decide +kernel
theorem dX3_thinkOfRain_32 : decode cX3_thinkOfRain 32 = .ok (.getfield 16, 3) := by decide +kernel
theorem dX3_thinkOfRain_35 : decode cX3_thinkOfRain 35 = .ok (.getfield 86, 3) := by decide +kernel
theorem dX3_thinkOfRain_38 : decode cX3_thinkOfRain 38 = .ok (.invokevirtual 206, 3) := by decide +kernel
theorem dX3_thinkOfRain_41 : decode cX3_thinkOfRain 41 = .ok (.aload_n 0, 1) := by decide +kernel
theorem dX3_thinkOfRain_42 : decode cX3_thinkOfRain 42 = .ok (.getfield 16, 3) := by decide +kernel
theorem dX3_thinkOfRain_45 : decode cX3_thinkOfRain 45 = .ok (.invokevirtual 140, 3) := by decide +kernel
theorem dX3_thinkOfRain_48 : decode cX3_thinkOfRain 48 = .ok (.iinc 3 1, 3) := by decide +kernel
theorem dX3_thinkOfRain_51 : decode cX3_thinkOfRain 51 = .ok (.goto (-38), 3) := by decide +kernel
theorem dX3_thinkOfRain_54 : decode cX3_thinkOfRain 54 = .ok (.return_, 1) := by decide +kernel
set_option maxRecDepth 20000 in
theorem ggX3_mean_X3_refuseLong : GoodIn wsX3_mean wsX3_refuseLong := goodIn_r _ [11, 12, 13, 14, 15, 10, 16, 17, 50, 51, 52, 53, 54, 55, 56, 57, 58] rfl (by decide +kernel)
set_option maxRecDepth 20000 in
theorem gX3_mean_X3_refuseLong : GoodIn wsX3_mean (wsV RX3 191 RX3 yX3_refuseLong wsX3_refuseLong) := goodIn_app (goodIn_r _ [7, 8, 9, 10] rfl (by decide +kernel)) ggX3_mean_X3_refuseLong
set_option maxRecDepth 20000 in
theorem ggX3_mean_X2_nestOf : GoodIn wsX3_mean wsX2_nestOf := goodIn_r _ [22, 23, 24, 59, 60, 61, 62, 63, 64, 65, 66, 67, 68, 69, 70] rfl (by decide +kernel)
set_option maxRecDepth 20000 in
theorem gX3_mean_X2_nestOf : GoodIn wsX3_mean (wsV RX3 101 RX2 yX2_nestOf wsX2_nestOf) := goodIn_app (goodIn_r _ [18, 19, 20, 21] rfl (by decide +kernel)) ggX3_mean_X2_nestOf
set_option maxRecDepth 20000 in
theorem ggX3_mean_X2_softOf : GoodIn wsX3_mean wsX2_softOf := goodIn_r _ [28, 29, 30, 31, 32, 33, 21, 34, 35, 36, 37, 38, 39, 40, 59, 60, 61, 62, 63, 64, 65, 66, 67, 68, 69, 70] rfl (by decide +kernel)
set_option maxRecDepth 20000 in
theorem gX3_mean_X2_softOf : GoodIn wsX3_mean (wsV RX3 89 RX2 yX2_softOf wsX2_softOf) := goodIn_app (goodIn_r _ [25, 26, 27, 21] rfl (by decide +kernel)) ggX3_mean_X2_softOf
set_option maxRecDepth 20000 in
theorem ggX3_mean_X3_partOfFraction : GoodIn wsX3_mean wsX3_partOfFraction := goodIn_r _ [43, 44, 45, 5, 46, 47, 48, 10, 49] rfl (by decide +kernel)
set_option maxRecDepth 20000 in
theorem gX3_mean_X3_partOfFraction : GoodIn wsX3_mean (va_wsS RX3 202 yX3_partOfFraction wsX3_partOfFraction) := goodIn_app (goodIn_r _ [41, 42, 10] rfl (by decide +kernel)) ggX3_mean_X3_partOfFraction
theorem dX3_mean_0 : decode cX3_mean 0 = .ok (.iload_n 1, 1) := by decide +kernel
theorem dX3_mean_1 : decode cX3_mean 1 = .ok (.ifCond .lt 8, 3) := by decide +kernel
theorem dX3_mean_4 : decode cX3_mean 4 = .ok (.iload_n 1, 1) := by decide +kernel
theorem dX3_mean_5 : decode cX3_mean 5 = .ok (.iconst 1, 1) := by decide +kernel
theorem dX3_mean_6 : decode cX3_mean 6 = .ok (.if_icmp .le 10, 3) := by decide +kernel
theorem dX3_mean_9 : decode cX3_mean 9 = .ok (.aload_n 0, 1) := by decide +kernel
theorem dX3_mean_10 : decode cX3_mean 10 = .ok (.bipush (-2), 2) := by decide +kernel
theorem dX3_mean_12 : decode cX3_mean 12 = .ok (.invokevirtual 191, 3) := by decide +kernel
theorem dX3_mean_15 : decode cX3_mean 15 = .ok (.lreturn, 1) := by decide +kernel
theorem dX3_mean_16 : decode cX3_mean 16 = .ok (.iconst 0, 1) := by decide +kernel
theorem dX3_mean_17 : decode cX3_mean 17 = .ok (.istore_n 2, 1) := by decide +kernel
theorem dX3_mean_18 : decode cX3_mean 18 = .ok (.iconst 0, 1) := by decide +kernel
theorem dX3_mean_19 : decode cX3_mean 19 = .ok (.istore_n 3, 1) := by decide +kernel
theorem dX3_mean_20 : decode cX3_mean 20 = .ok (.iload_n 3, 1) := by decide +kernel
theorem dX3_mean_21 : decode cX3_mean 21 = .ok (.iconst 4, 1) := by decide +kernel
theorem dX3_mean_22 : decode cX3_mean 22 = .ok (.if_icmp .ge 23, 3) := by decide +kernel
theorem dX3_mean_25 : decode cX3_mean 25 = .ok (.aload_n 0, 1) := by decide +kernel
theorem dX3_mean_26 : decode cX3_mean 26 = .ok (.getfield 10, 3) := by decide +kernel
theorem dX3_mean_29 : decode cX3_mean 29 = .ok (.iload_n 3, 1) := by decide +kernel
theorem dX3_mean_30 : decode cX3_mean 30 = .ok (.invokevirtual 101, 3) := by decide +kernel
theorem dX3_mean_33 : decode cX3_mean 33 = .ok (.ifCond .eq 6, 3) := by decide +kernel
theorem dX3_mean_36 : decode cX3_mean 36 = .ok (.iinc 2 1, 3) := by decide +kernel
theorem dX3_mean_39 : decode cX3_mean 39 = .ok (.iinc 3 1, 3) := by decide +kernel
theorem dX3_mean_42 : decode cX3_mean 42 = .ok (.goto (-22), 3) := by decide +kernel
theorem dX3_mean_45 : decode cX3_mean 45 = .ok (.aload_n 0, 1) := by decide +kernel
theorem dX3_mean_46 : decode cX3_mean 46 = .ok (.getfield 10, 3) := by decide +kernel
theorem dX3_mean_49 : decode cX3_mean 49 = .ok (.aload_n 0, 1) := by decide +kernel
theorem dX3_mean_50 : decode cX3_mean 50 = .ok (.getfield 10, 3) := by decide +kernel
theorem dX3_mean_53 : decode cX3_mean 53 = .ok (.getfield 86, 3) := by decide +kernel
theorem dX3_mean_56 : decode cX3_mean 56 = .ok (.invokevirtual 89, 3) := by decide +kernel
theorem dX3_mean_59 : decode cX3_mean 59 = .ok (.i2l, 1) := by decide +kernel
theorem dX3_mean_60 : decode cX3_mean 60 = .ok (.iconst 1, 1) := by decide +kernel
theorem dX3_mean_61 : decode cX3_mean 61 = .ok (.iload_n 2, 1) := by decide +kernel
theorem dX3_mean_62 : decode cX3_mean 62 = .ok (.invokestatic 107, 3) := by decide +kernel
theorem dX3_mean_65 : decode cX3_mean 65 = .ok (.i2l, 1) := by decide +kernel
theorem dX3_mean_66 : decode cX3_mean 66 = .ok (.iload_n 1, 1) := by decide +kernel
theorem dX3_mean_67 : decode cX3_mean 67 = .ok (.invokestatic 202, 3) := by decide +kernel
theorem dX3_mean_70 : decode cX3_mean 70 = .ok (.lreturn, 1) := by decide +kernel
theorem dX3_power_0 : decode cX3_power 0 = .ok (.lconst 1, 1) := by decide +kernel
theorem dX3_power_1 : decode cX3_power 1 = .ok (.lstore_n 3, 1) := by decide +kernel
theorem dX3_power_2 : decode cX3_power 2 = .ok (.iconst 0, 1) := by decide +kernel
theorem dX3_power_3 : decode cX3_power 3 = .ok (.istore 5, 2) := by decide +kernel
theorem dX3_power_5 : decode cX3_power 5 = .ok (.iload 5, 2) := by decide +kernel
theorem dX3_power_7 : decode cX3_power 7 = .ok (.iload_n 2, 1) := by decide +kernel
theorem dX3_power_8 : decode cX3_power 8 = .ok (.if_icmp .ge 13, 3) := by decide +kernel
theorem dX3_power_11 : decode cX3_power 11 = .ok (.lload_n 3, 1) := by decide +kernel
theorem dX3_power_12 : decode cX3_power 12 = .ok (.lload_n 0, 1) := by decide +kernel
theorem dX3_power_13 : decode cX3_power 13 = .ok (.lmul, 1) := by decide +kernel
theorem dX3_power_14 : decode cX3_power 14 = .ok (.lstore_n 3, 1) := by decide +kernel
theorem dX3_power_15 : decode cX3_power 15 = .ok (.iinc 5 1, 3) := by decide +kernel
theorem dX3_power_18 : decode cX3_power 18 = .ok (.goto (-13), 3) := by decide +kernel
theorem dX3_power_21 : decode cX3_power 21 = .ok (.lload_n 3, 1) := by decide +kernel
theorem dX3_power_22 : decode cX3_power 22 = .ok (.lreturn, 1) := by decide +kernel
set_option maxRecDepth 20000 in
theorem ggX3_partOfFraction_X3_commonDivisor : GoodIn wsX3_partOfFraction wsX3_commonDivisor := goodIn_r _ [8] rfl (by decide +kernel)
set_option maxRecDepth 20000 in
theorem gX3_partOfFraction_X3_commonDivisor : GoodIn wsX3_partOfFraction (va_wsS RX3 209 yX3_commonDivisor wsX3_commonDivisor) := goodIn_app (goodIn_r _ [5, 6, 7] rfl (by decide +kernel)) ggX3_partOfFraction_X3_commonDivisor
theorem dX3_partOfFraction_0 : decode cX3_partOfFraction 0 = .ok (.lconst 1, 1) := by decide +kernel
theorem dX3_partOfFraction_1 : decode cX3_partOfFraction 1 = .ok (.lload_n 0, 1) := by decide +kernel
theorem dX3_partOfFraction_2 : decode cX3_partOfFraction 2 = .ok (.lload_n 2, 1) := by decide +kernel
theorem dX3_partOfFraction_3 : decode cX3_partOfFraction 3 = .ok (.invokestatic 209, 3) := by decide +kernel
theorem dX3_partOfFraction_6 : decode cX3_partOfFraction 6 = .ok (.invokestatic 213, 3) := by decide +kernel
theorem dX3_partOfFraction_9 : decode cX3_partOfFraction 9 = .ok (.lstore 5, 2) := by decide +kernel
theorem dX3_partOfFraction_11 : decode cX3_partOfFraction 11 = .ok (.iload 4, 2) := by decide +kernel
theorem dX3_partOfFraction_13 : decode cX3_partOfFraction 13 = .ok (.ifCond .ne 7, 3) := by decide +kernel
theorem dX3_partOfFraction_16 : decode cX3_partOfFraction 16 = .ok (.lload_n 0, 1) := by decide +kernel
theorem dX3_partOfFraction_17 : decode cX3_partOfFraction 17 = .ok (.goto 4, 3) := by decide +kernel
theorem dX3_partOfFraction_20 : decode cX3_partOfFraction 20 = .ok (.lload_n 2, 1) := by decide +kernel
theorem dX3_partOfFraction_21 : decode cX3_partOfFraction 21 = .ok (.lload 5, 2) := by decide +kernel
theorem dX3_partOfFraction_23 : decode cX3_partOfFraction 23 = .ok (.ldiv, 1) := by decide +kernel
theorem dX3_partOfFraction_24 : decode cX3_partOfFraction 24 = .ok (.lreturn, 1) := by decide +kernel
theorem dX3_commonDivisor_0 : decode cX3_commonDivisor 0 = .ok (.lload_n 0, 1) := by decide +kernel
theorem dX3_commonDivisor_1 : decode cX3_commonDivisor 1 = .ok (.lstore 4, 2) := by decide +kernel
theorem dX3_commonDivisor_3 : decode cX3_commonDivisor 3 = .ok (.lload_n 2, 1) := by decide +kernel
theorem dX3_commonDivisor_4 : decode cX3_commonDivisor 4 = .ok (.lstore 6, 2) := by decide +kernel
theorem dX3_commonDivisor_6 : decode cX3_commonDivisor 6 = .ok (.iconst 0, 1) := by decide +kernel
theorem dX3_commonDivisor_7 : decode cX3_commonDivisor 7 = .ok (.istore 8, 2) := by decide +kernel
theorem dX3_commonDivisor_9 : decode cX3_commonDivisor 9 = .ok (.iload 8, 2) := by decide +kernel
theorem dX3_commonDivisor_11 : decode cX3_commonDivisor 11 = .ok (.bipush 100, 2) := by decide +kernel
theorem dX3_commonDivisor_13 : decode cX3_commonDivisor 13 = .ok (.if_icmp .ge 31, 3) := by decide +kernel
theorem dX3_commonDivisor_16 : decode cX3_commonDivisor 16 = .ok (.lload 6, 2) := by decide +kernel
theorem dX3_commonDivisor_18 : decode cX3_commonDivisor 18 = .ok (.lconst 0, 1) := by decide +kernel
theorem dX3_commonDivisor_19 : decode cX3_commonDivisor 19 = .ok (.lcmp, 1) := by decide +kernel
theorem dX3_commonDivisor_20 : decode cX3_commonDivisor 20 = .ok (.ifCond .eq 24, 3) := by decide +kernel
theorem dX3_commonDivisor_23 : decode cX3_commonDivisor 23 = .ok (.lload 4, 2) := by decide +kernel
theorem dX3_commonDivisor_25 : decode cX3_commonDivisor 25 = .ok (.lload 6, 2) := by decide +kernel
theorem dX3_commonDivisor_27 : decode cX3_commonDivisor 27 = .ok (.lrem, 1) := by decide +kernel
theorem dX3_commonDivisor_28 : decode cX3_commonDivisor 28 = .ok (.lstore 9, 2) := by decide +kernel
theorem dX3_commonDivisor_30 : decode cX3_commonDivisor 30 = .ok (.lload 6, 2) := by decide +kernel
theorem dX3_commonDivisor_32 : decode cX3_commonDivisor 32 = .ok (.lstore 4, 2) := by decide +kernel
theorem dX3_commonDivisor_34 : decode cX3_commonDivisor 34 = .ok (.lload 9, 2) := by decide +kernel
theorem dX3_commonDivisor_36 : decode cX3_commonDivisor 36 = .ok (.lstore 6, 2) := by decide +kernel
theorem dX3_commonDivisor_38 : decode cX3_commonDivisor 38 = .ok (.iinc 8 1, 3) := by decide +kernel
theorem dX3_commonDivisor_41 : decode cX3_commonDivisor 41 = .ok (.goto (-32), 3) := by decide +kernel
theorem dX3_commonDivisor_44 : decode cX3_commonDivisor 44 = .ok (.lload 4, 2) := by decide +kernel
theorem dX3_commonDivisor_46 : decode cX3_commonDivisor 46 = .ok (.lreturn, 1) := by decide +kernel
set_option maxRecDepth 20000 in
theorem ggX3_whatWas_X2_knows : GoodIn wsX3_whatWas wsX2_knows := goodIn_r _ [9, 10, 106, 107, 108, 109, 110, 111, 112, 113, 114, 115, 116, 117] rfl (by decide +kernel)
set_option maxRecDepth 20000 in
theorem gX3_whatWas_X2_knows : GoodIn wsX3_whatWas (wsV RX3 70 RX2 yX2_knows wsX2_knows) := goodIn_app (goodIn_r _ [5, 6, 7, 8] rfl (by decide +kernel)) ggX3_whatWas_X2_knows
set_option maxRecDepth 20000 in
theorem ggX3_whatWas_X3_refuse : GoodIn wsX3_whatWas wsX3_refuse := goodIn_r _ [15, 16, 97, 98, 99, 100, 101, 102, 103, 104, 105] rfl (by decide +kernel)
set_option maxRecDepth 20000 in
theorem gX3_whatWas_X3_refuse : GoodIn wsX3_whatWas (wsV RX3 47 RX3 yX3_refuse wsX3_refuse) := goodIn_app (goodIn_r _ [11, 12, 13, 14] rfl (by decide +kernel)) ggX3_whatWas_X3_refuse
set_option maxRecDepth 20000 in
theorem ggX3_whatWas_X2_becomes : GoodIn wsX3_whatWas wsX2_becomes := goodIn_r _ [20, 10, 21, 22, 23, 24, 25, 26, 27, 28, 29, 30, 31, 32, 33, 34, 35, 106, 107, 108, 109, 110, 111, 112, 113, 114, 115, 116, 117] rfl (by decide +kernel)
set_option maxRecDepth 20000 in
theorem gX3_whatWas_X2_becomes : GoodIn wsX3_whatWas (wsV RX3 62 RX2 yX2_becomes wsX2_becomes) := goodIn_app (goodIn_r _ [17, 18, 19, 8] rfl (by decide +kernel)) ggX3_whatWas_X2_becomes
set_option maxRecDepth 20000 in
theorem ggX3_whatWas_X2_whom : GoodIn wsX3_whatWas wsX2_whom := goodIn_r _ [39, 35, 106, 107, 108, 109, 110, 111, 112, 113, 114, 115, 116, 117] rfl (by decide +kernel)
set_option maxRecDepth 20000 in
theorem gX3_whatWas_X2_whom : GoodIn wsX3_whatWas (wsV RX3 80 RX2 yX2_whom wsX2_whom) := goodIn_app (goodIn_r _ [36, 37, 38, 8] rfl (by decide +kernel)) ggX3_whatWas_X2_whom
set_option maxRecDepth 20000 in
theorem ggX3_whatWas_X3_rowIsSoftOf : GoodIn wsX3_whatWas wsX3_rowIsSoftOf := goodIn_r _ [43, 44, 45, 2, 46, 47, 48, 8, 49, 35, 23, 50, 51, 52, 53, 10, 28, 54, 55, 56, 57, 34, 33, 58, 59, 60, 61, 62, 63, 64, 65, 21, 26, 66, 67, 68, 69, 70, 71, 72, 73, 74, 75, 76, 77, 27, 78, 79, 80, 81, 82, 83, 84, 85, 86, 87, 88, 89, 90, 91, 92, 93, 94, 95, 96, 22, 25, 24, 97, 98, 99, 100, 101, 102, 103, 104, 105, 106, 107, 108, 109, 110, 111, 112, 113, 114, 115, 116, 117] rfl (by decide +kernel)
set_option maxRecDepth 20000 in
theorem gX3_whatWas_X3_rowIsSoftOf : GoodIn wsX3_whatWas (wsV RX3 215 RX3 yX3_rowIsSoftOf wsX3_rowIsSoftOf) := goodIn_app (goodIn_r _ [40, 41, 42, 14] rfl (by decide +kernel)) ggX3_whatWas_X3_rowIsSoftOf
theorem dX3_whatWas_0 : decode cX3_whatWas 0 = .ok (.aload_n 0, 1) := by decide +kernel
theorem dX3_whatWas_1 : decode cX3_whatWas 1 = .ok (.getfield 10, 3) := by decide +kernel
theorem dX3_whatWas_4 : decode cX3_whatWas 4 = .ok (.iload_n 1, 1) := by decide +kernel
theorem dX3_whatWas_5 : decode cX3_whatWas 5 = .ok (.invokevirtual 70, 3) := by decide +kernel
theorem dX3_whatWas_8 : decode cX3_whatWas 8 = .ok (.ifCond .ne 9, 3) := by decide +kernel
theorem dX3_whatWas_11 : decode cX3_whatWas 11 = .ok (.aload_n 0, 1) := by decide +kernel
theorem dX3_whatWas_12 : decode cX3_whatWas 12 = .ok (.iconst (-1), 1) := by decide +kernel
theorem dX3_whatWas_13 : decode cX3_whatWas 13 = .ok (.invokevirtual 47, 3) := by decide +kernel
theorem dX3_whatWas_16 : decode cX3_whatWas 16 = .ok (.ireturn, 1) := by decide +kernel
theorem dX3_whatWas_17 : decode cX3_whatWas 17 = .ok (.iload_n 2, 1) := by decide +kernel
theorem dX3_whatWas_18 : decode cX3_whatWas 18 = .ok (.ifCond .lt 8, 3) := by decide +kernel
theorem dX3_whatWas_21 : decode cX3_whatWas 21 = .ok (.iload_n 2, 1) := by decide +kernel
theorem dX3_whatWas_22 : decode cX3_whatWas 22 = .ok (.iconst 1, 1) := by decide +kernel
theorem dX3_whatWas_23 : decode cX3_whatWas 23 = .ok (.if_icmp .le 10, 3) := by decide +kernel
theorem dX3_whatWas_26 : decode cX3_whatWas 26 = .ok (.aload_n 0, 1) := by decide +kernel
theorem dX3_whatWas_27 : decode cX3_whatWas 27 = .ok (.bipush (-2), 2) := by decide +kernel
theorem dX3_whatWas_29 : decode cX3_whatWas 29 = .ok (.invokevirtual 47, 3) := by decide +kernel
theorem dX3_whatWas_32 : decode cX3_whatWas 32 = .ok (.ireturn, 1) := by decide +kernel
theorem dX3_whatWas_33 : decode cX3_whatWas 33 = .ok (.iload_n 2, 1) := by decide +kernel
theorem dX3_whatWas_34 : decode cX3_whatWas 34 = .ok (.ifCond .ne 8, 3) := by decide +kernel
theorem dX3_whatWas_37 : decode cX3_whatWas 37 = .ok (.bipush 6, 2) := by decide +kernel
theorem dX3_whatWas_39 : decode cX3_whatWas 39 = .ok (.goto 5, 3) := by decide +kernel
theorem dX3_whatWas_42 : decode cX3_whatWas 42 = .ok (.bipush 10, 2) := by decide +kernel
theorem dX3_whatWas_44 : decode cX3_whatWas 44 = .ok (.istore_n 3, 1) := by decide +kernel
theorem dX3_whatWas_45 : decode cX3_whatWas 45 = .ok (.iconst 0, 1) := by decide +kernel
theorem dX3_whatWas_46 : decode cX3_whatWas 46 = .ok (.istore 4, 2) := by decide +kernel
theorem dX3_whatWas_48 : decode cX3_whatWas 48 = .ok (.iconst 0, 1) := by decide +kernel
theorem dX3_whatWas_49 : decode cX3_whatWas 49 = .ok (.istore 5, 2) := by decide +kernel
theorem dX3_whatWas_51 : decode cX3_whatWas 51 = .ok (.iload 5, 2) := by decide +kernel
theorem dX3_whatWas_53 : decode cX3_whatWas 53 = .ok (.iload_n 3, 1) := by decide +kernel
theorem dX3_whatWas_54 : decode cX3_whatWas 54 = .ok (.if_icmp .ge 73, 3) := by decide +kernel
theorem dX3_whatWas_57 : decode cX3_whatWas 57 = .ok (.aload_n 0, 1) := by decide +kernel
theorem dX3_whatWas_58 : decode cX3_whatWas 58 = .ok (.getfield 16, 3) := by decide +kernel
theorem dX3_whatWas_61 : decode cX3_whatWas 61 = .ok (.aload_n 0, 1) := by decide +kernel
theorem dX3_whatWas_62 : decode cX3_whatWas 62 = .ok (.getfield 10, 3) := by decide +kernel
theorem dX3_whatWas_65 : decode cX3_whatWas 65 = .ok (.invokevirtual 62, 3) := by decide +kernel
theorem dX3_whatWas_68 : decode cX3_whatWas 68 = .ok (.iload_n 2, 1) := by decide +kernel
theorem dX3_whatWas_69 : decode cX3_whatWas 69 = .ok (.ifCond .ne 17, 3) := by decide +kernel
theorem dX3_whatWas_72 : decode cX3_whatWas 72 = .ok (.aload_n 0, 1) := by decide +kernel
theorem dX3_whatWas_73 : decode cX3_whatWas 73 = .ok (.getfield 16, 3) := by decide +kernel
theorem dX3_whatWas_76 : decode cX3_whatWas 76 = .ok (.getfield 74, 3) := by decide +kernel
theorem dX3_whatWas_79 : decode cX3_whatWas 79 = .ok (.iload_n 1, 1) := by decide +kernel
theorem dX3_whatWas_80 : decode cX3_whatWas 80 = .ok (.iload 5, 2) := by decide +kernel
theorem dX3_whatWas_82 : decode cX3_whatWas 82 = .ok (.iastore, 1) := by decide +kernel
theorem dX3_whatWas_83 : decode cX3_whatWas 83 = .ok (.goto 14, 3) := by decide +kernel
theorem dX3_whatWas_86 : decode cX3_whatWas 86 = .ok (.aload_n 0, 1) := by decide +kernel
theorem dX3_whatWas_87 : decode cX3_whatWas 87 = .ok (.getfield 16, 3) := by decide +kernel
theorem dX3_whatWas_90 : decode cX3_whatWas 90 = .ok (.getfield 77, 3) := by decide +kernel
theorem dX3_whatWas_93 : decode cX3_whatWas 93 = .ok (.iload_n 1, 1) := by decide +kernel
theorem dX3_whatWas_94 : decode cX3_whatWas 94 = .ok (.iload 5, 2) := by decide +kernel
theorem dX3_whatWas_96 : decode cX3_whatWas 96 = .ok (.iastore, 1) := by decide +kernel
theorem dX3_whatWas_97 : decode cX3_whatWas 97 = .ok (.aload_n 0, 1) := by decide +kernel
theorem dX3_whatWas_98 : decode cX3_whatWas 98 = .ok (.aload_n 0, 1) := by decide +kernel
theorem dX3_whatWas_99 : decode cX3_whatWas 99 = .ok (.getfield 10, 3) := by decide +kernel
theorem dX3_whatWas_102 : decode cX3_whatWas 102 = .ok (.iload_n 1, 1) := by decide +kernel
theorem dX3_whatWas_103 : decode cX3_whatWas 103 = .ok (.invokevirtual 80, 3) := by decide +kernel
theorem dX3_whatWas_106 : decode cX3_whatWas 106 = .ok (.invokevirtual 215, 3) := by decide +kernel
theorem dX3_whatWas_109 : decode cX3_whatWas 109 = .ok (.ifCond .eq 12, 3) := by decide +kernel
theorem dX3_whatWas_112 : decode cX3_whatWas 112 = .ok (.iload 4, 2) := by decide +kernel
theorem dX3_whatWas_114 : decode cX3_whatWas 114 = .ok (.iconst 1, 1) := by decide +kernel
theorem dX3_whatWas_115 : decode cX3_whatWas 115 = .ok (.iload 5, 2) := by decide +kernel
theorem dX3_whatWas_117 : decode cX3_whatWas 117 = .ok (.ishl, 1) := by decide +kernel
theorem dX3_whatWas_118 : decode cX3_whatWas 118 = .ok (.ior, 1) := by decide +kernel
theorem dX3_whatWas_119 : decode cX3_whatWas 119 = .ok (.istore 4, 2) := by decide +kernel
theorem dX3_whatWas_121 : decode cX3_whatWas 121 = .ok (.iinc 5 1, 3) := by decide +kernel
theorem dX3_whatWas_124 : decode cX3_whatWas 124 = .ok (.goto (-73), 3) := by decide +kernel
theorem dX3_whatWas_127 : decode cX3_whatWas 127 = .ok (.iload 4, 2) := by decide +kernel
theorem dX3_whatWas_129 : decode cX3_whatWas 129 = .ok (.ireturn, 1) := by decide +kernel
set_option maxRecDepth 20000 in
theorem ggX3_rowIsSoftOf_X2_nestOf : GoodIn wsX3_rowIsSoftOf wsX2_nestOf := goodIn_r _ [8, 9, 10, 77, 78, 79, 80, 81, 82, 83, 84, 85, 86, 87, 88] rfl (by decide +kernel)
set_option maxRecDepth 20000 in
theorem gX3_rowIsSoftOf_X2_nestOf : GoodIn wsX3_rowIsSoftOf (wsV RX3 101 RX2 yX2_nestOf wsX2_nestOf) := goodIn_app (goodIn_r _ [4, 5, 6, 7] rfl (by decide +kernel)) ggX3_rowIsSoftOf_X2_nestOf
set_option maxRecDepth 20000 in
theorem ggX3_rowIsSoftOf_X2_softOf : GoodIn wsX3_rowIsSoftOf wsX2_softOf := goodIn_r _ [14, 15, 16, 17, 18, 19, 7, 20, 21, 22, 23, 24, 25, 26, 77, 78, 79, 80, 81, 82, 83, 84, 85, 86, 87, 88] rfl (by decide +kernel)
set_option maxRecDepth 20000 in
theorem gX3_rowIsSoftOf_X2_softOf : GoodIn wsX3_rowIsSoftOf (wsV RX3 89 RX2 yX2_softOf wsX2_softOf) := goodIn_app (goodIn_r _ [11, 12, 13, 7] rfl (by decide +kernel)) ggX3_rowIsSoftOf_X2_softOf
set_option maxRecDepth 20000 in
theorem ggX3_rowIsSoftOf_X2_passDay : GoodIn wsX3_rowIsSoftOf wsX2_passDay := goodIn_r _ [30, 31, 32, 10, 33, 34, 35, 7, 36, 15, 21, 37, 38, 39, 40, 41, 42, 43, 44, 45, 46, 47, 48, 49, 9, 50, 5, 6, 8, 51, 52, 53, 54, 16, 17, 18, 19, 20, 22, 55, 56, 25, 57, 58, 59, 60, 61, 62, 63, 64, 65, 66, 67, 77, 78, 79, 80, 81, 82, 83, 84, 85, 86, 87, 88] rfl (by decide +kernel)
set_option maxRecDepth 20000 in
theorem gX3_rowIsSoftOf_X2_passDay : GoodIn wsX3_rowIsSoftOf (wsV RX3 140 RX2 yX2_passDay wsX2_passDay) := goodIn_app (goodIn_r _ [27, 28, 29, 7] rfl (by decide +kernel)) ggX3_rowIsSoftOf_X2_passDay
theorem dX3_rowIsSoftOf_0 : decode cX3_rowIsSoftOf 0 = .ok (.iconst 0, 1) := by decide +kernel
theorem dX3_rowIsSoftOf_1 : decode cX3_rowIsSoftOf 1 = .ok (.istore_n 2, 1) := by decide +kernel
theorem dX3_rowIsSoftOf_2 : decode cX3_rowIsSoftOf 2 = .ok (.iload_n 2, 1) := by decide +kernel
theorem dX3_rowIsSoftOf_3 : decode cX3_rowIsSoftOf 3 = .ok (.aload_n 0, 1) := by decide +kernel
theorem dX3_rowIsSoftOf_4 : decode cX3_rowIsSoftOf 4 = .ok (.getfield 37, 3) := by decide +kernel
theorem dX3_rowIsSoftOf_7 : decode cX3_rowIsSoftOf 7 = .ok (.if_icmp .ge 51, 3) := by decide +kernel
theorem dX3_rowIsSoftOf_10 : decode cX3_rowIsSoftOf 10 = .ok (.iload_n 2, 1) := by decide +kernel
theorem dX3_rowIsSoftOf_11 : decode cX3_rowIsSoftOf 11 = .ok (.aload_n 0, 1) := by decide +kernel
theorem dX3_rowIsSoftOf_12 : decode cX3_rowIsSoftOf 12 = .ok (.getfield 33, 3) := by decide +kernel
theorem dX3_rowIsSoftOf_15 : decode cX3_rowIsSoftOf 15 = .ok (.arraylength, 1) := by decide +kernel
theorem dX3_rowIsSoftOf_16 : decode cX3_rowIsSoftOf 16 = .ok (.if_icmp .ge 42, 3) := by decide +kernel
theorem dX3_rowIsSoftOf_19 : decode cX3_rowIsSoftOf 19 = .ok (.aload_n 0, 1) := by decide +kernel
theorem dX3_rowIsSoftOf_20 : decode cX3_rowIsSoftOf 20 = .ok (.getfield 16, 3) := by decide +kernel
theorem dX3_rowIsSoftOf_23 : decode cX3_rowIsSoftOf 23 = .ok (.aload_n 0, 1) := by decide +kernel
theorem dX3_rowIsSoftOf_24 : decode cX3_rowIsSoftOf 24 = .ok (.getfield 16, 3) := by decide +kernel
theorem dX3_rowIsSoftOf_27 : decode cX3_rowIsSoftOf 27 = .ok (.iload_n 1, 1) := by decide +kernel
theorem dX3_rowIsSoftOf_28 : decode cX3_rowIsSoftOf 28 = .ok (.invokevirtual 101, 3) := by decide +kernel
theorem dX3_rowIsSoftOf_31 : decode cX3_rowIsSoftOf 31 = .ok (.invokevirtual 89, 3) := by decide +kernel
theorem dX3_rowIsSoftOf_34 : decode cX3_rowIsSoftOf 34 = .ok (.aload_n 0, 1) := by decide +kernel
theorem dX3_rowIsSoftOf_35 : decode cX3_rowIsSoftOf 35 = .ok (.getfield 33, 3) := by decide +kernel
theorem dX3_rowIsSoftOf_38 : decode cX3_rowIsSoftOf 38 = .ok (.iload_n 2, 1) := by decide +kernel
theorem dX3_rowIsSoftOf_39 : decode cX3_rowIsSoftOf 39 = .ok (.iaload, 1) := by decide +kernel
theorem dX3_rowIsSoftOf_40 : decode cX3_rowIsSoftOf 40 = .ok (.if_icmp .eq 5, 3) := by decide +kernel
theorem dX3_rowIsSoftOf_43 : decode cX3_rowIsSoftOf 43 = .ok (.iconst 0, 1) := by decide +kernel
theorem dX3_rowIsSoftOf_44 : decode cX3_rowIsSoftOf 44 = .ok (.ireturn, 1) := by decide +kernel
theorem dX3_rowIsSoftOf_45 : decode cX3_rowIsSoftOf 45 = .ok (.aload_n 0, 1) := by decide +kernel
theorem dX3_rowIsSoftOf_46 : decode cX3_rowIsSoftOf 46 = .ok (.getfield 16, 3) := by decide +kernel
theorem dX3_rowIsSoftOf_49 : decode cX3_rowIsSoftOf 49 = .ok (.invokevirtual 140, 3) := by decide +kernel
theorem dX3_rowIsSoftOf_52 : decode cX3_rowIsSoftOf 52 = .ok (.iinc 2 1, 3) := by decide +kernel
theorem dX3_rowIsSoftOf_55 : decode cX3_rowIsSoftOf 55 = .ok (.goto (-53), 3) := by decide +kernel
theorem dX3_rowIsSoftOf_58 : decode cX3_rowIsSoftOf 58 = .ok (.iconst 1, 1) := by decide +kernel
theorem dX3_rowIsSoftOf_59 : decode cX3_rowIsSoftOf 59 = .ok (.ireturn, 1) := by decide +kernel
set_option maxRecDepth 20000 in
theorem ggX3_row_X3_refuse : GoodIn wsX3_row wsX3_refuse := goodIn_r _ [7, 8, 9, 10, 11, 12, 13, 14, 15, 16, 17] rfl (by decide +kernel)
set_option maxRecDepth 20000 in
theorem gX3_row_X3_refuse : GoodIn wsX3_row (wsV RX3 47 RX3 yX3_refuse wsX3_refuse) := goodIn_app (goodIn_r _ [3, 4, 5, 6] rfl (by decide +kernel)) ggX3_row_X3_refuse
theorem dX3_row_0 : decode cX3_row 0 = .ok (.iload_n 1, 1) := by decide +kernel
theorem dX3_row_1 : decode cX3_row 1 = .ok (.ifCond .ge 10, 3) := by decide +kernel
theorem dX3_row_4 : decode cX3_row 4 = .ok (.aload_n 0, 1) := by decide +kernel
theorem dX3_row_5 : decode cX3_row 5 = .ok (.bipush (-4), 2) := by decide +kernel
theorem dX3_row_7 : decode cX3_row 7 = .ok (.invokevirtual 47, 3) := by decide +kernel
theorem dX3_row_10 : decode cX3_row 10 = .ok (.ireturn, 1) := by decide +kernel
theorem dX3_row_11 : decode cX3_row 11 = .ok (.iload_n 1, 1) := by decide +kernel
theorem dX3_row_12 : decode cX3_row 12 = .ok (.bipush 99, 2) := by decide +kernel
theorem dX3_row_14 : decode cX3_row 14 = .ok (.if_icmp .gt 15, 3) := by decide +kernel
theorem dX3_row_17 : decode cX3_row 17 = .ok (.aload_n 0, 1) := by decide +kernel
theorem dX3_row_18 : decode cX3_row 18 = .ok (.getfield 37, 3) := by decide +kernel
theorem dX3_row_21 : decode cX3_row 21 = .ok (.aload_n 0, 1) := by decide +kernel
theorem dX3_row_22 : decode cX3_row 22 = .ok (.getfield 33, 3) := by decide +kernel
theorem dX3_row_25 : decode cX3_row 25 = .ok (.arraylength, 1) := by decide +kernel
theorem dX3_row_26 : decode cX3_row 26 = .ok (.if_icmp .lt 10, 3) := by decide +kernel
theorem dX3_row_29 : decode cX3_row 29 = .ok (.aload_n 0, 1) := by decide +kernel
theorem dX3_row_30 : decode cX3_row 30 = .ok (.bipush (-6), 2) := by decide +kernel
theorem dX3_row_32 : decode cX3_row 32 = .ok (.invokevirtual 47, 3) := by decide +kernel
theorem dX3_row_35 : decode cX3_row 35 = .ok (.ireturn, 1) := by decide +kernel
theorem dX3_row_36 : decode cX3_row 36 = .ok (.aload_n 0, 1) := by decide +kernel
theorem dX3_row_37 : decode cX3_row 37 = .ok (.getfield 33, 3) := by decide +kernel
theorem dX3_row_40 : decode cX3_row 40 = .ok (.aload_n 0, 1) := by decide +kernel
theorem dX3_row_41 : decode cX3_row 41 = .ok (.getfield 37, 3) := by decide +kernel
theorem dX3_row_44 : decode cX3_row 44 = .ok (.iload_n 1, 1) := by decide +kernel
theorem dX3_row_45 : decode cX3_row 45 = .ok (.iastore, 1) := by decide +kernel
theorem dX3_row_46 : decode cX3_row 46 = .ok (.aload_n 0, 1) := by decide +kernel
theorem dX3_row_47 : decode cX3_row 47 = .ok (.dup, 1) := by decide +kernel
theorem dX3_row_48 : decode cX3_row 48 = .ok (.getfield 37, 3) := by decide +kernel
theorem dX3_row_51 : decode cX3_row 51 = .ok (.iconst 1, 1) := by decide +kernel
theorem dX3_row_52 : decode cX3_row 52 = .ok (.iadd, 1) := by decide +kernel
theorem dX3_row_53 : decode cX3_row 53 = .ok (.putfield 37, 3) := by decide +kernel
theorem dX3_row_56 : decode cX3_row 56 = .ok (.aload_n 0, 1) := by decide +kernel
theorem dX3_row_57 : decode cX3_row 57 = .ok (.getfield 37, 3) := by decide +kernel
theorem dX3_row_60 : decode cX3_row 60 = .ok (.ireturn, 1) := by decide +kernel
set_option maxRecDepth 20000 in
theorem ggX3_judge_X3_firstWrongOfRow : GoodIn wsX3_judge wsX3_firstWrongOfRow := goodIn_r _ [6, 7, 8, 1, 9, 10, 11, 12, 13, 14, 15, 16, 17, 18, 19, 20, 21, 22, 23, 24, 25, 26, 27, 28, 29, 30, 31, 32, 33, 34, 35, 36, 37, 38, 39, 40, 41, 42, 43, 44, 45, 46, 47, 48, 49, 50, 51, 52, 53, 54, 55, 56, 57, 58, 59, 60, 61, 62, 63, 64, 65, 66, 67, 68, 69, 70, 71, 72, 73, 74, 75, 76, 77, 78, 79, 80, 81, 82, 83, 84, 85, 86, 87, 88, 89, 90, 91, 92, 93, 94, 95, 96, 97, 98, 99, 100, 101, 102] rfl (by decide +kernel)
set_option maxRecDepth 20000 in
theorem gX3_judge_X3_firstWrongOfRow : GoodIn wsX3_judge (wsV RX3 218 RX3 yX3_firstWrongOfRow wsX3_firstWrongOfRow) := goodIn_app (goodIn_r _ [2, 3, 4, 5] rfl (by decide +kernel)) ggX3_judge_X3_firstWrongOfRow
theorem dX3_judge_0 : decode cX3_judge 0 = .ok (.aload_n 0, 1) := by decide +kernel
theorem dX3_judge_1 : decode cX3_judge 1 = .ok (.invokevirtual 218, 3) := by decide +kernel
theorem dX3_judge_4 : decode cX3_judge 4 = .ok (.istore_n 1, 1) := by decide +kernel
theorem dX3_judge_5 : decode cX3_judge 5 = .ok (.aload_n 0, 1) := by decide +kernel
theorem dX3_judge_6 : decode cX3_judge 6 = .ok (.iconst 0, 1) := by decide +kernel
theorem dX3_judge_7 : decode cX3_judge 7 = .ok (.putfield 37, 3) := by decide +kernel
theorem dX3_judge_10 : decode cX3_judge 10 = .ok (.iload_n 1, 1) := by decide +kernel
theorem dX3_judge_11 : decode cX3_judge 11 = .ok (.ireturn, 1) := by decide +kernel
set_option maxRecDepth 20000 in
theorem ggX3_firstWrongOfRow_X2_becomes : GoodIn wsX3_firstWrongOfRow wsX2_becomes := goodIn_r _ [10, 11, 12, 13, 14, 15, 16, 17, 18, 19, 20, 21, 22, 23, 24, 25, 26, 86, 87, 88, 89, 90, 91, 92, 93, 94, 95, 96, 97] rfl (by decide +kernel)
set_option maxRecDepth 20000 in
theorem gX3_firstWrongOfRow_X2_becomes : GoodIn wsX3_firstWrongOfRow (wsV RX3 62 RX2 yX2_becomes wsX2_becomes) := goodIn_app (goodIn_r _ [6, 7, 8, 9] rfl (by decide +kernel)) ggX3_firstWrongOfRow_X2_becomes
set_option maxRecDepth 20000 in
theorem ggX3_firstWrongOfRow_J6_bitCount_0f7a4 : GoodIn wsX3_firstWrongOfRow wsJ6_bitCount_0f7a4 := goodIn_r _ [30, 31, 32, 33] rfl (by decide +kernel)
set_option maxRecDepth 20000 in
theorem gX3_firstWrongOfRow_J6_bitCount_0f7a4 : GoodIn wsX3_firstWrongOfRow (va_wsS RX3 123 yJ6_bitCount_0f7a4 wsJ6_bitCount_0f7a4) := goodIn_app (goodIn_r _ [27, 28, 29] rfl (by decide +kernel)) ggX3_firstWrongOfRow_J6_bitCount_0f7a4
set_option maxRecDepth 20000 in
theorem ggX3_firstWrongOfRow_X2_passDay : GoodIn wsX3_firstWrongOfRow wsX2_passDay := goodIn_r _ [37, 12, 17, 14, 38, 39, 40, 9, 41, 11, 25, 42, 43, 44, 45, 46, 47, 48, 49, 18, 50, 51, 52, 53, 26, 54, 55, 56, 57, 58, 59, 60, 61, 19, 62, 63, 64, 65, 24, 66, 67, 68, 69, 70, 71, 72, 73, 74, 75, 76, 13, 16, 15, 86, 87, 88, 89, 90, 91, 92, 93, 94, 95, 96, 97] rfl (by decide +kernel)
set_option maxRecDepth 20000 in
theorem gX3_firstWrongOfRow_X2_passDay : GoodIn wsX3_firstWrongOfRow (wsV RX3 140 RX2 yX2_passDay wsX2_passDay) := goodIn_app (goodIn_r _ [34, 35, 36, 9] rfl (by decide +kernel)) ggX3_firstWrongOfRow_X2_passDay
theorem dX3_firstWrongOfRow_0 : decode cX3_firstWrongOfRow 0 = .ok (.aload_n 0, 1) := by decide +kernel
theorem dX3_firstWrongOfRow_1 : decode cX3_firstWrongOfRow 1 = .ok (.getfield 16, 3) := by decide +kernel
theorem dX3_firstWrongOfRow_4 : decode cX3_firstWrongOfRow 4 = .ok (.aload_n 0, 1) := by decide +kernel
theorem dX3_firstWrongOfRow_5 : decode cX3_firstWrongOfRow 5 = .ok (.getfield 10, 3) := by decide +kernel
theorem dX3_firstWrongOfRow_8 : decode cX3_firstWrongOfRow 8 = .ok (.invokevirtual 62, 3) := by decide +kernel
theorem dX3_firstWrongOfRow_11 : decode cX3_firstWrongOfRow 11 = .ok (.iconst 0, 1) := by decide +kernel
theorem dX3_firstWrongOfRow_12 : decode cX3_firstWrongOfRow 12 = .ok (.istore_n 1, 1) := by decide +kernel
theorem dX3_firstWrongOfRow_13 : decode cX3_firstWrongOfRow 13 = .ok (.iload_n 1, 1) := by decide +kernel
theorem dX3_firstWrongOfRow_14 : decode cX3_firstWrongOfRow 14 = .ok (.aload_n 0, 1) := by decide +kernel
theorem dX3_firstWrongOfRow_15 : decode cX3_firstWrongOfRow 15 = .ok (.getfield 37, 3) := by decide +kernel
theorem dX3_firstWrongOfRow_18 : decode cX3_firstWrongOfRow 18 = .ok (.if_icmp .ge 46, 3) := by decide +kernel
theorem dX3_firstWrongOfRow_21 : decode cX3_firstWrongOfRow 21 = .ok (.iload_n 1, 1) := by decide +kernel
theorem dX3_firstWrongOfRow_22 : decode cX3_firstWrongOfRow 22 = .ok (.aload_n 0, 1) := by decide +kernel
theorem dX3_firstWrongOfRow_23 : decode cX3_firstWrongOfRow 23 = .ok (.getfield 33, 3) := by decide +kernel
theorem dX3_firstWrongOfRow_26 : decode cX3_firstWrongOfRow 26 = .ok (.arraylength, 1) := by decide +kernel
theorem dX3_firstWrongOfRow_27 : decode cX3_firstWrongOfRow 27 = .ok (.if_icmp .ge 37, 3) := by decide +kernel
theorem dX3_firstWrongOfRow_30 : decode cX3_firstWrongOfRow 30 = .ok (.aload_n 0, 1) := by decide +kernel
theorem dX3_firstWrongOfRow_31 : decode cX3_firstWrongOfRow 31 = .ok (.getfield 16, 3) := by decide +kernel
theorem dX3_firstWrongOfRow_34 : decode cX3_firstWrongOfRow 34 = .ok (.getfield 86, 3) := by decide +kernel
theorem dX3_firstWrongOfRow_37 : decode cX3_firstWrongOfRow 37 = .ok (.invokestatic 123, 3) := by decide +kernel
theorem dX3_firstWrongOfRow_40 : decode cX3_firstWrongOfRow 40 = .ok (.aload_n 0, 1) := by decide +kernel
theorem dX3_firstWrongOfRow_41 : decode cX3_firstWrongOfRow 41 = .ok (.getfield 33, 3) := by decide +kernel
theorem dX3_firstWrongOfRow_44 : decode cX3_firstWrongOfRow 44 = .ok (.iload_n 1, 1) := by decide +kernel
theorem dX3_firstWrongOfRow_45 : decode cX3_firstWrongOfRow 45 = .ok (.iaload, 1) := by decide +kernel
theorem dX3_firstWrongOfRow_46 : decode cX3_firstWrongOfRow 46 = .ok (.if_icmp .eq 5, 3) := by decide +kernel
theorem dX3_firstWrongOfRow_49 : decode cX3_firstWrongOfRow 49 = .ok (.iload_n 1, 1) := by decide +kernel
theorem dX3_firstWrongOfRow_50 : decode cX3_firstWrongOfRow 50 = .ok (.ireturn, 1) := by decide +kernel
theorem dX3_firstWrongOfRow_51 : decode cX3_firstWrongOfRow 51 = .ok (.aload_n 0, 1) := by decide +kernel
theorem dX3_firstWrongOfRow_52 : decode cX3_firstWrongOfRow 52 = .ok (.getfield 16, 3) := by decide +kernel
theorem dX3_firstWrongOfRow_55 : decode cX3_firstWrongOfRow 55 = .ok (.invokevirtual 140, 3) := by decide +kernel
theorem dX3_firstWrongOfRow_58 : decode cX3_firstWrongOfRow 58 = .ok (.iinc 1 1, 3) := by decide +kernel
theorem dX3_firstWrongOfRow_61 : decode cX3_firstWrongOfRow 61 = .ok (.goto (-48), 3) := by decide +kernel
theorem dX3_firstWrongOfRow_64 : decode cX3_firstWrongOfRow 64 = .ok (.bipush (-9), 2) := by decide +kernel
theorem dX3_firstWrongOfRow_66 : decode cX3_firstWrongOfRow 66 = .ok (.ireturn, 1) := by decide +kernel
theorem dX3_clear_0 : decode cX3_clear 0 = .ok (.aload_n 0, 1) := by decide +kernel
theorem dX3_clear_1 : decode cX3_clear 1 = .ok (.getfield 37, 3) := by decide +kernel
theorem dX3_clear_4 : decode cX3_clear 4 = .ok (.istore_n 1, 1) := by decide +kernel
theorem dX3_clear_5 : decode cX3_clear 5 = .ok (.aload_n 0, 1) := by decide +kernel
theorem dX3_clear_6 : decode cX3_clear 6 = .ok (.iconst 0, 1) := by decide +kernel
theorem dX3_clear_7 : decode cX3_clear 7 = .ok (.putfield 37, 3) := by decide +kernel
theorem dX3_clear_10 : decode cX3_clear 10 = .ok (.iload_n 1, 1) := by decide +kernel
theorem dX3_clear_11 : decode cX3_clear 11 = .ok (.ireturn, 1) := by decide +kernel
set_option maxRecDepth 20000 in
theorem ggX3_lots_X3_refuse : GoodIn wsX3_lots wsX3_refuse := goodIn_r _ [13, 14, 100, 101, 102, 103, 104, 105, 106, 107, 108] rfl (by decide +kernel)
set_option maxRecDepth 20000 in
theorem gX3_lots_X3_refuse : GoodIn wsX3_lots (wsV RX3 47 RX3 yX3_refuse wsX3_refuse) := goodIn_app (goodIn_r _ [9, 10, 11, 12] rfl (by decide +kernel)) ggX3_lots_X3_refuse
set_option maxRecDepth 20000 in
theorem ggX3_lots_X2_becomes : GoodIn wsX3_lots wsX2_becomes := goodIn_r _ [19, 20, 21, 22, 23, 24, 25, 26, 27, 28, 29, 30, 31, 32, 33, 34, 35, 109, 110, 111, 112, 113, 114, 115, 116, 117, 118, 119, 120] rfl (by decide +kernel)
set_option maxRecDepth 20000 in
theorem gX3_lots_X2_becomes : GoodIn wsX3_lots (wsV RX3 62 RX2 yX2_becomes wsX2_becomes) := goodIn_app (goodIn_r _ [15, 16, 17, 18] rfl (by decide +kernel)) ggX3_lots_X2_becomes
set_option maxRecDepth 20000 in
theorem ggX3_lots_X2_sayAbout : GoodIn wsX3_lots wsX2_sayAbout := goodIn_r _ [39, 35, 23, 40, 41, 42, 18, 43, 20, 44, 12, 45, 109, 110, 111, 112, 113, 114, 115, 116, 117, 118, 119, 120] rfl (by decide +kernel)
set_option maxRecDepth 20000 in
theorem gX3_lots_X2_sayAbout : GoodIn wsX3_lots (wsV RX3 116 RX2 yX2_sayAbout wsX2_sayAbout) := goodIn_app (goodIn_r _ [36, 37, 38, 18] rfl (by decide +kernel)) ggX3_lots_X2_sayAbout
set_option maxRecDepth 20000 in
theorem ggX3_lots_X2_passDays : GoodIn wsX3_lots wsX2_passDays := goodIn_r _ [49, 50, 51, 52, 18, 53, 21, 26, 23, 54, 55, 56, 57, 20, 34, 58, 59, 60, 61, 62, 63, 64, 65, 27, 66, 67, 68, 69, 35, 70, 71, 72, 73, 74, 75, 76, 77, 28, 78, 79, 80, 81, 33, 82, 83, 84, 85, 86, 87, 88, 89, 90, 91, 92, 22, 25, 24, 109, 110, 111, 112, 113, 114, 115, 116, 117, 118, 119, 120] rfl (by decide +kernel)
set_option maxRecDepth 20000 in
theorem gX3_lots_X2_passDays : GoodIn wsX3_lots (wsV RX3 131 RX2 yX2_passDays wsX2_passDays) := goodIn_app (goodIn_r _ [46, 47, 48, 18] rfl (by decide +kernel)) ggX3_lots_X2_passDays
set_option maxRecDepth 20000 in
theorem ggX3_lots_X2_softOf : GoodIn wsX3_lots wsX2_softOf := goodIn_r _ [96, 20, 28, 78, 79, 80, 18, 81, 34, 33, 97, 98, 84, 99, 109, 110, 111, 112, 113, 114, 115, 116, 117, 118, 119, 120] rfl (by decide +kernel)
set_option maxRecDepth 20000 in
theorem gX3_lots_X2_softOf : GoodIn wsX3_lots (wsV RX3 89 RX2 yX2_softOf wsX2_softOf) := goodIn_app (goodIn_r _ [93, 94, 95, 18] rfl (by decide +kernel)) ggX3_lots_X2_softOf
theorem dX3_lots_0 : decode cX3_lots 0 = .ok (.iload_n 1, 1) := by decide +kernel
theorem dX3_lots_1 : decode cX3_lots 1 = .ok (.iconst 1, 1) := by decide +kernel
theorem dX3_lots_2 : decode cX3_lots 2 = .ok (.if_icmp .ge 10, 3) := by decide +kernel
theorem dX3_lots_5 : decode cX3_lots 5 = .ok (.aload_n 0, 1) := by decide +kernel
theorem dX3_lots_6 : decode cX3_lots 6 = .ok (.bipush (-4), 2) := by decide +kernel
theorem dX3_lots_8 : decode cX3_lots 8 = .ok (.invokevirtual 47, 3) := by decide +kernel
theorem dX3_lots_11 : decode cX3_lots 11 = .ok (.ireturn, 1) := by decide +kernel
theorem dX3_lots_12 : decode cX3_lots 12 = .ok (.iload_n 1, 1) := by decide +kernel
theorem dX3_lots_13 : decode cX3_lots 13 = .ok (.bipush 20, 2) := by decide +kernel
theorem dX3_lots_15 : decode cX3_lots 15 = .ok (.if_icmp .le 10, 3) := by decide +kernel
theorem dX3_lots_18 : decode cX3_lots 18 = .ok (.aload_n 0, 1) := by decide +kernel
theorem dX3_lots_19 : decode cX3_lots 19 = .ok (.bipush (-6), 2) := by decide +kernel
theorem dX3_lots_21 : decode cX3_lots 21 = .ok (.invokevirtual 47, 3) := by decide +kernel
theorem dX3_lots_24 : decode cX3_lots 24 = .ok (.ireturn, 1) := by decide +kernel
theorem dX3_lots_25 : decode cX3_lots 25 = .ok (.iload_n 3, 1) := by decide +kernel
theorem dX3_lots_26 : decode cX3_lots 26 = .ok (.ifCond .lt 8, 3) := by decide +kernel
theorem dX3_lots_29 : decode cX3_lots 29 = .ok (.iload_n 3, 1) := by decide +kernel
theorem dX3_lots_30 : decode cX3_lots 30 = .ok (.iconst 1, 1) := by decide +kernel
theorem dX3_lots_31 : decode cX3_lots 31 = .ok (.if_icmp .le 10, 3) := by decide +kernel
theorem dX3_lots_34 : decode cX3_lots 34 = .ok (.aload_n 0, 1) := by decide +kernel
theorem dX3_lots_35 : decode cX3_lots 35 = .ok (.bipush (-2), 2) := by decide +kernel
theorem dX3_lots_37 : decode cX3_lots 37 = .ok (.invokevirtual 47, 3) := by decide +kernel
theorem dX3_lots_40 : decode cX3_lots 40 = .ok (.ireturn, 1) := by decide +kernel
theorem dX3_lots_41 : decode cX3_lots 41 = .ok (.iload_n 2, 1) := by decide +kernel
theorem dX3_lots_42 : decode cX3_lots 42 = .ok (.istore 4, 2) := by decide +kernel
theorem dX3_lots_44 : decode cX3_lots 44 = .ok (.iconst 0, 1) := by decide +kernel
theorem dX3_lots_45 : decode cX3_lots 45 = .ok (.istore 5, 2) := by decide +kernel
theorem dX3_lots_47 : decode cX3_lots 47 = .ok (.iconst 0, 1) := by decide +kernel
theorem dX3_lots_48 : decode cX3_lots 48 = .ok (.istore 6, 2) := by decide +kernel
theorem dX3_lots_50 : decode cX3_lots 50 = .ok (.iconst 0, 1) := by decide +kernel
theorem dX3_lots_51 : decode cX3_lots 51 = .ok (.istore 7, 2) := by decide +kernel
theorem dX3_lots_53 : decode cX3_lots 53 = .ok (.iload 7, 2) := by decide +kernel
theorem dX3_lots_55 : decode cX3_lots 55 = .ok (.iload_n 1, 1) := by decide +kernel
theorem dX3_lots_56 : decode cX3_lots 56 = .ok (.if_icmp .ge 111, 3) := by decide +kernel
theorem dX3_lots_59 : decode cX3_lots 59 = .ok (.aload_n 0, 1) := by decide +kernel
theorem dX3_lots_60 : decode cX3_lots 60 = .ok (.getfield 16, 3) := by decide +kernel
theorem dX3_lots_63 : decode cX3_lots 63 = .ok (.aload_n 0, 1) := by decide +kernel
theorem dX3_lots_64 : decode cX3_lots 64 = .ok (.getfield 10, 3) := by decide +kernel
theorem dX3_lots_67 : decode cX3_lots 67 = .ok (.invokevirtual 62, 3) := by decide +kernel
theorem dX3_lots_70 : decode cX3_lots 70 = .ok (.iconst 0, 1) := by decide +kernel
theorem dX3_lots_71 : decode cX3_lots 71 = .ok (.istore 8, 2) := by decide +kernel
theorem dX3_lots_73 : decode cX3_lots 73 = .ok (.iload 8, 2) := by decide +kernel
theorem dX3_lots_75 : decode cX3_lots 75 = .ok (.aload_n 0, 1) := by decide +kernel
theorem dX3_lots_76 : decode cX3_lots 76 = .ok (.getfield 16, 3) := by decide +kernel
theorem dX3_lots_79 : decode cX3_lots 79 = .ok (.getfield 164, 3) := by decide +kernel
theorem dX3_lots_82 : decode cX3_lots 82 = .ok (.if_icmp .ge 39, 3) := by decide +kernel
theorem dX3_lots_85 : decode cX3_lots 85 = .ok (.iload 4, 2) := by decide +kernel
theorem dX3_lots_87 : decode cX3_lots 87 = .ok (.ldc 221, 2) := by decide +kernel
theorem dX3_lots_89 : decode cX3_lots 89 = .ok (.imul, 1) := by decide +kernel
theorem dX3_lots_90 : decode cX3_lots 90 = .ok (.ldc 222, 2) := by decide +kernel
theorem dX3_lots_92 : decode cX3_lots 92 = .ok (.iadd, 1) := by decide +kernel
theorem dX3_lots_93 : decode cX3_lots 93 = .ok (.istore 4, 2) := by decide +kernel
theorem dX3_lots_95 : decode cX3_lots 95 = .ok (.aload_n 0, 1) := by decide +kernel
theorem dX3_lots_96 : decode cX3_lots 96 = .ok (.getfield 16, 3) := by decide +kernel
theorem dX3_lots_99 : decode cX3_lots 99 = .ok (.iload 8, 2) := by decide +kernel
theorem dX3_lots_101 : decode cX3_lots 101 = .ok (.iload 4, 2) := by decide +kernel
theorem dX3_lots_103 : decode cX3_lots 103 = .ok (.ldc 223, 2) := by decide +kernel
theorem dX3_lots_105 : decode cX3_lots 105 = .ok (.iand, 1) := by decide +kernel
theorem dX3_lots_106 : decode cX3_lots 106 = .ok (.sipush 256, 3) := by decide +kernel
theorem dX3_lots_109 : decode cX3_lots 109 = .ok (.idiv, 1) := by decide +kernel
theorem dX3_lots_110 : decode cX3_lots 110 = .ok (.iconst 4, 1) := by decide +kernel
theorem dX3_lots_111 : decode cX3_lots 111 = .ok (.irem, 1) := by decide +kernel
theorem dX3_lots_112 : decode cX3_lots 112 = .ok (.invokevirtual 116, 3) := by decide +kernel
theorem dX3_lots_115 : decode cX3_lots 115 = .ok (.iinc 8 1, 3) := by decide +kernel
theorem dX3_lots_118 : decode cX3_lots 118 = .ok (.goto (-45), 3) := by decide +kernel
theorem dX3_lots_121 : decode cX3_lots 121 = .ok (.aload_n 0, 1) := by decide +kernel
theorem dX3_lots_122 : decode cX3_lots 122 = .ok (.getfield 16, 3) := by decide +kernel
theorem dX3_lots_125 : decode cX3_lots 125 = .ok (.bipush 15, 2) := by decide +kernel
theorem dX3_lots_127 : decode cX3_lots 127 = .ok (.invokevirtual 131, 3) := by decide +kernel
theorem dX3_lots_130 : decode cX3_lots 130 = .ok (.iload 5, 2) := by decide +kernel
theorem dX3_lots_132 : decode cX3_lots 132 = .ok (.aload_n 0, 1) := by decide +kernel
theorem dX3_lots_133 : decode cX3_lots 133 = .ok (.getfield 16, 3) := by decide +kernel
theorem dX3_lots_136 : decode cX3_lots 136 = .ok (.getfield 174, 3) := by decide +kernel
theorem dX3_lots_139 : decode cX3_lots 139 = .ok (.iadd, 1) := by decide +kernel
theorem dX3_lots_140 : decode cX3_lots 140 = .ok (.istore 5, 2) := by decide +kernel
theorem dX3_lots_142 : decode cX3_lots 142 = .ok (.iload 6, 2) := by decide +kernel
theorem dX3_lots_144 : decode cX3_lots 144 = .ok (.aload_n 0, 1) := by decide +kernel
theorem dX3_lots_145 : decode cX3_lots 145 = .ok (.getfield 16, 3) := by decide +kernel
theorem dX3_lots_148 : decode cX3_lots 148 = .ok (.aload_n 0, 1) := by decide +kernel
theorem dX3_lots_149 : decode cX3_lots 149 = .ok (.getfield 16, 3) := by decide +kernel
theorem dX3_lots_152 : decode cX3_lots 152 = .ok (.getfield 86, 3) := by decide +kernel
theorem dX3_lots_155 : decode cX3_lots 155 = .ok (.invokevirtual 89, 3) := by decide +kernel
theorem dX3_lots_158 : decode cX3_lots 158 = .ok (.iadd, 1) := by decide +kernel
theorem dX3_lots_159 : decode cX3_lots 159 = .ok (.istore 6, 2) := by decide +kernel
theorem dX3_lots_161 : decode cX3_lots 161 = .ok (.iinc 7 1, 3) := by decide +kernel
theorem dX3_lots_164 : decode cX3_lots 164 = .ok (.goto (-111), 3) := by decide +kernel
theorem dX3_lots_167 : decode cX3_lots 167 = .ok (.iload_n 3, 1) := by decide +kernel
theorem dX3_lots_168 : decode cX3_lots 168 = .ok (.ifCond .ne 8, 3) := by decide +kernel
theorem dX3_lots_171 : decode cX3_lots 171 = .ok (.iload 5, 2) := by decide +kernel
theorem dX3_lots_173 : decode cX3_lots 173 = .ok (.goto 5, 3) := by decide +kernel
theorem dX3_lots_176 : decode cX3_lots 176 = .ok (.iload 6, 2) := by decide +kernel
theorem dX3_lots_178 : decode cX3_lots 178 = .ok (.ireturn, 1) := by decide +kernel
set_option maxRecDepth 20000 in
theorem ggX3_image_X2_becomes : GoodIn wsX3_image wsX2_becomes := goodIn_r _ [9, 10, 11, 12, 13, 14, 15, 16, 17, 18, 19, 20, 21, 22, 23, 24, 25, 35, 36, 37, 38, 39, 40, 41, 42, 43, 44, 45, 46] rfl (by decide +kernel)
set_option maxRecDepth 20000 in
theorem gX3_image_X2_becomes : GoodIn wsX3_image (wsV RX3 62 RX2 yX2_becomes wsX2_becomes) := goodIn_app (goodIn_r _ [5, 6, 7, 8] rfl (by decide +kernel)) ggX3_image_X2_becomes
theorem dX3_image_0 : decode cX3_image 0 = .ok (.aload_n 0, 1) := by decide +kernel
theorem dX3_image_1 : decode cX3_image 1 = .ok (.getfield 19, 3) := by decide +kernel
theorem dX3_image_4 : decode cX3_image 4 = .ok (.aload_n 0, 1) := by decide +kernel
theorem dX3_image_5 : decode cX3_image 5 = .ok (.getfield 10, 3) := by decide +kernel
theorem dX3_image_8 : decode cX3_image 8 = .ok (.invokevirtual 62, 3) := by decide +kernel
theorem dX3_image_11 : decode cX3_image 11 = .ok (.aload_n 0, 1) := by decide +kernel
theorem dX3_image_12 : decode cX3_image 12 = .ok (.iconst 1, 1) := by decide +kernel
theorem dX3_image_13 : decode cX3_image 13 = .ok (.putfield 22, 3) := by decide +kernel
theorem dX3_image_16 : decode cX3_image 16 = .ok (.aload_n 0, 1) := by decide +kernel
theorem dX3_image_17 : decode cX3_image 17 = .ok (.getfield 10, 3) := by decide +kernel
theorem dX3_image_20 : decode cX3_image 20 = .ok (.getfield 128, 3) := by decide +kernel
theorem dX3_image_23 : decode cX3_image 23 = .ok (.ireturn, 1) := by decide +kernel
set_option maxRecDepth 20000 in
theorem ggX3_on_X3_refuse : GoodIn wsX3_on wsX3_refuse := goodIn_r _ [9, 10, 32, 33, 34, 35, 36, 37, 38, 39, 40] rfl (by decide +kernel)
set_option maxRecDepth 20000 in
theorem gX3_on_X3_refuse : GoodIn wsX3_on (wsV RX3 47 RX3 yX3_refuse wsX3_refuse) := goodIn_app (goodIn_r _ [5, 6, 7, 8] rfl (by decide +kernel)) ggX3_on_X3_refuse
set_option maxRecDepth 20000 in
theorem ggX3_on_X2_becomes : GoodIn wsX3_on wsX2_becomes := goodIn_r _ [15, 16, 17, 18, 19, 20, 21, 22, 23, 24, 25, 26, 27, 28, 29, 30, 31, 41, 42, 43, 44, 45, 46, 47, 48, 49, 50, 51, 52] rfl (by decide +kernel)
set_option maxRecDepth 20000 in
theorem gX3_on_X2_becomes : GoodIn wsX3_on (wsV RX3 62 RX2 yX2_becomes wsX2_becomes) := goodIn_app (goodIn_r _ [11, 12, 13, 14] rfl (by decide +kernel)) ggX3_on_X2_becomes
theorem dX3_on_0 : decode cX3_on 0 = .ok (.aload_n 0, 1) := by decide +kernel
theorem dX3_on_1 : decode cX3_on 1 = .ok (.getfield 22, 3) := by decide +kernel
theorem dX3_on_4 : decode cX3_on 4 = .ok (.ifCond .ne 10, 3) := by decide +kernel
theorem dX3_on_7 : decode cX3_on 7 = .ok (.aload_n 0, 1) := by decide +kernel
theorem dX3_on_8 : decode cX3_on 8 = .ok (.bipush (-3), 2) := by decide +kernel
theorem dX3_on_10 : decode cX3_on 10 = .ok (.invokevirtual 47, 3) := by decide +kernel
theorem dX3_on_13 : decode cX3_on 13 = .ok (.ireturn, 1) := by decide +kernel
theorem dX3_on_14 : decode cX3_on 14 = .ok (.aload_n 0, 1) := by decide +kernel
theorem dX3_on_15 : decode cX3_on 15 = .ok (.getfield 10, 3) := by decide +kernel
theorem dX3_on_18 : decode cX3_on 18 = .ok (.aload_n 0, 1) := by decide +kernel
theorem dX3_on_19 : decode cX3_on 19 = .ok (.getfield 19, 3) := by decide +kernel
theorem dX3_on_22 : decode cX3_on 22 = .ok (.invokevirtual 62, 3) := by decide +kernel
theorem dX3_on_25 : decode cX3_on 25 = .ok (.aload_n 0, 1) := by decide +kernel
theorem dX3_on_26 : decode cX3_on 26 = .ok (.getfield 10, 3) := by decide +kernel
theorem dX3_on_29 : decode cX3_on 29 = .ok (.getfield 128, 3) := by decide +kernel
theorem dX3_on_32 : decode cX3_on 32 = .ok (.ireturn, 1) := by decide +kernel
set_option maxRecDepth 20000 in
theorem ggX3_count_X2_softOf : GoodIn wsX3_count wsX2_softOf := goodIn_r _ [14, 15, 16, 17, 18, 19, 13, 20, 21, 22, 23, 24, 25, 26, 40, 41, 42, 43, 44, 45, 46, 47, 48, 49, 50, 51] rfl (by decide +kernel)
set_option maxRecDepth 20000 in
theorem gX3_count_X2_softOf : GoodIn wsX3_count (wsV RX3 89 RX2 yX2_softOf wsX2_softOf) := goodIn_app (goodIn_r _ [10, 11, 12, 13] rfl (by decide +kernel)) ggX3_count_X2_softOf
set_option maxRecDepth 20000 in
theorem ggX3_count_X2_allWorn : GoodIn wsX3_count wsX2_allWorn := goodIn_r _ [30, 15, 21, 40, 41, 42, 43, 44, 45, 46, 47, 48, 49, 50, 51] rfl (by decide +kernel)
set_option maxRecDepth 20000 in
theorem gX3_count_X2_allWorn : GoodIn wsX3_count (wsV RX3 224 RX2 yX2_allWorn wsX2_allWorn) := goodIn_app (goodIn_r _ [27, 28, 29, 13] rfl (by decide +kernel)) ggX3_count_X2_allWorn
theorem dX3_count_0 : decode cX3_count 0 = .ok (.iload_n 1, 1) := by decide +kernel
theorem dX3_count_1 : decode cX3_count 1 = .ok (.tableswitch 115 0 7 #[47, 55, 63, 71, 79, 94, 102, 107], 47) := by decide +kernel
theorem dX3_count_48 : decode cX3_count 48 = .ok (.aload_n 0, 1) := by decide +kernel
theorem dX3_count_49 : decode cX3_count 49 = .ok (.getfield 10, 3) := by decide +kernel
theorem dX3_count_52 : decode cX3_count 52 = .ok (.getfield 164, 3) := by decide +kernel
theorem dX3_count_55 : decode cX3_count 55 = .ok (.ireturn, 1) := by decide +kernel
theorem dX3_count_56 : decode cX3_count 56 = .ok (.aload_n 0, 1) := by decide +kernel
theorem dX3_count_57 : decode cX3_count 57 = .ok (.getfield 10, 3) := by decide +kernel
theorem dX3_count_60 : decode cX3_count 60 = .ok (.getfield 128, 3) := by decide +kernel
theorem dX3_count_63 : decode cX3_count 63 = .ok (.ireturn, 1) := by decide +kernel
theorem dX3_count_64 : decode cX3_count 64 = .ok (.aload_n 0, 1) := by decide +kernel
theorem dX3_count_65 : decode cX3_count 65 = .ok (.getfield 10, 3) := by decide +kernel
theorem dX3_count_68 : decode cX3_count 68 = .ok (.getfield 134, 3) := by decide +kernel
theorem dX3_count_71 : decode cX3_count 71 = .ok (.ireturn, 1) := by decide +kernel
theorem dX3_count_72 : decode cX3_count 72 = .ok (.aload_n 0, 1) := by decide +kernel
theorem dX3_count_73 : decode cX3_count 73 = .ok (.getfield 10, 3) := by decide +kernel
theorem dX3_count_76 : decode cX3_count 76 = .ok (.getfield 86, 3) := by decide +kernel
theorem dX3_count_79 : decode cX3_count 79 = .ok (.ireturn, 1) := by decide +kernel
theorem dX3_count_80 : decode cX3_count 80 = .ok (.aload_n 0, 1) := by decide +kernel
theorem dX3_count_81 : decode cX3_count 81 = .ok (.getfield 10, 3) := by decide +kernel
theorem dX3_count_84 : decode cX3_count 84 = .ok (.aload_n 0, 1) := by decide +kernel
theorem dX3_count_85 : decode cX3_count 85 = .ok (.getfield 10, 3) := by decide +kernel
theorem dX3_count_88 : decode cX3_count 88 = .ok (.getfield 86, 3) := by decide +kernel
theorem dX3_count_91 : decode cX3_count 91 = .ok (.invokevirtual 89, 3) := by decide +kernel
theorem dX3_count_94 : decode cX3_count 94 = .ok (.ireturn, 1) := by decide +kernel
theorem dX3_count_95 : decode cX3_count 95 = .ok (.aload_n 0, 1) := by decide +kernel
theorem dX3_count_96 : decode cX3_count 96 = .ok (.getfield 10, 3) := by decide +kernel
theorem dX3_count_99 : decode cX3_count 99 = .ok (.invokevirtual 224, 3) := by decide +kernel
theorem dX3_count_102 : decode cX3_count 102 = .ok (.ireturn, 1) := by decide +kernel
theorem dX3_count_103 : decode cX3_count 103 = .ok (.aload_n 0, 1) := by decide +kernel
theorem dX3_count_104 : decode cX3_count 104 = .ok (.getfield 37, 3) := by decide +kernel
theorem dX3_count_107 : decode cX3_count 107 = .ok (.ireturn, 1) := by decide +kernel
theorem dX3_count_108 : decode cX3_count 108 = .ok (.aload_n 0, 1) := by decide +kernel
theorem dX3_count_109 : decode cX3_count 109 = .ok (.getfield 29, 3) := by decide +kernel
theorem dX3_count_112 : decode cX3_count 112 = .ok (.getfield 51, 3) := by decide +kernel
theorem dX3_count_115 : decode cX3_count 115 = .ok (.ireturn, 1) := by decide +kernel
theorem dX3_count_116 : decode cX3_count 116 = .ok (.iload_n 1, 1) := by decide +kernel
theorem dX3_count_117 : decode cX3_count 117 = .ok (.bipush 10, 2) := by decide +kernel
theorem dX3_count_119 : decode cX3_count 119 = .ok (.if_icmp .le 21, 3) := by decide +kernel
theorem dX3_count_122 : decode cX3_count 122 = .ok (.iload_n 1, 1) := by decide +kernel
theorem dX3_count_123 : decode cX3_count 123 = .ok (.bipush 16, 2) := by decide +kernel
theorem dX3_count_125 : decode cX3_count 125 = .ok (.if_icmp .gt 15, 3) := by decide +kernel
theorem dX3_count_128 : decode cX3_count 128 = .ok (.aload_n 0, 1) := by decide +kernel
theorem dX3_count_129 : decode cX3_count 129 = .ok (.getfield 41, 3) := by decide +kernel
theorem dX3_count_132 : decode cX3_count 132 = .ok (.iload_n 1, 1) := by decide +kernel
theorem dX3_count_133 : decode cX3_count 133 = .ok (.bipush 10, 2) := by decide +kernel
theorem dX3_count_135 : decode cX3_count 135 = .ok (.isub, 1) := by decide +kernel
theorem dX3_count_136 : decode cX3_count 136 = .ok (.iaload, 1) := by decide +kernel
theorem dX3_count_137 : decode cX3_count 137 = .ok (.goto 5, 3) := by decide +kernel
theorem dX3_count_140 : decode cX3_count 140 = .ok (.bipush (-9), 2) := by decide +kernel
theorem dX3_count_142 : decode cX3_count 142 = .ok (.ireturn, 1) := by decide +kernel
set_option maxRecDepth 20000 in
theorem ggX3_think_X2_becomes : GoodIn wsX3_think wsX2_becomes := goodIn_r _ [7, 8, 9, 10, 11, 12, 13, 14, 15, 16, 17, 18, 19, 20, 21, 22, 23, 80, 81, 82, 83, 84, 85, 86, 87, 88, 89, 90, 91] rfl (by decide +kernel)
set_option maxRecDepth 20000 in
theorem gX3_think_X2_becomes : GoodIn wsX3_think (wsV RX3 62 RX2 yX2_becomes wsX2_becomes) := goodIn_app (goodIn_r _ [3, 4, 5, 6] rfl (by decide +kernel)) ggX3_think_X2_becomes
set_option maxRecDepth 20000 in
theorem ggX3_think_X2_passDays : GoodIn wsX3_think wsX2_passDays := goodIn_r _ [27, 28, 29, 30, 6, 31, 9, 14, 11, 32, 33, 34, 35, 8, 22, 36, 37, 38, 39, 40, 41, 42, 43, 15, 44, 45, 46, 47, 23, 48, 49, 50, 51, 52, 53, 54, 55, 16, 56, 57, 58, 59, 21, 60, 61, 62, 63, 64, 65, 66, 67, 68, 69, 70, 10, 13, 12, 80, 81, 82, 83, 84, 85, 86, 87, 88, 89, 90, 91] rfl (by decide +kernel)
set_option maxRecDepth 20000 in
theorem gX3_think_X2_passDays : GoodIn wsX3_think (wsV RX3 131 RX2 yX2_passDays wsX2_passDays) := goodIn_app (goodIn_r _ [24, 25, 26, 6] rfl (by decide +kernel)) ggX3_think_X2_passDays
theorem dX3_think_0 : decode cX3_think 0 = .ok (.aload_n 0, 1) := by decide +kernel
theorem dX3_think_1 : decode cX3_think 1 = .ok (.getfield 16, 3) := by decide +kernel
theorem dX3_think_4 : decode cX3_think 4 = .ok (.aload_n 0, 1) := by decide +kernel
theorem dX3_think_5 : decode cX3_think 5 = .ok (.getfield 10, 3) := by decide +kernel
theorem dX3_think_8 : decode cX3_think 8 = .ok (.invokevirtual 62, 3) := by decide +kernel
theorem dX3_think_11 : decode cX3_think 11 = .ok (.aload_n 0, 1) := by decide +kernel
theorem dX3_think_12 : decode cX3_think 12 = .ok (.getfield 16, 3) := by decide +kernel
theorem dX3_think_15 : decode cX3_think 15 = .ok (.iload_n 1, 1) := by decide +kernel
theorem dX3_think_16 : decode cX3_think 16 = .ok (.invokevirtual 131, 3) := by decide +kernel
theorem dX3_think_19 : decode cX3_think 19 = .ok (.return_, 1) := by decide +kernel
theorem dX3_isWoman_0 : decode cX3_isWoman 0 = .ok (.iload_n 0, 1) := by decide +kernel
theorem dX3_isWoman_1 : decode cX3_isWoman 1 = .ok (.ifCond .lt 12, 3) := by decide +kernel
theorem dX3_isWoman_4 : decode cX3_isWoman 4 = .ok (.iload_n 0, 1) := by decide +kernel
theorem dX3_isWoman_5 : decode cX3_isWoman 5 = .ok (.iconst 4, 1) := by decide +kernel
theorem dX3_isWoman_6 : decode cX3_isWoman 6 = .ok (.if_icmp .ge 7, 3) := by decide +kernel
theorem dX3_isWoman_9 : decode cX3_isWoman 9 = .ok (.iconst 1, 1) := by decide +kernel
theorem dX3_isWoman_10 : decode cX3_isWoman 10 = .ok (.goto 4, 3) := by decide +kernel
theorem dX3_isWoman_13 : decode cX3_isWoman 13 = .ok (.iconst 0, 1) := by decide +kernel
theorem dX3_isWoman_14 : decode cX3_isWoman 14 = .ok (.ireturn, 1) := by decide +kernel
theorem dX3_leastWomanOf_0 : decode cX3_leastWomanOf 0 = .ok (.iconst 0, 1) := by decide +kernel
theorem dX3_leastWomanOf_1 : decode cX3_leastWomanOf 1 = .ok (.istore_n 1, 1) := by decide +kernel
theorem dX3_leastWomanOf_2 : decode cX3_leastWomanOf 2 = .ok (.iload_n 1, 1) := by decide +kernel
theorem dX3_leastWomanOf_3 : decode cX3_leastWomanOf 3 = .ok (.iconst 4, 1) := by decide +kernel
theorem dX3_leastWomanOf_4 : decode cX3_leastWomanOf 4 = .ok (.if_icmp .ge 20, 3) := by decide +kernel
theorem dX3_leastWomanOf_7 : decode cX3_leastWomanOf 7 = .ok (.iload_n 0, 1) := by decide +kernel
theorem dX3_leastWomanOf_8 : decode cX3_leastWomanOf 8 = .ok (.iload_n 1, 1) := by decide +kernel
theorem dX3_leastWomanOf_9 : decode cX3_leastWomanOf 9 = .ok (.ishr, 1) := by decide +kernel
theorem dX3_leastWomanOf_10 : decode cX3_leastWomanOf 10 = .ok (.iconst 1, 1) := by decide +kernel
theorem dX3_leastWomanOf_11 : decode cX3_leastWomanOf 11 = .ok (.iand, 1) := by decide +kernel
theorem dX3_leastWomanOf_12 : decode cX3_leastWomanOf 12 = .ok (.iconst 1, 1) := by decide +kernel
theorem dX3_leastWomanOf_13 : decode cX3_leastWomanOf 13 = .ok (.if_icmp .ne 5, 3) := by decide +kernel
theorem dX3_leastWomanOf_16 : decode cX3_leastWomanOf 16 = .ok (.iload_n 1, 1) := by decide +kernel
theorem dX3_leastWomanOf_17 : decode cX3_leastWomanOf 17 = .ok (.ireturn, 1) := by decide +kernel
theorem dX3_leastWomanOf_18 : decode cX3_leastWomanOf 18 = .ok (.iinc 1 1, 3) := by decide +kernel
theorem dX3_leastWomanOf_21 : decode cX3_leastWomanOf 21 = .ok (.goto (-19), 3) := by decide +kernel
theorem dX3_leastWomanOf_24 : decode cX3_leastWomanOf 24 = .ok (.bipush (-9), 2) := by decide +kernel
theorem dX3_leastWomanOf_26 : decode cX3_leastWomanOf 26 = .ok (.ireturn, 1) := by decide +kernel
theorem dX3_refuse_0 : decode cX3_refuse 0 = .ok (.iload_n 1, 1) := by decide +kernel
theorem dX3_refuse_1 : decode cX3_refuse 1 = .ok (.ifCond .ge 24, 3) := by decide +kernel
theorem dX3_refuse_4 : decode cX3_refuse 4 = .ok (.iload_n 1, 1) := by decide +kernel
theorem dX3_refuse_5 : decode cX3_refuse 5 = .ok (.ineg, 1) := by decide +kernel
theorem dX3_refuse_6 : decode cX3_refuse 6 = .ok (.aload_n 0, 1) := by decide +kernel
theorem dX3_refuse_7 : decode cX3_refuse 7 = .ok (.getfield 41, 3) := by decide +kernel
theorem dX3_refuse_10 : decode cX3_refuse 10 = .ok (.arraylength, 1) := by decide +kernel
theorem dX3_refuse_11 : decode cX3_refuse 11 = .ok (.if_icmp .ge 14, 3) := by decide +kernel
theorem dX3_refuse_14 : decode cX3_refuse 14 = .ok (.aload_n 0, 1) := by decide +kernel
theorem dX3_refuse_15 : decode cX3_refuse 15 = .ok (.getfield 41, 3) := by decide +kernel
theorem dX3_refuse_18 : decode cX3_refuse 18 = .ok (.iload_n 1, 1) := by decide +kernel
theorem dX3_refuse_19 : decode cX3_refuse 19 = .ok (.ineg, 1) := by decide +kernel
theorem dX3_refuse_20 : decode cX3_refuse 20 = .ok (.dup2, 1) := by decide +kernel
theorem dX3_refuse_21 : decode cX3_refuse 21 = .ok (.iaload, 1) := by decide +kernel
theorem dX3_refuse_22 : decode cX3_refuse 22 = .ok (.iconst 1, 1) := by decide +kernel
theorem dX3_refuse_23 : decode cX3_refuse 23 = .ok (.iadd, 1) := by decide +kernel
theorem dX3_refuse_24 : decode cX3_refuse 24 = .ok (.iastore, 1) := by decide +kernel
theorem dX3_refuse_25 : decode cX3_refuse 25 = .ok (.iload_n 1, 1) := by decide +kernel
theorem dX3_refuse_26 : decode cX3_refuse 26 = .ok (.ireturn, 1) := by decide +kernel
set_option maxRecDepth 20000 in
theorem ggX3_refuseLong_X3_refuse : GoodIn wsX3_refuseLong wsX3_refuse := goodIn_r _ [6, 7, 8, 9, 10, 11, 12, 13, 14, 15, 16] rfl (by decide +kernel)
set_option maxRecDepth 20000 in
theorem gX3_refuseLong_X3_refuse : GoodIn wsX3_refuseLong (wsV RX3 47 RX3 yX3_refuse wsX3_refuse) := goodIn_app (goodIn_r _ [2, 3, 4, 5] rfl (by decide +kernel)) ggX3_refuseLong_X3_refuse
theorem dX3_refuseLong_0 : decode cX3_refuseLong 0 = .ok (.ldc2_w 227, 3) := by decide +kernel
theorem dX3_refuseLong_3 : decode cX3_refuseLong 3 = .ok (.aload_n 0, 1) := by decide +kernel
theorem dX3_refuseLong_4 : decode cX3_refuseLong 4 = .ok (.iload_n 1, 1) := by decide +kernel
theorem dX3_refuseLong_5 : decode cX3_refuseLong 5 = .ok (.invokevirtual 47, 3) := by decide +kernel
theorem dX3_refuseLong_8 : decode cX3_refuseLong 8 = .ok (.i2l, 1) := by decide +kernel
theorem dX3_refuseLong_9 : decode cX3_refuseLong 9 = .ok (.lsub, 1) := by decide +kernel
theorem dX3_refuseLong_10 : decode cX3_refuseLong 10 = .ok (.lreturn, 1) := by decide +kernel
