theorem dX12_thrown_0 : decode cX12_thrown 0 = .ok (.aload_n 0, 1) := by decide +kernel
theorem dX12_thrown_1 : decode cX12_thrown 1 = .ok (.getfield 1, 3) := by decide +kernel
theorem dX12_thrown_4 : decode cX12_thrown 4 = .ok (.ireturn, 1) := by decide +kernel
theorem dX12_throwsIf_0 : decode cX12_throwsIf 0 = .ok (.aload_n 0, 1) := by decide +kernel
theorem dX12_throwsIf_1 : decode cX12_throwsIf 1 = .ok (.iload_n 1, 1) := by decide +kernel
theorem dX12_throwsIf_2 : decode cX12_throwsIf 2 = .ok (.ifCond .eq 7, 3) := by decide +kernel
theorem dX12_throwsIf_5 : decode cX12_throwsIf 5 = .ok (.iconst 1, 1) := by decide +kernel
theorem dX12_throwsIf_6 : decode cX12_throwsIf 6 = .ok (.goto 4, 3) := by decide +kernel
theorem dX12_throwsIf_9 : decode cX12_throwsIf 9 = .ok (.iconst 0, 1) := by decide +kernel
theorem dX12_throwsIf_10 : decode cX12_throwsIf 10 = .ok (.putfield 1, 3) := by decide +kernel
theorem dX12_throwsIf_13 : decode cX12_throwsIf 13 = .ok (.iload_n 1, 1) := by decide +kernel
theorem dX12_throwsIf_14 : decode cX12_throwsIf 14 = .ok (.ireturn, 1) := by decide +kernel
set_option maxRecDepth 20000 in
theorem ggX12_feed_X12_four : GoodIn wsX12_feed wsX12_four := goodIn_r _ [7, 8, 2, 9, 10, 11, 12, 13, 14, 15, 16, 17, 18, 19, 20, 21, 22, 23, 24, 25, 26, 27, 28, 29, 30, 31, 32, 33, 34, 35, 36, 37, 38, 39, 40, 41, 42, 43, 44, 45, 46, 47, 48, 49, 50, 51, 52, 53, 54, 55, 56, 57] rfl rfl
set_option maxRecDepth 20000 in
theorem gX12_feed_X12_four : GoodIn wsX12_feed (wsV RX12 10 RX12 yX12_four wsX12_four) := goodIn_app (goodIn_r _ [3, 4, 5, 6] rfl rfl) ggX12_feed_X12_four
theorem dX12_feed_0 : decode cX12_feed 0 = .ok (.aload_n 0, 1) := by decide +kernel
theorem dX12_feed_1 : decode cX12_feed 1 = .ok (.iconst 0, 1) := by decide +kernel
theorem dX12_feed_2 : decode cX12_feed 2 = .ok (.putfield 1, 3) := by decide +kernel
theorem dX12_feed_5 : decode cX12_feed 5 = .ok (.aload_n 0, 1) := by decide +kernel
theorem dX12_feed_6 : decode cX12_feed 6 = .ok (.getfield 7, 3) := by decide +kernel
theorem dX12_feed_9 : decode cX12_feed 9 = .ok (.bipush 20, 2) := by decide +kernel
theorem dX12_feed_11 : decode cX12_feed 11 = .ok (.iadd, 1) := by decide +kernel
theorem dX12_feed_12 : decode cX12_feed 12 = .ok (.sipush 940, 3) := by decide +kernel
theorem dX12_feed_15 : decode cX12_feed 15 = .ok (.if_icmp .le 5, 3) := by decide +kernel
theorem dX12_feed_18 : decode cX12_feed 18 = .ok (.iconst (-1), 1) := by decide +kernel
theorem dX12_feed_19 : decode cX12_feed 19 = .ok (.ireturn, 1) := by decide +kernel
theorem dX12_feed_20 : decode cX12_feed 20 = .ok (.aload_n 0, 1) := by decide +kernel
theorem dX12_feed_21 : decode cX12_feed 21 = .ok (.iload_n 1, 1) := by decide +kernel
theorem dX12_feed_22 : decode cX12_feed 22 = .ok (.invokevirtual 10, 3) := by decide +kernel
theorem dX12_feed_25 : decode cX12_feed 25 = .ok (.aload_n 0, 1) := by decide +kernel
theorem dX12_feed_26 : decode cX12_feed 26 = .ok (.iload_n 2, 1) := by decide +kernel
theorem dX12_feed_27 : decode cX12_feed 27 = .ok (.invokevirtual 10, 3) := by decide +kernel
theorem dX12_feed_30 : decode cX12_feed 30 = .ok (.aload_n 0, 1) := by decide +kernel
theorem dX12_feed_31 : decode cX12_feed 31 = .ok (.iload_n 3, 1) := by decide +kernel
theorem dX12_feed_32 : decode cX12_feed 32 = .ok (.invokevirtual 10, 3) := by decide +kernel
theorem dX12_feed_35 : decode cX12_feed 35 = .ok (.aload_n 0, 1) := by decide +kernel
theorem dX12_feed_36 : decode cX12_feed 36 = .ok (.iload 4, 2) := by decide +kernel
theorem dX12_feed_38 : decode cX12_feed 38 = .ok (.invokevirtual 10, 3) := by decide +kernel
theorem dX12_feed_41 : decode cX12_feed 41 = .ok (.aload_n 0, 1) := by decide +kernel
theorem dX12_feed_42 : decode cX12_feed 42 = .ok (.iload 5, 2) := by decide +kernel
theorem dX12_feed_44 : decode cX12_feed 44 = .ok (.invokevirtual 10, 3) := by decide +kernel
theorem dX12_feed_47 : decode cX12_feed 47 = .ok (.aload_n 0, 1) := by decide +kernel
theorem dX12_feed_48 : decode cX12_feed 48 = .ok (.getfield 7, 3) := by decide +kernel
theorem dX12_feed_51 : decode cX12_feed 51 = .ok (.ireturn, 1) := by decide +kernel
theorem dX12_four_0 : decode cX12_four 0 = .ok (.bipush 24, 2) := by decide +kernel
theorem dX12_four_2 : decode cX12_four 2 = .ok (.istore_n 2, 1) := by decide +kernel
theorem dX12_four_3 : decode cX12_four 3 = .ok (.iload_n 2, 1) := by decide +kernel
theorem dX12_four_4 : decode cX12_four 4 = .ok (.ifCond .lt 32, 3) := by decide +kernel
theorem dX12_four_7 : decode cX12_four 7 = .ok (.aload_n 0, 1) := by decide +kernel
theorem dX12_four_8 : decode cX12_four 8 = .ok (.getfield 14, 3) := by decide +kernel
theorem dX12_four_11 : decode cX12_four 11 = .ok (.aload_n 0, 1) := by decide +kernel
theorem dX12_four_12 : decode cX12_four 12 = .ok (.getfield 7, 3) := by decide +kernel
theorem dX12_four_15 : decode cX12_four 15 = .ok (.iload_n 1, 1) := by decide +kernel
theorem dX12_four_16 : decode cX12_four 16 = .ok (.iload_n 2, 1) := by decide +kernel
theorem dX12_four_17 : decode cX12_four 17 = .ok (.ishr, 1) := by decide +kernel
theorem dX12_four_18 : decode cX12_four 18 = .ok (.i2b, 1) := by decide +kernel
theorem dX12_four_19 : decode cX12_four 19 = .ok (.bastore, 1) := by decide +kernel
theorem dX12_four_20 : decode cX12_four 20 = .ok (.aload_n 0, 1) := by decide +kernel
theorem dX12_four_21 : decode cX12_four 21 = .ok (.dup, 1) := by decide +kernel
theorem dX12_four_22 : decode cX12_four 22 = .ok (.getfield 7, 3) := by decide +kernel
theorem dX12_four_25 : decode cX12_four 25 = .ok (.iconst 1, 1) := by decide +kernel
theorem dX12_four_26 : decode cX12_four 26 = .ok (.iadd, 1) := by decide +kernel
theorem dX12_four_27 : decode cX12_four 27 = .ok (.putfield 7, 3) := by decide +kernel
theorem dX12_four_30 : decode cX12_four 30 = .ok (.iinc 2 (-8), 3) := by decide +kernel
theorem dX12_four_33 : decode cX12_four 33 = .ok (.goto (-30), 3) := by decide +kernel
theorem dX12_four_36 : decode cX12_four 36 = .ok (.return_, 1) := by decide +kernel
theorem dX12_end_0 : decode cX12_end 0 = .ok (.aload_n 0, 1) := by decide +kernel
theorem dX12_end_1 : decode cX12_end 1 = .ok (.iconst 0, 1) := by decide +kernel
theorem dX12_end_2 : decode cX12_end 2 = .ok (.putfield 1, 3) := by decide +kernel
theorem dX12_end_5 : decode cX12_end 5 = .ok (.iload_n 1, 1) := by decide +kernel
theorem dX12_end_6 : decode cX12_end 6 = .ok (.ifCond .lt 11, 3) := by decide +kernel
theorem dX12_end_9 : decode cX12_end 9 = .ok (.iload_n 1, 1) := by decide +kernel
theorem dX12_end_10 : decode cX12_end 10 = .ok (.aload_n 0, 1) := by decide +kernel
theorem dX12_end_11 : decode cX12_end 11 = .ok (.getfield 7, 3) := by decide +kernel
theorem dX12_end_14 : decode cX12_end 14 = .ok (.if_icmp .le 5, 3) := by decide +kernel
theorem dX12_end_17 : decode cX12_end 17 = .ok (.iconst 0, 1) := by decide +kernel
theorem dX12_end_18 : decode cX12_end 18 = .ok (.ireturn, 1) := by decide +kernel
theorem dX12_end_19 : decode cX12_end 19 = .ok (.aload_n 0, 1) := by decide +kernel
theorem dX12_end_20 : decode cX12_end 20 = .ok (.iload_n 1, 1) := by decide +kernel
theorem dX12_end_21 : decode cX12_end 21 = .ok (.putfield 7, 3) := by decide +kernel
theorem dX12_end_24 : decode cX12_end 24 = .ok (.iconst 1, 1) := by decide +kernel
theorem dX12_end_25 : decode cX12_end 25 = .ok (.ireturn, 1) := by decide +kernel
theorem dX12_taken_0 : decode cX12_taken 0 = .ok (.aload_n 0, 1) := by decide +kernel
theorem dX12_taken_1 : decode cX12_taken 1 = .ok (.aload_n 0, 1) := by decide +kernel
theorem dX12_taken_2 : decode cX12_taken 2 = .ok (.getfield 7, 3) := by decide +kernel
theorem dX12_taken_5 : decode cX12_taken 5 = .ok (.putfield 18, 3) := by decide +kernel
theorem dX12_taken_8 : decode cX12_taken 8 = .ok (.aload_n 0, 1) := by decide +kernel
theorem dX12_taken_9 : decode cX12_taken 9 = .ok (.iconst 0, 1) := by decide +kernel
theorem dX12_taken_10 : decode cX12_taken 10 = .ok (.putfield 7, 3) := by decide +kernel
theorem dX12_taken_13 : decode cX12_taken 13 = .ok (.aload_n 0, 1) := by decide +kernel
theorem dX12_taken_14 : decode cX12_taken 14 = .ok (.iconst 0, 1) := by decide +kernel
theorem dX12_taken_15 : decode cX12_taken 15 = .ok (.putfield 21, 3) := by decide +kernel
theorem dX12_taken_18 : decode cX12_taken 18 = .ok (.aload_n 0, 1) := by decide +kernel
theorem dX12_taken_19 : decode cX12_taken 19 = .ok (.iload_n 1, 1) := by decide +kernel
theorem dX12_taken_20 : decode cX12_taken 20 = .ok (.putfield 24, 3) := by decide +kernel
theorem dX12_taken_23 : decode cX12_taken 23 = .ok (.return_, 1) := by decide +kernel
theorem dX12_isIn_0 : decode cX12_isIn 0 = .ok (.iload_n 0, 1) := by decide +kernel
theorem dX12_isIn_1 : decode cX12_isIn 1 = .ok (.iload_n 1, 1) := by decide +kernel
theorem dX12_isIn_2 : decode cX12_isIn 2 = .ok (.if_icmp .lt 12, 3) := by decide +kernel
theorem dX12_isIn_5 : decode cX12_isIn 5 = .ok (.iload_n 0, 1) := by decide +kernel
theorem dX12_isIn_6 : decode cX12_isIn 6 = .ok (.iload_n 2, 1) := by decide +kernel
theorem dX12_isIn_7 : decode cX12_isIn 7 = .ok (.if_icmp .gt 7, 3) := by decide +kernel
theorem dX12_isIn_10 : decode cX12_isIn 10 = .ok (.iconst 1, 1) := by decide +kernel
theorem dX12_isIn_11 : decode cX12_isIn 11 = .ok (.goto 4, 3) := by decide +kernel
theorem dX12_isIn_14 : decode cX12_isIn 14 = .ok (.iconst 0, 1) := by decide +kernel
theorem dX12_isIn_15 : decode cX12_isIn 15 = .ok (.ireturn, 1) := by decide +kernel
theorem dX12_bitOf_0 : decode cX12_bitOf 0 = .ok (.iload_n 0, 1) := by decide +kernel
theorem dX12_bitOf_1 : decode cX12_bitOf 1 = .ok (.iload_n 1, 1) := by decide +kernel
theorem dX12_bitOf_2 : decode cX12_bitOf 2 = .ok (.ishr, 1) := by decide +kernel
theorem dX12_bitOf_3 : decode cX12_bitOf 3 = .ok (.iconst 1, 1) := by decide +kernel
theorem dX12_bitOf_4 : decode cX12_bitOf 4 = .ok (.iand, 1) := by decide +kernel
theorem dX12_bitOf_5 : decode cX12_bitOf 5 = .ok (.iconst 1, 1) := by decide +kernel
theorem dX12_bitOf_6 : decode cX12_bitOf 6 = .ok (.if_icmp .ne 7, 3) := by decide +kernel
theorem dX12_bitOf_9 : decode cX12_bitOf 9 = .ok (.iconst 1, 1) := by decide +kernel
theorem dX12_bitOf_10 : decode cX12_bitOf 10 = .ok (.goto 4, 3) := by decide +kernel
theorem dX12_bitOf_13 : decode cX12_bitOf 13 = .ok (.iconst 0, 1) := by decide +kernel
theorem dX12_bitOf_14 : decode cX12_bitOf 14 = .ok (.ireturn, 1) := by decide +kernel
theorem dX12_lesser_0 : decode cX12_lesser 0 = .ok (.iload_n 0, 1) := by decide +kernel
theorem dX12_lesser_1 : decode cX12_lesser 1 = .ok (.iload_n 1, 1) := by decide +kernel
theorem dX12_lesser_2 : decode cX12_lesser 2 = .ok (.if_icmp .ge 7, 3) := by decide +kernel
theorem dX12_lesser_5 : decode cX12_lesser 5 = .ok (.iload_n 0, 1) := by decide +kernel
theorem dX12_lesser_6 : decode cX12_lesser 6 = .ok (.goto 4, 3) := by decide +kernel
theorem dX12_lesser_9 : decode cX12_lesser 9 = .ok (.iload_n 1, 1) := by decide +kernel
theorem dX12_lesser_10 : decode cX12_lesser 10 = .ok (.ireturn, 1) := by decide +kernel
theorem dX12_greater_0 : decode cX12_greater 0 = .ok (.iload_n 0, 1) := by decide +kernel
theorem dX12_greater_1 : decode cX12_greater 1 = .ok (.iload_n 1, 1) := by decide +kernel
theorem dX12_greater_2 : decode cX12_greater 2 = .ok (.if_icmp .le 7, 3) := by decide +kernel
theorem dX12_greater_5 : decode cX12_greater 5 = .ok (.iload_n 0, 1) := by decide +kernel
theorem dX12_greater_6 : decode cX12_greater 6 = .ok (.goto 4, 3) := by decide +kernel
theorem dX12_greater_9 : decode cX12_greater 9 = .ok (.iload_n 1, 1) := by decide +kernel
theorem dX12_greater_10 : decode cX12_greater 10 = .ok (.ireturn, 1) := by decide +kernel
theorem dX12_octet_0 : decode cX12_octet 0 = .ok (.aload_n 0, 1) := by decide +kernel
theorem dX12_octet_1 : decode cX12_octet 1 = .ok (.getfield 14, 3) := by decide +kernel
theorem dX12_octet_4 : decode cX12_octet 4 = .ok (.iload_n 1, 1) := by decide +kernel
theorem dX12_octet_5 : decode cX12_octet 5 = .ok (.baload, 1) := by decide +kernel
theorem dX12_octet_6 : decode cX12_octet 6 = .ok (.sipush 255, 3) := by decide +kernel
theorem dX12_octet_9 : decode cX12_octet 9 = .ok (.iand, 1) := by decide +kernel
theorem dX12_octet_10 : decode cX12_octet 10 = .ok (.ireturn, 1) := by decide +kernel
set_option maxRecDepth 20000 in
theorem ggX12_init_X12_clears : GoodIn wsX12_init wsX12_clears := goodIn_r _ [55, 8, 56, 57, 58, 59, 60, 61, 62, 63, 64, 65, 66, 67, 68, 69, 70, 71, 72, 73, 74, 75, 76, 77, 78, 79, 80, 81, 82, 83, 84, 85, 86, 87, 88, 89, 90, 91, 92, 93, 94, 95, 96, 97, 98, 99, 100, 101, 102, 103, 104] rfl rfl
set_option maxRecDepth 20000 in
theorem gX12_init_X12_clears : GoodIn wsX12_init (wsV RX12 141 RX12 yX12_clears wsX12_clears) := goodIn_app (goodIn_r _ [51, 52, 53, 54] rfl rfl) ggX12_init_X12_clears
theorem dX12_init_0 : decode cX12_init 0 = .ok (.aload_n 0, 1) := by decide +kernel
theorem dX12_init_1 : decode cX12_init 1 = .ok (.invokespecial 27, 3) := by decide +kernel
theorem dX12_init_4 : decode cX12_init 4 = .ok (.aload_n 0, 1) := by decide +kernel
theorem dX12_init_5 : decode cX12_init 5 = .ok (.sipush 940, 3) := by decide +kernel
theorem dX12_init_8 : decode cX12_init 8 = .ok (.newarray .byte, 2) := by decide +kernel
theorem dX12_init_10 : decode cX12_init 10 = .ok (.putfield 14, 3) := by decide +kernel
theorem dX12_init_13 : decode cX12_init 13 = .ok (.aload_n 0, 1) := by decide +kernel
theorem dX12_init_14 : decode cX12_init 14 = .ok (.sipush 279, 3) := by decide +kernel
theorem dX12_init_17 : decode cX12_init 17 = .ok (.newarray .int, 2) := by decide +kernel
theorem dX12_init_19 : decode cX12_init 19 = .ok (.putfield 33, 3) := by decide +kernel
theorem dX12_init_22 : decode cX12_init 22 = .ok (.aload_n 0, 1) := by decide +kernel
theorem dX12_init_23 : decode cX12_init 23 = .ok (.bipush 39, 2) := by decide +kernel
theorem dX12_init_25 : decode cX12_init 25 = .ok (.newarray .int, 2) := by decide +kernel
theorem dX12_init_27 : decode cX12_init 27 = .ok (.putfield 37, 3) := by decide +kernel
theorem dX12_init_30 : decode cX12_init 30 = .ok (.aload_n 0, 1) := by decide +kernel
theorem dX12_init_31 : decode cX12_init 31 = .ok (.sipush 135, 3) := by decide +kernel
theorem dX12_init_34 : decode cX12_init 34 = .ok (.newarray .int, 2) := by decide +kernel
theorem dX12_init_36 : decode cX12_init 36 = .ok (.putfield 40, 3) := by decide +kernel
theorem dX12_init_39 : decode cX12_init 39 = .ok (.aload_n 0, 1) := by decide +kernel
theorem dX12_init_40 : decode cX12_init 40 = .ok (.bipush 28, 2) := by decide +kernel
theorem dX12_init_42 : decode cX12_init 42 = .ok (.newarray .long, 2) := by decide +kernel
theorem dX12_init_44 : decode cX12_init 44 = .ok (.putfield 43, 3) := by decide +kernel
theorem dX12_init_47 : decode cX12_init 47 = .ok (.aload_n 0, 1) := by decide +kernel
theorem dX12_init_48 : decode cX12_init 48 = .ok (.bipush 21, 2) := by decide +kernel
theorem dX12_init_50 : decode cX12_init 50 = .ok (.newarray .long, 2) := by decide +kernel
theorem dX12_init_52 : decode cX12_init 52 = .ok (.putfield 47, 3) := by decide +kernel
theorem dX12_init_55 : decode cX12_init 55 = .ok (.aload_n 0, 1) := by decide +kernel
theorem dX12_init_56 : decode cX12_init 56 = .ok (.sipush 472, 3) := by decide +kernel
theorem dX12_init_59 : decode cX12_init 59 = .ok (.newarray .int, 2) := by decide +kernel
theorem dX12_init_61 : decode cX12_init 61 = .ok (.putfield 50, 3) := by decide +kernel
theorem dX12_init_64 : decode cX12_init 64 = .ok (.aload_n 0, 1) := by decide +kernel
theorem dX12_init_65 : decode cX12_init 65 = .ok (.bipush 59, 2) := by decide +kernel
theorem dX12_init_67 : decode cX12_init 67 = .ok (.newarray .int, 2) := by decide +kernel
theorem dX12_init_69 : decode cX12_init 69 = .ok (.putfield 53, 3) := by decide +kernel
theorem dX12_init_72 : decode cX12_init 72 = .ok (.aload_n 0, 1) := by decide +kernel
theorem dX12_init_73 : decode cX12_init 73 = .ok (.bipush 48, 2) := by decide +kernel
theorem dX12_init_75 : decode cX12_init 75 = .ok (.newarray .int, 2) := by decide +kernel
theorem dX12_init_77 : decode cX12_init 77 = .ok (.putfield 56, 3) := by decide +kernel
theorem dX12_init_80 : decode cX12_init 80 = .ok (.aload_n 0, 1) := by decide +kernel
theorem dX12_init_81 : decode cX12_init 81 = .ok (.bipush 48, 2) := by decide +kernel
theorem dX12_init_83 : decode cX12_init 83 = .ok (.newarray .int, 2) := by decide +kernel
theorem dX12_init_85 : decode cX12_init 85 = .ok (.putfield 59, 3) := by decide +kernel
theorem dX12_init_88 : decode cX12_init 88 = .ok (.aload_n 0, 1) := by decide +kernel
theorem dX12_init_89 : decode cX12_init 89 = .ok (.iconst (-1), 1) := by decide +kernel
theorem dX12_init_90 : decode cX12_init 90 = .ok (.putfield 62, 3) := by decide +kernel
theorem dX12_init_93 : decode cX12_init 93 = .ok (.aload_n 0, 1) := by decide +kernel
theorem dX12_init_94 : decode cX12_init 94 = .ok (.bipush 54, 2) := by decide +kernel
theorem dX12_init_96 : decode cX12_init 96 = .ok (.newarray .int, 2) := by decide +kernel
theorem dX12_init_98 : decode cX12_init 98 = .ok (.putfield 65, 3) := by decide +kernel
theorem dX12_init_101 : decode cX12_init 101 = .ok (.aload_n 0, 1) := by decide +kernel
theorem dX12_init_102 : decode cX12_init 102 = .ok (.bipush 54, 2) := by decide +kernel
theorem dX12_init_104 : decode cX12_init 104 = .ok (.newarray .int, 2) := by decide +kernel
theorem dX12_init_106 : decode cX12_init 106 = .ok (.putfield 68, 3) := by decide +kernel
theorem dX12_init_109 : decode cX12_init 109 = .ok (.aload_n 0, 1) := by decide +kernel
theorem dX12_init_110 : decode cX12_init 110 = .ok (.bipush 9, 2) := by decide +kernel
theorem dX12_init_112 : decode cX12_init 112 = .ok (.newarray .int, 2) := by decide +kernel
theorem dX12_init_114 : decode cX12_init 114 = .ok (.putfield 71, 3) := by decide +kernel
theorem dX12_init_117 : decode cX12_init 117 = .ok (.aload_n 0, 1) := by decide +kernel
theorem dX12_init_118 : decode cX12_init 118 = .ok (.iconst (-1), 1) := by decide +kernel
theorem dX12_init_119 : decode cX12_init 119 = .ok (.putfield 74, 3) := by decide +kernel
theorem dX12_init_122 : decode cX12_init 122 = .ok (.aload_n 0, 1) := by decide +kernel
theorem dX12_init_123 : decode cX12_init 123 = .ok (.bipush 48, 2) := by decide +kernel
theorem dX12_init_125 : decode cX12_init 125 = .ok (.newarray .byte, 2) := by decide +kernel
theorem dX12_init_127 : decode cX12_init 127 = .ok (.putfield 77, 3) := by decide +kernel
theorem dX12_init_130 : decode cX12_init 130 = .ok (.aload_n 0, 1) := by decide +kernel
theorem dX12_init_131 : decode cX12_init 131 = .ok (.iconst 4, 1) := by decide +kernel
theorem dX12_init_132 : decode cX12_init 132 = .ok (.newarray .int, 2) := by decide +kernel
theorem dX12_init_134 : decode cX12_init 134 = .ok (.putfield 80, 3) := by decide +kernel
theorem dX12_init_137 : decode cX12_init 137 = .ok (.aload_n 0, 1) := by decide +kernel
theorem dX12_init_138 : decode cX12_init 138 = .ok (.bipush 45, 2) := by decide +kernel
theorem dX12_init_140 : decode cX12_init 140 = .ok (.newarray .int, 2) := by decide +kernel
theorem dX12_init_142 : decode cX12_init 142 = .ok (.putfield 83, 3) := by decide +kernel
theorem dX12_init_145 : decode cX12_init 145 = .ok (.aload_n 0, 1) := by decide +kernel
theorem dX12_init_146 : decode cX12_init 146 = .ok (.bipush 45, 2) := by decide +kernel
theorem dX12_init_148 : decode cX12_init 148 = .ok (.newarray .boolean, 2) := by decide +kernel
theorem dX12_init_150 : decode cX12_init 150 = .ok (.putfield 86, 3) := by decide +kernel
theorem dX12_init_153 : decode cX12_init 153 = .ok (.aload_n 0, 1) := by decide +kernel
theorem dX12_init_154 : decode cX12_init 154 = .ok (.sipush 558, 3) := by decide +kernel
theorem dX12_init_157 : decode cX12_init 157 = .ok (.newarray .int, 2) := by decide +kernel
theorem dX12_init_159 : decode cX12_init 159 = .ok (.putfield 90, 3) := by decide +kernel
theorem dX12_init_162 : decode cX12_init 162 = .ok (.aload_n 0, 1) := by decide +kernel
theorem dX12_init_163 : decode cX12_init 163 = .ok (.bipush 28, 2) := by decide +kernel
theorem dX12_init_165 : decode cX12_init 165 = .ok (.newarray .long, 2) := by decide +kernel
theorem dX12_init_167 : decode cX12_init 167 = .ok (.putfield 93, 3) := by decide +kernel
theorem dX12_init_170 : decode cX12_init 170 = .ok (.aload_n 0, 1) := by decide +kernel
theorem dX12_init_171 : decode cX12_init 171 = .ok (.iconst 2, 1) := by decide +kernel
theorem dX12_init_172 : decode cX12_init 172 = .ok (.newarray .boolean, 2) := by decide +kernel
theorem dX12_init_174 : decode cX12_init 174 = .ok (.putfield 96, 3) := by decide +kernel
theorem dX12_init_177 : decode cX12_init 177 = .ok (.aload_n 0, 1) := by decide +kernel
theorem dX12_init_178 : decode cX12_init 178 = .ok (.getfield 47, 3) := by decide +kernel
theorem dX12_init_181 : decode cX12_init 181 = .ok (.iconst 0, 1) := by decide +kernel
theorem dX12_init_182 : decode cX12_init 182 = .ok (.ldc2_w 99, 3) := by decide +kernel
theorem dX12_init_185 : decode cX12_init 185 = .ok (.lastore, 1) := by decide +kernel
theorem dX12_init_186 : decode cX12_init 186 = .ok (.aload_n 0, 1) := by decide +kernel
theorem dX12_init_187 : decode cX12_init 187 = .ok (.getfield 47, 3) := by decide +kernel
theorem dX12_init_190 : decode cX12_init 190 = .ok (.iconst 1, 1) := by decide +kernel
theorem dX12_init_191 : decode cX12_init 191 = .ok (.ldc2_w 101, 3) := by decide +kernel
theorem dX12_init_194 : decode cX12_init 194 = .ok (.lastore, 1) := by decide +kernel
theorem dX12_init_195 : decode cX12_init 195 = .ok (.aload_n 0, 1) := by decide +kernel
theorem dX12_init_196 : decode cX12_init 196 = .ok (.getfield 47, 3) := by decide +kernel
theorem dX12_init_199 : decode cX12_init 199 = .ok (.iconst 2, 1) := by decide +kernel
theorem dX12_init_200 : decode cX12_init 200 = .ok (.ldc2_w 103, 3) := by decide +kernel
theorem dX12_init_203 : decode cX12_init 203 = .ok (.lastore, 1) := by decide +kernel
theorem dX12_init_204 : decode cX12_init 204 = .ok (.aload_n 0, 1) := by decide +kernel
theorem dX12_init_205 : decode cX12_init 205 = .ok (.getfield 47, 3) := by decide +kernel
theorem dX12_init_208 : decode cX12_init 208 = .ok (.iconst 3, 1) := by decide +kernel
theorem dX12_init_209 : decode cX12_init 209 = .ok (.ldc2_w 105, 3) := by decide +kernel
theorem dX12_init_212 : decode cX12_init 212 = .ok (.lastore, 1) := by decide +kernel
theorem dX12_init_213 : decode cX12_init 213 = .ok (.aload_n 0, 1) := by decide +kernel
theorem dX12_init_214 : decode cX12_init 214 = .ok (.getfield 47, 3) := by decide +kernel
theorem dX12_init_217 : decode cX12_init 217 = .ok (.iconst 4, 1) := by decide +kernel
theorem dX12_init_218 : decode cX12_init 218 = .ok (.ldc2_w 107, 3) := by decide +kernel
theorem dX12_init_221 : decode cX12_init 221 = .ok (.lastore, 1) := by decide +kernel
theorem dX12_init_222 : decode cX12_init 222 = .ok (.aload_n 0, 1) := by decide +kernel
theorem dX12_init_223 : decode cX12_init 223 = .ok (.getfield 47, 3) := by decide +kernel
theorem dX12_init_226 : decode cX12_init 226 = .ok (.iconst 5, 1) := by decide +kernel
theorem dX12_init_227 : decode cX12_init 227 = .ok (.ldc2_w 109, 3) := by decide +kernel
theorem dX12_init_230 : decode cX12_init 230 = .ok (.lastore, 1) := by decide +kernel
theorem dX12_init_231 : decode cX12_init 231 = .ok (.aload_n 0, 1) := by decide +kernel
theorem dX12_init_232 : decode cX12_init 232 = .ok (.getfield 47, 3) := by decide +kernel
theorem dX12_init_235 : decode cX12_init 235 = .ok (.bipush 6, 2) := by decide +kernel
theorem dX12_init_237 : decode cX12_init 237 = .ok (.ldc2_w 111, 3) := by decide +kernel
theorem dX12_init_240 : decode cX12_init 240 = .ok (.lastore, 1) := by decide +kernel
theorem dX12_init_241 : decode cX12_init 241 = .ok (.aload_n 0, 1) := by decide +kernel
theorem dX12_init_242 : decode cX12_init 242 = .ok (.getfield 47, 3) := by decide +kernel
theorem dX12_init_245 : decode cX12_init 245 = .ok (.bipush 7, 2) := by decide +kernel
theorem dX12_init_247 : decode cX12_init 247 = .ok (.ldc2_w 113, 3) := by decide +kernel
theorem dX12_init_250 : decode cX12_init 250 = .ok (.lastore, 1) := by decide +kernel
theorem dX12_init_251 : decode cX12_init 251 = .ok (.aload_n 0, 1) := by decide +kernel
theorem dX12_init_252 : decode cX12_init 252 = .ok (.getfield 47, 3) := by decide +kernel
theorem dX12_init_255 : decode cX12_init 255 = .ok (.bipush 8, 2) := by decide +kernel
theorem dX12_init_257 : decode cX12_init 257 = .ok (.ldc2_w 115, 3) := by decide +kernel
theorem dX12_init_260 : decode cX12_init 260 = .ok (.lastore, 1) := by decide +kernel
theorem dX12_init_261 : decode cX12_init 261 = .ok (.aload_n 0, 1) := by decide +kernel
theorem dX12_init_262 : decode cX12_init 262 = .ok (.getfield 47, 3) := by decide +kernel
theorem dX12_init_265 : decode cX12_init 265 = .ok (.bipush 9, 2) := by decide +kernel
theorem dX12_init_267 : decode cX12_init 267 = .ok (.ldc2_w 117, 3) := by decide +kernel
theorem dX12_init_270 : decode cX12_init 270 = .ok (.lastore, 1) := by decide +kernel
theorem dX12_init_271 : decode cX12_init 271 = .ok (.aload_n 0, 1) := by decide +kernel
theorem dX12_init_272 : decode cX12_init 272 = .ok (.getfield 47, 3) := by decide +kernel
theorem dX12_init_275 : decode cX12_init 275 = .ok (.bipush 10, 2) := by decide +kernel
theorem dX12_init_277 : decode cX12_init 277 = .ok (.ldc2_w 119, 3) := by decide +kernel
theorem dX12_init_280 : decode cX12_init 280 = .ok (.lastore, 1) := by decide +kernel
theorem dX12_init_281 : decode cX12_init 281 = .ok (.aload_n 0, 1) := by decide +kernel
theorem dX12_init_282 : decode cX12_init 282 = .ok (.getfield 47, 3) := by decide +kernel
theorem dX12_init_285 : decode cX12_init 285 = .ok (.bipush 11, 2) := by decide +kernel
theorem dX12_init_287 : decode cX12_init 287 = .ok (.ldc2_w 121, 3) := by decide +kernel
theorem dX12_init_290 : decode cX12_init 290 = .ok (.lastore, 1) := by decide +kernel
theorem dX12_init_291 : decode cX12_init 291 = .ok (.aload_n 0, 1) := by decide +kernel
theorem dX12_init_292 : decode cX12_init 292 = .ok (.getfield 47, 3) := by decide +kernel
theorem dX12_init_295 : decode cX12_init 295 = .ok (.bipush 12, 2) := by decide +kernel
theorem dX12_init_297 : decode cX12_init 297 = .ok (.ldc2_w 123, 3) := by decide +kernel
theorem dX12_init_300 : decode cX12_init 300 = .ok (.lastore, 1) := by decide +kernel
theorem dX12_init_301 : decode cX12_init 301 = .ok (.aload_n 0, 1) := by decide +kernel
theorem dX12_init_302 : decode cX12_init 302 = .ok (.getfield 47, 3) := by decide +kernel
theorem dX12_init_305 : decode cX12_init 305 = .ok (.bipush 13, 2) := by decide +kernel
theorem dX12_init_307 : decode cX12_init 307 = .ok (.ldc2_w 125, 3) := by decide +kernel
theorem dX12_init_310 : decode cX12_init 310 = .ok (.lastore, 1) := by decide +kernel
theorem dX12_init_311 : decode cX12_init 311 = .ok (.aload_n 0, 1) := by decide +kernel
theorem dX12_init_312 : decode cX12_init 312 = .ok (.getfield 47, 3) := by decide +kernel
theorem dX12_init_315 : decode cX12_init 315 = .ok (.bipush 14, 2) := by decide +kernel
theorem dX12_init_317 : decode cX12_init 317 = .ok (.ldc2_w 127, 3) := by decide +kernel
theorem dX12_init_320 : decode cX12_init 320 = .ok (.lastore, 1) := by decide +kernel
theorem dX12_init_321 : decode cX12_init 321 = .ok (.aload_n 0, 1) := by decide +kernel
theorem dX12_init_322 : decode cX12_init 322 = .ok (.getfield 47, 3) := by decide +kernel
theorem dX12_init_325 : decode cX12_init 325 = .ok (.bipush 15, 2) := by decide +kernel
theorem dX12_init_327 : decode cX12_init 327 = .ok (.ldc2_w 129, 3) := by decide +kernel
theorem dX12_init_330 : decode cX12_init 330 = .ok (.lastore, 1) := by decide +kernel
theorem dX12_init_331 : decode cX12_init 331 = .ok (.aload_n 0, 1) := by decide +kernel
theorem dX12_init_332 : decode cX12_init 332 = .ok (.getfield 47, 3) := by decide +kernel
theorem dX12_init_335 : decode cX12_init 335 = .ok (.bipush 16, 2) := by decide +kernel
theorem dX12_init_337 : decode cX12_init 337 = .ok (.ldc2_w 131, 3) := by decide +kernel
theorem dX12_init_340 : decode cX12_init 340 = .ok (.lastore, 1) := by decide +kernel
theorem dX12_init_341 : decode cX12_init 341 = .ok (.aload_n 0, 1) := by decide +kernel
theorem dX12_init_342 : decode cX12_init 342 = .ok (.getfield 47, 3) := by decide +kernel
theorem dX12_init_345 : decode cX12_init 345 = .ok (.bipush 17, 2) := by decide +kernel
theorem dX12_init_347 : decode cX12_init 347 = .ok (.ldc2_w 133, 3) := by decide +kernel
theorem dX12_init_350 : decode cX12_init 350 = .ok (.lastore, 1) := by decide +kernel
theorem dX12_init_351 : decode cX12_init 351 = .ok (.aload_n 0, 1) := by decide +kernel
theorem dX12_init_352 : decode cX12_init 352 = .ok (.getfield 47, 3) := by decide +kernel
theorem dX12_init_355 : decode cX12_init 355 = .ok (.bipush 18, 2) := by decide +kernel
theorem dX12_init_357 : decode cX12_init 357 = .ok (.ldc2_w 135, 3) := by decide +kernel
theorem dX12_init_360 : decode cX12_init 360 = .ok (.lastore, 1) := by decide +kernel
theorem dX12_init_361 : decode cX12_init 361 = .ok (.aload_n 0, 1) := by decide +kernel
theorem dX12_init_362 : decode cX12_init 362 = .ok (.getfield 47, 3) := by decide +kernel
theorem dX12_init_365 : decode cX12_init 365 = .ok (.bipush 19, 2) := by decide +kernel
theorem dX12_init_367 : decode cX12_init 367 = .ok (.ldc2_w 137, 3) := by decide +kernel
theorem dX12_init_370 : decode cX12_init 370 = .ok (.lastore, 1) := by decide +kernel
theorem dX12_init_371 : decode cX12_init 371 = .ok (.aload_n 0, 1) := by decide +kernel
theorem dX12_init_372 : decode cX12_init 372 = .ok (.getfield 47, 3) := by decide +kernel
theorem dX12_init_375 : decode cX12_init 375 = .ok (.bipush 20, 2) := by decide +kernel
theorem dX12_init_377 : decode cX12_init 377 = .ok (.ldc2_w 139, 3) := by decide +kernel
theorem dX12_init_380 : decode cX12_init 380 = .ok (.lastore, 1) := by decide +kernel
theorem dX12_init_381 : decode cX12_init 381 = .ok (.aload_n 0, 1) := by decide +kernel
theorem dX12_init_382 : decode cX12_init 382 = .ok (.invokevirtual 141, 3) := by decide +kernel
theorem dX12_init_385 : decode cX12_init 385 = .ok (.iconst 0, 1) := by decide +kernel
theorem dX12_init_386 : decode cX12_init 386 = .ok (.istore_n 1, 1) := by decide +kernel
theorem dX12_init_387 : decode cX12_init 387 = .ok (.iload_n 1, 1) := by decide +kernel
theorem dX12_init_388 : decode cX12_init 388 = .ok (.bipush 39, 2) := by decide +kernel
theorem dX12_init_390 : decode cX12_init 390 = .ok (.if_icmp .ge 21, 3) := by decide +kernel
theorem dX12_init_393 : decode cX12_init 393 = .ok (.aload_n 0, 1) := by decide +kernel
theorem dX12_init_394 : decode cX12_init 394 = .ok (.getfield 33, 3) := by decide +kernel
theorem dX12_init_397 : decode cX12_init 397 = .ok (.iload_n 1, 1) := by decide +kernel
theorem dX12_init_398 : decode cX12_init 398 = .ok (.aload_n 0, 1) := by decide +kernel
theorem dX12_init_399 : decode cX12_init 399 = .ok (.getfield 37, 3) := by decide +kernel
theorem dX12_init_402 : decode cX12_init 402 = .ok (.iload_n 1, 1) := by decide +kernel
theorem dX12_init_403 : decode cX12_init 403 = .ok (.iaload, 1) := by decide +kernel
theorem dX12_init_404 : decode cX12_init 404 = .ok (.iastore, 1) := by decide +kernel
theorem dX12_init_405 : decode cX12_init 405 = .ok (.iinc 1 1, 3) := by decide +kernel
theorem dX12_init_408 : decode cX12_init 408 = .ok (.goto (-21), 3) := by decide +kernel
theorem dX12_init_411 : decode cX12_init 411 = .ok (.return_, 1) := by decide +kernel
theorem dX12_clears_0 : decode cX12_clears 0 = .ok (.iconst 0, 1) := by decide +kernel
theorem dX12_clears_1 : decode cX12_clears 1 = .ok (.istore_n 1, 1) := by decide +kernel
theorem dX12_clears_2 : decode cX12_clears 2 = .ok (.iload_n 1, 1) := by decide +kernel
theorem dX12_clears_3 : decode cX12_clears 3 = .ok (.bipush 39, 2) := by decide +kernel
theorem dX12_clears_5 : decode cX12_clears 5 = .ok (.if_icmp .ge 16, 3) := by decide +kernel
theorem dX12_clears_8 : decode cX12_clears 8 = .ok (.aload_n 0, 1) := by decide +kernel
theorem dX12_clears_9 : decode cX12_clears 9 = .ok (.getfield 37, 3) := by decide +kernel
theorem dX12_clears_12 : decode cX12_clears 12 = .ok (.iload_n 1, 1) := by decide +kernel
theorem dX12_clears_13 : decode cX12_clears 13 = .ok (.iconst 0, 1) := by decide +kernel
theorem dX12_clears_14 : decode cX12_clears 14 = .ok (.iastore, 1) := by decide +kernel
theorem dX12_clears_15 : decode cX12_clears 15 = .ok (.iinc 1 1, 3) := by decide +kernel
theorem dX12_clears_18 : decode cX12_clears 18 = .ok (.goto (-16), 3) := by decide +kernel
theorem dX12_clears_21 : decode cX12_clears 21 = .ok (.return_, 1) := by decide +kernel
theorem dX12_peek_0 : decode cX12_peek 0 = .ok (.aload_n 0, 1) := by decide +kernel
theorem dX12_peek_1 : decode cX12_peek 1 = .ok (.getfield 21, 3) := by decide +kernel
theorem dX12_peek_4 : decode cX12_peek 4 = .ok (.aload_n 0, 1) := by decide +kernel
theorem dX12_peek_5 : decode cX12_peek 5 = .ok (.getfield 18, 3) := by decide +kernel
theorem dX12_peek_8 : decode cX12_peek 8 = .ok (.if_icmp .ge 19, 3) := by decide +kernel
theorem dX12_peek_11 : decode cX12_peek 11 = .ok (.aload_n 0, 1) := by decide +kernel
theorem dX12_peek_12 : decode cX12_peek 12 = .ok (.getfield 14, 3) := by decide +kernel
theorem dX12_peek_15 : decode cX12_peek 15 = .ok (.aload_n 0, 1) := by decide +kernel
theorem dX12_peek_16 : decode cX12_peek 16 = .ok (.getfield 21, 3) := by decide +kernel
theorem dX12_peek_19 : decode cX12_peek 19 = .ok (.baload, 1) := by decide +kernel
theorem dX12_peek_20 : decode cX12_peek 20 = .ok (.sipush 255, 3) := by decide +kernel
theorem dX12_peek_23 : decode cX12_peek 23 = .ok (.iand, 1) := by decide +kernel
theorem dX12_peek_24 : decode cX12_peek 24 = .ok (.goto 4, 3) := by decide +kernel
theorem dX12_peek_27 : decode cX12_peek 27 = .ok (.iconst (-1), 1) := by decide +kernel
theorem dX12_peek_28 : decode cX12_peek 28 = .ok (.ireturn, 1) := by decide +kernel
theorem dX12_isSmall_0 : decode cX12_isSmall 0 = .ok (.iload_n 0, 1) := by decide +kernel
theorem dX12_isSmall_1 : decode cX12_isSmall 1 = .ok (.bipush 97, 2) := by decide +kernel
theorem dX12_isSmall_3 : decode cX12_isSmall 3 = .ok (.if_icmp .lt 13, 3) := by decide +kernel
theorem dX12_isSmall_6 : decode cX12_isSmall 6 = .ok (.iload_n 0, 1) := by decide +kernel
theorem dX12_isSmall_7 : decode cX12_isSmall 7 = .ok (.bipush 122, 2) := by decide +kernel
theorem dX12_isSmall_9 : decode cX12_isSmall 9 = .ok (.if_icmp .gt 7, 3) := by decide +kernel
theorem dX12_isSmall_12 : decode cX12_isSmall 12 = .ok (.iconst 1, 1) := by decide +kernel
theorem dX12_isSmall_13 : decode cX12_isSmall 13 = .ok (.goto 4, 3) := by decide +kernel
theorem dX12_isSmall_16 : decode cX12_isSmall 16 = .ok (.iconst 0, 1) := by decide +kernel
theorem dX12_isSmall_17 : decode cX12_isSmall 17 = .ok (.ireturn, 1) := by decide +kernel
theorem dX12_isDigit_0 : decode cX12_isDigit 0 = .ok (.iload_n 0, 1) := by decide +kernel
theorem dX12_isDigit_1 : decode cX12_isDigit 1 = .ok (.bipush 48, 2) := by decide +kernel
theorem dX12_isDigit_3 : decode cX12_isDigit 3 = .ok (.if_icmp .lt 13, 3) := by decide +kernel
theorem dX12_isDigit_6 : decode cX12_isDigit 6 = .ok (.iload_n 0, 1) := by decide +kernel
theorem dX12_isDigit_7 : decode cX12_isDigit 7 = .ok (.bipush 57, 2) := by decide +kernel
theorem dX12_isDigit_9 : decode cX12_isDigit 9 = .ok (.if_icmp .gt 7, 3) := by decide +kernel
theorem dX12_isDigit_12 : decode cX12_isDigit 12 = .ok (.iconst 1, 1) := by decide +kernel
theorem dX12_isDigit_13 : decode cX12_isDigit 13 = .ok (.goto 4, 3) := by decide +kernel
theorem dX12_isDigit_16 : decode cX12_isDigit 16 = .ok (.iconst 0, 1) := by decide +kernel
theorem dX12_isDigit_17 : decode cX12_isDigit 17 = .ok (.ireturn, 1) := by decide +kernel
set_option maxRecDepth 20000 in
theorem ggX12_next_X12_peek : GoodIn wsX12_next wsX12_peek := goodIn_r _ [13, 1, 4, 14, 21, 22, 23, 24, 25, 26, 27, 28, 29, 30, 31, 32, 33, 34, 35, 36, 37, 38, 39, 40, 41, 42, 43, 44, 45, 46, 47, 48, 49, 50, 51, 52, 53, 54, 55, 56, 57, 58, 59, 60, 61, 62, 63, 64, 65, 66, 67, 68, 69] rfl rfl
set_option maxRecDepth 20000 in
theorem gX12_next_X12_peek : GoodIn wsX12_next (wsV RX12 144 RX12 yX12_peek wsX12_peek) := goodIn_app (goodIn_r _ [9, 10, 11, 12] rfl rfl) ggX12_next_X12_peek
set_option maxRecDepth 20000 in
theorem ggX12_next_X12_isSmall : GoodIn wsX12_next wsX12_isSmall := goodIn_r _ [17] rfl rfl
set_option maxRecDepth 20000 in
theorem gX12_next_X12_isSmall : GoodIn wsX12_next (va_wsS RX12 157 yX12_isSmall wsX12_isSmall) := goodIn_app (goodIn_r _ [15, 16, 12] rfl rfl) ggX12_next_X12_isSmall
set_option maxRecDepth 20000 in
theorem ggX12_next_X12_isDigit : GoodIn wsX12_next wsX12_isDigit := goodIn_r _ [20] rfl rfl
set_option maxRecDepth 20000 in
theorem gX12_next_X12_isDigit : GoodIn wsX12_next (va_wsS RX12 161 yX12_isDigit wsX12_isDigit) := goodIn_app (goodIn_r _ [18, 19, 12] rfl rfl) ggX12_next_X12_isDigit
theorem dX12_next_0 : decode cX12_next 0 = .ok (.aload_n 0, 1) := by decide +kernel
theorem dX12_next_1 : decode cX12_next 1 = .ok (.invokevirtual 144, 3) := by decide +kernel
theorem dX12_next_4 : decode cX12_next 4 = .ok (.bipush 32, 2) := by decide +kernel
theorem dX12_next_6 : decode cX12_next 6 = .ok (.if_icmp .eq 12, 3) := by decide +kernel
theorem dX12_next_9 : decode cX12_next 9 = .ok (.aload_n 0, 1) := by decide +kernel
theorem dX12_next_10 : decode cX12_next 10 = .ok (.invokevirtual 144, 3) := by decide +kernel
theorem dX12_next_13 : decode cX12_next 13 = .ok (.bipush 10, 2) := by decide +kernel
theorem dX12_next_15 : decode cX12_next 15 = .ok (.if_icmp .ne 16, 3) := by decide +kernel
theorem dX12_next_18 : decode cX12_next 18 = .ok (.aload_n 0, 1) := by decide +kernel
theorem dX12_next_19 : decode cX12_next 19 = .ok (.dup, 1) := by decide +kernel
theorem dX12_next_20 : decode cX12_next 20 = .ok (.getfield 21, 3) := by decide +kernel
theorem dX12_next_23 : decode cX12_next 23 = .ok (.iconst 1, 1) := by decide +kernel
theorem dX12_next_24 : decode cX12_next 24 = .ok (.iadd, 1) := by decide +kernel
theorem dX12_next_25 : decode cX12_next 25 = .ok (.putfield 21, 3) := by decide +kernel
theorem dX12_next_28 : decode cX12_next 28 = .ok (.goto (-28), 3) := by decide +kernel
theorem dX12_next_31 : decode cX12_next 31 = .ok (.aload_n 0, 1) := by decide +kernel
theorem dX12_next_32 : decode cX12_next 32 = .ok (.aload_n 0, 1) := by decide +kernel
theorem dX12_next_33 : decode cX12_next 33 = .ok (.getfield 21, 3) := by decide +kernel
theorem dX12_next_36 : decode cX12_next 36 = .ok (.putfield 148, 3) := by decide +kernel
theorem dX12_next_39 : decode cX12_next 39 = .ok (.aload_n 0, 1) := by decide +kernel
theorem dX12_next_40 : decode cX12_next 40 = .ok (.iconst 0, 1) := by decide +kernel
theorem dX12_next_41 : decode cX12_next 41 = .ok (.putfield 151, 3) := by decide +kernel
theorem dX12_next_44 : decode cX12_next 44 = .ok (.aload_n 0, 1) := by decide +kernel
theorem dX12_next_45 : decode cX12_next 45 = .ok (.getfield 18, 3) := by decide +kernel
theorem dX12_next_48 : decode cX12_next 48 = .ok (.aload_n 0, 1) := by decide +kernel
theorem dX12_next_49 : decode cX12_next 49 = .ok (.getfield 24, 3) := by decide +kernel
theorem dX12_next_52 : decode cX12_next 52 = .ok (.if_icmp .le 28, 3) := by decide +kernel
theorem dX12_next_55 : decode cX12_next 55 = .ok (.aload_n 0, 1) := by decide +kernel
theorem dX12_next_56 : decode cX12_next 56 = .ok (.getfield 21, 3) := by decide +kernel
theorem dX12_next_59 : decode cX12_next 59 = .ok (.aload_n 0, 1) := by decide +kernel
theorem dX12_next_60 : decode cX12_next 60 = .ok (.getfield 24, 3) := by decide +kernel
theorem dX12_next_63 : decode cX12_next 63 = .ok (.if_icmp .lt 17, 3) := by decide +kernel
theorem dX12_next_66 : decode cX12_next 66 = .ok (.aload_n 0, 1) := by decide +kernel
theorem dX12_next_67 : decode cX12_next 67 = .ok (.aload_n 0, 1) := by decide +kernel
theorem dX12_next_68 : decode cX12_next 68 = .ok (.getfield 24, 3) := by decide +kernel
theorem dX12_next_71 : decode cX12_next 71 = .ok (.putfield 148, 3) := by decide +kernel
theorem dX12_next_74 : decode cX12_next 74 = .ok (.aload_n 0, 1) := by decide +kernel
theorem dX12_next_75 : decode cX12_next 75 = .ok (.iconst 4, 1) := by decide +kernel
theorem dX12_next_76 : decode cX12_next 76 = .ok (.putfield 154, 3) := by decide +kernel
theorem dX12_next_79 : decode cX12_next 79 = .ok (.return_, 1) := by decide +kernel
theorem dX12_next_80 : decode cX12_next 80 = .ok (.aload_n 0, 1) := by decide +kernel
theorem dX12_next_81 : decode cX12_next 81 = .ok (.invokevirtual 144, 3) := by decide +kernel
theorem dX12_next_84 : decode cX12_next 84 = .ok (.istore_n 1, 1) := by decide +kernel
theorem dX12_next_85 : decode cX12_next 85 = .ok (.iload_n 1, 1) := by decide +kernel
theorem dX12_next_86 : decode cX12_next 86 = .ok (.ifCond .ge 9, 3) := by decide +kernel
theorem dX12_next_89 : decode cX12_next 89 = .ok (.aload_n 0, 1) := by decide +kernel
theorem dX12_next_90 : decode cX12_next 90 = .ok (.iconst 0, 1) := by decide +kernel
theorem dX12_next_91 : decode cX12_next 91 = .ok (.putfield 154, 3) := by decide +kernel
theorem dX12_next_94 : decode cX12_next 94 = .ok (.return_, 1) := by decide +kernel
theorem dX12_next_95 : decode cX12_next 95 = .ok (.iload_n 1, 1) := by decide +kernel
theorem dX12_next_96 : decode cX12_next 96 = .ok (.invokestatic 157, 3) := by decide +kernel
theorem dX12_next_99 : decode cX12_next 99 = .ok (.ifCond .ne 65, 3) := by decide +kernel
theorem dX12_next_102 : decode cX12_next 102 = .ok (.iload_n 1, 1) := by decide +kernel
theorem dX12_next_103 : decode cX12_next 103 = .ok (.invokestatic 161, 3) := by decide +kernel
theorem dX12_next_106 : decode cX12_next 106 = .ok (.ifCond .ne 58, 3) := by decide +kernel
theorem dX12_next_109 : decode cX12_next 109 = .ok (.aload_n 0, 1) := by decide +kernel
theorem dX12_next_110 : decode cX12_next 110 = .ok (.iload_n 1, 1) := by decide +kernel
theorem dX12_next_111 : decode cX12_next 111 = .ok (.bipush 59, 2) := by decide +kernel
theorem dX12_next_113 : decode cX12_next 113 = .ok (.if_icmp .eq 27, 3) := by decide +kernel
theorem dX12_next_116 : decode cX12_next 116 = .ok (.iload_n 1, 1) := by decide +kernel
theorem dX12_next_117 : decode cX12_next 117 = .ok (.bipush 40, 2) := by decide +kernel
theorem dX12_next_119 : decode cX12_next 119 = .ok (.if_icmp .eq 21, 3) := by decide +kernel
theorem dX12_next_122 : decode cX12_next 122 = .ok (.iload_n 1, 1) := by decide +kernel
theorem dX12_next_123 : decode cX12_next 123 = .ok (.bipush 41, 2) := by decide +kernel
theorem dX12_next_125 : decode cX12_next 125 = .ok (.if_icmp .eq 15, 3) := by decide +kernel
theorem dX12_next_128 : decode cX12_next 128 = .ok (.iload_n 1, 1) := by decide +kernel
theorem dX12_next_129 : decode cX12_next 129 = .ok (.bipush 60, 2) := by decide +kernel
theorem dX12_next_131 : decode cX12_next 131 = .ok (.if_icmp .lt 13, 3) := by decide +kernel
theorem dX12_next_134 : decode cX12_next 134 = .ok (.iload_n 1, 1) := by decide +kernel
theorem dX12_next_135 : decode cX12_next 135 = .ok (.bipush 62, 2) := by decide +kernel
theorem dX12_next_137 : decode cX12_next 137 = .ok (.if_icmp .gt 7, 3) := by decide +kernel
theorem dX12_next_140 : decode cX12_next 140 = .ok (.iconst 3, 1) := by decide +kernel
theorem dX12_next_141 : decode cX12_next 141 = .ok (.goto 4, 3) := by decide +kernel
theorem dX12_next_144 : decode cX12_next 144 = .ok (.iconst 4, 1) := by decide +kernel
theorem dX12_next_145 : decode cX12_next 145 = .ok (.putfield 154, 3) := by decide +kernel
theorem dX12_next_148 : decode cX12_next 148 = .ok (.aload_n 0, 1) := by decide +kernel
theorem dX12_next_149 : decode cX12_next 149 = .ok (.iload_n 1, 1) := by decide +kernel
theorem dX12_next_150 : decode cX12_next 150 = .ok (.putfield 164, 3) := by decide +kernel
theorem dX12_next_153 : decode cX12_next 153 = .ok (.aload_n 0, 1) := by decide +kernel
theorem dX12_next_154 : decode cX12_next 154 = .ok (.dup, 1) := by decide +kernel
theorem dX12_next_155 : decode cX12_next 155 = .ok (.getfield 21, 3) := by decide +kernel
theorem dX12_next_158 : decode cX12_next 158 = .ok (.iconst 1, 1) := by decide +kernel
theorem dX12_next_159 : decode cX12_next 159 = .ok (.iadd, 1) := by decide +kernel
theorem dX12_next_160 : decode cX12_next 160 = .ok (.putfield 21, 3) := by decide +kernel
theorem dX12_next_163 : decode cX12_next 163 = .ok (.return_, 1) := by decide +kernel
theorem dX12_next_164 : decode cX12_next 164 = .ok (.iload_n 1, 1) := by decide +kernel
theorem dX12_next_165 : decode cX12_next 165 = .ok (.invokestatic 157, 3) := by decide +kernel
theorem dX12_next_168 : decode cX12_next 168 = .ok (.istore_n 2, 1) := by decide +kernel
theorem dX12_next_169 : decode cX12_next 169 = .ok (.iconst 1, 1) := by decide +kernel
theorem dX12_next_170 : decode cX12_next 170 = .ok (.istore_n 3, 1) := by decide +kernel
theorem dX12_next_171 : decode cX12_next 171 = .ok (.aload_n 0, 1) := by decide +kernel
theorem dX12_next_172 : decode cX12_next 172 = .ok (.lconst 0, 1) := by decide +kernel
theorem dX12_next_173 : decode cX12_next 173 = .ok (.putfield 167, 3) := by decide +kernel
theorem dX12_next_176 : decode cX12_next 176 = .ok (.aload_n 0, 1) := by decide +kernel
theorem dX12_next_177 : decode cX12_next 177 = .ok (.iconst 0, 1) := by decide +kernel
theorem dX12_next_178 : decode cX12_next 178 = .ok (.putfield 164, 3) := by decide +kernel
theorem dX12_next_181 : decode cX12_next 181 = .ok (.aload_n 0, 1) := by decide +kernel
theorem dX12_next_182 : decode cX12_next 182 = .ok (.invokevirtual 144, 3) := by decide +kernel
theorem dX12_next_185 : decode cX12_next 185 = .ok (.invokestatic 157, 3) := by decide +kernel
theorem dX12_next_188 : decode cX12_next 188 = .ok (.ifCond .ne 13, 3) := by decide +kernel
theorem dX12_next_191 : decode cX12_next 191 = .ok (.aload_n 0, 1) := by decide +kernel
theorem dX12_next_192 : decode cX12_next 192 = .ok (.invokevirtual 144, 3) := by decide +kernel
theorem dX12_next_195 : decode cX12_next 195 = .ok (.invokestatic 161, 3) := by decide +kernel
theorem dX12_next_198 : decode cX12_next 198 = .ok (.ifCond .eq 100, 3) := by decide +kernel
theorem dX12_next_201 : decode cX12_next 201 = .ok (.iload_n 3, 1) := by decide +kernel
theorem dX12_next_202 : decode cX12_next 202 = .ok (.ifCond .eq 18, 3) := by decide +kernel
theorem dX12_next_205 : decode cX12_next 205 = .ok (.aload_n 0, 1) := by decide +kernel
theorem dX12_next_206 : decode cX12_next 206 = .ok (.invokevirtual 144, 3) := by decide +kernel
theorem dX12_next_209 : decode cX12_next 209 = .ok (.invokestatic 157, 3) := by decide +kernel
theorem dX12_next_212 : decode cX12_next 212 = .ok (.iload_n 2, 1) := by decide +kernel
theorem dX12_next_213 : decode cX12_next 213 = .ok (.if_icmp .ne 7, 3) := by decide +kernel
theorem dX12_next_216 : decode cX12_next 216 = .ok (.iconst 1, 1) := by decide +kernel
theorem dX12_next_217 : decode cX12_next 217 = .ok (.goto 4, 3) := by decide +kernel
theorem dX12_next_220 : decode cX12_next 220 = .ok (.iconst 0, 1) := by decide +kernel
theorem dX12_next_221 : decode cX12_next 221 = .ok (.istore_n 3, 1) := by decide +kernel
theorem dX12_next_222 : decode cX12_next 222 = .ok (.aload_n 0, 1) := by decide +kernel
theorem dX12_next_223 : decode cX12_next 223 = .ok (.getfield 151, 3) := by decide +kernel
theorem dX12_next_226 : decode cX12_next 226 = .ok (.bipush 7, 2) := by decide +kernel
theorem dX12_next_228 : decode cX12_next 228 = .ok (.if_icmp .ge 20, 3) := by decide +kernel
theorem dX12_next_231 : decode cX12_next 231 = .ok (.aload_n 0, 1) := by decide +kernel
theorem dX12_next_232 : decode cX12_next 232 = .ok (.aload_n 0, 1) := by decide +kernel
theorem dX12_next_233 : decode cX12_next 233 = .ok (.getfield 167, 3) := by decide +kernel
theorem dX12_next_236 : decode cX12_next 236 = .ok (.bipush 8, 2) := by decide +kernel
theorem dX12_next_238 : decode cX12_next 238 = .ok (.lshl, 1) := by decide +kernel
theorem dX12_next_239 : decode cX12_next 239 = .ok (.aload_n 0, 1) := by decide +kernel
theorem dX12_next_240 : decode cX12_next 240 = .ok (.invokevirtual 144, 3) := by decide +kernel
theorem dX12_next_243 : decode cX12_next 243 = .ok (.i2l, 1) := by decide +kernel
theorem dX12_next_244 : decode cX12_next 244 = .ok (.lor, 1) := by decide +kernel
theorem dX12_next_245 : decode cX12_next 245 = .ok (.putfield 167, 3) := by decide +kernel
theorem dX12_next_248 : decode cX12_next 248 = .ok (.aload_n 0, 1) := by decide +kernel
theorem dX12_next_249 : decode cX12_next 249 = .ok (.getfield 151, 3) := by decide +kernel
theorem dX12_next_252 : decode cX12_next 252 = .ok (.iconst 3, 1) := by decide +kernel
theorem dX12_next_253 : decode cX12_next 253 = .ok (.if_icmp .ge 22, 3) := by decide +kernel
theorem dX12_next_256 : decode cX12_next 256 = .ok (.aload_n 0, 1) := by decide +kernel
theorem dX12_next_257 : decode cX12_next 257 = .ok (.bipush 10, 2) := by decide +kernel
theorem dX12_next_259 : decode cX12_next 259 = .ok (.aload_n 0, 1) := by decide +kernel
theorem dX12_next_260 : decode cX12_next 260 = .ok (.getfield 164, 3) := by decide +kernel
theorem dX12_next_263 : decode cX12_next 263 = .ok (.imul, 1) := by decide +kernel
theorem dX12_next_264 : decode cX12_next 264 = .ok (.aload_n 0, 1) := by decide +kernel
theorem dX12_next_265 : decode cX12_next 265 = .ok (.invokevirtual 144, 3) := by decide +kernel
theorem dX12_next_268 : decode cX12_next 268 = .ok (.iadd, 1) := by decide +kernel
theorem dX12_next_269 : decode cX12_next 269 = .ok (.bipush 48, 2) := by decide +kernel
theorem dX12_next_271 : decode cX12_next 271 = .ok (.isub, 1) := by decide +kernel
theorem dX12_next_272 : decode cX12_next 272 = .ok (.putfield 164, 3) := by decide +kernel
theorem dX12_next_275 : decode cX12_next 275 = .ok (.aload_n 0, 1) := by decide +kernel
theorem dX12_next_276 : decode cX12_next 276 = .ok (.dup, 1) := by decide +kernel
theorem dX12_next_277 : decode cX12_next 277 = .ok (.getfield 151, 3) := by decide +kernel
theorem dX12_next_280 : decode cX12_next 280 = .ok (.iconst 1, 1) := by decide +kernel
theorem dX12_next_281 : decode cX12_next 281 = .ok (.iadd, 1) := by decide +kernel
theorem dX12_next_282 : decode cX12_next 282 = .ok (.putfield 151, 3) := by decide +kernel
theorem dX12_next_285 : decode cX12_next 285 = .ok (.aload_n 0, 1) := by decide +kernel
theorem dX12_next_286 : decode cX12_next 286 = .ok (.dup, 1) := by decide +kernel
theorem dX12_next_287 : decode cX12_next 287 = .ok (.getfield 21, 3) := by decide +kernel
theorem dX12_next_290 : decode cX12_next 290 = .ok (.iconst 1, 1) := by decide +kernel
theorem dX12_next_291 : decode cX12_next 291 = .ok (.iadd, 1) := by decide +kernel
theorem dX12_next_292 : decode cX12_next 292 = .ok (.putfield 21, 3) := by decide +kernel
theorem dX12_next_295 : decode cX12_next 295 = .ok (.goto (-114), 3) := by decide +kernel
theorem dX12_next_298 : decode cX12_next 298 = .ok (.aload_n 0, 1) := by decide +kernel
theorem dX12_next_299 : decode cX12_next 299 = .ok (.iload_n 3, 1) := by decide +kernel
theorem dX12_next_300 : decode cX12_next 300 = .ok (.ifCond .eq 20, 3) := by decide +kernel
theorem dX12_next_303 : decode cX12_next 303 = .ok (.aload_n 0, 1) := by decide +kernel
theorem dX12_next_304 : decode cX12_next 304 = .ok (.getfield 151, 3) := by decide +kernel
theorem dX12_next_307 : decode cX12_next 307 = .ok (.iload_n 2, 1) := by decide +kernel
theorem dX12_next_308 : decode cX12_next 308 = .ok (.ifCond .eq 8, 3) := by decide +kernel
theorem dX12_next_311 : decode cX12_next 311 = .ok (.bipush 7, 2) := by decide +kernel
theorem dX12_next_313 : decode cX12_next 313 = .ok (.goto 4, 3) := by decide +kernel
theorem dX12_next_316 : decode cX12_next 316 = .ok (.iconst 3, 1) := by decide +kernel
theorem dX12_next_317 : decode cX12_next 317 = .ok (.if_icmp .le 7, 3) := by decide +kernel
theorem dX12_next_320 : decode cX12_next 320 = .ok (.iconst 4, 1) := by decide +kernel
theorem dX12_next_321 : decode cX12_next 321 = .ok (.goto 12, 3) := by decide +kernel
theorem dX12_next_324 : decode cX12_next 324 = .ok (.iload_n 2, 1) := by decide +kernel
theorem dX12_next_325 : decode cX12_next 325 = .ok (.ifCond .eq 7, 3) := by decide +kernel
theorem dX12_next_328 : decode cX12_next 328 = .ok (.iconst 1, 1) := by decide +kernel
theorem dX12_next_329 : decode cX12_next 329 = .ok (.goto 4, 3) := by decide +kernel
theorem dX12_next_332 : decode cX12_next 332 = .ok (.iconst 2, 1) := by decide +kernel
theorem dX12_next_333 : decode cX12_next 333 = .ok (.putfield 154, 3) := by decide +kernel
theorem dX12_next_336 : decode cX12_next 336 = .ok (.return_, 1) := by decide +kernel
theorem dX12_bad_0 : decode cX12_bad 0 = .ok (.aload_n 0, 1) := by decide +kernel
theorem dX12_bad_1 : decode cX12_bad 1 = .ok (.iload_n 1, 1) := by decide +kernel
theorem dX12_bad_2 : decode cX12_bad 2 = .ok (.putfield 171, 3) := by decide +kernel
theorem dX12_bad_5 : decode cX12_bad 5 = .ok (.aload_n 0, 1) := by decide +kernel
theorem dX12_bad_6 : decode cX12_bad 6 = .ok (.aload_n 0, 1) := by decide +kernel
theorem dX12_bad_7 : decode cX12_bad 7 = .ok (.getfield 148, 3) := by decide +kernel
theorem dX12_bad_10 : decode cX12_bad 10 = .ok (.putfield 174, 3) := by decide +kernel
theorem dX12_bad_13 : decode cX12_bad 13 = .ok (.iconst 0, 1) := by decide +kernel
theorem dX12_bad_14 : decode cX12_bad 14 = .ok (.ireturn, 1) := by decide +kernel
theorem dX12_isWord_0 : decode cX12_isWord 0 = .ok (.aload_n 0, 1) := by decide +kernel
theorem dX12_isWord_1 : decode cX12_isWord 1 = .ok (.getfield 154, 3) := by decide +kernel
theorem dX12_isWord_4 : decode cX12_isWord 4 = .ok (.iconst 1, 1) := by decide +kernel
theorem dX12_isWord_5 : decode cX12_isWord 5 = .ok (.if_icmp .ne 16, 3) := by decide +kernel
theorem dX12_isWord_8 : decode cX12_isWord 8 = .ok (.aload_n 0, 1) := by decide +kernel
theorem dX12_isWord_9 : decode cX12_isWord 9 = .ok (.getfield 167, 3) := by decide +kernel
theorem dX12_isWord_12 : decode cX12_isWord 12 = .ok (.lload_n 1, 1) := by decide +kernel
theorem dX12_isWord_13 : decode cX12_isWord 13 = .ok (.lcmp, 1) := by decide +kernel
theorem dX12_isWord_14 : decode cX12_isWord 14 = .ok (.ifCond .ne 7, 3) := by decide +kernel
theorem dX12_isWord_17 : decode cX12_isWord 17 = .ok (.iconst 1, 1) := by decide +kernel
theorem dX12_isWord_18 : decode cX12_isWord 18 = .ok (.goto 4, 3) := by decide +kernel
theorem dX12_isWord_21 : decode cX12_isWord 21 = .ok (.iconst 0, 1) := by decide +kernel
theorem dX12_isWord_22 : decode cX12_isWord 22 = .ok (.ireturn, 1) := by decide +kernel
theorem dX12_isSign_0 : decode cX12_isSign 0 = .ok (.aload_n 0, 1) := by decide +kernel
theorem dX12_isSign_1 : decode cX12_isSign 1 = .ok (.getfield 154, 3) := by decide +kernel
theorem dX12_isSign_4 : decode cX12_isSign 4 = .ok (.iconst 3, 1) := by decide +kernel
theorem dX12_isSign_5 : decode cX12_isSign 5 = .ok (.if_icmp .ne 15, 3) := by decide +kernel
theorem dX12_isSign_8 : decode cX12_isSign 8 = .ok (.aload_n 0, 1) := by decide +kernel
theorem dX12_isSign_9 : decode cX12_isSign 9 = .ok (.getfield 164, 3) := by decide +kernel
theorem dX12_isSign_12 : decode cX12_isSign 12 = .ok (.iload_n 1, 1) := by decide +kernel
theorem dX12_isSign_13 : decode cX12_isSign 13 = .ok (.if_icmp .ne 7, 3) := by decide +kernel
theorem dX12_isSign_16 : decode cX12_isSign 16 = .ok (.iconst 1, 1) := by decide +kernel
theorem dX12_isSign_17 : decode cX12_isSign 17 = .ok (.goto 4, 3) := by decide +kernel
theorem dX12_isSign_20 : decode cX12_isSign 20 = .ok (.iconst 0, 1) := by decide +kernel
theorem dX12_isSign_21 : decode cX12_isSign 21 = .ok (.ireturn, 1) := by decide +kernel
set_option maxRecDepth 20000 in
theorem ggX12_sign_X12_isSign : GoodIn wsX12_sign wsX12_isSign := goodIn_r _ [5, 6, 7, 35, 36, 37, 38, 39, 40, 41, 42, 43, 44, 45, 46, 47, 48, 49, 50, 51, 52, 53, 54, 55, 56, 57, 58, 59, 60, 61, 62, 63, 64, 65, 66, 67, 68, 69, 70, 71, 72, 73, 74, 75, 76, 77, 78, 79, 80, 81, 82, 83] rfl rfl
set_option maxRecDepth 20000 in
theorem gX12_sign_X12_isSign : GoodIn wsX12_sign (wsV RX12 177 RX12 yX12_isSign wsX12_isSign) := goodIn_app (goodIn_r _ [1, 2, 3, 4] rfl rfl) ggX12_sign_X12_isSign
set_option maxRecDepth 20000 in
theorem ggX12_sign_X12_bad : GoodIn wsX12_sign wsX12_bad := goodIn_r _ [11, 12, 13, 14, 35, 36, 37, 38, 39, 40, 41, 42, 43, 44, 45, 46, 47, 48, 49, 50, 51, 52, 53, 54, 55, 56, 57, 58, 59, 60, 61, 62, 63, 64, 65, 66, 67, 68, 69, 70, 71, 72, 73, 74, 75, 76, 77, 78, 79, 80, 81, 82, 83] rfl rfl
set_option maxRecDepth 20000 in
theorem gX12_sign_X12_bad : GoodIn wsX12_sign (wsV RX12 180 RX12 yX12_bad wsX12_bad) := goodIn_app (goodIn_r _ [8, 9, 10, 4] rfl rfl) ggX12_sign_X12_bad
set_option maxRecDepth 20000 in
theorem ggX12_sign_X12_next : GoodIn wsX12_sign wsX12_next := goodIn_r _ [18, 19, 13, 20, 21, 22, 6, 7, 23, 24, 25, 26, 4, 27, 28, 29, 30, 31, 32, 33, 34, 35, 36, 37, 38, 39, 40, 41, 42, 43, 44, 45, 46, 47, 48, 49, 50, 51, 52, 53, 54, 55, 56, 57, 58, 59, 60, 61, 62, 63, 64, 65, 66, 67, 68, 69, 70, 71, 72, 73, 74, 75, 76, 77, 78, 79, 80, 81, 82, 83] rfl rfl
set_option maxRecDepth 20000 in
theorem gX12_sign_X12_next : GoodIn wsX12_sign (wsV RX12 183 RX12 yX12_next wsX12_next) := goodIn_app (goodIn_r _ [15, 16, 17, 4] rfl rfl) ggX12_sign_X12_next
theorem dX12_sign_0 : decode cX12_sign 0 = .ok (.aload_n 0, 1) := by decide +kernel
theorem dX12_sign_1 : decode cX12_sign 1 = .ok (.iload_n 1, 1) := by decide +kernel
theorem dX12_sign_2 : decode cX12_sign 2 = .ok (.invokevirtual 177, 3) := by decide +kernel
theorem dX12_sign_5 : decode cX12_sign 5 = .ok (.ifCond .ne 9, 3) := by decide +kernel
theorem dX12_sign_8 : decode cX12_sign 8 = .ok (.aload_n 0, 1) := by decide +kernel
theorem dX12_sign_9 : decode cX12_sign 9 = .ok (.iconst 1, 1) := by decide +kernel
theorem dX12_sign_10 : decode cX12_sign 10 = .ok (.invokevirtual 180, 3) := by decide +kernel
theorem dX12_sign_13 : decode cX12_sign 13 = .ok (.ireturn, 1) := by decide +kernel
theorem dX12_sign_14 : decode cX12_sign 14 = .ok (.aload_n 0, 1) := by decide +kernel
theorem dX12_sign_15 : decode cX12_sign 15 = .ok (.invokevirtual 183, 3) := by decide +kernel
theorem dX12_sign_18 : decode cX12_sign 18 = .ok (.iconst 1, 1) := by decide +kernel
theorem dX12_sign_19 : decode cX12_sign 19 = .ok (.ireturn, 1) := by decide +kernel
theorem dX12_isName_0 : decode cX12_isName 0 = .ok (.aload_n 0, 1) := by decide +kernel
theorem dX12_isName_1 : decode cX12_isName 1 = .ok (.getfield 154, 3) := by decide +kernel
theorem dX12_isName_4 : decode cX12_isName 4 = .ok (.iconst 1, 1) := by decide +kernel
theorem dX12_isName_5 : decode cX12_isName 5 = .ok (.if_icmp .ne 7, 3) := by decide +kernel
theorem dX12_isName_8 : decode cX12_isName 8 = .ok (.iconst 1, 1) := by decide +kernel
theorem dX12_isName_9 : decode cX12_isName 9 = .ok (.goto 4, 3) := by decide +kernel
theorem dX12_isName_12 : decode cX12_isName 12 = .ok (.iconst 0, 1) := by decide +kernel
theorem dX12_isName_13 : decode cX12_isName 13 = .ok (.istore_n 1, 1) := by decide +kernel
theorem dX12_isName_14 : decode cX12_isName 14 = .ok (.iconst 0, 1) := by decide +kernel
theorem dX12_isName_15 : decode cX12_isName 15 = .ok (.istore_n 2, 1) := by decide +kernel
theorem dX12_isName_16 : decode cX12_isName 16 = .ok (.iload_n 2, 1) := by decide +kernel
theorem dX12_isName_17 : decode cX12_isName 17 = .ok (.bipush 21, 2) := by decide +kernel
theorem dX12_isName_19 : decode cX12_isName 19 = .ok (.if_icmp .ge 33, 3) := by decide +kernel
theorem dX12_isName_22 : decode cX12_isName 22 = .ok (.iload_n 1, 1) := by decide +kernel
theorem dX12_isName_23 : decode cX12_isName 23 = .ok (.ifCond .eq 21, 3) := by decide +kernel
theorem dX12_isName_26 : decode cX12_isName 26 = .ok (.aload_n 0, 1) := by decide +kernel
theorem dX12_isName_27 : decode cX12_isName 27 = .ok (.getfield 167, 3) := by decide +kernel
theorem dX12_isName_30 : decode cX12_isName 30 = .ok (.aload_n 0, 1) := by decide +kernel
theorem dX12_isName_31 : decode cX12_isName 31 = .ok (.getfield 47, 3) := by decide +kernel
theorem dX12_isName_34 : decode cX12_isName 34 = .ok (.iload_n 2, 1) := by decide +kernel
theorem dX12_isName_35 : decode cX12_isName 35 = .ok (.laload, 1) := by decide +kernel
theorem dX12_isName_36 : decode cX12_isName 36 = .ok (.lcmp, 1) := by decide +kernel
theorem dX12_isName_37 : decode cX12_isName 37 = .ok (.ifCond .eq 7, 3) := by decide +kernel
theorem dX12_isName_40 : decode cX12_isName 40 = .ok (.iconst 1, 1) := by decide +kernel
theorem dX12_isName_41 : decode cX12_isName 41 = .ok (.goto 4, 3) := by decide +kernel
theorem dX12_isName_44 : decode cX12_isName 44 = .ok (.iconst 0, 1) := by decide +kernel
theorem dX12_isName_45 : decode cX12_isName 45 = .ok (.istore_n 1, 1) := by decide +kernel
theorem dX12_isName_46 : decode cX12_isName 46 = .ok (.iinc 2 1, 3) := by decide +kernel
theorem dX12_isName_49 : decode cX12_isName 49 = .ok (.goto (-33), 3) := by decide +kernel
theorem dX12_isName_52 : decode cX12_isName 52 = .ok (.iload_n 1, 1) := by decide +kernel
theorem dX12_isName_53 : decode cX12_isName 53 = .ok (.ireturn, 1) := by decide +kernel
set_option maxRecDepth 20000 in
theorem ggX12_takes_X12_bad : GoodIn wsX12_takes wsX12_bad := goodIn_r _ [8, 9, 10, 11, 35, 36, 37, 38, 39, 40, 41, 42, 43, 44, 45, 46, 47, 48, 49, 50, 51, 52, 53, 54, 55, 56, 57, 58, 59, 60, 61, 62, 63, 64, 65, 66, 67, 68, 69, 70, 71, 72, 73, 74, 75, 76, 77, 78, 79, 80, 81, 82, 83] rfl rfl
set_option maxRecDepth 20000 in
theorem gX12_takes_X12_bad : GoodIn wsX12_takes (wsV RX12 180 RX12 yX12_bad wsX12_bad) := goodIn_app (goodIn_r _ [4, 5, 6, 7] rfl rfl) ggX12_takes_X12_bad
set_option maxRecDepth 20000 in
theorem ggX12_takes_X12_isIn : GoodIn wsX12_takes wsX12_isIn := goodIn_r _ [14] rfl rfl
set_option maxRecDepth 20000 in
theorem gX12_takes_X12_isIn : GoodIn wsX12_takes (va_wsS RX12 186 yX12_isIn wsX12_isIn) := goodIn_app (goodIn_r _ [12, 13, 7] rfl rfl) ggX12_takes_X12_isIn
set_option maxRecDepth 20000 in
theorem ggX12_takes_X12_next : GoodIn wsX12_takes wsX12_next := goodIn_r _ [18, 19, 10, 20, 21, 22, 1, 2, 23, 24, 25, 26, 7, 27, 28, 29, 30, 31, 32, 33, 34, 35, 36, 37, 38, 39, 40, 41, 42, 43, 44, 45, 46, 47, 48, 49, 50, 51, 52, 53, 54, 55, 56, 57, 58, 59, 60, 61, 62, 63, 64, 65, 66, 67, 68, 69, 70, 71, 72, 73, 74, 75, 76, 77, 78, 79, 80, 81, 82, 83] rfl rfl
set_option maxRecDepth 20000 in
theorem gX12_takes_X12_next : GoodIn wsX12_takes (wsV RX12 183 RX12 yX12_next wsX12_next) := goodIn_app (goodIn_r _ [15, 16, 17, 7] rfl rfl) ggX12_takes_X12_next
theorem dX12_takes_0 : decode cX12_takes 0 = .ok (.aload_n 0, 1) := by decide +kernel
theorem dX12_takes_1 : decode cX12_takes 1 = .ok (.getfield 154, 3) := by decide +kernel
theorem dX12_takes_4 : decode cX12_takes 4 = .ok (.iconst 2, 1) := by decide +kernel
theorem dX12_takes_5 : decode cX12_takes 5 = .ok (.if_icmp .eq 9, 3) := by decide +kernel
theorem dX12_takes_8 : decode cX12_takes 8 = .ok (.aload_n 0, 1) := by decide +kernel
theorem dX12_takes_9 : decode cX12_takes 9 = .ok (.iconst 1, 1) := by decide +kernel
theorem dX12_takes_10 : decode cX12_takes 10 = .ok (.invokevirtual 180, 3) := by decide +kernel
theorem dX12_takes_13 : decode cX12_takes 13 = .ok (.ireturn, 1) := by decide +kernel
theorem dX12_takes_14 : decode cX12_takes 14 = .ok (.aload_n 0, 1) := by decide +kernel
theorem dX12_takes_15 : decode cX12_takes 15 = .ok (.getfield 164, 3) := by decide +kernel
theorem dX12_takes_18 : decode cX12_takes 18 = .ok (.iload_n 1, 1) := by decide +kernel
theorem dX12_takes_19 : decode cX12_takes 19 = .ok (.iload_n 2, 1) := by decide +kernel
theorem dX12_takes_20 : decode cX12_takes 20 = .ok (.invokestatic 186, 3) := by decide +kernel
theorem dX12_takes_23 : decode cX12_takes 23 = .ok (.ifCond .ne 9, 3) := by decide +kernel
theorem dX12_takes_26 : decode cX12_takes 26 = .ok (.aload_n 0, 1) := by decide +kernel
theorem dX12_takes_27 : decode cX12_takes 27 = .ok (.iconst 2, 1) := by decide +kernel
theorem dX12_takes_28 : decode cX12_takes 28 = .ok (.invokevirtual 180, 3) := by decide +kernel
theorem dX12_takes_31 : decode cX12_takes 31 = .ok (.ireturn, 1) := by decide +kernel
theorem dX12_takes_32 : decode cX12_takes 32 = .ok (.aload_n 0, 1) := by decide +kernel
theorem dX12_takes_33 : decode cX12_takes 33 = .ok (.aload_n 0, 1) := by decide +kernel
theorem dX12_takes_34 : decode cX12_takes 34 = .ok (.getfield 164, 3) := by decide +kernel
theorem dX12_takes_37 : decode cX12_takes 37 = .ok (.putfield 190, 3) := by decide +kernel
theorem dX12_takes_40 : decode cX12_takes 40 = .ok (.aload_n 0, 1) := by decide +kernel
theorem dX12_takes_41 : decode cX12_takes 41 = .ok (.invokevirtual 183, 3) := by decide +kernel
theorem dX12_takes_44 : decode cX12_takes 44 = .ok (.iconst 1, 1) := by decide +kernel
theorem dX12_takes_45 : decode cX12_takes 45 = .ok (.ireturn, 1) := by decide +kernel
set_option maxRecDepth 20000 in
theorem ggX12_puts_X12_takes : GoodIn wsX12_puts wsX12_takes := goodIn_r _ [7, 8, 9, 2, 10, 11, 12, 6, 13, 14, 15, 16, 17, 18, 19, 20, 21, 22, 23, 24, 25, 26, 27, 28, 29, 30, 31, 32, 33, 34, 35, 36, 37, 38, 39, 40, 41, 42, 43, 44, 45, 46, 47, 48, 49, 50, 51, 52, 53, 54, 55, 56, 57, 58, 59, 60, 61, 62, 63, 64, 65, 66, 67, 68, 69, 70, 71, 72, 73, 74, 75, 76, 77, 78, 79, 80, 81, 82, 83, 84, 85, 86, 87, 88] rfl rfl
set_option maxRecDepth 20000 in
theorem gX12_puts_X12_takes : GoodIn wsX12_puts (wsV RX12 193 RX12 yX12_takes wsX12_takes) := goodIn_app (goodIn_r _ [3, 4, 5, 6] rfl rfl) ggX12_puts_X12_takes
theorem dX12_puts_0 : decode cX12_puts 0 = .ok (.aload_n 0, 1) := by decide +kernel
theorem dX12_puts_1 : decode cX12_puts 1 = .ok (.iload_n 2, 1) := by decide +kernel
theorem dX12_puts_2 : decode cX12_puts 2 = .ok (.iload_n 3, 1) := by decide +kernel
theorem dX12_puts_3 : decode cX12_puts 3 = .ok (.invokevirtual 193, 3) := by decide +kernel
theorem dX12_puts_6 : decode cX12_puts 6 = .ok (.ifCond .ne 5, 3) := by decide +kernel
theorem dX12_puts_9 : decode cX12_puts 9 = .ok (.iconst 0, 1) := by decide +kernel
theorem dX12_puts_10 : decode cX12_puts 10 = .ok (.ireturn, 1) := by decide +kernel
theorem dX12_puts_11 : decode cX12_puts 11 = .ok (.aload_n 0, 1) := by decide +kernel
theorem dX12_puts_12 : decode cX12_puts 12 = .ok (.getfield 37, 3) := by decide +kernel
theorem dX12_puts_15 : decode cX12_puts 15 = .ok (.iload_n 1, 1) := by decide +kernel
theorem dX12_puts_16 : decode cX12_puts 16 = .ok (.aload_n 0, 1) := by decide +kernel
theorem dX12_puts_17 : decode cX12_puts 17 = .ok (.getfield 190, 3) := by decide +kernel
theorem dX12_puts_20 : decode cX12_puts 20 = .ok (.iastore, 1) := by decide +kernel
theorem dX12_puts_21 : decode cX12_puts 21 = .ok (.iconst 1, 1) := by decide +kernel
theorem dX12_puts_22 : decode cX12_puts 22 = .ok (.ireturn, 1) := by decide +kernel
theorem dX12_seek_0 : decode cX12_seek 0 = .ok (.iconst 0, 1) := by decide +kernel
theorem dX12_seek_1 : decode cX12_seek 1 = .ok (.istore_n 3, 1) := by decide +kernel
theorem dX12_seek_2 : decode cX12_seek 2 = .ok (.iload_n 3, 1) := by decide +kernel
theorem dX12_seek_3 : decode cX12_seek 3 = .ok (.iload_n 2, 1) := by decide +kernel
theorem dX12_seek_4 : decode cX12_seek 4 = .ok (.if_icmp .ge 27, 3) := by decide +kernel
theorem dX12_seek_7 : decode cX12_seek 7 = .ok (.aload_n 0, 1) := by decide +kernel
theorem dX12_seek_8 : decode cX12_seek 8 = .ok (.getfield 43, 3) := by decide +kernel
theorem dX12_seek_11 : decode cX12_seek 11 = .ok (.iload_n 1, 1) := by decide +kernel
theorem dX12_seek_12 : decode cX12_seek 12 = .ok (.iload_n 3, 1) := by decide +kernel
theorem dX12_seek_13 : decode cX12_seek 13 = .ok (.iadd, 1) := by decide +kernel
theorem dX12_seek_14 : decode cX12_seek 14 = .ok (.laload, 1) := by decide +kernel
theorem dX12_seek_15 : decode cX12_seek 15 = .ok (.aload_n 0, 1) := by decide +kernel
theorem dX12_seek_16 : decode cX12_seek 16 = .ok (.getfield 167, 3) := by decide +kernel
theorem dX12_seek_19 : decode cX12_seek 19 = .ok (.lcmp, 1) := by decide +kernel
theorem dX12_seek_20 : decode cX12_seek 20 = .ok (.ifCond .ne 5, 3) := by decide +kernel
theorem dX12_seek_23 : decode cX12_seek 23 = .ok (.iload_n 3, 1) := by decide +kernel
theorem dX12_seek_24 : decode cX12_seek 24 = .ok (.ireturn, 1) := by decide +kernel
theorem dX12_seek_25 : decode cX12_seek 25 = .ok (.iinc 3 1, 3) := by decide +kernel
theorem dX12_seek_28 : decode cX12_seek 28 = .ok (.goto (-26), 3) := by decide +kernel
theorem dX12_seek_31 : decode cX12_seek 31 = .ok (.iconst (-1), 1) := by decide +kernel
theorem dX12_seek_32 : decode cX12_seek 32 = .ok (.ireturn, 1) := by decide +kernel
set_option maxRecDepth 20000 in
theorem ggX12_fresh_X12_isName : GoodIn wsX12_fresh wsX12_isName := goodIn_r _ [8, 9, 3, 10, 42, 43, 44, 45, 46, 47, 48, 49, 50, 51, 52, 53, 54, 55, 56, 57, 58, 59, 60, 61, 62, 63, 64, 65, 66, 67, 68, 69, 70, 71, 72, 73, 74, 75, 76, 77, 78, 79, 80, 81, 82, 83, 84, 85, 86, 87, 88, 89, 90] rfl rfl
set_option maxRecDepth 20000 in
theorem gX12_fresh_X12_isName : GoodIn wsX12_fresh (wsV RX12 197 RX12 yX12_isName wsX12_isName) := goodIn_app (goodIn_r _ [4, 5, 6, 7] rfl rfl) ggX12_fresh_X12_isName
set_option maxRecDepth 20000 in
theorem ggX12_fresh_X12_bad : GoodIn wsX12_fresh wsX12_bad := goodIn_r _ [14, 15, 16, 17, 42, 43, 44, 45, 46, 47, 48, 49, 50, 51, 52, 53, 54, 55, 56, 57, 58, 59, 60, 61, 62, 63, 64, 65, 66, 67, 68, 69, 70, 71, 72, 73, 74, 75, 76, 77, 78, 79, 80, 81, 82, 83, 84, 85, 86, 87, 88, 89, 90] rfl rfl
set_option maxRecDepth 20000 in
theorem gX12_fresh_X12_bad : GoodIn wsX12_fresh (wsV RX12 180 RX12 yX12_bad wsX12_bad) := goodIn_app (goodIn_r _ [11, 12, 13, 7] rfl rfl) ggX12_fresh_X12_bad
set_option maxRecDepth 20000 in
theorem ggX12_fresh_X12_seek : GoodIn wsX12_fresh wsX12_seek := goodIn_r _ [21, 2, 3, 42, 43, 44, 45, 46, 47, 48, 49, 50, 51, 52, 53, 54, 55, 56, 57, 58, 59, 60, 61, 62, 63, 64, 65, 66, 67, 68, 69, 70, 71, 72, 73, 74, 75, 76, 77, 78, 79, 80, 81, 82, 83, 84, 85, 86, 87, 88, 89, 90] rfl rfl
set_option maxRecDepth 20000 in
theorem gX12_fresh_X12_seek : GoodIn wsX12_fresh (wsV RX12 201 RX12 yX12_seek wsX12_seek) := goodIn_app (goodIn_r _ [18, 19, 20, 7] rfl rfl) ggX12_fresh_X12_seek
set_option maxRecDepth 20000 in
theorem ggX12_fresh_X12_next : GoodIn wsX12_fresh wsX12_next := goodIn_r _ [25, 26, 16, 27, 28, 29, 9, 30, 3, 31, 32, 33, 7, 34, 35, 36, 37, 38, 39, 40, 41, 42, 43, 44, 45, 46, 47, 48, 49, 50, 51, 52, 53, 54, 55, 56, 57, 58, 59, 60, 61, 62, 63, 64, 65, 66, 67, 68, 69, 70, 71, 72, 73, 74, 75, 76, 77, 78, 79, 80, 81, 82, 83, 84, 85, 86, 87, 88, 89, 90] rfl rfl
set_option maxRecDepth 20000 in
theorem gX12_fresh_X12_next : GoodIn wsX12_fresh (wsV RX12 183 RX12 yX12_next wsX12_next) := goodIn_app (goodIn_r _ [22, 23, 24, 7] rfl rfl) ggX12_fresh_X12_next
theorem dX12_fresh_0 : decode cX12_fresh 0 = .ok (.aload_n 0, 1) := by decide +kernel
theorem dX12_fresh_1 : decode cX12_fresh 1 = .ok (.invokevirtual 197, 3) := by decide +kernel
theorem dX12_fresh_4 : decode cX12_fresh 4 = .ok (.ifCond .ne 9, 3) := by decide +kernel
theorem dX12_fresh_7 : decode cX12_fresh 7 = .ok (.aload_n 0, 1) := by decide +kernel
theorem dX12_fresh_8 : decode cX12_fresh 8 = .ok (.iconst 1, 1) := by decide +kernel
theorem dX12_fresh_9 : decode cX12_fresh 9 = .ok (.invokevirtual 180, 3) := by decide +kernel
theorem dX12_fresh_12 : decode cX12_fresh 12 = .ok (.ireturn, 1) := by decide +kernel
theorem dX12_fresh_13 : decode cX12_fresh 13 = .ok (.aload_n 0, 1) := by decide +kernel
theorem dX12_fresh_14 : decode cX12_fresh 14 = .ok (.bipush 14, 2) := by decide +kernel
theorem dX12_fresh_16 : decode cX12_fresh 16 = .ok (.aload_n 0, 1) := by decide +kernel
theorem dX12_fresh_17 : decode cX12_fresh 17 = .ok (.getfield 37, 3) := by decide +kernel
theorem dX12_fresh_20 : decode cX12_fresh 20 = .ok (.iconst 0, 1) := by decide +kernel
theorem dX12_fresh_21 : decode cX12_fresh 21 = .ok (.iaload, 1) := by decide +kernel
theorem dX12_fresh_22 : decode cX12_fresh 22 = .ok (.invokevirtual 201, 3) := by decide +kernel
theorem dX12_fresh_25 : decode cX12_fresh 25 = .ok (.ifCond .ge 18, 3) := by decide +kernel
theorem dX12_fresh_28 : decode cX12_fresh 28 = .ok (.aload_n 0, 1) := by decide +kernel
theorem dX12_fresh_29 : decode cX12_fresh 29 = .ok (.bipush 20, 2) := by decide +kernel
theorem dX12_fresh_31 : decode cX12_fresh 31 = .ok (.aload_n 0, 1) := by decide +kernel
theorem dX12_fresh_32 : decode cX12_fresh 32 = .ok (.getfield 37, 3) := by decide +kernel
theorem dX12_fresh_35 : decode cX12_fresh 35 = .ok (.iconst 1, 1) := by decide +kernel
theorem dX12_fresh_36 : decode cX12_fresh 36 = .ok (.iaload, 1) := by decide +kernel
theorem dX12_fresh_37 : decode cX12_fresh 37 = .ok (.invokevirtual 201, 3) := by decide +kernel
theorem dX12_fresh_40 : decode cX12_fresh 40 = .ok (.ifCond .lt 9, 3) := by decide +kernel
theorem dX12_fresh_43 : decode cX12_fresh 43 = .ok (.aload_n 0, 1) := by decide +kernel
theorem dX12_fresh_44 : decode cX12_fresh 44 = .ok (.iconst 3, 1) := by decide +kernel
theorem dX12_fresh_45 : decode cX12_fresh 45 = .ok (.invokevirtual 180, 3) := by decide +kernel
theorem dX12_fresh_48 : decode cX12_fresh 48 = .ok (.ireturn, 1) := by decide +kernel
theorem dX12_fresh_49 : decode cX12_fresh 49 = .ok (.aload_n 0, 1) := by decide +kernel
theorem dX12_fresh_50 : decode cX12_fresh 50 = .ok (.getfield 43, 3) := by decide +kernel
theorem dX12_fresh_53 : decode cX12_fresh 53 = .ok (.iload_n 1, 1) := by decide +kernel
theorem dX12_fresh_54 : decode cX12_fresh 54 = .ok (.aload_n 0, 1) := by decide +kernel
theorem dX12_fresh_55 : decode cX12_fresh 55 = .ok (.getfield 167, 3) := by decide +kernel
theorem dX12_fresh_58 : decode cX12_fresh 58 = .ok (.lastore, 1) := by decide +kernel
theorem dX12_fresh_59 : decode cX12_fresh 59 = .ok (.aload_n 0, 1) := by decide +kernel
theorem dX12_fresh_60 : decode cX12_fresh 60 = .ok (.invokevirtual 183, 3) := by decide +kernel
theorem dX12_fresh_63 : decode cX12_fresh 63 = .ok (.iconst 1, 1) := by decide +kernel
theorem dX12_fresh_64 : decode cX12_fresh 64 = .ok (.ireturn, 1) := by decide +kernel
set_option maxRecDepth 20000 in
theorem ggX12_looksAt_X12_isName : GoodIn wsX12_looksAt wsX12_isName := goodIn_r _ [6, 7, 8, 9, 22, 23, 24, 25, 26, 27, 28, 29, 30, 31, 32, 33, 34, 35, 36, 37, 38, 39, 40, 41, 42, 43, 44, 45, 46, 47, 48, 49, 50, 51, 52, 53, 54, 55, 56, 57, 58, 59, 60, 61, 62, 63, 64, 65, 66, 67, 68, 69, 70] rfl rfl
set_option maxRecDepth 20000 in
theorem gX12_looksAt_X12_isName : GoodIn wsX12_looksAt (wsV RX12 197 RX12 yX12_isName wsX12_isName) := goodIn_app (goodIn_r _ [2, 3, 4, 5] rfl rfl) ggX12_looksAt_X12_isName
set_option maxRecDepth 20000 in
theorem ggX12_looksAt_X12_bad : GoodIn wsX12_looksAt wsX12_bad := goodIn_r _ [13, 14, 15, 16, 22, 23, 24, 25, 26, 27, 28, 29, 30, 31, 32, 33, 34, 35, 36, 37, 38, 39, 40, 41, 42, 43, 44, 45, 46, 47, 48, 49, 50, 51, 52, 53, 54, 55, 56, 57, 58, 59, 60, 61, 62, 63, 64, 65, 66, 67, 68, 69, 70] rfl rfl
set_option maxRecDepth 20000 in
theorem gX12_looksAt_X12_bad : GoodIn wsX12_looksAt (wsV RX12 180 RX12 yX12_bad wsX12_bad) := goodIn_app (goodIn_r _ [10, 11, 12, 5] rfl rfl) ggX12_looksAt_X12_bad
set_option maxRecDepth 20000 in
theorem ggX12_looksAt_X12_seek : GoodIn wsX12_looksAt wsX12_seek := goodIn_r _ [20, 21, 8, 22, 23, 24, 25, 26, 27, 28, 29, 30, 31, 32, 33, 34, 35, 36, 37, 38, 39, 40, 41, 42, 43, 44, 45, 46, 47, 48, 49, 50, 51, 52, 53, 54, 55, 56, 57, 58, 59, 60, 61, 62, 63, 64, 65, 66, 67, 68, 69, 70] rfl rfl
set_option maxRecDepth 20000 in
theorem gX12_looksAt_X12_seek : GoodIn wsX12_looksAt (wsV RX12 201 RX12 yX12_seek wsX12_seek) := goodIn_app (goodIn_r _ [17, 18, 19, 5] rfl rfl) ggX12_looksAt_X12_seek
theorem dX12_looksAt_0 : decode cX12_looksAt 0 = .ok (.aload_n 0, 1) := by decide +kernel
theorem dX12_looksAt_1 : decode cX12_looksAt 1 = .ok (.invokevirtual 197, 3) := by decide +kernel
theorem dX12_looksAt_4 : decode cX12_looksAt 4 = .ok (.ifCond .ne 9, 3) := by decide +kernel
theorem dX12_looksAt_7 : decode cX12_looksAt 7 = .ok (.aload_n 0, 1) := by decide +kernel
theorem dX12_looksAt_8 : decode cX12_looksAt 8 = .ok (.iconst 1, 1) := by decide +kernel
theorem dX12_looksAt_9 : decode cX12_looksAt 9 = .ok (.invokevirtual 180, 3) := by decide +kernel
theorem dX12_looksAt_12 : decode cX12_looksAt 12 = .ok (.ireturn, 1) := by decide +kernel
theorem dX12_looksAt_13 : decode cX12_looksAt 13 = .ok (.aload_n 0, 1) := by decide +kernel
theorem dX12_looksAt_14 : decode cX12_looksAt 14 = .ok (.aload_n 0, 1) := by decide +kernel
theorem dX12_looksAt_15 : decode cX12_looksAt 15 = .ok (.iload_n 1, 1) := by decide +kernel
theorem dX12_looksAt_16 : decode cX12_looksAt 16 = .ok (.iload_n 2, 1) := by decide +kernel
theorem dX12_looksAt_17 : decode cX12_looksAt 17 = .ok (.invokevirtual 201, 3) := by decide +kernel
theorem dX12_looksAt_20 : decode cX12_looksAt 20 = .ok (.putfield 190, 3) := by decide +kernel
theorem dX12_looksAt_23 : decode cX12_looksAt 23 = .ok (.aload_n 0, 1) := by decide +kernel
theorem dX12_looksAt_24 : decode cX12_looksAt 24 = .ok (.getfield 190, 3) := by decide +kernel
theorem dX12_looksAt_27 : decode cX12_looksAt 27 = .ok (.ifCond .ge 11, 3) := by decide +kernel
theorem dX12_looksAt_30 : decode cX12_looksAt 30 = .ok (.aload_n 0, 1) := by decide +kernel
theorem dX12_looksAt_31 : decode cX12_looksAt 31 = .ok (.iconst 3, 1) := by decide +kernel
theorem dX12_looksAt_32 : decode cX12_looksAt 32 = .ok (.invokevirtual 180, 3) := by decide +kernel
theorem dX12_looksAt_35 : decode cX12_looksAt 35 = .ok (.ifCond .eq 7, 3) := by decide +kernel
theorem dX12_looksAt_38 : decode cX12_looksAt 38 = .ok (.iconst 1, 1) := by decide +kernel
theorem dX12_looksAt_39 : decode cX12_looksAt 39 = .ok (.goto 4, 3) := by decide +kernel
theorem dX12_looksAt_42 : decode cX12_looksAt 42 = .ok (.iconst 0, 1) := by decide +kernel
theorem dX12_looksAt_43 : decode cX12_looksAt 43 = .ok (.ireturn, 1) := by decide +kernel
set_option maxRecDepth 20000 in
theorem ggX12_takesName_X12_looksAt : GoodIn wsX12_takesName wsX12_looksAt := goodIn_r _ [5, 6, 7, 8, 9, 4, 10, 11, 12, 13, 14, 15, 16, 17, 18, 19, 20, 21, 22, 23, 24, 25, 46, 47, 48, 49, 50, 51, 52, 53, 54, 55, 56, 57, 58, 59, 60, 61, 62, 63, 64, 65, 66, 67, 68, 69, 70, 71, 72, 73, 74, 75, 76, 77, 78, 79, 80, 81, 82, 83, 84, 85, 86, 87, 88, 89, 90, 91, 92, 93, 94] rfl rfl
set_option maxRecDepth 20000 in
theorem gX12_takesName_X12_looksAt : GoodIn wsX12_takesName (wsV RX12 205 RX12 yX12_looksAt wsX12_looksAt) := goodIn_app (goodIn_r _ [1, 2, 3, 4] rfl rfl) ggX12_takesName_X12_looksAt
set_option maxRecDepth 20000 in
theorem ggX12_takesName_X12_next : GoodIn wsX12_takesName wsX12_next := goodIn_r _ [29, 30, 19, 31, 32, 33, 11, 34, 12, 35, 36, 37, 4, 38, 39, 40, 41, 42, 43, 44, 45, 46, 47, 48, 49, 50, 51, 52, 53, 54, 55, 56, 57, 58, 59, 60, 61, 62, 63, 64, 65, 66, 67, 68, 69, 70, 71, 72, 73, 74, 75, 76, 77, 78, 79, 80, 81, 82, 83, 84, 85, 86, 87, 88, 89, 90, 91, 92, 93, 94] rfl rfl
set_option maxRecDepth 20000 in
theorem gX12_takesName_X12_next : GoodIn wsX12_takesName (wsV RX12 183 RX12 yX12_next wsX12_next) := goodIn_app (goodIn_r _ [26, 27, 28, 4] rfl rfl) ggX12_takesName_X12_next
theorem dX12_takesName_0 : decode cX12_takesName 0 = .ok (.aload_n 0, 1) := by decide +kernel
theorem dX12_takesName_1 : decode cX12_takesName 1 = .ok (.iload_n 1, 1) := by decide +kernel
theorem dX12_takesName_2 : decode cX12_takesName 2 = .ok (.iload_n 2, 1) := by decide +kernel
theorem dX12_takesName_3 : decode cX12_takesName 3 = .ok (.invokevirtual 205, 3) := by decide +kernel
theorem dX12_takesName_6 : decode cX12_takesName 6 = .ok (.ifCond .ne 5, 3) := by decide +kernel
theorem dX12_takesName_9 : decode cX12_takesName 9 = .ok (.iconst 0, 1) := by decide +kernel
theorem dX12_takesName_10 : decode cX12_takesName 10 = .ok (.ireturn, 1) := by decide +kernel
theorem dX12_takesName_11 : decode cX12_takesName 11 = .ok (.aload_n 0, 1) := by decide +kernel
theorem dX12_takesName_12 : decode cX12_takesName 12 = .ok (.invokevirtual 183, 3) := by decide +kernel
theorem dX12_takesName_15 : decode cX12_takesName 15 = .ok (.iconst 1, 1) := by decide +kernel
theorem dX12_takesName_16 : decode cX12_takesName 16 = .ok (.ireturn, 1) := by decide +kernel
set_option maxRecDepth 20000 in
theorem ggX12_readLine_X12_isWord : GoodIn wsX12_readLine wsX12_isWord := goodIn_r _ [9, 10, 11, 93, 94, 95, 96, 97, 98, 99, 100, 101, 102, 103, 104, 105, 106, 107, 108, 109, 110, 111, 112, 113, 114, 115, 116, 117, 118, 119, 120, 121, 122, 123, 124, 125, 126, 127, 128, 129, 130, 131, 132, 133, 134, 135, 136, 137, 138, 139, 140, 141] rfl rfl
set_option maxRecDepth 20000 in
theorem gX12_readLine_X12_isWord : GoodIn wsX12_readLine (wsV RX12 208 RX12 yX12_isWord wsX12_isWord) := goodIn_app (goodIn_r _ [5, 6, 7, 8] rfl rfl) ggX12_readLine_X12_isWord
set_option maxRecDepth 20000 in
theorem ggX12_readLine_X12_readMachine : GoodIn wsX12_readLine wsX12_readMachine := goodIn_r _ [15, 16, 17, 18, 19, 8, 20, 21, 22, 23, 24, 25, 26, 27, 28, 29, 30, 31, 10, 32, 11, 33, 34, 35, 36, 37, 38, 39, 40, 41, 42, 43, 44, 45, 46, 47, 48, 49, 50, 51, 52, 53, 54, 55, 56, 57, 58, 59, 60, 61, 62, 63, 64, 65, 66, 67, 68, 69, 93, 94, 95, 96, 97, 98, 99, 100, 101, 102, 103, 104, 105, 106, 107, 108, 109, 110, 111, 112, 113, 114, 115, 116, 117, 118, 119, 120, 121, 122, 123, 124, 125, 126, 127, 128, 129, 130, 131, 132, 133, 134, 135, 136, 137, 138, 139, 140, 141] rfl rfl
set_option maxRecDepth 20000 in
theorem gX12_readLine_X12_readMachine : GoodIn wsX12_readLine (wsV RX12 212 RX12 yX12_readMachine wsX12_readMachine) := goodIn_app (goodIn_r _ [12, 13, 14, 8] rfl rfl) ggX12_readLine_X12_readMachine
set_option maxRecDepth 20000 in
theorem ggX12_readLine_X12_readPhrase : GoodIn wsX12_readLine wsX12_readPhrase := goodIn_r _ [73, 16, 17, 18, 19, 8, 20, 21, 22, 23, 24, 25, 26, 27, 28, 29, 30, 31, 10, 32, 11, 33, 34, 35, 36, 37, 38, 39, 40, 41, 42, 43, 44, 45, 46, 47, 48, 49, 50, 51, 52, 53, 54, 55, 56, 57, 58, 59, 60, 61, 62, 63, 64, 65, 66, 67, 68, 69, 93, 94, 95, 96, 97, 98, 99, 100, 101, 102, 103, 104, 105, 106, 107, 108, 109, 110, 111, 112, 113, 114, 115, 116, 117, 118, 119, 120, 121, 122, 123, 124, 125, 126, 127, 128, 129, 130, 131, 132, 133, 134, 135, 136, 137, 138, 139, 140, 141] rfl rfl
set_option maxRecDepth 20000 in
theorem gX12_readLine_X12_readPhrase : GoodIn wsX12_readLine (wsV RX12 215 RX12 yX12_readPhrase wsX12_readPhrase) := goodIn_app (goodIn_r _ [70, 71, 72, 8] rfl rfl) ggX12_readLine_X12_readPhrase
set_option maxRecDepth 20000 in
theorem ggX12_readLine_X12_readKnows : GoodIn wsX12_readLine wsX12_readKnows := goodIn_r _ [77, 16, 62, 24, 25, 26, 8, 27, 28, 22, 29, 30, 31, 10, 32, 11, 33, 34, 35, 36, 37, 38, 39, 40, 41, 42, 43, 78, 79, 80, 81, 82, 83, 84, 85, 49, 50, 51, 52, 53, 17, 18, 19, 20, 21, 23, 54, 55, 56, 57, 48, 86, 87, 88, 93, 94, 95, 96, 97, 98, 99, 100, 101, 102, 103, 104, 105, 106, 107, 108, 109, 110, 111, 112, 113, 114, 115, 116, 117, 118, 119, 120, 121, 122, 123, 124, 125, 126, 127, 128, 129, 130, 131, 132, 133, 134, 135, 136, 137, 138, 139, 140, 141] rfl rfl
set_option maxRecDepth 20000 in
theorem gX12_readLine_X12_readKnows : GoodIn wsX12_readLine (wsV RX12 218 RX12 yX12_readKnows wsX12_readKnows) := goodIn_app (goodIn_r _ [74, 75, 76, 8] rfl rfl) ggX12_readLine_X12_readKnows
set_option maxRecDepth 20000 in
theorem ggX12_readLine_X12_readAnswers : GoodIn wsX12_readLine wsX12_readAnswers := goodIn_r _ [92, 16, 62, 24, 25, 26, 8, 27, 28, 22, 29, 30, 31, 10, 32, 11, 33, 34, 35, 36, 37, 38, 39, 40, 41, 42, 43, 78, 79, 80, 81, 82, 83, 84, 85, 49, 50, 51, 52, 53, 17, 18, 19, 20, 21, 23, 54, 55, 56, 57, 48, 86, 87, 88, 93, 94, 95, 96, 97, 98, 99, 100, 101, 102, 103, 104, 105, 106, 107, 108, 109, 110, 111, 112, 113, 114, 115, 116, 117, 118, 119, 120, 121, 122, 123, 124, 125, 126, 127, 128, 129, 130, 131, 132, 133, 134, 135, 136, 137, 138, 139, 140, 141] rfl rfl
set_option maxRecDepth 20000 in
theorem gX12_readLine_X12_readAnswers : GoodIn wsX12_readLine (wsV RX12 221 RX12 yX12_readAnswers wsX12_readAnswers) := goodIn_app (goodIn_r _ [89, 90, 91, 8] rfl rfl) ggX12_readLine_X12_readAnswers
set_option maxRecDepth 20000 in
theorem ggX12_readLine_X12_bad : GoodIn wsX12_readLine wsX12_bad := goodIn_r _ [20, 21, 22, 23, 93, 94, 95, 96, 97, 98, 99, 100, 101, 102, 103, 104, 105, 106, 107, 108, 109, 110, 111, 112, 113, 114, 115, 116, 117, 118, 119, 120, 121, 122, 123, 124, 125, 126, 127, 128, 129, 130, 131, 132, 133, 134, 135, 136, 137, 138, 139, 140, 141] rfl rfl
set_option maxRecDepth 20000 in
theorem gX12_readLine_X12_bad : GoodIn wsX12_readLine (wsV RX12 180 RX12 yX12_bad wsX12_bad) := goodIn_app (goodIn_r _ [17, 18, 19, 8] rfl rfl) ggX12_readLine_X12_bad
theorem dX12_readLine_0 : decode cX12_readLine 0 = .ok (.aload_n 0, 1) := by decide +kernel
theorem dX12_readLine_1 : decode cX12_readLine 1 = .ok (.ldc2_w 99, 3) := by decide +kernel
theorem dX12_readLine_4 : decode cX12_readLine 4 = .ok (.invokevirtual 208, 3) := by decide +kernel
theorem dX12_readLine_7 : decode cX12_readLine 7 = .ok (.ifCond .eq 8, 3) := by decide +kernel
theorem dX12_readLine_10 : decode cX12_readLine 10 = .ok (.aload_n 0, 1) := by decide +kernel
theorem dX12_readLine_11 : decode cX12_readLine 11 = .ok (.invokevirtual 212, 3) := by decide +kernel
theorem dX12_readLine_14 : decode cX12_readLine 14 = .ok (.ireturn, 1) := by decide +kernel
theorem dX12_readLine_15 : decode cX12_readLine 15 = .ok (.aload_n 0, 1) := by decide +kernel
theorem dX12_readLine_16 : decode cX12_readLine 16 = .ok (.ldc2_w 101, 3) := by decide +kernel
theorem dX12_readLine_19 : decode cX12_readLine 19 = .ok (.invokevirtual 208, 3) := by decide +kernel
theorem dX12_readLine_22 : decode cX12_readLine 22 = .ok (.ifCond .eq 8, 3) := by decide +kernel
theorem dX12_readLine_25 : decode cX12_readLine 25 = .ok (.aload_n 0, 1) := by decide +kernel
theorem dX12_readLine_26 : decode cX12_readLine 26 = .ok (.invokevirtual 215, 3) := by decide +kernel
theorem dX12_readLine_29 : decode cX12_readLine 29 = .ok (.ireturn, 1) := by decide +kernel
theorem dX12_readLine_30 : decode cX12_readLine 30 = .ok (.aload_n 0, 1) := by decide +kernel
theorem dX12_readLine_31 : decode cX12_readLine 31 = .ok (.ldc2_w 103, 3) := by decide +kernel
theorem dX12_readLine_34 : decode cX12_readLine 34 = .ok (.invokevirtual 208, 3) := by decide +kernel
theorem dX12_readLine_37 : decode cX12_readLine 37 = .ok (.ifCond .eq 8, 3) := by decide +kernel
theorem dX12_readLine_40 : decode cX12_readLine 40 = .ok (.aload_n 0, 1) := by decide +kernel
theorem dX12_readLine_41 : decode cX12_readLine 41 = .ok (.invokevirtual 218, 3) := by decide +kernel
theorem dX12_readLine_44 : decode cX12_readLine 44 = .ok (.ireturn, 1) := by decide +kernel
theorem dX12_readLine_45 : decode cX12_readLine 45 = .ok (.aload_n 0, 1) := by decide +kernel
theorem dX12_readLine_46 : decode cX12_readLine 46 = .ok (.ldc2_w 105, 3) := by decide +kernel
theorem dX12_readLine_49 : decode cX12_readLine 49 = .ok (.invokevirtual 208, 3) := by decide +kernel
theorem dX12_readLine_52 : decode cX12_readLine 52 = .ok (.ifCond .eq 10, 3) := by decide +kernel
theorem dX12_readLine_55 : decode cX12_readLine 55 = .ok (.aload_n 0, 1) := by decide +kernel
theorem dX12_readLine_56 : decode cX12_readLine 56 = .ok (.invokevirtual 221, 3) := by decide +kernel
theorem dX12_readLine_59 : decode cX12_readLine 59 = .ok (.goto 8, 3) := by decide +kernel
theorem dX12_readLine_62 : decode cX12_readLine 62 = .ok (.aload_n 0, 1) := by decide +kernel
theorem dX12_readLine_63 : decode cX12_readLine 63 = .ok (.iconst 1, 1) := by decide +kernel
theorem dX12_readLine_64 : decode cX12_readLine 64 = .ok (.invokevirtual 180, 3) := by decide +kernel
theorem dX12_readLine_67 : decode cX12_readLine 67 = .ok (.ireturn, 1) := by decide +kernel
set_option maxRecDepth 20000 in
theorem ggX12_readMachine_X12_bad : GoodIn wsX12_readMachine wsX12_bad := goodIn_r _ [6, 7, 8, 9, 58, 59, 60, 61, 62, 63, 64, 65, 66, 67, 68, 69, 70, 71, 72, 73, 74, 75, 76, 77, 78, 79, 80, 81, 82, 83, 84, 85, 86, 87, 88, 89, 90, 91, 92, 93, 94, 95, 96, 97, 98, 99, 100, 101, 102, 103, 104, 105, 106] rfl rfl
set_option maxRecDepth 20000 in
theorem gX12_readMachine_X12_bad : GoodIn wsX12_readMachine (wsV RX12 180 RX12 yX12_bad wsX12_bad) := goodIn_app (goodIn_r _ [2, 3, 4, 5] rfl rfl) ggX12_readMachine_X12_bad
set_option maxRecDepth 20000 in
theorem ggX12_readMachine_X12_next : GoodIn wsX12_readMachine wsX12_next := goodIn_r _ [13, 14, 8, 15, 16, 17, 18, 19, 20, 21, 22, 23, 5, 24, 25, 26, 27, 28, 29, 30, 31, 58, 59, 60, 61, 62, 63, 64, 65, 66, 67, 68, 69, 70, 71, 72, 73, 74, 75, 76, 77, 78, 79, 80, 81, 82, 83, 84, 85, 86, 87, 88, 89, 90, 91, 92, 93, 94, 95, 96, 97, 98, 99, 100, 101, 102, 103, 104, 105, 106] rfl rfl
set_option maxRecDepth 20000 in
theorem gX12_readMachine_X12_next : GoodIn wsX12_readMachine (wsV RX12 183 RX12 yX12_next wsX12_next) := goodIn_app (goodIn_r _ [10, 11, 12, 5] rfl rfl) ggX12_readMachine_X12_next
set_option maxRecDepth 20000 in
theorem ggX12_readMachine_X12_fresh : GoodIn wsX12_readMachine wsX12_fresh := goodIn_r _ [35, 1, 36, 20, 37, 38, 39, 5, 40, 18, 41, 2, 3, 4, 6, 7, 8, 9, 42, 43, 44, 45, 10, 11, 12, 13, 14, 15, 16, 17, 19, 21, 22, 23, 24, 25, 26, 27, 28, 29, 30, 31, 58, 59, 60, 61, 62, 63, 64, 65, 66, 67, 68, 69, 70, 71, 72, 73, 74, 75, 76, 77, 78, 79, 80, 81, 82, 83, 84, 85, 86, 87, 88, 89, 90, 91, 92, 93, 94, 95, 96, 97, 98, 99, 100, 101, 102, 103, 104, 105, 106] rfl rfl
set_option maxRecDepth 20000 in
theorem gX12_readMachine_X12_fresh : GoodIn wsX12_readMachine (wsV RX12 224 RX12 yX12_fresh wsX12_fresh) := goodIn_app (goodIn_r _ [32, 33, 34, 5] rfl rfl) ggX12_readMachine_X12_fresh
set_option maxRecDepth 20000 in
theorem ggX12_readMachine_X12_puts : GoodIn wsX12_readMachine wsX12_puts := goodIn_r _ [49, 1, 50, 51, 52, 53, 5, 54, 18, 19, 2, 3, 4, 6, 7, 8, 9, 55, 56, 57, 10, 11, 12, 13, 14, 15, 16, 17, 20, 21, 22, 23, 24, 25, 26, 27, 28, 29, 30, 31, 58, 59, 60, 61, 62, 63, 64, 65, 66, 67, 68, 69, 70, 71, 72, 73, 74, 75, 76, 77, 78, 79, 80, 81, 82, 83, 84, 85, 86, 87, 88, 89, 90, 91, 92, 93, 94, 95, 96, 97, 98, 99, 100, 101, 102, 103, 104, 105, 106] rfl rfl
set_option maxRecDepth 20000 in
theorem gX12_readMachine_X12_puts : GoodIn wsX12_readMachine (wsV RX12 227 RX12 yX12_puts wsX12_puts) := goodIn_app (goodIn_r _ [46, 47, 48, 5] rfl rfl) ggX12_readMachine_X12_puts
theorem dX12_readMachine_0 : decode cX12_readMachine 0 = .ok (.aload_n 0, 1) := by decide +kernel
theorem dX12_readMachine_1 : decode cX12_readMachine 1 = .ok (.getfield 37, 3) := by decide +kernel
theorem dX12_readMachine_4 : decode cX12_readMachine 4 = .ok (.iconst 0, 1) := by decide +kernel
theorem dX12_readMachine_5 : decode cX12_readMachine 5 = .ok (.iaload, 1) := by decide +kernel
theorem dX12_readMachine_6 : decode cX12_readMachine 6 = .ok (.istore_n 1, 1) := by decide +kernel
theorem dX12_readMachine_7 : decode cX12_readMachine 7 = .ok (.iload_n 1, 1) := by decide +kernel
theorem dX12_readMachine_8 : decode cX12_readMachine 8 = .ok (.bipush 6, 2) := by decide +kernel
theorem dX12_readMachine_10 : decode cX12_readMachine 10 = .ok (.if_icmp .ne 9, 3) := by decide +kernel
theorem dX12_readMachine_13 : decode cX12_readMachine 13 = .ok (.aload_n 0, 1) := by decide +kernel
theorem dX12_readMachine_14 : decode cX12_readMachine 14 = .ok (.iconst 4, 1) := by decide +kernel
theorem dX12_readMachine_15 : decode cX12_readMachine 15 = .ok (.invokevirtual 180, 3) := by decide +kernel
theorem dX12_readMachine_18 : decode cX12_readMachine 18 = .ok (.ireturn, 1) := by decide +kernel
theorem dX12_readMachine_19 : decode cX12_readMachine 19 = .ok (.aload_n 0, 1) := by decide +kernel
theorem dX12_readMachine_20 : decode cX12_readMachine 20 = .ok (.invokevirtual 183, 3) := by decide +kernel
theorem dX12_readMachine_23 : decode cX12_readMachine 23 = .ok (.aload_n 0, 1) := by decide +kernel
theorem dX12_readMachine_24 : decode cX12_readMachine 24 = .ok (.bipush 14, 2) := by decide +kernel
theorem dX12_readMachine_26 : decode cX12_readMachine 26 = .ok (.iload_n 1, 1) := by decide +kernel
theorem dX12_readMachine_27 : decode cX12_readMachine 27 = .ok (.iadd, 1) := by decide +kernel
theorem dX12_readMachine_28 : decode cX12_readMachine 28 = .ok (.invokevirtual 224, 3) := by decide +kernel
theorem dX12_readMachine_31 : decode cX12_readMachine 31 = .ok (.ifCond .eq 17, 3) := by decide +kernel
theorem dX12_readMachine_34 : decode cX12_readMachine 34 = .ok (.aload_n 0, 1) := by decide +kernel
theorem dX12_readMachine_35 : decode cX12_readMachine 35 = .ok (.iconst 3, 1) := by decide +kernel
theorem dX12_readMachine_36 : decode cX12_readMachine 36 = .ok (.iload_n 1, 1) := by decide +kernel
theorem dX12_readMachine_37 : decode cX12_readMachine 37 = .ok (.iadd, 1) := by decide +kernel
theorem dX12_readMachine_38 : decode cX12_readMachine 38 = .ok (.iconst 0, 1) := by decide +kernel
theorem dX12_readMachine_39 : decode cX12_readMachine 39 = .ok (.sipush 999, 3) := by decide +kernel
theorem dX12_readMachine_42 : decode cX12_readMachine 42 = .ok (.invokevirtual 227, 3) := by decide +kernel
theorem dX12_readMachine_45 : decode cX12_readMachine 45 = .ok (.ifCond .ne 5, 3) := by decide +kernel
theorem dX12_readMachine_48 : decode cX12_readMachine 48 = .ok (.iconst 0, 1) := by decide +kernel
theorem dX12_readMachine_49 : decode cX12_readMachine 49 = .ok (.ireturn, 1) := by decide +kernel
theorem dX12_readMachine_50 : decode cX12_readMachine 50 = .ok (.aload_n 0, 1) := by decide +kernel
theorem dX12_readMachine_51 : decode cX12_readMachine 51 = .ok (.getfield 37, 3) := by decide +kernel
theorem dX12_readMachine_54 : decode cX12_readMachine 54 = .ok (.iconst 0, 1) := by decide +kernel
theorem dX12_readMachine_55 : decode cX12_readMachine 55 = .ok (.dup2, 1) := by decide +kernel
theorem dX12_readMachine_56 : decode cX12_readMachine 56 = .ok (.iaload, 1) := by decide +kernel
theorem dX12_readMachine_57 : decode cX12_readMachine 57 = .ok (.iconst 1, 1) := by decide +kernel
theorem dX12_readMachine_58 : decode cX12_readMachine 58 = .ok (.iadd, 1) := by decide +kernel
theorem dX12_readMachine_59 : decode cX12_readMachine 59 = .ok (.iastore, 1) := by decide +kernel
theorem dX12_readMachine_60 : decode cX12_readMachine 60 = .ok (.iconst 1, 1) := by decide +kernel
theorem dX12_readMachine_61 : decode cX12_readMachine 61 = .ok (.ireturn, 1) := by decide +kernel
set_option maxRecDepth 20000 in
theorem ggX12_readPhrase_X12_bad : GoodIn wsX12_readPhrase wsX12_bad := goodIn_r _ [6, 7, 8, 9, 58, 59, 60, 61, 62, 63, 64, 65, 66, 67, 68, 69, 70, 71, 72, 73, 74, 75, 76, 77, 78, 79, 80, 81, 82, 83, 84, 85, 86, 87, 88, 89, 90, 91, 92, 93, 94, 95, 96, 97, 98, 99, 100, 101, 102, 103, 104, 105, 106] rfl rfl
set_option maxRecDepth 20000 in
theorem gX12_readPhrase_X12_bad : GoodIn wsX12_readPhrase (wsV RX12 180 RX12 yX12_bad wsX12_bad) := goodIn_app (goodIn_r _ [2, 3, 4, 5] rfl rfl) ggX12_readPhrase_X12_bad
set_option maxRecDepth 20000 in
theorem ggX12_readPhrase_X12_next : GoodIn wsX12_readPhrase wsX12_next := goodIn_r _ [13, 14, 8, 15, 16, 17, 18, 19, 20, 21, 22, 23, 5, 24, 25, 26, 27, 28, 29, 30, 31, 58, 59, 60, 61, 62, 63, 64, 65, 66, 67, 68, 69, 70, 71, 72, 73, 74, 75, 76, 77, 78, 79, 80, 81, 82, 83, 84, 85, 86, 87, 88, 89, 90, 91, 92, 93, 94, 95, 96, 97, 98, 99, 100, 101, 102, 103, 104, 105, 106] rfl rfl
set_option maxRecDepth 20000 in
theorem gX12_readPhrase_X12_next : GoodIn wsX12_readPhrase (wsV RX12 183 RX12 yX12_next wsX12_next) := goodIn_app (goodIn_r _ [10, 11, 12, 5] rfl rfl) ggX12_readPhrase_X12_next
set_option maxRecDepth 20000 in
theorem ggX12_readPhrase_X12_fresh : GoodIn wsX12_readPhrase wsX12_fresh := goodIn_r _ [35, 1, 36, 20, 37, 38, 39, 5, 40, 18, 41, 2, 3, 4, 6, 7, 8, 9, 42, 43, 44, 45, 10, 11, 12, 13, 14, 15, 16, 17, 19, 21, 22, 23, 24, 25, 26, 27, 28, 29, 30, 31, 58, 59, 60, 61, 62, 63, 64, 65, 66, 67, 68, 69, 70, 71, 72, 73, 74, 75, 76, 77, 78, 79, 80, 81, 82, 83, 84, 85, 86, 87, 88, 89, 90, 91, 92, 93, 94, 95, 96, 97, 98, 99, 100, 101, 102, 103, 104, 105, 106] rfl rfl
set_option maxRecDepth 20000 in
theorem gX12_readPhrase_X12_fresh : GoodIn wsX12_readPhrase (wsV RX12 224 RX12 yX12_fresh wsX12_fresh) := goodIn_app (goodIn_r _ [32, 33, 34, 5] rfl rfl) ggX12_readPhrase_X12_fresh
set_option maxRecDepth 20000 in
theorem ggX12_readPhrase_X12_puts : GoodIn wsX12_readPhrase wsX12_puts := goodIn_r _ [49, 1, 50, 51, 52, 53, 5, 54, 18, 19, 2, 3, 4, 6, 7, 8, 9, 55, 56, 57, 10, 11, 12, 13, 14, 15, 16, 17, 20, 21, 22, 23, 24, 25, 26, 27, 28, 29, 30, 31, 58, 59, 60, 61, 62, 63, 64, 65, 66, 67, 68, 69, 70, 71, 72, 73, 74, 75, 76, 77, 78, 79, 80, 81, 82, 83, 84, 85, 86, 87, 88, 89, 90, 91, 92, 93, 94, 95, 96, 97, 98, 99, 100, 101, 102, 103, 104, 105, 106] rfl rfl
set_option maxRecDepth 20000 in
theorem gX12_readPhrase_X12_puts : GoodIn wsX12_readPhrase (wsV RX12 227 RX12 yX12_puts wsX12_puts) := goodIn_app (goodIn_r _ [46, 47, 48, 5] rfl rfl) ggX12_readPhrase_X12_puts
theorem dX12_readPhrase_0 : decode cX12_readPhrase 0 = .ok (.aload_n 0, 1) := by decide +kernel
theorem dX12_readPhrase_1 : decode cX12_readPhrase 1 = .ok (.getfield 37, 3) := by decide +kernel
theorem dX12_readPhrase_4 : decode cX12_readPhrase 4 = .ok (.iconst 1, 1) := by decide +kernel
theorem dX12_readPhrase_5 : decode cX12_readPhrase 5 = .ok (.iaload, 1) := by decide +kernel
theorem dX12_readPhrase_6 : decode cX12_readPhrase 6 = .ok (.istore_n 1, 1) := by decide +kernel
theorem dX12_readPhrase_7 : decode cX12_readPhrase 7 = .ok (.iload_n 1, 1) := by decide +kernel
theorem dX12_readPhrase_8 : decode cX12_readPhrase 8 = .ok (.bipush 8, 2) := by decide +kernel
theorem dX12_readPhrase_10 : decode cX12_readPhrase 10 = .ok (.if_icmp .ne 9, 3) := by decide +kernel
theorem dX12_readPhrase_13 : decode cX12_readPhrase 13 = .ok (.aload_n 0, 1) := by decide +kernel
theorem dX12_readPhrase_14 : decode cX12_readPhrase 14 = .ok (.iconst 4, 1) := by decide +kernel
theorem dX12_readPhrase_15 : decode cX12_readPhrase 15 = .ok (.invokevirtual 180, 3) := by decide +kernel
theorem dX12_readPhrase_18 : decode cX12_readPhrase 18 = .ok (.ireturn, 1) := by decide +kernel
theorem dX12_readPhrase_19 : decode cX12_readPhrase 19 = .ok (.aload_n 0, 1) := by decide +kernel
theorem dX12_readPhrase_20 : decode cX12_readPhrase 20 = .ok (.invokevirtual 183, 3) := by decide +kernel
theorem dX12_readPhrase_23 : decode cX12_readPhrase 23 = .ok (.aload_n 0, 1) := by decide +kernel
theorem dX12_readPhrase_24 : decode cX12_readPhrase 24 = .ok (.bipush 20, 2) := by decide +kernel
theorem dX12_readPhrase_26 : decode cX12_readPhrase 26 = .ok (.iload_n 1, 1) := by decide +kernel
theorem dX12_readPhrase_27 : decode cX12_readPhrase 27 = .ok (.iadd, 1) := by decide +kernel
theorem dX12_readPhrase_28 : decode cX12_readPhrase 28 = .ok (.invokevirtual 224, 3) := by decide +kernel
theorem dX12_readPhrase_31 : decode cX12_readPhrase 31 = .ok (.ifCond .eq 31, 3) := by decide +kernel
theorem dX12_readPhrase_34 : decode cX12_readPhrase 34 = .ok (.aload_n 0, 1) := by decide +kernel
theorem dX12_readPhrase_35 : decode cX12_readPhrase 35 = .ok (.bipush 15, 2) := by decide +kernel
theorem dX12_readPhrase_37 : decode cX12_readPhrase 37 = .ok (.iload_n 1, 1) := by decide +kernel
theorem dX12_readPhrase_38 : decode cX12_readPhrase 38 = .ok (.iadd, 1) := by decide +kernel
theorem dX12_readPhrase_39 : decode cX12_readPhrase 39 = .ok (.iconst 1, 1) := by decide +kernel
theorem dX12_readPhrase_40 : decode cX12_readPhrase 40 = .ok (.bipush 40, 2) := by decide +kernel
theorem dX12_readPhrase_42 : decode cX12_readPhrase 42 = .ok (.invokevirtual 227, 3) := by decide +kernel
theorem dX12_readPhrase_45 : decode cX12_readPhrase 45 = .ok (.ifCond .eq 17, 3) := by decide +kernel
theorem dX12_readPhrase_48 : decode cX12_readPhrase 48 = .ok (.aload_n 0, 1) := by decide +kernel
theorem dX12_readPhrase_49 : decode cX12_readPhrase 49 = .ok (.bipush 23, 2) := by decide +kernel
theorem dX12_readPhrase_51 : decode cX12_readPhrase 51 = .ok (.iload_n 1, 1) := by decide +kernel
theorem dX12_readPhrase_52 : decode cX12_readPhrase 52 = .ok (.iadd, 1) := by decide +kernel
theorem dX12_readPhrase_53 : decode cX12_readPhrase 53 = .ok (.iconst 0, 1) := by decide +kernel
theorem dX12_readPhrase_54 : decode cX12_readPhrase 54 = .ok (.bipush 99, 2) := by decide +kernel
theorem dX12_readPhrase_56 : decode cX12_readPhrase 56 = .ok (.invokevirtual 227, 3) := by decide +kernel
theorem dX12_readPhrase_59 : decode cX12_readPhrase 59 = .ok (.ifCond .ne 5, 3) := by decide +kernel
theorem dX12_readPhrase_62 : decode cX12_readPhrase 62 = .ok (.iconst 0, 1) := by decide +kernel
theorem dX12_readPhrase_63 : decode cX12_readPhrase 63 = .ok (.ireturn, 1) := by decide +kernel
theorem dX12_readPhrase_64 : decode cX12_readPhrase 64 = .ok (.aload_n 0, 1) := by decide +kernel
theorem dX12_readPhrase_65 : decode cX12_readPhrase 65 = .ok (.getfield 37, 3) := by decide +kernel
theorem dX12_readPhrase_68 : decode cX12_readPhrase 68 = .ok (.iconst 1, 1) := by decide +kernel
theorem dX12_readPhrase_69 : decode cX12_readPhrase 69 = .ok (.dup2, 1) := by decide +kernel
theorem dX12_readPhrase_70 : decode cX12_readPhrase 70 = .ok (.iaload, 1) := by decide +kernel
theorem dX12_readPhrase_71 : decode cX12_readPhrase 71 = .ok (.iconst 1, 1) := by decide +kernel
theorem dX12_readPhrase_72 : decode cX12_readPhrase 72 = .ok (.iadd, 1) := by decide +kernel
theorem dX12_readPhrase_73 : decode cX12_readPhrase 73 = .ok (.iastore, 1) := by decide +kernel
theorem dX12_readPhrase_74 : decode cX12_readPhrase 74 = .ok (.iconst 1, 1) := by decide +kernel
theorem dX12_readPhrase_75 : decode cX12_readPhrase 75 = .ok (.ireturn, 1) := by decide +kernel
set_option maxRecDepth 20000 in
theorem ggX12_readKnows_X12_next : GoodIn wsX12_readKnows wsX12_next := goodIn_r _ [7, 8, 9, 10, 11, 12, 13, 14, 15, 16, 17, 18, 6, 19, 20, 21, 22, 23, 24, 25, 26, 54, 55, 56, 57, 58, 59, 60, 61, 62, 63, 64, 65, 66, 67, 68, 69, 70, 71, 72, 73, 74, 75, 76, 77, 78, 79, 80, 81, 82, 83, 84, 85, 86, 87, 88, 89, 90, 91, 92, 93, 94, 95, 96, 97, 98, 99, 100, 101, 102] rfl rfl
set_option maxRecDepth 20000 in
theorem gX12_readKnows_X12_next : GoodIn wsX12_readKnows (wsV RX12 183 RX12 yX12_next wsX12_next) := goodIn_app (goodIn_r _ [3, 4, 5, 6] rfl rfl) ggX12_readKnows_X12_next
set_option maxRecDepth 20000 in
theorem ggX12_readKnows_X12_takesName : GoodIn wsX12_readKnows wsX12_takesName := goodIn_r _ [30, 31, 32, 33, 6, 34, 2, 35, 36, 37, 38, 13, 15, 39, 40, 41, 42, 43, 44, 9, 45, 46, 47, 48, 49, 50, 3, 4, 5, 7, 8, 10, 11, 12, 14, 16, 17, 18, 19, 20, 21, 22, 23, 24, 25, 26, 54, 55, 56, 57, 58, 59, 60, 61, 62, 63, 64, 65, 66, 67, 68, 69, 70, 71, 72, 73, 74, 75, 76, 77, 78, 79, 80, 81, 82, 83, 84, 85, 86, 87, 88, 89, 90, 91, 92, 93, 94, 95, 96, 97, 98, 99, 100, 101, 102] rfl rfl
set_option maxRecDepth 20000 in
theorem gX12_readKnows_X12_takesName : GoodIn wsX12_readKnows (wsV RX12 230 RX12 yX12_takesName wsX12_takesName) := goodIn_app (goodIn_r _ [27, 28, 29, 6] rfl rfl) ggX12_readKnows_X12_takesName
set_option maxRecDepth 20000 in
theorem ggX12_readKnows_X12_looksAt : GoodIn wsX12_readKnows wsX12_looksAt := goodIn_r _ [34, 2, 35, 36, 37, 6, 38, 13, 15, 39, 40, 41, 42, 43, 44, 9, 45, 46, 47, 48, 49, 50, 54, 55, 56, 57, 58, 59, 60, 61, 62, 63, 64, 65, 66, 67, 68, 69, 70, 71, 72, 73, 74, 75, 76, 77, 78, 79, 80, 81, 82, 83, 84, 85, 86, 87, 88, 89, 90, 91, 92, 93, 94, 95, 96, 97, 98, 99, 100, 101, 102] rfl rfl
set_option maxRecDepth 20000 in
theorem gX12_readKnows_X12_looksAt : GoodIn wsX12_readKnows (wsV RX12 205 RX12 yX12_looksAt wsX12_looksAt) := goodIn_app (goodIn_r _ [31, 32, 33, 6] rfl rfl) ggX12_readKnows_X12_looksAt
set_option maxRecDepth 20000 in
theorem ggX12_readKnows_X12_bitOf : GoodIn wsX12_readKnows wsX12_bitOf := goodIn_r _ [53] rfl rfl
set_option maxRecDepth 20000 in
theorem gX12_readKnows_X12_bitOf : GoodIn wsX12_readKnows (va_wsS RX12 233 yX12_bitOf wsX12_bitOf) := goodIn_app (goodIn_r _ [51, 52, 6] rfl rfl) ggX12_readKnows_X12_bitOf
set_option maxRecDepth 20000 in
theorem ggX12_readKnows_X12_bad : GoodIn wsX12_readKnows wsX12_bad := goodIn_r _ [43, 44, 9, 45, 54, 55, 56, 57, 58, 59, 60, 61, 62, 63, 64, 65, 66, 67, 68, 69, 70, 71, 72, 73, 74, 75, 76, 77, 78, 79, 80, 81, 82, 83, 84, 85, 86, 87, 88, 89, 90, 91, 92, 93, 94, 95, 96, 97, 98, 99, 100, 101, 102] rfl rfl
set_option maxRecDepth 20000 in
theorem gX12_readKnows_X12_bad : GoodIn wsX12_readKnows (wsV RX12 180 RX12 yX12_bad wsX12_bad) := goodIn_app (goodIn_r _ [40, 41, 42, 6] rfl rfl) ggX12_readKnows_X12_bad
theorem dX12_readKnows_0 : decode cX12_readKnows 0 = .ok (.aload_n 0, 1) := by decide +kernel
theorem dX12_readKnows_1 : decode cX12_readKnows 1 = .ok (.invokevirtual 183, 3) := by decide +kernel
theorem dX12_readKnows_4 : decode cX12_readKnows 4 = .ok (.aload_n 0, 1) := by decide +kernel
theorem dX12_readKnows_5 : decode cX12_readKnows 5 = .ok (.bipush 14, 2) := by decide +kernel
theorem dX12_readKnows_7 : decode cX12_readKnows 7 = .ok (.aload_n 0, 1) := by decide +kernel
theorem dX12_readKnows_8 : decode cX12_readKnows 8 = .ok (.getfield 37, 3) := by decide +kernel
theorem dX12_readKnows_11 : decode cX12_readKnows 11 = .ok (.iconst 0, 1) := by decide +kernel
theorem dX12_readKnows_12 : decode cX12_readKnows 12 = .ok (.iaload, 1) := by decide +kernel
theorem dX12_readKnows_13 : decode cX12_readKnows 13 = .ok (.invokevirtual 230, 3) := by decide +kernel
theorem dX12_readKnows_16 : decode cX12_readKnows 16 = .ok (.ifCond .ne 5, 3) := by decide +kernel
theorem dX12_readKnows_19 : decode cX12_readKnows 19 = .ok (.iconst 0, 1) := by decide +kernel
theorem dX12_readKnows_20 : decode cX12_readKnows 20 = .ok (.ireturn, 1) := by decide +kernel
theorem dX12_readKnows_21 : decode cX12_readKnows 21 = .ok (.aload_n 0, 1) := by decide +kernel
theorem dX12_readKnows_22 : decode cX12_readKnows 22 = .ok (.getfield 190, 3) := by decide +kernel
theorem dX12_readKnows_25 : decode cX12_readKnows 25 = .ok (.istore_n 1, 1) := by decide +kernel
theorem dX12_readKnows_26 : decode cX12_readKnows 26 = .ok (.aload_n 0, 1) := by decide +kernel
theorem dX12_readKnows_27 : decode cX12_readKnows 27 = .ok (.bipush 20, 2) := by decide +kernel
theorem dX12_readKnows_29 : decode cX12_readKnows 29 = .ok (.aload_n 0, 1) := by decide +kernel
theorem dX12_readKnows_30 : decode cX12_readKnows 30 = .ok (.getfield 37, 3) := by decide +kernel
theorem dX12_readKnows_33 : decode cX12_readKnows 33 = .ok (.iconst 1, 1) := by decide +kernel
theorem dX12_readKnows_34 : decode cX12_readKnows 34 = .ok (.iaload, 1) := by decide +kernel
theorem dX12_readKnows_35 : decode cX12_readKnows 35 = .ok (.invokevirtual 205, 3) := by decide +kernel
theorem dX12_readKnows_38 : decode cX12_readKnows 38 = .ok (.ifCond .ne 5, 3) := by decide +kernel
theorem dX12_readKnows_41 : decode cX12_readKnows 41 = .ok (.iconst 0, 1) := by decide +kernel
theorem dX12_readKnows_42 : decode cX12_readKnows 42 = .ok (.ireturn, 1) := by decide +kernel
theorem dX12_readKnows_43 : decode cX12_readKnows 43 = .ok (.aload_n 0, 1) := by decide +kernel
theorem dX12_readKnows_44 : decode cX12_readKnows 44 = .ok (.getfield 37, 3) := by decide +kernel
theorem dX12_readKnows_47 : decode cX12_readKnows 47 = .ok (.bipush 9, 2) := by decide +kernel
theorem dX12_readKnows_49 : decode cX12_readKnows 49 = .ok (.iload_n 1, 1) := by decide +kernel
theorem dX12_readKnows_50 : decode cX12_readKnows 50 = .ok (.iadd, 1) := by decide +kernel
theorem dX12_readKnows_51 : decode cX12_readKnows 51 = .ok (.iaload, 1) := by decide +kernel
theorem dX12_readKnows_52 : decode cX12_readKnows 52 = .ok (.aload_n 0, 1) := by decide +kernel
theorem dX12_readKnows_53 : decode cX12_readKnows 53 = .ok (.getfield 190, 3) := by decide +kernel
theorem dX12_readKnows_56 : decode cX12_readKnows 56 = .ok (.invokestatic 233, 3) := by decide +kernel
theorem dX12_readKnows_59 : decode cX12_readKnows 59 = .ok (.ifCond .eq 9, 3) := by decide +kernel
theorem dX12_readKnows_62 : decode cX12_readKnows 62 = .ok (.aload_n 0, 1) := by decide +kernel
theorem dX12_readKnows_63 : decode cX12_readKnows 63 = .ok (.iconst 3, 1) := by decide +kernel
theorem dX12_readKnows_64 : decode cX12_readKnows 64 = .ok (.invokevirtual 180, 3) := by decide +kernel
theorem dX12_readKnows_67 : decode cX12_readKnows 67 = .ok (.ireturn, 1) := by decide +kernel
theorem dX12_readKnows_68 : decode cX12_readKnows 68 = .ok (.aload_n 0, 1) := by decide +kernel
theorem dX12_readKnows_69 : decode cX12_readKnows 69 = .ok (.getfield 37, 3) := by decide +kernel
theorem dX12_readKnows_72 : decode cX12_readKnows 72 = .ok (.bipush 9, 2) := by decide +kernel
theorem dX12_readKnows_74 : decode cX12_readKnows 74 = .ok (.iload_n 1, 1) := by decide +kernel
theorem dX12_readKnows_75 : decode cX12_readKnows 75 = .ok (.iadd, 1) := by decide +kernel
theorem dX12_readKnows_76 : decode cX12_readKnows 76 = .ok (.dup2, 1) := by decide +kernel
theorem dX12_readKnows_77 : decode cX12_readKnows 77 = .ok (.iaload, 1) := by decide +kernel
theorem dX12_readKnows_78 : decode cX12_readKnows 78 = .ok (.iconst 1, 1) := by decide +kernel
theorem dX12_readKnows_79 : decode cX12_readKnows 79 = .ok (.aload_n 0, 1) := by decide +kernel
theorem dX12_readKnows_80 : decode cX12_readKnows 80 = .ok (.getfield 190, 3) := by decide +kernel
theorem dX12_readKnows_83 : decode cX12_readKnows 83 = .ok (.ishl, 1) := by decide +kernel
theorem dX12_readKnows_84 : decode cX12_readKnows 84 = .ok (.ior, 1) := by decide +kernel
theorem dX12_readKnows_85 : decode cX12_readKnows 85 = .ok (.iastore, 1) := by decide +kernel
theorem dX12_readKnows_86 : decode cX12_readKnows 86 = .ok (.aload_n 0, 1) := by decide +kernel
theorem dX12_readKnows_87 : decode cX12_readKnows 87 = .ok (.invokevirtual 183, 3) := by decide +kernel
theorem dX12_readKnows_90 : decode cX12_readKnows 90 = .ok (.iconst 1, 1) := by decide +kernel
theorem dX12_readKnows_91 : decode cX12_readKnows 91 = .ok (.ireturn, 1) := by decide +kernel
set_option maxRecDepth 20000 in
theorem ggX12_readAnswers_X12_next : GoodIn wsX12_readAnswers wsX12_next := goodIn_r _ [7, 8, 9, 10, 11, 12, 13, 14, 15, 16, 17, 18, 6, 19, 20, 21, 22, 23, 24, 25, 26, 54, 55, 56, 57, 58, 59, 60, 61, 62, 63, 64, 65, 66, 67, 68, 69, 70, 71, 72, 73, 74, 75, 76, 77, 78, 79, 80, 81, 82, 83, 84, 85, 86, 87, 88, 89, 90, 91, 92, 93, 94, 95, 96, 97, 98, 99, 100, 101, 102] rfl rfl
set_option maxRecDepth 20000 in
theorem gX12_readAnswers_X12_next : GoodIn wsX12_readAnswers (wsV RX12 183 RX12 yX12_next wsX12_next) := goodIn_app (goodIn_r _ [3, 4, 5, 6] rfl rfl) ggX12_readAnswers_X12_next
set_option maxRecDepth 20000 in
theorem ggX12_readAnswers_X12_takesName : GoodIn wsX12_readAnswers wsX12_takesName := goodIn_r _ [30, 31, 32, 33, 6, 34, 2, 35, 36, 37, 38, 13, 15, 39, 40, 41, 42, 43, 44, 9, 45, 46, 47, 48, 49, 50, 3, 4, 5, 7, 8, 10, 11, 12, 14, 16, 17, 18, 19, 20, 21, 22, 23, 24, 25, 26, 54, 55, 56, 57, 58, 59, 60, 61, 62, 63, 64, 65, 66, 67, 68, 69, 70, 71, 72, 73, 74, 75, 76, 77, 78, 79, 80, 81, 82, 83, 84, 85, 86, 87, 88, 89, 90, 91, 92, 93, 94, 95, 96, 97, 98, 99, 100, 101, 102] rfl rfl
set_option maxRecDepth 20000 in
theorem gX12_readAnswers_X12_takesName : GoodIn wsX12_readAnswers (wsV RX12 230 RX12 yX12_takesName wsX12_takesName) := goodIn_app (goodIn_r _ [27, 28, 29, 6] rfl rfl) ggX12_readAnswers_X12_takesName
set_option maxRecDepth 20000 in
theorem ggX12_readAnswers_X12_looksAt : GoodIn wsX12_readAnswers wsX12_looksAt := goodIn_r _ [34, 2, 35, 36, 37, 6, 38, 13, 15, 39, 40, 41, 42, 43, 44, 9, 45, 46, 47, 48, 49, 50, 54, 55, 56, 57, 58, 59, 60, 61, 62, 63, 64, 65, 66, 67, 68, 69, 70, 71, 72, 73, 74, 75, 76, 77, 78, 79, 80, 81, 82, 83, 84, 85, 86, 87, 88, 89, 90, 91, 92, 93, 94, 95, 96, 97, 98, 99, 100, 101, 102] rfl rfl
set_option maxRecDepth 20000 in
theorem gX12_readAnswers_X12_looksAt : GoodIn wsX12_readAnswers (wsV RX12 205 RX12 yX12_looksAt wsX12_looksAt) := goodIn_app (goodIn_r _ [31, 32, 33, 6] rfl rfl) ggX12_readAnswers_X12_looksAt
set_option maxRecDepth 20000 in
theorem ggX12_readAnswers_X12_bitOf : GoodIn wsX12_readAnswers wsX12_bitOf := goodIn_r _ [53] rfl rfl
set_option maxRecDepth 20000 in
theorem gX12_readAnswers_X12_bitOf : GoodIn wsX12_readAnswers (va_wsS RX12 233 yX12_bitOf wsX12_bitOf) := goodIn_app (goodIn_r _ [51, 52, 6] rfl rfl) ggX12_readAnswers_X12_bitOf
set_option maxRecDepth 20000 in
theorem ggX12_readAnswers_X12_bad : GoodIn wsX12_readAnswers wsX12_bad := goodIn_r _ [43, 44, 9, 45, 54, 55, 56, 57, 58, 59, 60, 61, 62, 63, 64, 65, 66, 67, 68, 69, 70, 71, 72, 73, 74, 75, 76, 77, 78, 79, 80, 81, 82, 83, 84, 85, 86, 87, 88, 89, 90, 91, 92, 93, 94, 95, 96, 97, 98, 99, 100, 101, 102] rfl rfl
set_option maxRecDepth 20000 in
theorem gX12_readAnswers_X12_bad : GoodIn wsX12_readAnswers (wsV RX12 180 RX12 yX12_bad wsX12_bad) := goodIn_app (goodIn_r _ [40, 41, 42, 6] rfl rfl) ggX12_readAnswers_X12_bad
theorem dX12_readAnswers_0 : decode cX12_readAnswers 0 = .ok (.aload_n 0, 1) := by decide +kernel
theorem dX12_readAnswers_1 : decode cX12_readAnswers 1 = .ok (.invokevirtual 183, 3) := by decide +kernel
theorem dX12_readAnswers_4 : decode cX12_readAnswers 4 = .ok (.aload_n 0, 1) := by decide +kernel
theorem dX12_readAnswers_5 : decode cX12_readAnswers 5 = .ok (.bipush 20, 2) := by decide +kernel
theorem dX12_readAnswers_7 : decode cX12_readAnswers 7 = .ok (.aload_n 0, 1) := by decide +kernel
theorem dX12_readAnswers_8 : decode cX12_readAnswers 8 = .ok (.getfield 37, 3) := by decide +kernel
theorem dX12_readAnswers_11 : decode cX12_readAnswers 11 = .ok (.iconst 1, 1) := by decide +kernel
theorem dX12_readAnswers_12 : decode cX12_readAnswers 12 = .ok (.iaload, 1) := by decide +kernel
theorem dX12_readAnswers_13 : decode cX12_readAnswers 13 = .ok (.invokevirtual 230, 3) := by decide +kernel
theorem dX12_readAnswers_16 : decode cX12_readAnswers 16 = .ok (.ifCond .ne 5, 3) := by decide +kernel
theorem dX12_readAnswers_19 : decode cX12_readAnswers 19 = .ok (.iconst 0, 1) := by decide +kernel
theorem dX12_readAnswers_20 : decode cX12_readAnswers 20 = .ok (.ireturn, 1) := by decide +kernel
theorem dX12_readAnswers_21 : decode cX12_readAnswers 21 = .ok (.aload_n 0, 1) := by decide +kernel
theorem dX12_readAnswers_22 : decode cX12_readAnswers 22 = .ok (.getfield 190, 3) := by decide +kernel
theorem dX12_readAnswers_25 : decode cX12_readAnswers 25 = .ok (.istore_n 1, 1) := by decide +kernel
theorem dX12_readAnswers_26 : decode cX12_readAnswers 26 = .ok (.aload_n 0, 1) := by decide +kernel
theorem dX12_readAnswers_27 : decode cX12_readAnswers 27 = .ok (.bipush 20, 2) := by decide +kernel
theorem dX12_readAnswers_29 : decode cX12_readAnswers 29 = .ok (.aload_n 0, 1) := by decide +kernel
theorem dX12_readAnswers_30 : decode cX12_readAnswers 30 = .ok (.getfield 37, 3) := by decide +kernel
theorem dX12_readAnswers_33 : decode cX12_readAnswers 33 = .ok (.iconst 1, 1) := by decide +kernel
theorem dX12_readAnswers_34 : decode cX12_readAnswers 34 = .ok (.iaload, 1) := by decide +kernel
theorem dX12_readAnswers_35 : decode cX12_readAnswers 35 = .ok (.invokevirtual 205, 3) := by decide +kernel
theorem dX12_readAnswers_38 : decode cX12_readAnswers 38 = .ok (.ifCond .ne 5, 3) := by decide +kernel
theorem dX12_readAnswers_41 : decode cX12_readAnswers 41 = .ok (.iconst 0, 1) := by decide +kernel
theorem dX12_readAnswers_42 : decode cX12_readAnswers 42 = .ok (.ireturn, 1) := by decide +kernel
theorem dX12_readAnswers_43 : decode cX12_readAnswers 43 = .ok (.aload_n 0, 1) := by decide +kernel
theorem dX12_readAnswers_44 : decode cX12_readAnswers 44 = .ok (.getfield 37, 3) := by decide +kernel
theorem dX12_readAnswers_47 : decode cX12_readAnswers 47 = .ok (.bipush 31, 2) := by decide +kernel
theorem dX12_readAnswers_49 : decode cX12_readAnswers 49 = .ok (.aload_n 0, 1) := by decide +kernel
theorem dX12_readAnswers_50 : decode cX12_readAnswers 50 = .ok (.getfield 190, 3) := by decide +kernel
theorem dX12_readAnswers_53 : decode cX12_readAnswers 53 = .ok (.iadd, 1) := by decide +kernel
theorem dX12_readAnswers_54 : decode cX12_readAnswers 54 = .ok (.iaload, 1) := by decide +kernel
theorem dX12_readAnswers_55 : decode cX12_readAnswers 55 = .ok (.iload_n 1, 1) := by decide +kernel
theorem dX12_readAnswers_56 : decode cX12_readAnswers 56 = .ok (.invokestatic 233, 3) := by decide +kernel
theorem dX12_readAnswers_59 : decode cX12_readAnswers 59 = .ok (.ifCond .eq 9, 3) := by decide +kernel
theorem dX12_readAnswers_62 : decode cX12_readAnswers 62 = .ok (.aload_n 0, 1) := by decide +kernel
theorem dX12_readAnswers_63 : decode cX12_readAnswers 63 = .ok (.iconst 3, 1) := by decide +kernel
theorem dX12_readAnswers_64 : decode cX12_readAnswers 64 = .ok (.invokevirtual 180, 3) := by decide +kernel
theorem dX12_readAnswers_67 : decode cX12_readAnswers 67 = .ok (.ireturn, 1) := by decide +kernel
theorem dX12_readAnswers_68 : decode cX12_readAnswers 68 = .ok (.aload_n 0, 1) := by decide +kernel
theorem dX12_readAnswers_69 : decode cX12_readAnswers 69 = .ok (.getfield 37, 3) := by decide +kernel
theorem dX12_readAnswers_72 : decode cX12_readAnswers 72 = .ok (.bipush 31, 2) := by decide +kernel
theorem dX12_readAnswers_74 : decode cX12_readAnswers 74 = .ok (.aload_n 0, 1) := by decide +kernel
theorem dX12_readAnswers_75 : decode cX12_readAnswers 75 = .ok (.getfield 190, 3) := by decide +kernel
theorem dX12_readAnswers_78 : decode cX12_readAnswers 78 = .ok (.iadd, 1) := by decide +kernel
theorem dX12_readAnswers_79 : decode cX12_readAnswers 79 = .ok (.dup2, 1) := by decide +kernel
theorem dX12_readAnswers_80 : decode cX12_readAnswers 80 = .ok (.iaload, 1) := by decide +kernel
theorem dX12_readAnswers_81 : decode cX12_readAnswers 81 = .ok (.iconst 1, 1) := by decide +kernel
theorem dX12_readAnswers_82 : decode cX12_readAnswers 82 = .ok (.iload_n 1, 1) := by decide +kernel
theorem dX12_readAnswers_83 : decode cX12_readAnswers 83 = .ok (.ishl, 1) := by decide +kernel
theorem dX12_readAnswers_84 : decode cX12_readAnswers 84 = .ok (.ior, 1) := by decide +kernel
theorem dX12_readAnswers_85 : decode cX12_readAnswers 85 = .ok (.iastore, 1) := by decide +kernel
theorem dX12_readAnswers_86 : decode cX12_readAnswers 86 = .ok (.aload_n 0, 1) := by decide +kernel
theorem dX12_readAnswers_87 : decode cX12_readAnswers 87 = .ok (.getfield 37, 3) := by decide +kernel
theorem dX12_readAnswers_90 : decode cX12_readAnswers 90 = .ok (.iconst 2, 1) := by decide +kernel
theorem dX12_readAnswers_91 : decode cX12_readAnswers 91 = .ok (.dup2, 1) := by decide +kernel
theorem dX12_readAnswers_92 : decode cX12_readAnswers 92 = .ok (.iaload, 1) := by decide +kernel
theorem dX12_readAnswers_93 : decode cX12_readAnswers 93 = .ok (.iconst 1, 1) := by decide +kernel
theorem dX12_readAnswers_94 : decode cX12_readAnswers 94 = .ok (.iadd, 1) := by decide +kernel
theorem dX12_readAnswers_95 : decode cX12_readAnswers 95 = .ok (.iastore, 1) := by decide +kernel
theorem dX12_readAnswers_96 : decode cX12_readAnswers 96 = .ok (.aload_n 0, 1) := by decide +kernel
theorem dX12_readAnswers_97 : decode cX12_readAnswers 97 = .ok (.invokevirtual 183, 3) := by decide +kernel
theorem dX12_readAnswers_100 : decode cX12_readAnswers 100 = .ok (.iconst 1, 1) := by decide +kernel
theorem dX12_readAnswers_101 : decode cX12_readAnswers 101 = .ok (.ireturn, 1) := by decide +kernel
set_option maxRecDepth 20000 in
theorem ggX12_office_X12_taken : GoodIn wsX12_office wsX12_taken := goodIn_r _ [14, 15, 16, 17, 18, 118, 119, 120, 121, 122, 123, 124, 125, 126, 127, 128, 129, 130, 131, 132, 133, 134, 135, 136, 137, 138, 139, 140, 141, 142, 143, 144, 145, 146, 147, 148, 149, 150, 151, 152, 153, 154, 155, 156, 157, 158, 159, 160, 161, 162, 163, 164, 165, 166] rfl rfl
set_option maxRecDepth 20000 in
theorem gX12_office_X12_taken : GoodIn wsX12_office (wsV RX12 236 RX12 yX12_taken wsX12_taken) := goodIn_app (goodIn_r _ [10, 11, 12, 13] rfl rfl) ggX12_office_X12_taken
set_option maxRecDepth 20000 in
theorem ggX12_office_X12_clears : GoodIn wsX12_office wsX12_clears := goodIn_r _ [22, 7, 118, 119, 120, 121, 122, 123, 124, 125, 126, 127, 128, 129, 130, 131, 132, 133, 134, 135, 136, 137, 138, 139, 140, 141, 142, 143, 144, 145, 146, 147, 148, 149, 150, 151, 152, 153, 154, 155, 156, 157, 158, 159, 160, 161, 162, 163, 164, 165, 166] rfl rfl
set_option maxRecDepth 20000 in
theorem gX12_office_X12_clears : GoodIn wsX12_office (wsV RX12 141 RX12 yX12_clears wsX12_clears) := goodIn_app (goodIn_r _ [19, 20, 21, 13] rfl rfl) ggX12_office_X12_clears
set_option maxRecDepth 20000 in
theorem ggX12_office_X12_next : GoodIn wsX12_office wsX12_next := goodIn_r _ [26, 17, 27, 28, 16, 18, 4, 29, 30, 31, 32, 33, 13, 34, 35, 36, 37, 38, 39, 40, 41, 118, 119, 120, 121, 122, 123, 124, 125, 126, 127, 128, 129, 130, 131, 132, 133, 134, 135, 136, 137, 138, 139, 140, 141, 142, 143, 144, 145, 146, 147, 148, 149, 150, 151, 152, 153, 154, 155, 156, 157, 158, 159, 160, 161, 162, 163, 164, 165, 166] rfl rfl
set_option maxRecDepth 20000 in
theorem gX12_office_X12_next : GoodIn wsX12_office (wsV RX12 183 RX12 yX12_next wsX12_next) := goodIn_app (goodIn_r _ [23, 24, 25, 13] rfl rfl) ggX12_office_X12_next
set_option maxRecDepth 20000 in
theorem ggX12_office_X12_readLine : GoodIn wsX12_office wsX12_readLine := goodIn_r _ [45, 46, 47, 48, 49, 50, 51, 52, 13, 53, 4, 30, 54, 55, 56, 57, 7, 58, 59, 60, 61, 2, 27, 5, 23, 24, 25, 26, 17, 28, 16, 18, 29, 31, 32, 33, 34, 35, 36, 37, 38, 39, 40, 41, 62, 63, 64, 65, 8, 66, 67, 68, 69, 70, 71, 72, 73, 74, 75, 76, 77, 78, 79, 80, 81, 82, 83, 84, 85, 86, 87, 88, 89, 90, 91, 92, 93, 94, 95, 96, 97, 98, 99, 100, 101, 102, 103, 104, 105, 106, 107, 108, 109, 118, 119, 120, 121, 122, 123, 124, 125, 126, 127, 128, 129, 130, 131, 132, 133, 134, 135, 136, 137, 138, 139, 140, 141, 142, 143, 144, 145, 146, 147, 148, 149, 150, 151, 152, 153, 154, 155, 156, 157, 158, 159, 160, 161, 162, 163, 164, 165, 166] rfl rfl
set_option maxRecDepth 20000 in
theorem gX12_office_X12_readLine : GoodIn wsX12_office (wsV RX12 242 RX12 yX12_readLine wsX12_readLine) := goodIn_app (goodIn_r _ [42, 43, 44, 13] rfl rfl) ggX12_office_X12_readLine
set_option maxRecDepth 20000 in
theorem ggX12_office_X12_sign : GoodIn wsX12_office wsX12_sign := goodIn_r _ [113, 114, 115, 116, 13, 117, 4, 29, 58, 59, 60, 61, 2, 27, 5, 23, 24, 25, 26, 17, 28, 16, 18, 30, 31, 32, 33, 34, 35, 36, 37, 38, 39, 40, 41, 118, 119, 120, 121, 122, 123, 124, 125, 126, 127, 128, 129, 130, 131, 132, 133, 134, 135, 136, 137, 138, 139, 140, 141, 142, 143, 144, 145, 146, 147, 148, 149, 150, 151, 152, 153, 154, 155, 156, 157, 158, 159, 160, 161, 162, 163, 164, 165, 166] rfl rfl
set_option maxRecDepth 20000 in
theorem gX12_office_X12_sign : GoodIn wsX12_office (wsV RX12 245 RX12 yX12_sign wsX12_sign) := goodIn_app (goodIn_r _ [110, 111, 112, 13] rfl rfl) ggX12_office_X12_sign
theorem dX12_office_0 : decode cX12_office 0 = .ok (.aload_n 0, 1) := by decide +kernel
theorem dX12_office_1 : decode cX12_office 1 = .ok (.iconst 0, 1) := by decide +kernel
theorem dX12_office_2 : decode cX12_office 2 = .ok (.putfield 1, 3) := by decide +kernel
theorem dX12_office_5 : decode cX12_office 5 = .ok (.aload_n 0, 1) := by decide +kernel
theorem dX12_office_6 : decode cX12_office 6 = .ok (.sipush 900, 3) := by decide +kernel
theorem dX12_office_9 : decode cX12_office 9 = .ok (.invokevirtual 236, 3) := by decide +kernel
theorem dX12_office_12 : decode cX12_office 12 = .ok (.aload_n 0, 1) := by decide +kernel
theorem dX12_office_13 : decode cX12_office 13 = .ok (.iconst 0, 1) := by decide +kernel
theorem dX12_office_14 : decode cX12_office 14 = .ok (.putfield 171, 3) := by decide +kernel
theorem dX12_office_17 : decode cX12_office 17 = .ok (.aload_n 0, 1) := by decide +kernel
theorem dX12_office_18 : decode cX12_office 18 = .ok (.iconst 0, 1) := by decide +kernel
theorem dX12_office_19 : decode cX12_office 19 = .ok (.putfield 239, 3) := by decide +kernel
theorem dX12_office_22 : decode cX12_office 22 = .ok (.aload_n 0, 1) := by decide +kernel
theorem dX12_office_23 : decode cX12_office 23 = .ok (.invokevirtual 141, 3) := by decide +kernel
theorem dX12_office_26 : decode cX12_office 26 = .ok (.aload_n 0, 1) := by decide +kernel
theorem dX12_office_27 : decode cX12_office 27 = .ok (.invokevirtual 183, 3) := by decide +kernel
theorem dX12_office_30 : decode cX12_office 30 = .ok (.aload_n 0, 1) := by decide +kernel
theorem dX12_office_31 : decode cX12_office 31 = .ok (.getfield 154, 3) := by decide +kernel
theorem dX12_office_34 : decode cX12_office 34 = .ok (.ifCond .eq 39, 3) := by decide +kernel
theorem dX12_office_37 : decode cX12_office 37 = .ok (.aload_n 0, 1) := by decide +kernel
theorem dX12_office_38 : decode cX12_office 38 = .ok (.invokevirtual 242, 3) := by decide +kernel
theorem dX12_office_41 : decode cX12_office 41 = .ok (.ifCond .eq 12, 3) := by decide +kernel
theorem dX12_office_44 : decode cX12_office 44 = .ok (.aload_n 0, 1) := by decide +kernel
theorem dX12_office_45 : decode cX12_office 45 = .ok (.bipush 59, 2) := by decide +kernel
theorem dX12_office_47 : decode cX12_office 47 = .ok (.invokevirtual 245, 3) := by decide +kernel
theorem dX12_office_50 : decode cX12_office 50 = .ok (.ifCond .ne 10, 3) := by decide +kernel
theorem dX12_office_53 : decode cX12_office 53 = .ok (.iconst (-1), 1) := by decide +kernel
theorem dX12_office_54 : decode cX12_office 54 = .ok (.aload_n 0, 1) := by decide +kernel
theorem dX12_office_55 : decode cX12_office 55 = .ok (.getfield 174, 3) := by decide +kernel
theorem dX12_office_58 : decode cX12_office 58 = .ok (.isub, 1) := by decide +kernel
theorem dX12_office_59 : decode cX12_office 59 = .ok (.ireturn, 1) := by decide +kernel
theorem dX12_office_60 : decode cX12_office 60 = .ok (.aload_n 0, 1) := by decide +kernel
theorem dX12_office_61 : decode cX12_office 61 = .ok (.dup, 1) := by decide +kernel
theorem dX12_office_62 : decode cX12_office 62 = .ok (.getfield 239, 3) := by decide +kernel
theorem dX12_office_65 : decode cX12_office 65 = .ok (.iconst 1, 1) := by decide +kernel
theorem dX12_office_66 : decode cX12_office 66 = .ok (.iadd, 1) := by decide +kernel
theorem dX12_office_67 : decode cX12_office 67 = .ok (.putfield 239, 3) := by decide +kernel
theorem dX12_office_70 : decode cX12_office 70 = .ok (.goto (-40), 3) := by decide +kernel
theorem dX12_office_73 : decode cX12_office 73 = .ok (.iconst 0, 1) := by decide +kernel
theorem dX12_office_74 : decode cX12_office 74 = .ok (.istore_n 1, 1) := by decide +kernel
theorem dX12_office_75 : decode cX12_office 75 = .ok (.iload_n 1, 1) := by decide +kernel
theorem dX12_office_76 : decode cX12_office 76 = .ok (.sipush 279, 3) := by decide +kernel
theorem dX12_office_79 : decode cX12_office 79 = .ok (.if_icmp .ge 31, 3) := by decide +kernel
theorem dX12_office_82 : decode cX12_office 82 = .ok (.aload_n 0, 1) := by decide +kernel
theorem dX12_office_83 : decode cX12_office 83 = .ok (.getfield 33, 3) := by decide +kernel
theorem dX12_office_86 : decode cX12_office 86 = .ok (.iload_n 1, 1) := by decide +kernel
theorem dX12_office_87 : decode cX12_office 87 = .ok (.iload_n 1, 1) := by decide +kernel
theorem dX12_office_88 : decode cX12_office 88 = .ok (.bipush 39, 2) := by decide +kernel
theorem dX12_office_90 : decode cX12_office 90 = .ok (.if_icmp .ge 12, 3) := by decide +kernel
theorem dX12_office_93 : decode cX12_office 93 = .ok (.aload_n 0, 1) := by decide +kernel
theorem dX12_office_94 : decode cX12_office 94 = .ok (.getfield 37, 3) := by decide +kernel
theorem dX12_office_97 : decode cX12_office 97 = .ok (.iload_n 1, 1) := by decide +kernel
theorem dX12_office_98 : decode cX12_office 98 = .ok (.iaload, 1) := by decide +kernel
theorem dX12_office_99 : decode cX12_office 99 = .ok (.goto 4, 3) := by decide +kernel
theorem dX12_office_102 : decode cX12_office 102 = .ok (.iconst 0, 1) := by decide +kernel
theorem dX12_office_103 : decode cX12_office 103 = .ok (.iastore, 1) := by decide +kernel
theorem dX12_office_104 : decode cX12_office 104 = .ok (.iinc 1 1, 3) := by decide +kernel
theorem dX12_office_107 : decode cX12_office 107 = .ok (.goto (-32), 3) := by decide +kernel
theorem dX12_office_110 : decode cX12_office 110 = .ok (.iconst 0, 1) := by decide +kernel
theorem dX12_office_111 : decode cX12_office 111 = .ok (.istore_n 1, 1) := by decide +kernel
theorem dX12_office_112 : decode cX12_office 112 = .ok (.iload_n 1, 1) := by decide +kernel
theorem dX12_office_113 : decode cX12_office 113 = .ok (.bipush 14, 2) := by decide +kernel
theorem dX12_office_115 : decode cX12_office 115 = .ok (.if_icmp .ge 24, 3) := by decide +kernel
theorem dX12_office_118 : decode cX12_office 118 = .ok (.aload_n 0, 1) := by decide +kernel
theorem dX12_office_119 : decode cX12_office 119 = .ok (.getfield 43, 3) := by decide +kernel
theorem dX12_office_122 : decode cX12_office 122 = .ok (.iload_n 1, 1) := by decide +kernel
theorem dX12_office_123 : decode cX12_office 123 = .ok (.aload_n 0, 1) := by decide +kernel
theorem dX12_office_124 : decode cX12_office 124 = .ok (.getfield 43, 3) := by decide +kernel
theorem dX12_office_127 : decode cX12_office 127 = .ok (.bipush 14, 2) := by decide +kernel
theorem dX12_office_129 : decode cX12_office 129 = .ok (.iload_n 1, 1) := by decide +kernel
theorem dX12_office_130 : decode cX12_office 130 = .ok (.iadd, 1) := by decide +kernel
theorem dX12_office_131 : decode cX12_office 131 = .ok (.laload, 1) := by decide +kernel
theorem dX12_office_132 : decode cX12_office 132 = .ok (.lastore, 1) := by decide +kernel
theorem dX12_office_133 : decode cX12_office 133 = .ok (.iinc 1 1, 3) := by decide +kernel
theorem dX12_office_136 : decode cX12_office 136 = .ok (.goto (-24), 3) := by decide +kernel
theorem dX12_office_139 : decode cX12_office 139 = .ok (.iconst 0, 1) := by decide +kernel
theorem dX12_office_140 : decode cX12_office 140 = .ok (.istore_n 1, 1) := by decide +kernel
theorem dX12_office_141 : decode cX12_office 141 = .ok (.iload_n 1, 1) := by decide +kernel
theorem dX12_office_142 : decode cX12_office 142 = .ok (.bipush 6, 2) := by decide +kernel
theorem dX12_office_144 : decode cX12_office 144 = .ok (.if_icmp .ge 26, 3) := by decide +kernel
theorem dX12_office_147 : decode cX12_office 147 = .ok (.aload_n 0, 1) := by decide +kernel
theorem dX12_office_148 : decode cX12_office 148 = .ok (.getfield 33, 3) := by decide +kernel
theorem dX12_office_151 : decode cX12_office 151 = .ok (.bipush 44, 2) := by decide +kernel
theorem dX12_office_153 : decode cX12_office 153 = .ok (.iload_n 1, 1) := by decide +kernel
theorem dX12_office_154 : decode cX12_office 154 = .ok (.iadd, 1) := by decide +kernel
theorem dX12_office_155 : decode cX12_office 155 = .ok (.aload_n 0, 1) := by decide +kernel
theorem dX12_office_156 : decode cX12_office 156 = .ok (.getfield 33, 3) := by decide +kernel
theorem dX12_office_159 : decode cX12_office 159 = .ok (.iconst 3, 1) := by decide +kernel
theorem dX12_office_160 : decode cX12_office 160 = .ok (.iload_n 1, 1) := by decide +kernel
theorem dX12_office_161 : decode cX12_office 161 = .ok (.iadd, 1) := by decide +kernel
theorem dX12_office_162 : decode cX12_office 162 = .ok (.iaload, 1) := by decide +kernel
theorem dX12_office_163 : decode cX12_office 163 = .ok (.iastore, 1) := by decide +kernel
theorem dX12_office_164 : decode cX12_office 164 = .ok (.iinc 1 1, 3) := by decide +kernel
theorem dX12_office_167 : decode cX12_office 167 = .ok (.goto (-26), 3) := by decide +kernel
theorem dX12_office_170 : decode cX12_office 170 = .ok (.aload_n 0, 1) := by decide +kernel
theorem dX12_office_171 : decode cX12_office 171 = .ok (.iconst 0, 1) := by decide +kernel
theorem dX12_office_172 : decode cX12_office 172 = .ok (.putfield 248, 3) := by decide +kernel
theorem dX12_office_175 : decode cX12_office 175 = .ok (.aload_n 0, 1) := by decide +kernel
theorem dX12_office_176 : decode cX12_office 176 = .ok (.getfield 239, 3) := by decide +kernel
theorem dX12_office_179 : decode cX12_office 179 = .ok (.ireturn, 1) := by decide +kernel
theorem dX12_fault_0 : decode cX12_fault 0 = .ok (.aload_n 0, 1) := by decide +kernel
theorem dX12_fault_1 : decode cX12_fault 1 = .ok (.iconst 0, 1) := by decide +kernel
theorem dX12_fault_2 : decode cX12_fault 2 = .ok (.putfield 1, 3) := by decide +kernel
theorem dX12_fault_5 : decode cX12_fault 5 = .ok (.aload_n 0, 1) := by decide +kernel
theorem dX12_fault_6 : decode cX12_fault 6 = .ok (.getfield 171, 3) := by decide +kernel
theorem dX12_fault_9 : decode cX12_fault 9 = .ok (.ireturn, 1) := by decide +kernel
set_option maxRecDepth 20000 in
theorem ggX12_isMachine_X12_isIn : GoodIn wsX12_isMachine wsX12_isIn := goodIn_r _ [5] rfl rfl
set_option maxRecDepth 20000 in
theorem gX12_isMachine_X12_isIn : GoodIn wsX12_isMachine (va_wsS RX12 186 yX12_isIn wsX12_isIn) := goodIn_app (goodIn_r _ [2, 3, 4] rfl rfl) ggX12_isMachine_X12_isIn
theorem dX12_isMachine_0 : decode cX12_isMachine 0 = .ok (.iload_n 1, 1) := by decide +kernel
theorem dX12_isMachine_1 : decode cX12_isMachine 1 = .ok (.iconst 0, 1) := by decide +kernel
theorem dX12_isMachine_2 : decode cX12_isMachine 2 = .ok (.aload_n 0, 1) := by decide +kernel
theorem dX12_isMachine_3 : decode cX12_isMachine 3 = .ok (.getfield 33, 3) := by decide +kernel
theorem dX12_isMachine_6 : decode cX12_isMachine 6 = .ok (.iconst 0, 1) := by decide +kernel
theorem dX12_isMachine_7 : decode cX12_isMachine 7 = .ok (.iaload, 1) := by decide +kernel
theorem dX12_isMachine_8 : decode cX12_isMachine 8 = .ok (.iconst 1, 1) := by decide +kernel
theorem dX12_isMachine_9 : decode cX12_isMachine 9 = .ok (.isub, 1) := by decide +kernel
theorem dX12_isMachine_10 : decode cX12_isMachine 10 = .ok (.invokestatic 186, 3) := by decide +kernel
theorem dX12_isMachine_13 : decode cX12_isMachine 13 = .ok (.ireturn, 1) := by decide +kernel
set_option maxRecDepth 20000 in
theorem ggX12_isPhrase_X12_isIn : GoodIn wsX12_isPhrase wsX12_isIn := goodIn_r _ [5] rfl rfl
set_option maxRecDepth 20000 in
theorem gX12_isPhrase_X12_isIn : GoodIn wsX12_isPhrase (va_wsS RX12 186 yX12_isIn wsX12_isIn) := goodIn_app (goodIn_r _ [2, 3, 4] rfl rfl) ggX12_isPhrase_X12_isIn
theorem dX12_isPhrase_0 : decode cX12_isPhrase 0 = .ok (.iload_n 1, 1) := by decide +kernel
theorem dX12_isPhrase_1 : decode cX12_isPhrase 1 = .ok (.iconst 0, 1) := by decide +kernel
theorem dX12_isPhrase_2 : decode cX12_isPhrase 2 = .ok (.aload_n 0, 1) := by decide +kernel
theorem dX12_isPhrase_3 : decode cX12_isPhrase 3 = .ok (.getfield 33, 3) := by decide +kernel
theorem dX12_isPhrase_6 : decode cX12_isPhrase 6 = .ok (.iconst 1, 1) := by decide +kernel
theorem dX12_isPhrase_7 : decode cX12_isPhrase 7 = .ok (.iaload, 1) := by decide +kernel
theorem dX12_isPhrase_8 : decode cX12_isPhrase 8 = .ok (.iconst 1, 1) := by decide +kernel
theorem dX12_isPhrase_9 : decode cX12_isPhrase 9 = .ok (.isub, 1) := by decide +kernel
theorem dX12_isPhrase_10 : decode cX12_isPhrase 10 = .ok (.invokestatic 186, 3) := by decide +kernel
theorem dX12_isPhrase_13 : decode cX12_isPhrase 13 = .ok (.ireturn, 1) := by decide +kernel
set_option maxRecDepth 20000 in
theorem ggX12_isHeld_X12_bitOf : GoodIn wsX12_isHeld wsX12_bitOf := goodIn_r _ [5] rfl rfl
set_option maxRecDepth 20000 in
theorem gX12_isHeld_X12_bitOf : GoodIn wsX12_isHeld (va_wsS RX12 233 yX12_bitOf wsX12_bitOf) := goodIn_app (goodIn_r _ [2, 3, 4] rfl rfl) ggX12_isHeld_X12_bitOf
theorem dX12_isHeld_0 : decode cX12_isHeld 0 = .ok (.aload_n 0, 1) := by decide +kernel
theorem dX12_isHeld_1 : decode cX12_isHeld 1 = .ok (.getfield 33, 3) := by decide +kernel
theorem dX12_isHeld_4 : decode cX12_isHeld 4 = .ok (.bipush 42, 2) := by decide +kernel
theorem dX12_isHeld_6 : decode cX12_isHeld 6 = .ok (.iaload, 1) := by decide +kernel
theorem dX12_isHeld_7 : decode cX12_isHeld 7 = .ok (.iload_n 1, 1) := by decide +kernel
theorem dX12_isHeld_8 : decode cX12_isHeld 8 = .ok (.invokestatic 233, 3) := by decide +kernel
theorem dX12_isHeld_11 : decode cX12_isHeld 11 = .ok (.ireturn, 1) := by decide +kernel
set_option maxRecDepth 20000 in
theorem ggX12_isAnswer_X12_bitOf : GoodIn wsX12_isAnswer wsX12_bitOf := goodIn_r _ [5] rfl rfl
set_option maxRecDepth 20000 in
theorem gX12_isAnswer_X12_bitOf : GoodIn wsX12_isAnswer (va_wsS RX12 233 yX12_bitOf wsX12_bitOf) := goodIn_app (goodIn_r _ [2, 3, 4] rfl rfl) ggX12_isAnswer_X12_bitOf
theorem dX12_isAnswer_0 : decode cX12_isAnswer 0 = .ok (.aload_n 0, 1) := by decide +kernel
theorem dX12_isAnswer_1 : decode cX12_isAnswer 1 = .ok (.getfield 33, 3) := by decide +kernel
theorem dX12_isAnswer_4 : decode cX12_isAnswer 4 = .ok (.bipush 31, 2) := by decide +kernel
theorem dX12_isAnswer_6 : decode cX12_isAnswer 6 = .ok (.iload_n 2, 1) := by decide +kernel
theorem dX12_isAnswer_7 : decode cX12_isAnswer 7 = .ok (.iadd, 1) := by decide +kernel
theorem dX12_isAnswer_8 : decode cX12_isAnswer 8 = .ok (.iaload, 1) := by decide +kernel
theorem dX12_isAnswer_9 : decode cX12_isAnswer 9 = .ok (.iload_n 1, 1) := by decide +kernel
theorem dX12_isAnswer_10 : decode cX12_isAnswer 10 = .ok (.invokestatic 233, 3) := by decide +kernel
theorem dX12_isAnswer_13 : decode cX12_isAnswer 13 = .ok (.ireturn, 1) := by decide +kernel
set_option maxRecDepth 20000 in
theorem ggX12_whyWrite_X12_isHeld : GoodIn wsX12_whyWrite wsX12_isHeld := goodIn_r _ [6, 1, 7, 8, 5, 9, 14, 15, 16, 17, 18, 19, 20, 21, 22, 23, 24, 25, 26, 27, 28, 29, 30, 31, 32, 33, 34, 35, 36, 37, 38, 39, 40, 41, 42, 43, 44, 45, 46, 47, 48, 49, 50, 51, 52, 53, 54, 55, 56, 57, 58, 59, 60, 61, 62] rfl rfl
set_option maxRecDepth 20000 in
theorem gX12_whyWrite_X12_isHeld : GoodIn wsX12_whyWrite (wsV RX12 251 RX12 yX12_isHeld wsX12_isHeld) := goodIn_app (goodIn_r _ [2, 3, 4, 5] rfl rfl) ggX12_whyWrite_X12_isHeld
set_option maxRecDepth 20000 in
theorem ggX12_whyWrite_X12_bitOf : GoodIn wsX12_whyWrite wsX12_bitOf := goodIn_r _ [9] rfl rfl
set_option maxRecDepth 20000 in
theorem gX12_whyWrite_X12_bitOf : GoodIn wsX12_whyWrite (va_wsS RX12 233 yX12_bitOf wsX12_bitOf) := goodIn_app (goodIn_r _ [7, 8, 5] rfl rfl) ggX12_whyWrite_X12_bitOf
set_option maxRecDepth 20000 in
theorem ggX12_whyWrite_X12_isAnswer : GoodIn wsX12_whyWrite wsX12_isAnswer := goodIn_r _ [13, 1, 7, 8, 5, 9, 14, 15, 16, 17, 18, 19, 20, 21, 22, 23, 24, 25, 26, 27, 28, 29, 30, 31, 32, 33, 34, 35, 36, 37, 38, 39, 40, 41, 42, 43, 44, 45, 46, 47, 48, 49, 50, 51, 52, 53, 54, 55, 56, 57, 58, 59, 60, 61, 62] rfl rfl
set_option maxRecDepth 20000 in
theorem gX12_whyWrite_X12_isAnswer : GoodIn wsX12_whyWrite (wsV RX12 254 RX12 yX12_isAnswer wsX12_isAnswer) := goodIn_app (goodIn_r _ [10, 11, 12, 5] rfl rfl) ggX12_whyWrite_X12_isAnswer
theorem dX12_whyWrite_0 : decode cX12_whyWrite 0 = .ok (.aload_n 0, 1) := by decide +kernel
theorem dX12_whyWrite_1 : decode cX12_whyWrite 1 = .ok (.iload_n 1, 1) := by decide +kernel
theorem dX12_whyWrite_2 : decode cX12_whyWrite 2 = .ok (.invokevirtual 251, 3) := by decide +kernel
theorem dX12_whyWrite_5 : decode cX12_whyWrite 5 = .ok (.ifCond .eq 5, 3) := by decide +kernel
theorem dX12_whyWrite_8 : decode cX12_whyWrite 8 = .ok (.iconst 1, 1) := by decide +kernel
theorem dX12_whyWrite_9 : decode cX12_whyWrite 9 = .ok (.ireturn, 1) := by decide +kernel
theorem dX12_whyWrite_10 : decode cX12_whyWrite 10 = .ok (.aload_n 0, 1) := by decide +kernel
theorem dX12_whyWrite_11 : decode cX12_whyWrite 11 = .ok (.getfield 33, 3) := by decide +kernel
theorem dX12_whyWrite_14 : decode cX12_whyWrite 14 = .ok (.bipush 41, 2) := by decide +kernel
theorem dX12_whyWrite_16 : decode cX12_whyWrite 16 = .ok (.iaload, 1) := by decide +kernel
theorem dX12_whyWrite_17 : decode cX12_whyWrite 17 = .ok (.iload_n 1, 1) := by decide +kernel
theorem dX12_whyWrite_18 : decode cX12_whyWrite 18 = .ok (.iconst 1, 1) := by decide +kernel
theorem dX12_whyWrite_19 : decode cX12_whyWrite 19 = .ok (.iadd, 1) := by decide +kernel
theorem dX12_whyWrite_20 : decode cX12_whyWrite 20 = .ok (.if_icmp .ne 5, 3) := by decide +kernel
theorem dX12_whyWrite_23 : decode cX12_whyWrite 23 = .ok (.iconst 2, 1) := by decide +kernel
theorem dX12_whyWrite_24 : decode cX12_whyWrite 24 = .ok (.ireturn, 1) := by decide +kernel
theorem dX12_whyWrite_25 : decode cX12_whyWrite 25 = .ok (.aload_n 0, 1) := by decide +kernel
theorem dX12_whyWrite_26 : decode cX12_whyWrite 26 = .ok (.getfield 33, 3) := by decide +kernel
theorem dX12_whyWrite_29 : decode cX12_whyWrite 29 = .ok (.bipush 9, 2) := by decide +kernel
theorem dX12_whyWrite_31 : decode cX12_whyWrite 31 = .ok (.iload_n 1, 1) := by decide +kernel
theorem dX12_whyWrite_32 : decode cX12_whyWrite 32 = .ok (.iadd, 1) := by decide +kernel
theorem dX12_whyWrite_33 : decode cX12_whyWrite 33 = .ok (.iaload, 1) := by decide +kernel
theorem dX12_whyWrite_34 : decode cX12_whyWrite 34 = .ok (.iload_n 2, 1) := by decide +kernel
theorem dX12_whyWrite_35 : decode cX12_whyWrite 35 = .ok (.invokestatic 233, 3) := by decide +kernel
theorem dX12_whyWrite_38 : decode cX12_whyWrite 38 = .ok (.ifCond .ne 5, 3) := by decide +kernel
theorem dX12_whyWrite_41 : decode cX12_whyWrite 41 = .ok (.iconst 3, 1) := by decide +kernel
theorem dX12_whyWrite_42 : decode cX12_whyWrite 42 = .ok (.ireturn, 1) := by decide +kernel
theorem dX12_whyWrite_43 : decode cX12_whyWrite 43 = .ok (.aload_n 0, 1) := by decide +kernel
theorem dX12_whyWrite_44 : decode cX12_whyWrite 44 = .ok (.getfield 33, 3) := by decide +kernel
theorem dX12_whyWrite_47 : decode cX12_whyWrite 47 = .ok (.bipush 40, 2) := by decide +kernel
theorem dX12_whyWrite_49 : decode cX12_whyWrite 49 = .ok (.iaload, 1) := by decide +kernel
theorem dX12_whyWrite_50 : decode cX12_whyWrite 50 = .ok (.ifCond .le 22, 3) := by decide +kernel
theorem dX12_whyWrite_53 : decode cX12_whyWrite 53 = .ok (.aload_n 0, 1) := by decide +kernel
theorem dX12_whyWrite_54 : decode cX12_whyWrite 54 = .ok (.iload_n 2, 1) := by decide +kernel
theorem dX12_whyWrite_55 : decode cX12_whyWrite 55 = .ok (.aload_n 0, 1) := by decide +kernel
theorem dX12_whyWrite_56 : decode cX12_whyWrite 56 = .ok (.getfield 33, 3) := by decide +kernel
theorem dX12_whyWrite_59 : decode cX12_whyWrite 59 = .ok (.bipush 40, 2) := by decide +kernel
theorem dX12_whyWrite_61 : decode cX12_whyWrite 61 = .ok (.iaload, 1) := by decide +kernel
theorem dX12_whyWrite_62 : decode cX12_whyWrite 62 = .ok (.iconst 1, 1) := by decide +kernel
theorem dX12_whyWrite_63 : decode cX12_whyWrite 63 = .ok (.isub, 1) := by decide +kernel
theorem dX12_whyWrite_64 : decode cX12_whyWrite 64 = .ok (.invokevirtual 254, 3) := by decide +kernel
theorem dX12_whyWrite_67 : decode cX12_whyWrite 67 = .ok (.ifCond .ne 5, 3) := by decide +kernel
theorem dX12_whyWrite_70 : decode cX12_whyWrite 70 = .ok (.iconst 4, 1) := by decide +kernel
theorem dX12_whyWrite_71 : decode cX12_whyWrite 71 = .ok (.ireturn, 1) := by decide +kernel
theorem dX12_whyWrite_72 : decode cX12_whyWrite 72 = .ok (.aload_n 0, 1) := by decide +kernel
theorem dX12_whyWrite_73 : decode cX12_whyWrite 73 = .ok (.getfield 33, 3) := by decide +kernel
theorem dX12_whyWrite_76 : decode cX12_whyWrite 76 = .ok (.bipush 44, 2) := by decide +kernel
theorem dX12_whyWrite_78 : decode cX12_whyWrite 78 = .ok (.iload_n 1, 1) := by decide +kernel
theorem dX12_whyWrite_79 : decode cX12_whyWrite 79 = .ok (.iadd, 1) := by decide +kernel
theorem dX12_whyWrite_80 : decode cX12_whyWrite 80 = .ok (.iaload, 1) := by decide +kernel
theorem dX12_whyWrite_81 : decode cX12_whyWrite 81 = .ok (.aload_n 0, 1) := by decide +kernel
theorem dX12_whyWrite_82 : decode cX12_whyWrite 82 = .ok (.getfield 33, 3) := by decide +kernel
theorem dX12_whyWrite_85 : decode cX12_whyWrite 85 = .ok (.bipush 15, 2) := by decide +kernel
theorem dX12_whyWrite_87 : decode cX12_whyWrite 87 = .ok (.iload_n 2, 1) := by decide +kernel
theorem dX12_whyWrite_88 : decode cX12_whyWrite 88 = .ok (.iadd, 1) := by decide +kernel
theorem dX12_whyWrite_89 : decode cX12_whyWrite 89 = .ok (.iaload, 1) := by decide +kernel
theorem dX12_whyWrite_90 : decode cX12_whyWrite 90 = .ok (.if_icmp .ge 7, 3) := by decide +kernel
theorem dX12_whyWrite_93 : decode cX12_whyWrite 93 = .ok (.iconst 5, 1) := by decide +kernel
theorem dX12_whyWrite_94 : decode cX12_whyWrite 94 = .ok (.goto 4, 3) := by decide +kernel
theorem dX12_whyWrite_97 : decode cX12_whyWrite 97 = .ok (.iconst 0, 1) := by decide +kernel
theorem dX12_whyWrite_98 : decode cX12_whyWrite 98 = .ok (.ireturn, 1) := by decide +kernel
set_option maxRecDepth 20000 in
theorem ggX12_couldWrite_X12_whyWrite : GoodIn wsX12_couldWrite wsX12_whyWrite := goodIn_r _ [6, 1, 7, 8, 9, 5, 10, 11, 12, 13, 14, 15, 16, 17, 18, 19, 20, 21, 22, 23, 24, 25, 26, 27, 28, 29, 30, 31, 32, 33, 34, 35, 36, 37, 38, 39, 40, 41, 42, 43, 44, 45, 46, 47, 48, 49, 50, 51, 52, 53, 54, 55, 56, 57, 58, 59, 60, 61, 62, 63, 64, 65, 66] rfl rfl
set_option maxRecDepth 20000 in
theorem gX12_couldWrite_X12_whyWrite : GoodIn wsX12_couldWrite (wsV RX12 257 RX12 yX12_whyWrite wsX12_whyWrite) := goodIn_app (goodIn_r _ [2, 3, 4, 5] rfl rfl) ggX12_couldWrite_X12_whyWrite
theorem dX12_couldWrite_0 : decode cX12_couldWrite 0 = .ok (.iconst 0, 1) := by decide +kernel
theorem dX12_couldWrite_1 : decode cX12_couldWrite 1 = .ok (.istore_n 2, 1) := by decide +kernel
theorem dX12_couldWrite_2 : decode cX12_couldWrite 2 = .ok (.iconst 0, 1) := by decide +kernel
theorem dX12_couldWrite_3 : decode cX12_couldWrite 3 = .ok (.istore_n 3, 1) := by decide +kernel
theorem dX12_couldWrite_4 : decode cX12_couldWrite 4 = .ok (.iload_n 3, 1) := by decide +kernel
theorem dX12_couldWrite_5 : decode cX12_couldWrite 5 = .ok (.aload_n 0, 1) := by decide +kernel
theorem dX12_couldWrite_6 : decode cX12_couldWrite 6 = .ok (.getfield 33, 3) := by decide +kernel
theorem dX12_couldWrite_9 : decode cX12_couldWrite 9 = .ok (.iconst 1, 1) := by decide +kernel
theorem dX12_couldWrite_10 : decode cX12_couldWrite 10 = .ok (.iaload, 1) := by decide +kernel
theorem dX12_couldWrite_11 : decode cX12_couldWrite 11 = .ok (.if_icmp .ge 28, 3) := by decide +kernel
theorem dX12_couldWrite_14 : decode cX12_couldWrite 14 = .ok (.iload_n 2, 1) := by decide +kernel
theorem dX12_couldWrite_15 : decode cX12_couldWrite 15 = .ok (.aload_n 0, 1) := by decide +kernel
theorem dX12_couldWrite_16 : decode cX12_couldWrite 16 = .ok (.iload_n 1, 1) := by decide +kernel
theorem dX12_couldWrite_17 : decode cX12_couldWrite 17 = .ok (.iload_n 3, 1) := by decide +kernel
theorem dX12_couldWrite_18 : decode cX12_couldWrite 18 = .ok (.invokevirtual 257, 3) := by decide +kernel
theorem dX12_couldWrite_21 : decode cX12_couldWrite 21 = .ok (.ifCond .ne 9, 3) := by decide +kernel
theorem dX12_couldWrite_24 : decode cX12_couldWrite 24 = .ok (.iconst 1, 1) := by decide +kernel
theorem dX12_couldWrite_25 : decode cX12_couldWrite 25 = .ok (.iload_n 3, 1) := by decide +kernel
theorem dX12_couldWrite_26 : decode cX12_couldWrite 26 = .ok (.ishl, 1) := by decide +kernel
theorem dX12_couldWrite_27 : decode cX12_couldWrite 27 = .ok (.goto 4, 3) := by decide +kernel
theorem dX12_couldWrite_30 : decode cX12_couldWrite 30 = .ok (.iconst 0, 1) := by decide +kernel
theorem dX12_couldWrite_31 : decode cX12_couldWrite 31 = .ok (.ior, 1) := by decide +kernel
theorem dX12_couldWrite_32 : decode cX12_couldWrite 32 = .ok (.istore_n 2, 1) := by decide +kernel
theorem dX12_couldWrite_33 : decode cX12_couldWrite 33 = .ok (.iinc 3 1, 3) := by decide +kernel
theorem dX12_couldWrite_36 : decode cX12_couldWrite 36 = .ok (.goto (-32), 3) := by decide +kernel
theorem dX12_couldWrite_39 : decode cX12_couldWrite 39 = .ok (.iload_n 2, 1) := by decide +kernel
theorem dX12_couldWrite_40 : decode cX12_couldWrite 40 = .ok (.ireturn, 1) := by decide +kernel
theorem dX12_sumOf_0 : decode cX12_sumOf 0 = .ok (.iconst 0, 1) := by decide +kernel
theorem dX12_sumOf_1 : decode cX12_sumOf 1 = .ok (.istore_n 2, 1) := by decide +kernel
theorem dX12_sumOf_2 : decode cX12_sumOf 2 = .ok (.iconst 0, 1) := by decide +kernel
theorem dX12_sumOf_3 : decode cX12_sumOf 3 = .ok (.istore_n 3, 1) := by decide +kernel
theorem dX12_sumOf_4 : decode cX12_sumOf 4 = .ok (.iload_n 3, 1) := by decide +kernel
theorem dX12_sumOf_5 : decode cX12_sumOf 5 = .ok (.aload_n 0, 1) := by decide +kernel
theorem dX12_sumOf_6 : decode cX12_sumOf 6 = .ok (.getfield 33, 3) := by decide +kernel
theorem dX12_sumOf_9 : decode cX12_sumOf 9 = .ok (.iconst 0, 1) := by decide +kernel
theorem dX12_sumOf_10 : decode cX12_sumOf 10 = .ok (.iaload, 1) := by decide +kernel
theorem dX12_sumOf_11 : decode cX12_sumOf 11 = .ok (.if_icmp .ge 20, 3) := by decide +kernel
theorem dX12_sumOf_14 : decode cX12_sumOf 14 = .ok (.iload_n 2, 1) := by decide +kernel
theorem dX12_sumOf_15 : decode cX12_sumOf 15 = .ok (.aload_n 0, 1) := by decide +kernel
theorem dX12_sumOf_16 : decode cX12_sumOf 16 = .ok (.getfield 33, 3) := by decide +kernel
theorem dX12_sumOf_19 : decode cX12_sumOf 19 = .ok (.iload_n 1, 1) := by decide +kernel
theorem dX12_sumOf_20 : decode cX12_sumOf 20 = .ok (.iload_n 3, 1) := by decide +kernel
theorem dX12_sumOf_21 : decode cX12_sumOf 21 = .ok (.iadd, 1) := by decide +kernel
theorem dX12_sumOf_22 : decode cX12_sumOf 22 = .ok (.iaload, 1) := by decide +kernel
theorem dX12_sumOf_23 : decode cX12_sumOf 23 = .ok (.iadd, 1) := by decide +kernel
theorem dX12_sumOf_24 : decode cX12_sumOf 24 = .ok (.istore_n 2, 1) := by decide +kernel
theorem dX12_sumOf_25 : decode cX12_sumOf 25 = .ok (.iinc 3 1, 3) := by decide +kernel
theorem dX12_sumOf_28 : decode cX12_sumOf 28 = .ok (.goto (-24), 3) := by decide +kernel
theorem dX12_sumOf_31 : decode cX12_sumOf 31 = .ok (.iload_n 2, 1) := by decide +kernel
theorem dX12_sumOf_32 : decode cX12_sumOf 32 = .ok (.ireturn, 1) := by decide +kernel
theorem dX12_owedBy_0 : decode cX12_owedBy 0 = .ok (.iconst 0, 1) := by decide +kernel
theorem dX12_owedBy_1 : decode cX12_owedBy 1 = .ok (.istore_n 3, 1) := by decide +kernel
theorem dX12_owedBy_2 : decode cX12_owedBy 2 = .ok (.iconst 0, 1) := by decide +kernel
theorem dX12_owedBy_3 : decode cX12_owedBy 3 = .ok (.istore 4, 2) := by decide +kernel
theorem dX12_owedBy_5 : decode cX12_owedBy 5 = .ok (.iload 4, 2) := by decide +kernel
theorem dX12_owedBy_7 : decode cX12_owedBy 7 = .ok (.aload_n 0, 1) := by decide +kernel
theorem dX12_owedBy_8 : decode cX12_owedBy 8 = .ok (.getfield 33, 3) := by decide +kernel
theorem dX12_owedBy_11 : decode cX12_owedBy 11 = .ok (.iconst 0, 1) := by decide +kernel
theorem dX12_owedBy_12 : decode cX12_owedBy 12 = .ok (.iaload, 1) := by decide +kernel
theorem dX12_owedBy_13 : decode cX12_owedBy 13 = .ok (.if_icmp .ge 49, 3) := by decide +kernel
theorem dX12_owedBy_16 : decode cX12_owedBy 16 = .ok (.iload_n 3, 1) := by decide +kernel
theorem dX12_owedBy_17 : decode cX12_owedBy 17 = .ok (.iload_n 2, 1) := by decide +kernel
theorem dX12_owedBy_18 : decode cX12_owedBy 18 = .ok (.ifCond .eq 21, 3) := by decide +kernel
theorem dX12_owedBy_21 : decode cX12_owedBy 21 = .ok (.aload_n 0, 1) := by decide +kernel
theorem dX12_owedBy_22 : decode cX12_owedBy 22 = .ok (.getfield 33, 3) := by decide +kernel
theorem dX12_owedBy_25 : decode cX12_owedBy 25 = .ok (.bipush 62, 2) := by decide +kernel
theorem dX12_owedBy_27 : decode cX12_owedBy 27 = .ok (.bipush 6, 2) := by decide +kernel
theorem dX12_owedBy_29 : decode cX12_owedBy 29 = .ok (.iload_n 1, 1) := by decide +kernel
theorem dX12_owedBy_30 : decode cX12_owedBy 30 = .ok (.imul, 1) := by decide +kernel
theorem dX12_owedBy_31 : decode cX12_owedBy 31 = .ok (.iadd, 1) := by decide +kernel
theorem dX12_owedBy_32 : decode cX12_owedBy 32 = .ok (.iload 4, 2) := by decide +kernel
theorem dX12_owedBy_34 : decode cX12_owedBy 34 = .ok (.iadd, 1) := by decide +kernel
theorem dX12_owedBy_35 : decode cX12_owedBy 35 = .ok (.iaload, 1) := by decide +kernel
theorem dX12_owedBy_36 : decode cX12_owedBy 36 = .ok (.goto 18, 3) := by decide +kernel
theorem dX12_owedBy_39 : decode cX12_owedBy 39 = .ok (.aload_n 0, 1) := by decide +kernel
theorem dX12_owedBy_40 : decode cX12_owedBy 40 = .ok (.getfield 33, 3) := by decide +kernel
theorem dX12_owedBy_43 : decode cX12_owedBy 43 = .ok (.bipush 62, 2) := by decide +kernel
theorem dX12_owedBy_45 : decode cX12_owedBy 45 = .ok (.bipush 6, 2) := by decide +kernel
theorem dX12_owedBy_47 : decode cX12_owedBy 47 = .ok (.iload 4, 2) := by decide +kernel
theorem dX12_owedBy_49 : decode cX12_owedBy 49 = .ok (.imul, 1) := by decide +kernel
theorem dX12_owedBy_50 : decode cX12_owedBy 50 = .ok (.iadd, 1) := by decide +kernel
theorem dX12_owedBy_51 : decode cX12_owedBy 51 = .ok (.iload_n 1, 1) := by decide +kernel
theorem dX12_owedBy_52 : decode cX12_owedBy 52 = .ok (.iadd, 1) := by decide +kernel
theorem dX12_owedBy_53 : decode cX12_owedBy 53 = .ok (.iaload, 1) := by decide +kernel
theorem dX12_owedBy_54 : decode cX12_owedBy 54 = .ok (.iadd, 1) := by decide +kernel
theorem dX12_owedBy_55 : decode cX12_owedBy 55 = .ok (.istore_n 3, 1) := by decide +kernel
theorem dX12_owedBy_56 : decode cX12_owedBy 56 = .ok (.iinc 4 1, 3) := by decide +kernel
theorem dX12_owedBy_59 : decode cX12_owedBy 59 = .ok (.goto (-54), 3) := by decide +kernel
theorem dX12_owedBy_62 : decode cX12_owedBy 62 = .ok (.iload_n 3, 1) := by decide +kernel
theorem dX12_owedBy_63 : decode cX12_owedBy 63 = .ok (.ireturn, 1) := by decide +kernel
set_option maxRecDepth 20000 in
theorem ggX12_machine_X12_isMachine : GoodIn wsX12_machine wsX12_isMachine := goodIn_r _ [6, 1, 7, 8, 5, 9, 38, 39, 40, 41, 42, 43, 44, 45, 46, 47, 48, 49, 50, 51, 52, 53, 54, 55, 56, 57, 58, 59, 60, 61, 62, 63, 64, 65, 66, 67, 68, 69, 70, 71, 72, 73, 74, 75, 76, 77, 78, 79, 80, 81, 82, 83, 84, 85, 86] rfl rfl
set_option maxRecDepth 20000 in
theorem gX12_machine_X12_isMachine : GoodIn wsX12_machine (wsV RX12 260 RX12 yX12_isMachine wsX12_isMachine) := goodIn_app (goodIn_r _ [2, 3, 4, 5] rfl rfl) ggX12_machine_X12_isMachine
set_option maxRecDepth 20000 in
theorem ggX12_machine_X12_isIn : GoodIn wsX12_machine wsX12_isIn := goodIn_r _ [9] rfl rfl
set_option maxRecDepth 20000 in
theorem gX12_machine_X12_isIn : GoodIn wsX12_machine (va_wsS RX12 186 yX12_isIn wsX12_isIn) := goodIn_app (goodIn_r _ [7, 8, 5] rfl rfl) ggX12_machine_X12_isIn
set_option maxRecDepth 20000 in
theorem ggX12_machine_X12_throwsIf : GoodIn wsX12_machine wsX12_throwsIf := goodIn_r _ [13, 14, 38, 39, 40, 41, 42, 43, 44, 45, 46, 47, 48, 49, 50, 51, 52, 53, 54, 55, 56, 57, 58, 59, 60, 61, 62, 63, 64, 65, 66, 67, 68, 69, 70, 71, 72, 73, 74, 75, 76, 77, 78, 79, 80, 81, 82, 83, 84, 85, 86] rfl rfl
set_option maxRecDepth 20000 in
theorem gX12_machine_X12_throwsIf : GoodIn wsX12_machine (wsV RX12 263 RX12 yX12_throwsIf wsX12_throwsIf) := goodIn_app (goodIn_r _ [10, 11, 12, 5] rfl rfl) ggX12_machine_X12_throwsIf
set_option maxRecDepth 20000 in
theorem ggX12_machine_X12_couldWrite : GoodIn wsX12_machine wsX12_couldWrite := goodIn_r _ [18, 1, 19, 20, 21, 5, 22, 23, 24, 25, 26, 27, 28, 29, 30, 31, 32, 33, 38, 39, 40, 41, 42, 43, 44, 45, 46, 47, 48, 49, 50, 51, 52, 53, 54, 55, 56, 57, 58, 59, 60, 61, 62, 63, 64, 65, 66, 67, 68, 69, 70, 71, 72, 73, 74, 75, 76, 77, 78, 79, 80, 81, 82, 83, 84, 85, 86] rfl rfl
set_option maxRecDepth 20000 in
theorem gX12_machine_X12_couldWrite : GoodIn wsX12_machine (wsV RX12 267 RX12 yX12_couldWrite wsX12_couldWrite) := goodIn_app (goodIn_r _ [15, 16, 17, 5] rfl rfl) ggX12_machine_X12_couldWrite
set_option maxRecDepth 20000 in
theorem ggX12_machine_X12_owedBy : GoodIn wsX12_machine wsX12_owedBy := goodIn_r _ [37, 1, 38, 39, 40, 41, 42, 43, 44, 45, 46, 47, 48, 49, 50, 51, 52, 53, 54, 55, 56, 57, 58, 59, 60, 61, 62, 63, 64, 65, 66, 67, 68, 69, 70, 71, 72, 73, 74, 75, 76, 77, 78, 79, 80, 81, 82, 83, 84, 85, 86] rfl rfl
set_option maxRecDepth 20000 in
theorem gX12_machine_X12_owedBy : GoodIn wsX12_machine (wsV RX12 271 RX12 yX12_owedBy wsX12_owedBy) := goodIn_app (goodIn_r _ [34, 35, 36, 5] rfl rfl) ggX12_machine_X12_owedBy
theorem dX12_machine_0 : decode cX12_machine 0 = .ok (.aload_n 0, 1) := by decide +kernel
theorem dX12_machine_1 : decode cX12_machine 1 = .ok (.aload_n 0, 1) := by decide +kernel
theorem dX12_machine_2 : decode cX12_machine 2 = .ok (.iload_n 1, 1) := by decide +kernel
theorem dX12_machine_3 : decode cX12_machine 3 = .ok (.invokevirtual 260, 3) := by decide +kernel
theorem dX12_machine_6 : decode cX12_machine 6 = .ok (.ifCond .eq 13, 3) := by decide +kernel
theorem dX12_machine_9 : decode cX12_machine 9 = .ok (.iload_n 2, 1) := by decide +kernel
theorem dX12_machine_10 : decode cX12_machine 10 = .ok (.iconst 0, 1) := by decide +kernel
theorem dX12_machine_11 : decode cX12_machine 11 = .ok (.bipush 7, 2) := by decide +kernel
theorem dX12_machine_13 : decode cX12_machine 13 = .ok (.invokestatic 186, 3) := by decide +kernel
theorem dX12_machine_16 : decode cX12_machine 16 = .ok (.ifCond .ne 7, 3) := by decide +kernel
theorem dX12_machine_19 : decode cX12_machine 19 = .ok (.iconst 1, 1) := by decide +kernel
theorem dX12_machine_20 : decode cX12_machine 20 = .ok (.goto 4, 3) := by decide +kernel
theorem dX12_machine_23 : decode cX12_machine 23 = .ok (.iconst 0, 1) := by decide +kernel
theorem dX12_machine_24 : decode cX12_machine 24 = .ok (.invokevirtual 263, 3) := by decide +kernel
theorem dX12_machine_27 : decode cX12_machine 27 = .ok (.ifCond .eq 5, 3) := by decide +kernel
theorem dX12_machine_30 : decode cX12_machine 30 = .ok (.iconst 0, 1) := by decide +kernel
theorem dX12_machine_31 : decode cX12_machine 31 = .ok (.ireturn, 1) := by decide +kernel
theorem dX12_machine_32 : decode cX12_machine 32 = .ok (.iload_n 2, 1) := by decide +kernel
theorem dX12_machine_33 : decode cX12_machine 33 = .ok (.tableswitch 97 0 5 #[39, 49, 59, 71, 81, 91], 39) := by decide +kernel
theorem dX12_machine_72 : decode cX12_machine 72 = .ok (.aload_n 0, 1) := by decide +kernel
theorem dX12_machine_73 : decode cX12_machine 73 = .ok (.getfield 33, 3) := by decide +kernel
theorem dX12_machine_76 : decode cX12_machine 76 = .ok (.bipush 44, 2) := by decide +kernel
theorem dX12_machine_78 : decode cX12_machine 78 = .ok (.iload_n 1, 1) := by decide +kernel
theorem dX12_machine_79 : decode cX12_machine 79 = .ok (.iadd, 1) := by decide +kernel
theorem dX12_machine_80 : decode cX12_machine 80 = .ok (.iaload, 1) := by decide +kernel
theorem dX12_machine_81 : decode cX12_machine 81 = .ok (.ireturn, 1) := by decide +kernel
theorem dX12_machine_82 : decode cX12_machine 82 = .ok (.aload_n 0, 1) := by decide +kernel
theorem dX12_machine_83 : decode cX12_machine 83 = .ok (.getfield 33, 3) := by decide +kernel
theorem dX12_machine_86 : decode cX12_machine 86 = .ok (.bipush 9, 2) := by decide +kernel
theorem dX12_machine_88 : decode cX12_machine 88 = .ok (.iload_n 1, 1) := by decide +kernel
theorem dX12_machine_89 : decode cX12_machine 89 = .ok (.iadd, 1) := by decide +kernel
theorem dX12_machine_90 : decode cX12_machine 90 = .ok (.iaload, 1) := by decide +kernel
theorem dX12_machine_91 : decode cX12_machine 91 = .ok (.ireturn, 1) := by decide +kernel
theorem dX12_machine_92 : decode cX12_machine 92 = .ok (.aload_n 0, 1) := by decide +kernel
theorem dX12_machine_93 : decode cX12_machine 93 = .ok (.getfield 33, 3) := by decide +kernel
theorem dX12_machine_96 : decode cX12_machine 96 = .ok (.bipush 42, 2) := by decide +kernel
theorem dX12_machine_98 : decode cX12_machine 98 = .ok (.iaload, 1) := by decide +kernel
theorem dX12_machine_99 : decode cX12_machine 99 = .ok (.iload_n 1, 1) := by decide +kernel
theorem dX12_machine_100 : decode cX12_machine 100 = .ok (.ishr, 1) := by decide +kernel
theorem dX12_machine_101 : decode cX12_machine 101 = .ok (.iconst 1, 1) := by decide +kernel
theorem dX12_machine_102 : decode cX12_machine 102 = .ok (.iand, 1) := by decide +kernel
theorem dX12_machine_103 : decode cX12_machine 103 = .ok (.ireturn, 1) := by decide +kernel
theorem dX12_machine_104 : decode cX12_machine 104 = .ok (.aload_n 0, 1) := by decide +kernel
theorem dX12_machine_105 : decode cX12_machine 105 = .ok (.getfield 33, 3) := by decide +kernel
theorem dX12_machine_108 : decode cX12_machine 108 = .ok (.bipush 50, 2) := by decide +kernel
theorem dX12_machine_110 : decode cX12_machine 110 = .ok (.iload_n 1, 1) := by decide +kernel
theorem dX12_machine_111 : decode cX12_machine 111 = .ok (.iadd, 1) := by decide +kernel
theorem dX12_machine_112 : decode cX12_machine 112 = .ok (.iaload, 1) := by decide +kernel
theorem dX12_machine_113 : decode cX12_machine 113 = .ok (.ireturn, 1) := by decide +kernel
theorem dX12_machine_114 : decode cX12_machine 114 = .ok (.aload_n 0, 1) := by decide +kernel
theorem dX12_machine_115 : decode cX12_machine 115 = .ok (.getfield 33, 3) := by decide +kernel
theorem dX12_machine_118 : decode cX12_machine 118 = .ok (.bipush 56, 2) := by decide +kernel
theorem dX12_machine_120 : decode cX12_machine 120 = .ok (.iload_n 1, 1) := by decide +kernel
theorem dX12_machine_121 : decode cX12_machine 121 = .ok (.iadd, 1) := by decide +kernel
theorem dX12_machine_122 : decode cX12_machine 122 = .ok (.iaload, 1) := by decide +kernel
theorem dX12_machine_123 : decode cX12_machine 123 = .ok (.ireturn, 1) := by decide +kernel
theorem dX12_machine_124 : decode cX12_machine 124 = .ok (.aload_n 0, 1) := by decide +kernel
theorem dX12_machine_125 : decode cX12_machine 125 = .ok (.iload_n 1, 1) := by decide +kernel
theorem dX12_machine_126 : decode cX12_machine 126 = .ok (.invokevirtual 267, 3) := by decide +kernel
theorem dX12_machine_129 : decode cX12_machine 129 = .ok (.ireturn, 1) := by decide +kernel
theorem dX12_machine_130 : decode cX12_machine 130 = .ok (.aload_n 0, 1) := by decide +kernel
theorem dX12_machine_131 : decode cX12_machine 131 = .ok (.iload_n 1, 1) := by decide +kernel
theorem dX12_machine_132 : decode cX12_machine 132 = .ok (.iload_n 2, 1) := by decide +kernel
theorem dX12_machine_133 : decode cX12_machine 133 = .ok (.bipush 6, 2) := by decide +kernel
theorem dX12_machine_135 : decode cX12_machine 135 = .ok (.if_icmp .ne 7, 3) := by decide +kernel
theorem dX12_machine_138 : decode cX12_machine 138 = .ok (.iconst 1, 1) := by decide +kernel
theorem dX12_machine_139 : decode cX12_machine 139 = .ok (.goto 4, 3) := by decide +kernel
theorem dX12_machine_142 : decode cX12_machine 142 = .ok (.iconst 0, 1) := by decide +kernel
theorem dX12_machine_143 : decode cX12_machine 143 = .ok (.invokevirtual 271, 3) := by decide +kernel
theorem dX12_machine_146 : decode cX12_machine 146 = .ok (.ireturn, 1) := by decide +kernel
set_option maxRecDepth 20000 in
theorem ggX12_phrase_X12_isPhrase : GoodIn wsX12_phrase wsX12_isPhrase := goodIn_r _ [7, 2, 8, 9, 6, 10, 18, 19, 20, 21, 22, 23, 24, 25, 26, 27, 28, 29, 30, 31, 32, 33, 34, 35, 36, 37, 38, 39, 40, 41, 42, 43, 44, 45, 46, 47, 48, 49, 50, 51, 52, 53, 54, 55, 56, 57, 58, 59, 60, 61, 62, 63, 64, 65, 66] rfl rfl
set_option maxRecDepth 20000 in
theorem gX12_phrase_X12_isPhrase : GoodIn wsX12_phrase (wsV RX12 275 RX12 yX12_isPhrase wsX12_isPhrase) := goodIn_app (goodIn_r _ [3, 4, 5, 6] rfl rfl) ggX12_phrase_X12_isPhrase
set_option maxRecDepth 20000 in
theorem ggX12_phrase_X12_isAnswer : GoodIn wsX12_phrase wsX12_isAnswer := goodIn_r _ [14, 2, 15, 16, 6, 17, 18, 19, 20, 21, 22, 23, 24, 25, 26, 27, 28, 29, 30, 31, 32, 33, 34, 35, 36, 37, 38, 39, 40, 41, 42, 43, 44, 45, 46, 47, 48, 49, 50, 51, 52, 53, 54, 55, 56, 57, 58, 59, 60, 61, 62, 63, 64, 65, 66] rfl rfl
set_option maxRecDepth 20000 in
theorem gX12_phrase_X12_isAnswer : GoodIn wsX12_phrase (wsV RX12 254 RX12 yX12_isAnswer wsX12_isAnswer) := goodIn_app (goodIn_r _ [11, 12, 13, 6] rfl rfl) ggX12_phrase_X12_isAnswer
set_option maxRecDepth 20000 in
theorem ggX12_phrase_X12_bitOf : GoodIn wsX12_phrase wsX12_bitOf := goodIn_r _ [17] rfl rfl
set_option maxRecDepth 20000 in
theorem gX12_phrase_X12_bitOf : GoodIn wsX12_phrase (va_wsS RX12 233 yX12_bitOf wsX12_bitOf) := goodIn_app (goodIn_r _ [15, 16, 6] rfl rfl) ggX12_phrase_X12_bitOf
theorem dX12_phrase_0 : decode cX12_phrase 0 = .ok (.aload_n 0, 1) := by decide +kernel
theorem dX12_phrase_1 : decode cX12_phrase 1 = .ok (.iconst 0, 1) := by decide +kernel
theorem dX12_phrase_2 : decode cX12_phrase 2 = .ok (.putfield 1, 3) := by decide +kernel
theorem dX12_phrase_5 : decode cX12_phrase 5 = .ok (.aload_n 0, 1) := by decide +kernel
theorem dX12_phrase_6 : decode cX12_phrase 6 = .ok (.iload_n 1, 1) := by decide +kernel
theorem dX12_phrase_7 : decode cX12_phrase 7 = .ok (.invokevirtual 275, 3) := by decide +kernel
theorem dX12_phrase_10 : decode cX12_phrase 10 = .ok (.ifCond .ne 5, 3) := by decide +kernel
theorem dX12_phrase_13 : decode cX12_phrase 13 = .ok (.iconst (-1), 1) := by decide +kernel
theorem dX12_phrase_14 : decode cX12_phrase 14 = .ok (.ireturn, 1) := by decide +kernel
theorem dX12_phrase_15 : decode cX12_phrase 15 = .ok (.iconst 0, 1) := by decide +kernel
theorem dX12_phrase_16 : decode cX12_phrase 16 = .ok (.istore_n 3, 1) := by decide +kernel
theorem dX12_phrase_17 : decode cX12_phrase 17 = .ok (.iconst 0, 1) := by decide +kernel
theorem dX12_phrase_18 : decode cX12_phrase 18 = .ok (.istore 4, 2) := by decide +kernel
theorem dX12_phrase_20 : decode cX12_phrase 20 = .ok (.iconst 0, 1) := by decide +kernel
theorem dX12_phrase_21 : decode cX12_phrase 21 = .ok (.istore 5, 2) := by decide +kernel
theorem dX12_phrase_23 : decode cX12_phrase 23 = .ok (.iload 5, 2) := by decide +kernel
theorem dX12_phrase_25 : decode cX12_phrase 25 = .ok (.aload_n 0, 1) := by decide +kernel
theorem dX12_phrase_26 : decode cX12_phrase 26 = .ok (.getfield 33, 3) := by decide +kernel
theorem dX12_phrase_29 : decode cX12_phrase 29 = .ok (.iconst 1, 1) := by decide +kernel
theorem dX12_phrase_30 : decode cX12_phrase 30 = .ok (.iaload, 1) := by decide +kernel
theorem dX12_phrase_31 : decode cX12_phrase 31 = .ok (.if_icmp .ge 30, 3) := by decide +kernel
theorem dX12_phrase_34 : decode cX12_phrase 34 = .ok (.iload_n 3, 1) := by decide +kernel
theorem dX12_phrase_35 : decode cX12_phrase 35 = .ok (.aload_n 0, 1) := by decide +kernel
theorem dX12_phrase_36 : decode cX12_phrase 36 = .ok (.iload_n 1, 1) := by decide +kernel
theorem dX12_phrase_37 : decode cX12_phrase 37 = .ok (.iload 5, 2) := by decide +kernel
theorem dX12_phrase_39 : decode cX12_phrase 39 = .ok (.invokevirtual 254, 3) := by decide +kernel
theorem dX12_phrase_42 : decode cX12_phrase 42 = .ok (.ifCond .eq 10, 3) := by decide +kernel
theorem dX12_phrase_45 : decode cX12_phrase 45 = .ok (.iconst 1, 1) := by decide +kernel
theorem dX12_phrase_46 : decode cX12_phrase 46 = .ok (.iload 5, 2) := by decide +kernel
theorem dX12_phrase_48 : decode cX12_phrase 48 = .ok (.ishl, 1) := by decide +kernel
theorem dX12_phrase_49 : decode cX12_phrase 49 = .ok (.goto 4, 3) := by decide +kernel
theorem dX12_phrase_52 : decode cX12_phrase 52 = .ok (.iconst 0, 1) := by decide +kernel
theorem dX12_phrase_53 : decode cX12_phrase 53 = .ok (.ior, 1) := by decide +kernel
theorem dX12_phrase_54 : decode cX12_phrase 54 = .ok (.istore_n 3, 1) := by decide +kernel
theorem dX12_phrase_55 : decode cX12_phrase 55 = .ok (.iinc 5 1, 3) := by decide +kernel
theorem dX12_phrase_58 : decode cX12_phrase 58 = .ok (.goto (-35), 3) := by decide +kernel
theorem dX12_phrase_61 : decode cX12_phrase 61 = .ok (.iconst 0, 1) := by decide +kernel
theorem dX12_phrase_62 : decode cX12_phrase 62 = .ok (.istore 5, 2) := by decide +kernel
theorem dX12_phrase_64 : decode cX12_phrase 64 = .ok (.iload 5, 2) := by decide +kernel
theorem dX12_phrase_66 : decode cX12_phrase 66 = .ok (.aload_n 0, 1) := by decide +kernel
theorem dX12_phrase_67 : decode cX12_phrase 67 = .ok (.getfield 33, 3) := by decide +kernel
theorem dX12_phrase_70 : decode cX12_phrase 70 = .ok (.iconst 0, 1) := by decide +kernel
theorem dX12_phrase_71 : decode cX12_phrase 71 = .ok (.iaload, 1) := by decide +kernel
theorem dX12_phrase_72 : decode cX12_phrase 72 = .ok (.if_icmp .ge 39, 3) := by decide +kernel
theorem dX12_phrase_75 : decode cX12_phrase 75 = .ok (.iload 4, 2) := by decide +kernel
theorem dX12_phrase_77 : decode cX12_phrase 77 = .ok (.aload_n 0, 1) := by decide +kernel
theorem dX12_phrase_78 : decode cX12_phrase 78 = .ok (.getfield 33, 3) := by decide +kernel
theorem dX12_phrase_81 : decode cX12_phrase 81 = .ok (.bipush 9, 2) := by decide +kernel
theorem dX12_phrase_83 : decode cX12_phrase 83 = .ok (.iload 5, 2) := by decide +kernel
theorem dX12_phrase_85 : decode cX12_phrase 85 = .ok (.iadd, 1) := by decide +kernel
theorem dX12_phrase_86 : decode cX12_phrase 86 = .ok (.iaload, 1) := by decide +kernel
theorem dX12_phrase_87 : decode cX12_phrase 87 = .ok (.iload_n 1, 1) := by decide +kernel
theorem dX12_phrase_88 : decode cX12_phrase 88 = .ok (.invokestatic 233, 3) := by decide +kernel
theorem dX12_phrase_91 : decode cX12_phrase 91 = .ok (.ifCond .eq 10, 3) := by decide +kernel
theorem dX12_phrase_94 : decode cX12_phrase 94 = .ok (.iconst 1, 1) := by decide +kernel
theorem dX12_phrase_95 : decode cX12_phrase 95 = .ok (.iload 5, 2) := by decide +kernel
theorem dX12_phrase_97 : decode cX12_phrase 97 = .ok (.ishl, 1) := by decide +kernel
theorem dX12_phrase_98 : decode cX12_phrase 98 = .ok (.goto 4, 3) := by decide +kernel
theorem dX12_phrase_101 : decode cX12_phrase 101 = .ok (.iconst 0, 1) := by decide +kernel
theorem dX12_phrase_102 : decode cX12_phrase 102 = .ok (.ior, 1) := by decide +kernel
theorem dX12_phrase_103 : decode cX12_phrase 103 = .ok (.istore 4, 2) := by decide +kernel
theorem dX12_phrase_105 : decode cX12_phrase 105 = .ok (.iinc 5 1, 3) := by decide +kernel
theorem dX12_phrase_108 : decode cX12_phrase 108 = .ok (.goto (-44), 3) := by decide +kernel
theorem dX12_phrase_111 : decode cX12_phrase 111 = .ok (.iload_n 2, 1) := by decide +kernel
theorem dX12_phrase_112 : decode cX12_phrase 112 = .ok (.tableswitch 71 0 4 #[36, 46, 56, 66, 68], 36) := by decide +kernel
theorem dX12_phrase_148 : decode cX12_phrase 148 = .ok (.aload_n 0, 1) := by decide +kernel
theorem dX12_phrase_149 : decode cX12_phrase 149 = .ok (.getfield 33, 3) := by decide +kernel
theorem dX12_phrase_152 : decode cX12_phrase 152 = .ok (.bipush 15, 2) := by decide +kernel
theorem dX12_phrase_154 : decode cX12_phrase 154 = .ok (.iload_n 1, 1) := by decide +kernel
theorem dX12_phrase_155 : decode cX12_phrase 155 = .ok (.iadd, 1) := by decide +kernel
theorem dX12_phrase_156 : decode cX12_phrase 156 = .ok (.iaload, 1) := by decide +kernel
theorem dX12_phrase_157 : decode cX12_phrase 157 = .ok (.ireturn, 1) := by decide +kernel
theorem dX12_phrase_158 : decode cX12_phrase 158 = .ok (.aload_n 0, 1) := by decide +kernel
theorem dX12_phrase_159 : decode cX12_phrase 159 = .ok (.getfield 33, 3) := by decide +kernel
theorem dX12_phrase_162 : decode cX12_phrase 162 = .ok (.bipush 23, 2) := by decide +kernel
theorem dX12_phrase_164 : decode cX12_phrase 164 = .ok (.iload_n 1, 1) := by decide +kernel
theorem dX12_phrase_165 : decode cX12_phrase 165 = .ok (.iadd, 1) := by decide +kernel
theorem dX12_phrase_166 : decode cX12_phrase 166 = .ok (.iaload, 1) := by decide +kernel
theorem dX12_phrase_167 : decode cX12_phrase 167 = .ok (.ireturn, 1) := by decide +kernel
theorem dX12_phrase_168 : decode cX12_phrase 168 = .ok (.aload_n 0, 1) := by decide +kernel
theorem dX12_phrase_169 : decode cX12_phrase 169 = .ok (.getfield 33, 3) := by decide +kernel
theorem dX12_phrase_172 : decode cX12_phrase 172 = .ok (.bipush 31, 2) := by decide +kernel
theorem dX12_phrase_174 : decode cX12_phrase 174 = .ok (.iload_n 1, 1) := by decide +kernel
theorem dX12_phrase_175 : decode cX12_phrase 175 = .ok (.iadd, 1) := by decide +kernel
theorem dX12_phrase_176 : decode cX12_phrase 176 = .ok (.iaload, 1) := by decide +kernel
theorem dX12_phrase_177 : decode cX12_phrase 177 = .ok (.ireturn, 1) := by decide +kernel
theorem dX12_phrase_178 : decode cX12_phrase 178 = .ok (.iload_n 3, 1) := by decide +kernel
theorem dX12_phrase_179 : decode cX12_phrase 179 = .ok (.ireturn, 1) := by decide +kernel
theorem dX12_phrase_180 : decode cX12_phrase 180 = .ok (.iload 4, 2) := by decide +kernel
theorem dX12_phrase_182 : decode cX12_phrase 182 = .ok (.ireturn, 1) := by decide +kernel
theorem dX12_phrase_183 : decode cX12_phrase 183 = .ok (.iconst (-1), 1) := by decide +kernel
theorem dX12_phrase_184 : decode cX12_phrase 184 = .ok (.ireturn, 1) := by decide +kernel
set_option maxRecDepth 20000 in
theorem ggX12_owes_X12_isMachine : GoodIn wsX12_owes wsX12_isMachine := goodIn_r _ [7, 2, 8, 9, 6, 10, 11, 12, 13, 14, 15, 16, 17, 18, 19, 20, 21, 22, 23, 24, 25, 26, 27, 28, 29, 30, 31, 32, 33, 34, 35, 36, 37, 38, 39, 40, 41, 42, 43, 44, 45, 46, 47, 48, 49, 50, 51, 52, 53, 54, 55, 56, 57, 58, 59] rfl rfl
set_option maxRecDepth 20000 in
theorem gX12_owes_X12_isMachine : GoodIn wsX12_owes (wsV RX12 260 RX12 yX12_isMachine wsX12_isMachine) := goodIn_app (goodIn_r _ [3, 4, 5, 6] rfl rfl) ggX12_owes_X12_isMachine
theorem dX12_owes_0 : decode cX12_owes 0 = .ok (.aload_n 0, 1) := by decide +kernel
theorem dX12_owes_1 : decode cX12_owes 1 = .ok (.iconst 0, 1) := by decide +kernel
theorem dX12_owes_2 : decode cX12_owes 2 = .ok (.putfield 1, 3) := by decide +kernel
theorem dX12_owes_5 : decode cX12_owes 5 = .ok (.aload_n 0, 1) := by decide +kernel
theorem dX12_owes_6 : decode cX12_owes 6 = .ok (.iload_n 1, 1) := by decide +kernel
theorem dX12_owes_7 : decode cX12_owes 7 = .ok (.invokevirtual 260, 3) := by decide +kernel
theorem dX12_owes_10 : decode cX12_owes 10 = .ok (.ifCond .eq 33, 3) := by decide +kernel
theorem dX12_owes_13 : decode cX12_owes 13 = .ok (.aload_n 0, 1) := by decide +kernel
theorem dX12_owes_14 : decode cX12_owes 14 = .ok (.iload_n 2, 1) := by decide +kernel
theorem dX12_owes_15 : decode cX12_owes 15 = .ok (.invokevirtual 260, 3) := by decide +kernel
theorem dX12_owes_18 : decode cX12_owes 18 = .ok (.ifCond .eq 25, 3) := by decide +kernel
theorem dX12_owes_21 : decode cX12_owes 21 = .ok (.iload_n 1, 1) := by decide +kernel
theorem dX12_owes_22 : decode cX12_owes 22 = .ok (.iload_n 2, 1) := by decide +kernel
theorem dX12_owes_23 : decode cX12_owes 23 = .ok (.if_icmp .eq 20, 3) := by decide +kernel
theorem dX12_owes_26 : decode cX12_owes 26 = .ok (.aload_n 0, 1) := by decide +kernel
theorem dX12_owes_27 : decode cX12_owes 27 = .ok (.getfield 33, 3) := by decide +kernel
theorem dX12_owes_30 : decode cX12_owes 30 = .ok (.bipush 62, 2) := by decide +kernel
theorem dX12_owes_32 : decode cX12_owes 32 = .ok (.bipush 6, 2) := by decide +kernel
theorem dX12_owes_34 : decode cX12_owes 34 = .ok (.iload_n 1, 1) := by decide +kernel
theorem dX12_owes_35 : decode cX12_owes 35 = .ok (.imul, 1) := by decide +kernel
theorem dX12_owes_36 : decode cX12_owes 36 = .ok (.iadd, 1) := by decide +kernel
theorem dX12_owes_37 : decode cX12_owes 37 = .ok (.iload_n 2, 1) := by decide +kernel
theorem dX12_owes_38 : decode cX12_owes 38 = .ok (.iadd, 1) := by decide +kernel
theorem dX12_owes_39 : decode cX12_owes 39 = .ok (.iaload, 1) := by decide +kernel
theorem dX12_owes_40 : decode cX12_owes 40 = .ok (.goto 4, 3) := by decide +kernel
theorem dX12_owes_43 : decode cX12_owes 43 = .ok (.iconst (-1), 1) := by decide +kernel
theorem dX12_owes_44 : decode cX12_owes 44 = .ok (.ireturn, 1) := by decide +kernel
set_option maxRecDepth 20000 in
theorem ggX12_now_X12_owedBy : GoodIn wsX12_now wsX12_owedBy := goodIn_r _ [7, 2, 12, 13, 14, 15, 16, 17, 18, 19, 20, 21, 22, 23, 24, 25, 26, 27, 28, 29, 30, 31, 32, 33, 34, 35, 36, 37, 38, 39, 40, 41, 42, 43, 44, 45, 46, 47, 48, 49, 50, 51, 52, 53, 54, 55, 56, 57, 58, 59, 60] rfl rfl
set_option maxRecDepth 20000 in
theorem gX12_now_X12_owedBy : GoodIn wsX12_now (wsV RX12 271 RX12 yX12_owedBy wsX12_owedBy) := goodIn_app (goodIn_r _ [3, 4, 5, 6] rfl rfl) ggX12_now_X12_owedBy
set_option maxRecDepth 20000 in
theorem ggX12_now_X12_sumOf : GoodIn wsX12_now wsX12_sumOf := goodIn_r _ [11, 2, 12, 13, 14, 15, 16, 17, 18, 19, 20, 21, 22, 23, 24, 25, 26, 27, 28, 29, 30, 31, 32, 33, 34, 35, 36, 37, 38, 39, 40, 41, 42, 43, 44, 45, 46, 47, 48, 49, 50, 51, 52, 53, 54, 55, 56, 57, 58, 59, 60] rfl rfl
set_option maxRecDepth 20000 in
theorem gX12_now_X12_sumOf : GoodIn wsX12_now (wsV RX12 278 RX12 yX12_sumOf wsX12_sumOf) := goodIn_app (goodIn_r _ [8, 9, 10, 6] rfl rfl) ggX12_now_X12_sumOf
theorem dX12_now_0 : decode cX12_now 0 = .ok (.aload_n 0, 1) := by decide +kernel
theorem dX12_now_1 : decode cX12_now 1 = .ok (.iconst 0, 1) := by decide +kernel
theorem dX12_now_2 : decode cX12_now 2 = .ok (.putfield 1, 3) := by decide +kernel
theorem dX12_now_5 : decode cX12_now 5 = .ok (.iconst 0, 1) := by decide +kernel
theorem dX12_now_6 : decode cX12_now 6 = .ok (.istore_n 2, 1) := by decide +kernel
theorem dX12_now_7 : decode cX12_now 7 = .ok (.iconst 0, 1) := by decide +kernel
theorem dX12_now_8 : decode cX12_now 8 = .ok (.istore_n 3, 1) := by decide +kernel
theorem dX12_now_9 : decode cX12_now 9 = .ok (.iload_n 3, 1) := by decide +kernel
theorem dX12_now_10 : decode cX12_now 10 = .ok (.aload_n 0, 1) := by decide +kernel
theorem dX12_now_11 : decode cX12_now 11 = .ok (.getfield 33, 3) := by decide +kernel
theorem dX12_now_14 : decode cX12_now 14 = .ok (.iconst 0, 1) := by decide +kernel
theorem dX12_now_15 : decode cX12_now 15 = .ok (.iaload, 1) := by decide +kernel
theorem dX12_now_16 : decode cX12_now 16 = .ok (.if_icmp .ge 18, 3) := by decide +kernel
theorem dX12_now_19 : decode cX12_now 19 = .ok (.iload_n 2, 1) := by decide +kernel
theorem dX12_now_20 : decode cX12_now 20 = .ok (.aload_n 0, 1) := by decide +kernel
theorem dX12_now_21 : decode cX12_now 21 = .ok (.iload_n 3, 1) := by decide +kernel
theorem dX12_now_22 : decode cX12_now 22 = .ok (.iconst 1, 1) := by decide +kernel
theorem dX12_now_23 : decode cX12_now 23 = .ok (.invokevirtual 271, 3) := by decide +kernel
theorem dX12_now_26 : decode cX12_now 26 = .ok (.iadd, 1) := by decide +kernel
theorem dX12_now_27 : decode cX12_now 27 = .ok (.istore_n 2, 1) := by decide +kernel
theorem dX12_now_28 : decode cX12_now 28 = .ok (.iinc 3 1, 3) := by decide +kernel
theorem dX12_now_31 : decode cX12_now 31 = .ok (.goto (-22), 3) := by decide +kernel
theorem dX12_now_34 : decode cX12_now 34 = .ok (.iload_n 1, 1) := by decide +kernel
theorem dX12_now_35 : decode cX12_now 35 = .ok (.tableswitch 105 0 7 #[45, 53, 63, 73, 81, 88, 95, 103], 45) := by decide +kernel
theorem dX12_now_80 : decode cX12_now 80 = .ok (.aload_n 0, 1) := by decide +kernel
theorem dX12_now_81 : decode cX12_now 81 = .ok (.getfield 33, 3) := by decide +kernel
theorem dX12_now_84 : decode cX12_now 84 = .ok (.bipush 39, 2) := by decide +kernel
theorem dX12_now_86 : decode cX12_now 86 = .ok (.iaload, 1) := by decide +kernel
theorem dX12_now_87 : decode cX12_now 87 = .ok (.ireturn, 1) := by decide +kernel
theorem dX12_now_88 : decode cX12_now 88 = .ok (.aload_n 0, 1) := by decide +kernel
theorem dX12_now_89 : decode cX12_now 89 = .ok (.getfield 33, 3) := by decide +kernel
theorem dX12_now_92 : decode cX12_now 92 = .ok (.bipush 40, 2) := by decide +kernel
theorem dX12_now_94 : decode cX12_now 94 = .ok (.iaload, 1) := by decide +kernel
theorem dX12_now_95 : decode cX12_now 95 = .ok (.iconst 1, 1) := by decide +kernel
theorem dX12_now_96 : decode cX12_now 96 = .ok (.isub, 1) := by decide +kernel
theorem dX12_now_97 : decode cX12_now 97 = .ok (.ireturn, 1) := by decide +kernel
theorem dX12_now_98 : decode cX12_now 98 = .ok (.aload_n 0, 1) := by decide +kernel
theorem dX12_now_99 : decode cX12_now 99 = .ok (.getfield 33, 3) := by decide +kernel
theorem dX12_now_102 : decode cX12_now 102 = .ok (.bipush 41, 2) := by decide +kernel
theorem dX12_now_104 : decode cX12_now 104 = .ok (.iaload, 1) := by decide +kernel
theorem dX12_now_105 : decode cX12_now 105 = .ok (.iconst 1, 1) := by decide +kernel
theorem dX12_now_106 : decode cX12_now 106 = .ok (.isub, 1) := by decide +kernel
theorem dX12_now_107 : decode cX12_now 107 = .ok (.ireturn, 1) := by decide +kernel
theorem dX12_now_108 : decode cX12_now 108 = .ok (.aload_n 0, 1) := by decide +kernel
theorem dX12_now_109 : decode cX12_now 109 = .ok (.getfield 33, 3) := by decide +kernel
theorem dX12_now_112 : decode cX12_now 112 = .ok (.bipush 42, 2) := by decide +kernel
theorem dX12_now_114 : decode cX12_now 114 = .ok (.iaload, 1) := by decide +kernel
theorem dX12_now_115 : decode cX12_now 115 = .ok (.ireturn, 1) := by decide +kernel
theorem dX12_now_116 : decode cX12_now 116 = .ok (.aload_n 0, 1) := by decide +kernel
theorem dX12_now_117 : decode cX12_now 117 = .ok (.bipush 50, 2) := by decide +kernel
theorem dX12_now_119 : decode cX12_now 119 = .ok (.invokevirtual 278, 3) := by decide +kernel
theorem dX12_now_122 : decode cX12_now 122 = .ok (.ireturn, 1) := by decide +kernel
theorem dX12_now_123 : decode cX12_now 123 = .ok (.aload_n 0, 1) := by decide +kernel
theorem dX12_now_124 : decode cX12_now 124 = .ok (.bipush 56, 2) := by decide +kernel
theorem dX12_now_126 : decode cX12_now 126 = .ok (.invokevirtual 278, 3) := by decide +kernel
theorem dX12_now_129 : decode cX12_now 129 = .ok (.ireturn, 1) := by decide +kernel
theorem dX12_now_130 : decode cX12_now 130 = .ok (.aload_n 0, 1) := by decide +kernel
theorem dX12_now_131 : decode cX12_now 131 = .ok (.getfield 33, 3) := by decide +kernel
theorem dX12_now_134 : decode cX12_now 134 = .ok (.bipush 43, 2) := by decide +kernel
theorem dX12_now_136 : decode cX12_now 136 = .ok (.iaload, 1) := by decide +kernel
theorem dX12_now_137 : decode cX12_now 137 = .ok (.ireturn, 1) := by decide +kernel
theorem dX12_now_138 : decode cX12_now 138 = .ok (.iload_n 2, 1) := by decide +kernel
theorem dX12_now_139 : decode cX12_now 139 = .ok (.ireturn, 1) := by decide +kernel
theorem dX12_now_140 : decode cX12_now 140 = .ok (.iconst (-1), 1) := by decide +kernel
theorem dX12_now_141 : decode cX12_now 141 = .ok (.ireturn, 1) := by decide +kernel
set_option maxRecDepth 20000 in
theorem ggX12_types_X12_lesser : GoodIn wsX12_types wsX12_lesser := goodIn_r _ [5] rfl rfl
set_option maxRecDepth 20000 in
theorem gX12_types_X12_lesser : GoodIn wsX12_types (va_wsS RX12 281 yX12_lesser wsX12_lesser) := goodIn_app (goodIn_r _ [2, 3, 4] rfl rfl) ggX12_types_X12_lesser
theorem dX12_types_0 : decode cX12_types 0 = .ok (.aload_n 0, 1) := by decide +kernel
theorem dX12_types_1 : decode cX12_types 1 = .ok (.getfield 33, 3) := by decide +kernel
theorem dX12_types_4 : decode cX12_types 4 = .ok (.bipush 44, 2) := by decide +kernel
theorem dX12_types_6 : decode cX12_types 6 = .ok (.iload_n 1, 1) := by decide +kernel
theorem dX12_types_7 : decode cX12_types 7 = .ok (.iadd, 1) := by decide +kernel
theorem dX12_types_8 : decode cX12_types 8 = .ok (.dup2, 1) := by decide +kernel
theorem dX12_types_9 : decode cX12_types 9 = .ok (.iaload, 1) := by decide +kernel
theorem dX12_types_10 : decode cX12_types 10 = .ok (.aload_n 0, 1) := by decide +kernel
theorem dX12_types_11 : decode cX12_types 11 = .ok (.getfield 33, 3) := by decide +kernel
theorem dX12_types_14 : decode cX12_types 14 = .ok (.bipush 15, 2) := by decide +kernel
theorem dX12_types_16 : decode cX12_types 16 = .ok (.iload_n 2, 1) := by decide +kernel
theorem dX12_types_17 : decode cX12_types 17 = .ok (.iadd, 1) := by decide +kernel
theorem dX12_types_18 : decode cX12_types 18 = .ok (.iaload, 1) := by decide +kernel
theorem dX12_types_19 : decode cX12_types 19 = .ok (.isub, 1) := by decide +kernel
theorem dX12_types_20 : decode cX12_types 20 = .ok (.iastore, 1) := by decide +kernel
theorem dX12_types_21 : decode cX12_types 21 = .ok (.aload_n 0, 1) := by decide +kernel
theorem dX12_types_22 : decode cX12_types 22 = .ok (.getfield 33, 3) := by decide +kernel
theorem dX12_types_25 : decode cX12_types 25 = .ok (.bipush 50, 2) := by decide +kernel
theorem dX12_types_27 : decode cX12_types 27 = .ok (.iload_n 1, 1) := by decide +kernel
theorem dX12_types_28 : decode cX12_types 28 = .ok (.iadd, 1) := by decide +kernel
theorem dX12_types_29 : decode cX12_types 29 = .ok (.dup2, 1) := by decide +kernel
theorem dX12_types_30 : decode cX12_types 30 = .ok (.iaload, 1) := by decide +kernel
theorem dX12_types_31 : decode cX12_types 31 = .ok (.iconst 1, 1) := by decide +kernel
theorem dX12_types_32 : decode cX12_types 32 = .ok (.iadd, 1) := by decide +kernel
theorem dX12_types_33 : decode cX12_types 33 = .ok (.iastore, 1) := by decide +kernel
theorem dX12_types_34 : decode cX12_types 34 = .ok (.aload_n 0, 1) := by decide +kernel
theorem dX12_types_35 : decode cX12_types 35 = .ok (.getfield 33, 3) := by decide +kernel
theorem dX12_types_38 : decode cX12_types 38 = .ok (.bipush 56, 2) := by decide +kernel
theorem dX12_types_40 : decode cX12_types 40 = .ok (.iload_n 1, 1) := by decide +kernel
theorem dX12_types_41 : decode cX12_types 41 = .ok (.iadd, 1) := by decide +kernel
theorem dX12_types_42 : decode cX12_types 42 = .ok (.dup2, 1) := by decide +kernel
theorem dX12_types_43 : decode cX12_types 43 = .ok (.iaload, 1) := by decide +kernel
theorem dX12_types_44 : decode cX12_types 44 = .ok (.aload_n 0, 1) := by decide +kernel
theorem dX12_types_45 : decode cX12_types 45 = .ok (.getfield 33, 3) := by decide +kernel
theorem dX12_types_48 : decode cX12_types 48 = .ok (.bipush 15, 2) := by decide +kernel
theorem dX12_types_50 : decode cX12_types 50 = .ok (.iload_n 2, 1) := by decide +kernel
theorem dX12_types_51 : decode cX12_types 51 = .ok (.iadd, 1) := by decide +kernel
theorem dX12_types_52 : decode cX12_types 52 = .ok (.iaload, 1) := by decide +kernel
theorem dX12_types_53 : decode cX12_types 53 = .ok (.iadd, 1) := by decide +kernel
theorem dX12_types_54 : decode cX12_types 54 = .ok (.iastore, 1) := by decide +kernel
theorem dX12_types_55 : decode cX12_types 55 = .ok (.aload_n 0, 1) := by decide +kernel
theorem dX12_types_56 : decode cX12_types 56 = .ok (.getfield 33, 3) := by decide +kernel
theorem dX12_types_59 : decode cX12_types 59 = .ok (.bipush 40, 2) := by decide +kernel
theorem dX12_types_61 : decode cX12_types 61 = .ok (.iaload, 1) := by decide +kernel
theorem dX12_types_62 : decode cX12_types 62 = .ok (.ifCond .le 49, 3) := by decide +kernel
theorem dX12_types_65 : decode cX12_types 65 = .ok (.bipush 62, 2) := by decide +kernel
theorem dX12_types_67 : decode cX12_types 67 = .ok (.bipush 6, 2) := by decide +kernel
theorem dX12_types_69 : decode cX12_types 69 = .ok (.aload_n 0, 1) := by decide +kernel
theorem dX12_types_70 : decode cX12_types 70 = .ok (.getfield 33, 3) := by decide +kernel
theorem dX12_types_73 : decode cX12_types 73 = .ok (.bipush 41, 2) := by decide +kernel
theorem dX12_types_75 : decode cX12_types 75 = .ok (.iaload, 1) := by decide +kernel
theorem dX12_types_76 : decode cX12_types 76 = .ok (.iconst 1, 1) := by decide +kernel
theorem dX12_types_77 : decode cX12_types 77 = .ok (.isub, 1) := by decide +kernel
theorem dX12_types_78 : decode cX12_types 78 = .ok (.imul, 1) := by decide +kernel
theorem dX12_types_79 : decode cX12_types 79 = .ok (.iadd, 1) := by decide +kernel
theorem dX12_types_80 : decode cX12_types 80 = .ok (.iload_n 1, 1) := by decide +kernel
theorem dX12_types_81 : decode cX12_types 81 = .ok (.iadd, 1) := by decide +kernel
theorem dX12_types_82 : decode cX12_types 82 = .ok (.istore_n 3, 1) := by decide +kernel
theorem dX12_types_83 : decode cX12_types 83 = .ok (.aload_n 0, 1) := by decide +kernel
theorem dX12_types_84 : decode cX12_types 84 = .ok (.getfield 33, 3) := by decide +kernel
theorem dX12_types_87 : decode cX12_types 87 = .ok (.iload_n 3, 1) := by decide +kernel
theorem dX12_types_88 : decode cX12_types 88 = .ok (.sipush 9999, 3) := by decide +kernel
theorem dX12_types_91 : decode cX12_types 91 = .ok (.aload_n 0, 1) := by decide +kernel
theorem dX12_types_92 : decode cX12_types 92 = .ok (.getfield 33, 3) := by decide +kernel
theorem dX12_types_95 : decode cX12_types 95 = .ok (.iload_n 3, 1) := by decide +kernel
theorem dX12_types_96 : decode cX12_types 96 = .ok (.iaload, 1) := by decide +kernel
theorem dX12_types_97 : decode cX12_types 97 = .ok (.aload_n 0, 1) := by decide +kernel
theorem dX12_types_98 : decode cX12_types 98 = .ok (.getfield 33, 3) := by decide +kernel
theorem dX12_types_101 : decode cX12_types 101 = .ok (.bipush 23, 2) := by decide +kernel
theorem dX12_types_103 : decode cX12_types 103 = .ok (.iload_n 2, 1) := by decide +kernel
theorem dX12_types_104 : decode cX12_types 104 = .ok (.iadd, 1) := by decide +kernel
theorem dX12_types_105 : decode cX12_types 105 = .ok (.iaload, 1) := by decide +kernel
theorem dX12_types_106 : decode cX12_types 106 = .ok (.iadd, 1) := by decide +kernel
theorem dX12_types_107 : decode cX12_types 107 = .ok (.invokestatic 281, 3) := by decide +kernel
theorem dX12_types_110 : decode cX12_types 110 = .ok (.iastore, 1) := by decide +kernel
theorem dX12_types_111 : decode cX12_types 111 = .ok (.aload_n 0, 1) := by decide +kernel
theorem dX12_types_112 : decode cX12_types 112 = .ok (.getfield 33, 3) := by decide +kernel
theorem dX12_types_115 : decode cX12_types 115 = .ok (.bipush 40, 2) := by decide +kernel
theorem dX12_types_117 : decode cX12_types 117 = .ok (.iload_n 2, 1) := by decide +kernel
theorem dX12_types_118 : decode cX12_types 118 = .ok (.iconst 1, 1) := by decide +kernel
theorem dX12_types_119 : decode cX12_types 119 = .ok (.iadd, 1) := by decide +kernel
theorem dX12_types_120 : decode cX12_types 120 = .ok (.iastore, 1) := by decide +kernel
theorem dX12_types_121 : decode cX12_types 121 = .ok (.aload_n 0, 1) := by decide +kernel
theorem dX12_types_122 : decode cX12_types 122 = .ok (.getfield 33, 3) := by decide +kernel
theorem dX12_types_125 : decode cX12_types 125 = .ok (.bipush 41, 2) := by decide +kernel
theorem dX12_types_127 : decode cX12_types 127 = .ok (.iload_n 1, 1) := by decide +kernel
theorem dX12_types_128 : decode cX12_types 128 = .ok (.iconst 1, 1) := by decide +kernel
theorem dX12_types_129 : decode cX12_types 129 = .ok (.iadd, 1) := by decide +kernel
theorem dX12_types_130 : decode cX12_types 130 = .ok (.iastore, 1) := by decide +kernel
theorem dX12_types_131 : decode cX12_types 131 = .ok (.return_, 1) := by decide +kernel
set_option maxRecDepth 20000 in
theorem ggX12_mutual_X12_lesser : GoodIn wsX12_mutual wsX12_lesser := goodIn_r _ [5] rfl rfl
set_option maxRecDepth 20000 in
theorem gX12_mutual_X12_lesser : GoodIn wsX12_mutual (va_wsS RX12 281 yX12_lesser wsX12_lesser) := goodIn_app (goodIn_r _ [2, 3, 4] rfl rfl) ggX12_mutual_X12_lesser
theorem dX12_mutual_0 : decode cX12_mutual 0 = .ok (.aload_n 0, 1) := by decide +kernel
theorem dX12_mutual_1 : decode cX12_mutual 1 = .ok (.getfield 33, 3) := by decide +kernel
theorem dX12_mutual_4 : decode cX12_mutual 4 = .ok (.bipush 62, 2) := by decide +kernel
theorem dX12_mutual_6 : decode cX12_mutual 6 = .ok (.bipush 6, 2) := by decide +kernel
theorem dX12_mutual_8 : decode cX12_mutual 8 = .ok (.iload_n 1, 1) := by decide +kernel
theorem dX12_mutual_9 : decode cX12_mutual 9 = .ok (.imul, 1) := by decide +kernel
theorem dX12_mutual_10 : decode cX12_mutual 10 = .ok (.iadd, 1) := by decide +kernel
theorem dX12_mutual_11 : decode cX12_mutual 11 = .ok (.iload_n 2, 1) := by decide +kernel
theorem dX12_mutual_12 : decode cX12_mutual 12 = .ok (.iadd, 1) := by decide +kernel
theorem dX12_mutual_13 : decode cX12_mutual 13 = .ok (.iaload, 1) := by decide +kernel
theorem dX12_mutual_14 : decode cX12_mutual 14 = .ok (.aload_n 0, 1) := by decide +kernel
theorem dX12_mutual_15 : decode cX12_mutual 15 = .ok (.getfield 33, 3) := by decide +kernel
theorem dX12_mutual_18 : decode cX12_mutual 18 = .ok (.bipush 62, 2) := by decide +kernel
theorem dX12_mutual_20 : decode cX12_mutual 20 = .ok (.bipush 6, 2) := by decide +kernel
theorem dX12_mutual_22 : decode cX12_mutual 22 = .ok (.iload_n 2, 1) := by decide +kernel
theorem dX12_mutual_23 : decode cX12_mutual 23 = .ok (.imul, 1) := by decide +kernel
theorem dX12_mutual_24 : decode cX12_mutual 24 = .ok (.iadd, 1) := by decide +kernel
theorem dX12_mutual_25 : decode cX12_mutual 25 = .ok (.iload_n 1, 1) := by decide +kernel
theorem dX12_mutual_26 : decode cX12_mutual 26 = .ok (.iadd, 1) := by decide +kernel
theorem dX12_mutual_27 : decode cX12_mutual 27 = .ok (.iaload, 1) := by decide +kernel
theorem dX12_mutual_28 : decode cX12_mutual 28 = .ok (.invokestatic 281, 3) := by decide +kernel
theorem dX12_mutual_31 : decode cX12_mutual 31 = .ok (.ireturn, 1) := by decide +kernel
set_option maxRecDepth 20000 in
theorem ggX12_whyClear_X12_mutual : GoodIn wsX12_whyClear wsX12_mutual := goodIn_r _ [6, 1, 7, 8, 5, 9, 10, 11, 12, 13, 14, 15, 16, 17, 18, 19, 20, 21, 22, 23, 24, 25, 26, 27, 28, 29, 30, 31, 32, 33, 34, 35, 36, 37, 38, 39, 40, 41, 42, 43, 44, 45, 46, 47, 48, 49, 50, 51, 52, 53, 54, 55, 56, 57, 58] rfl rfl
set_option maxRecDepth 20000 in
theorem gX12_whyClear_X12_mutual : GoodIn wsX12_whyClear (wsV RX12 284 RX12 yX12_mutual wsX12_mutual) := goodIn_app (goodIn_r _ [2, 3, 4, 5] rfl rfl) ggX12_whyClear_X12_mutual
theorem dX12_whyClear_0 : decode cX12_whyClear 0 = .ok (.iconst 0, 1) := by decide +kernel
theorem dX12_whyClear_1 : decode cX12_whyClear 1 = .ok (.istore_n 1, 1) := by decide +kernel
theorem dX12_whyClear_2 : decode cX12_whyClear 2 = .ok (.iload_n 1, 1) := by decide +kernel
theorem dX12_whyClear_3 : decode cX12_whyClear 3 = .ok (.aload_n 0, 1) := by decide +kernel
theorem dX12_whyClear_4 : decode cX12_whyClear 4 = .ok (.getfield 33, 3) := by decide +kernel
theorem dX12_whyClear_7 : decode cX12_whyClear 7 = .ok (.iconst 0, 1) := by decide +kernel
theorem dX12_whyClear_8 : decode cX12_whyClear 8 = .ok (.iaload, 1) := by decide +kernel
theorem dX12_whyClear_9 : decode cX12_whyClear 9 = .ok (.if_icmp .ge 33, 3) := by decide +kernel
theorem dX12_whyClear_12 : decode cX12_whyClear 12 = .ok (.iconst 0, 1) := by decide +kernel
theorem dX12_whyClear_13 : decode cX12_whyClear 13 = .ok (.istore_n 2, 1) := by decide +kernel
theorem dX12_whyClear_14 : decode cX12_whyClear 14 = .ok (.iload_n 2, 1) := by decide +kernel
theorem dX12_whyClear_15 : decode cX12_whyClear 15 = .ok (.iload_n 1, 1) := by decide +kernel
theorem dX12_whyClear_16 : decode cX12_whyClear 16 = .ok (.if_icmp .ge 20, 3) := by decide +kernel
theorem dX12_whyClear_19 : decode cX12_whyClear 19 = .ok (.aload_n 0, 1) := by decide +kernel
theorem dX12_whyClear_20 : decode cX12_whyClear 20 = .ok (.iload_n 1, 1) := by decide +kernel
theorem dX12_whyClear_21 : decode cX12_whyClear 21 = .ok (.iload_n 2, 1) := by decide +kernel
theorem dX12_whyClear_22 : decode cX12_whyClear 22 = .ok (.invokevirtual 284, 3) := by decide +kernel
theorem dX12_whyClear_25 : decode cX12_whyClear 25 = .ok (.ifCond .le 5, 3) := by decide +kernel
theorem dX12_whyClear_28 : decode cX12_whyClear 28 = .ok (.iconst 0, 1) := by decide +kernel
theorem dX12_whyClear_29 : decode cX12_whyClear 29 = .ok (.ireturn, 1) := by decide +kernel
theorem dX12_whyClear_30 : decode cX12_whyClear 30 = .ok (.iinc 2 1, 3) := by decide +kernel
theorem dX12_whyClear_33 : decode cX12_whyClear 33 = .ok (.goto (-19), 3) := by decide +kernel
theorem dX12_whyClear_36 : decode cX12_whyClear 36 = .ok (.iinc 1 1, 3) := by decide +kernel
theorem dX12_whyClear_39 : decode cX12_whyClear 39 = .ok (.goto (-37), 3) := by decide +kernel
theorem dX12_whyClear_42 : decode cX12_whyClear 42 = .ok (.iconst 1, 1) := by decide +kernel
theorem dX12_whyClear_43 : decode cX12_whyClear 43 = .ok (.ireturn, 1) := by decide +kernel
set_option maxRecDepth 20000 in
theorem ggX12_evens_X12_mutual : GoodIn wsX12_evens wsX12_mutual := goodIn_r _ [6, 1, 7, 8, 5, 9, 10, 11, 12, 13, 14, 15, 16, 17, 18, 19, 20, 21, 22, 23, 24, 25, 26, 27, 28, 29, 30, 31, 32, 33, 34, 35, 36, 37, 38, 39, 40, 41, 42, 43, 44, 45, 46, 47, 48, 49, 50, 51, 52, 53, 54, 55, 56, 57, 58] rfl rfl
set_option maxRecDepth 20000 in
theorem gX12_evens_X12_mutual : GoodIn wsX12_evens (wsV RX12 284 RX12 yX12_mutual wsX12_mutual) := goodIn_app (goodIn_r _ [2, 3, 4, 5] rfl rfl) ggX12_evens_X12_mutual
theorem dX12_evens_0 : decode cX12_evens 0 = .ok (.iconst 0, 1) := by decide +kernel
theorem dX12_evens_1 : decode cX12_evens 1 = .ok (.istore_n 1, 1) := by decide +kernel
theorem dX12_evens_2 : decode cX12_evens 2 = .ok (.iload_n 1, 1) := by decide +kernel
theorem dX12_evens_3 : decode cX12_evens 3 = .ok (.aload_n 0, 1) := by decide +kernel
theorem dX12_evens_4 : decode cX12_evens 4 = .ok (.getfield 33, 3) := by decide +kernel
theorem dX12_evens_7 : decode cX12_evens 7 = .ok (.iconst 0, 1) := by decide +kernel
theorem dX12_evens_8 : decode cX12_evens 8 = .ok (.iaload, 1) := by decide +kernel
theorem dX12_evens_9 : decode cX12_evens 9 = .ok (.if_icmp .ge 65, 3) := by decide +kernel
theorem dX12_evens_12 : decode cX12_evens 12 = .ok (.iconst 0, 1) := by decide +kernel
theorem dX12_evens_13 : decode cX12_evens 13 = .ok (.istore_n 2, 1) := by decide +kernel
theorem dX12_evens_14 : decode cX12_evens 14 = .ok (.iload_n 2, 1) := by decide +kernel
theorem dX12_evens_15 : decode cX12_evens 15 = .ok (.iload_n 1, 1) := by decide +kernel
theorem dX12_evens_16 : decode cX12_evens 16 = .ok (.if_icmp .ge 52, 3) := by decide +kernel
theorem dX12_evens_19 : decode cX12_evens 19 = .ok (.aload_n 0, 1) := by decide +kernel
theorem dX12_evens_20 : decode cX12_evens 20 = .ok (.iload_n 1, 1) := by decide +kernel
theorem dX12_evens_21 : decode cX12_evens 21 = .ok (.iload_n 2, 1) := by decide +kernel
theorem dX12_evens_22 : decode cX12_evens 22 = .ok (.invokevirtual 284, 3) := by decide +kernel
theorem dX12_evens_25 : decode cX12_evens 25 = .ok (.istore_n 3, 1) := by decide +kernel
theorem dX12_evens_26 : decode cX12_evens 26 = .ok (.aload_n 0, 1) := by decide +kernel
theorem dX12_evens_27 : decode cX12_evens 27 = .ok (.getfield 33, 3) := by decide +kernel
theorem dX12_evens_30 : decode cX12_evens 30 = .ok (.bipush 62, 2) := by decide +kernel
theorem dX12_evens_32 : decode cX12_evens 32 = .ok (.bipush 6, 2) := by decide +kernel
theorem dX12_evens_34 : decode cX12_evens 34 = .ok (.iload_n 1, 1) := by decide +kernel
theorem dX12_evens_35 : decode cX12_evens 35 = .ok (.imul, 1) := by decide +kernel
theorem dX12_evens_36 : decode cX12_evens 36 = .ok (.iadd, 1) := by decide +kernel
theorem dX12_evens_37 : decode cX12_evens 37 = .ok (.iload_n 2, 1) := by decide +kernel
theorem dX12_evens_38 : decode cX12_evens 38 = .ok (.iadd, 1) := by decide +kernel
theorem dX12_evens_39 : decode cX12_evens 39 = .ok (.dup2, 1) := by decide +kernel
theorem dX12_evens_40 : decode cX12_evens 40 = .ok (.iaload, 1) := by decide +kernel
theorem dX12_evens_41 : decode cX12_evens 41 = .ok (.iload_n 3, 1) := by decide +kernel
theorem dX12_evens_42 : decode cX12_evens 42 = .ok (.isub, 1) := by decide +kernel
theorem dX12_evens_43 : decode cX12_evens 43 = .ok (.iastore, 1) := by decide +kernel
theorem dX12_evens_44 : decode cX12_evens 44 = .ok (.aload_n 0, 1) := by decide +kernel
theorem dX12_evens_45 : decode cX12_evens 45 = .ok (.getfield 33, 3) := by decide +kernel
theorem dX12_evens_48 : decode cX12_evens 48 = .ok (.bipush 62, 2) := by decide +kernel
theorem dX12_evens_50 : decode cX12_evens 50 = .ok (.bipush 6, 2) := by decide +kernel
theorem dX12_evens_52 : decode cX12_evens 52 = .ok (.iload_n 2, 1) := by decide +kernel
theorem dX12_evens_53 : decode cX12_evens 53 = .ok (.imul, 1) := by decide +kernel
theorem dX12_evens_54 : decode cX12_evens 54 = .ok (.iadd, 1) := by decide +kernel
theorem dX12_evens_55 : decode cX12_evens 55 = .ok (.iload_n 1, 1) := by decide +kernel
theorem dX12_evens_56 : decode cX12_evens 56 = .ok (.iadd, 1) := by decide +kernel
theorem dX12_evens_57 : decode cX12_evens 57 = .ok (.dup2, 1) := by decide +kernel
theorem dX12_evens_58 : decode cX12_evens 58 = .ok (.iaload, 1) := by decide +kernel
theorem dX12_evens_59 : decode cX12_evens 59 = .ok (.iload_n 3, 1) := by decide +kernel
theorem dX12_evens_60 : decode cX12_evens 60 = .ok (.isub, 1) := by decide +kernel
theorem dX12_evens_61 : decode cX12_evens 61 = .ok (.iastore, 1) := by decide +kernel
theorem dX12_evens_62 : decode cX12_evens 62 = .ok (.iinc 2 1, 3) := by decide +kernel
theorem dX12_evens_65 : decode cX12_evens 65 = .ok (.goto (-51), 3) := by decide +kernel
theorem dX12_evens_68 : decode cX12_evens 68 = .ok (.iinc 1 1, 3) := by decide +kernel
theorem dX12_evens_71 : decode cX12_evens 71 = .ok (.goto (-69), 3) := by decide +kernel
theorem dX12_evens_74 : decode cX12_evens 74 = .ok (.return_, 1) := by decide +kernel
set_option maxRecDepth 20000 in
theorem ggX12_day_X12_couldWrite : GoodIn wsX12_day wsX12_couldWrite := goodIn_r _ [6, 1, 7, 8, 9, 5, 10, 11, 12, 13, 14, 15, 16, 17, 18, 19, 20, 21, 29, 30, 31, 32, 33, 34, 35, 36, 37, 38, 39, 40, 41, 42, 43, 44, 45, 46, 47, 48, 49, 50, 51, 52, 53, 54, 55, 56, 57, 58, 59, 60, 61, 62, 63, 64, 65, 66, 67, 68, 69, 70, 71, 72, 73, 74, 75, 76, 77] rfl rfl
set_option maxRecDepth 20000 in
theorem gX12_day_X12_couldWrite : GoodIn wsX12_day (wsV RX12 267 RX12 yX12_couldWrite wsX12_couldWrite) := goodIn_app (goodIn_r _ [2, 3, 4, 5] rfl rfl) ggX12_day_X12_couldWrite
set_option maxRecDepth 20000 in
theorem ggX12_day_X12_bitOf : GoodIn wsX12_day wsX12_bitOf := goodIn_r _ [17] rfl rfl
set_option maxRecDepth 20000 in
theorem gX12_day_X12_bitOf : GoodIn wsX12_day (va_wsS RX12 233 yX12_bitOf wsX12_bitOf) := goodIn_app (goodIn_r _ [15, 16, 5] rfl rfl) ggX12_day_X12_bitOf
set_option maxRecDepth 20000 in
theorem ggX12_day_X12_types : GoodIn wsX12_day wsX12_types := goodIn_r _ [25, 1, 26, 27, 5, 28, 29, 30, 31, 32, 33, 34, 35, 36, 37, 38, 39, 40, 41, 42, 43, 44, 45, 46, 47, 48, 49, 50, 51, 52, 53, 54, 55, 56, 57, 58, 59, 60, 61, 62, 63, 64, 65, 66, 67, 68, 69, 70, 71, 72, 73, 74, 75, 76, 77] rfl rfl
set_option maxRecDepth 20000 in
theorem gX12_day_X12_types : GoodIn wsX12_day (wsV RX12 287 RX12 yX12_types wsX12_types) := goodIn_app (goodIn_r _ [22, 23, 24, 5] rfl rfl) ggX12_day_X12_types
theorem dX12_day_0 : decode cX12_day 0 = .ok (.iconst 0, 1) := by decide +kernel
theorem dX12_day_1 : decode cX12_day 1 = .ok (.istore_n 1, 1) := by decide +kernel
theorem dX12_day_2 : decode cX12_day 2 = .ok (.aload_n 0, 1) := by decide +kernel
theorem dX12_day_3 : decode cX12_day 3 = .ok (.getfield 33, 3) := by decide +kernel
theorem dX12_day_6 : decode cX12_day 6 = .ok (.bipush 41, 2) := by decide +kernel
theorem dX12_day_8 : decode cX12_day 8 = .ok (.iaload, 1) := by decide +kernel
theorem dX12_day_9 : decode cX12_day 9 = .ok (.istore_n 2, 1) := by decide +kernel
theorem dX12_day_10 : decode cX12_day 10 = .ok (.iconst 0, 1) := by decide +kernel
theorem dX12_day_11 : decode cX12_day 11 = .ok (.istore_n 3, 1) := by decide +kernel
theorem dX12_day_12 : decode cX12_day 12 = .ok (.iload_n 3, 1) := by decide +kernel
theorem dX12_day_13 : decode cX12_day 13 = .ok (.aload_n 0, 1) := by decide +kernel
theorem dX12_day_14 : decode cX12_day 14 = .ok (.getfield 33, 3) := by decide +kernel
theorem dX12_day_17 : decode cX12_day 17 = .ok (.iconst 0, 1) := by decide +kernel
theorem dX12_day_18 : decode cX12_day 18 = .ok (.iaload, 1) := by decide +kernel
theorem dX12_day_19 : decode cX12_day 19 = .ok (.if_icmp .ge 70, 3) := by decide +kernel
theorem dX12_day_22 : decode cX12_day 22 = .ok (.iload_n 1, 1) := by decide +kernel
theorem dX12_day_23 : decode cX12_day 23 = .ok (.ifCond .ne 66, 3) := by decide +kernel
theorem dX12_day_26 : decode cX12_day 26 = .ok (.iload_n 2, 1) := by decide +kernel
theorem dX12_day_27 : decode cX12_day 27 = .ok (.iload_n 3, 1) := by decide +kernel
theorem dX12_day_28 : decode cX12_day 28 = .ok (.iadd, 1) := by decide +kernel
theorem dX12_day_29 : decode cX12_day 29 = .ok (.aload_n 0, 1) := by decide +kernel
theorem dX12_day_30 : decode cX12_day 30 = .ok (.getfield 33, 3) := by decide +kernel
theorem dX12_day_33 : decode cX12_day 33 = .ok (.iconst 0, 1) := by decide +kernel
theorem dX12_day_34 : decode cX12_day 34 = .ok (.iaload, 1) := by decide +kernel
theorem dX12_day_35 : decode cX12_day 35 = .ok (.irem, 1) := by decide +kernel
theorem dX12_day_36 : decode cX12_day 36 = .ok (.istore 4, 2) := by decide +kernel
theorem dX12_day_38 : decode cX12_day 38 = .ok (.aload_n 0, 1) := by decide +kernel
theorem dX12_day_39 : decode cX12_day 39 = .ok (.iload 4, 2) := by decide +kernel
theorem dX12_day_41 : decode cX12_day 41 = .ok (.invokevirtual 267, 3) := by decide +kernel
theorem dX12_day_44 : decode cX12_day 44 = .ok (.istore 5, 2) := by decide +kernel
theorem dX12_day_46 : decode cX12_day 46 = .ok (.iload 5, 2) := by decide +kernel
theorem dX12_day_48 : decode cX12_day 48 = .ok (.ifCond .ne 6, 3) := by decide +kernel
theorem dX12_day_51 : decode cX12_day 51 = .ok (.goto 32, 3) := by decide +kernel
theorem dX12_day_54 : decode cX12_day 54 = .ok (.iconst 0, 1) := by decide +kernel
theorem dX12_day_55 : decode cX12_day 55 = .ok (.istore 6, 2) := by decide +kernel
theorem dX12_day_57 : decode cX12_day 57 = .ok (.iload 5, 2) := by decide +kernel
theorem dX12_day_59 : decode cX12_day 59 = .ok (.iload 6, 2) := by decide +kernel
theorem dX12_day_61 : decode cX12_day 61 = .ok (.invokestatic 233, 3) := by decide +kernel
theorem dX12_day_64 : decode cX12_day 64 = .ok (.ifCond .ne 9, 3) := by decide +kernel
theorem dX12_day_67 : decode cX12_day 67 = .ok (.iinc 6 1, 3) := by decide +kernel
theorem dX12_day_70 : decode cX12_day 70 = .ok (.goto (-13), 3) := by decide +kernel
theorem dX12_day_73 : decode cX12_day 73 = .ok (.aload_n 0, 1) := by decide +kernel
theorem dX12_day_74 : decode cX12_day 74 = .ok (.iload 4, 2) := by decide +kernel
theorem dX12_day_76 : decode cX12_day 76 = .ok (.iload 6, 2) := by decide +kernel
theorem dX12_day_78 : decode cX12_day 78 = .ok (.invokevirtual 287, 3) := by decide +kernel
theorem dX12_day_81 : decode cX12_day 81 = .ok (.iconst 1, 1) := by decide +kernel
theorem dX12_day_82 : decode cX12_day 82 = .ok (.istore_n 1, 1) := by decide +kernel
theorem dX12_day_83 : decode cX12_day 83 = .ok (.iinc 3 1, 3) := by decide +kernel
theorem dX12_day_86 : decode cX12_day 86 = .ok (.goto (-74), 3) := by decide +kernel
theorem dX12_day_89 : decode cX12_day 89 = .ok (.aload_n 0, 1) := by decide +kernel
theorem dX12_day_90 : decode cX12_day 90 = .ok (.getfield 33, 3) := by decide +kernel
theorem dX12_day_93 : decode cX12_day 93 = .ok (.bipush 39, 2) := by decide +kernel
theorem dX12_day_95 : decode cX12_day 95 = .ok (.dup2, 1) := by decide +kernel
theorem dX12_day_96 : decode cX12_day 96 = .ok (.iaload, 1) := by decide +kernel
theorem dX12_day_97 : decode cX12_day 97 = .ok (.iconst 1, 1) := by decide +kernel
theorem dX12_day_98 : decode cX12_day 98 = .ok (.iadd, 1) := by decide +kernel
theorem dX12_day_99 : decode cX12_day 99 = .ok (.iastore, 1) := by decide +kernel
theorem dX12_day_100 : decode cX12_day 100 = .ok (.iload_n 1, 1) := by decide +kernel
theorem dX12_day_101 : decode cX12_day 101 = .ok (.ifCond .eq 5, 3) := by decide +kernel
theorem dX12_day_104 : decode cX12_day 104 = .ok (.iconst 1, 1) := by decide +kernel
theorem dX12_day_105 : decode cX12_day 105 = .ok (.ireturn, 1) := by decide +kernel
theorem dX12_day_106 : decode cX12_day 106 = .ok (.aload_n 0, 1) := by decide +kernel
theorem dX12_day_107 : decode cX12_day 107 = .ok (.getfield 33, 3) := by decide +kernel
theorem dX12_day_110 : decode cX12_day 110 = .ok (.bipush 43, 2) := by decide +kernel
theorem dX12_day_112 : decode cX12_day 112 = .ok (.dup2, 1) := by decide +kernel
theorem dX12_day_113 : decode cX12_day 113 = .ok (.iaload, 1) := by decide +kernel
theorem dX12_day_114 : decode cX12_day 114 = .ok (.aload_n 0, 1) := by decide +kernel
theorem dX12_day_115 : decode cX12_day 115 = .ok (.getfield 33, 3) := by decide +kernel
theorem dX12_day_118 : decode cX12_day 118 = .ok (.bipush 40, 2) := by decide +kernel
theorem dX12_day_120 : decode cX12_day 120 = .ok (.iaload, 1) := by decide +kernel
theorem dX12_day_121 : decode cX12_day 121 = .ok (.ifCond .le 7, 3) := by decide +kernel
theorem dX12_day_124 : decode cX12_day 124 = .ok (.iconst 1, 1) := by decide +kernel
theorem dX12_day_125 : decode cX12_day 125 = .ok (.goto 4, 3) := by decide +kernel
theorem dX12_day_128 : decode cX12_day 128 = .ok (.iconst 0, 1) := by decide +kernel
theorem dX12_day_129 : decode cX12_day 129 = .ok (.iadd, 1) := by decide +kernel
theorem dX12_day_130 : decode cX12_day 130 = .ok (.iastore, 1) := by decide +kernel
theorem dX12_day_131 : decode cX12_day 131 = .ok (.aload_n 0, 1) := by decide +kernel
theorem dX12_day_132 : decode cX12_day 132 = .ok (.getfield 33, 3) := by decide +kernel
theorem dX12_day_135 : decode cX12_day 135 = .ok (.bipush 40, 2) := by decide +kernel
theorem dX12_day_137 : decode cX12_day 137 = .ok (.iconst 0, 1) := by decide +kernel
theorem dX12_day_138 : decode cX12_day 138 = .ok (.iastore, 1) := by decide +kernel
theorem dX12_day_139 : decode cX12_day 139 = .ok (.aload_n 0, 1) := by decide +kernel
theorem dX12_day_140 : decode cX12_day 140 = .ok (.getfield 33, 3) := by decide +kernel
theorem dX12_day_143 : decode cX12_day 143 = .ok (.bipush 41, 2) := by decide +kernel
theorem dX12_day_145 : decode cX12_day 145 = .ok (.iconst 0, 1) := by decide +kernel
theorem dX12_day_146 : decode cX12_day 146 = .ok (.iastore, 1) := by decide +kernel
theorem dX12_day_147 : decode cX12_day 147 = .ok (.iconst 0, 1) := by decide +kernel
theorem dX12_day_148 : decode cX12_day 148 = .ok (.ireturn, 1) := by decide +kernel
set_option maxRecDepth 20000 in
theorem ggX12_goesOn_X12_day : GoodIn wsX12_goesOn wsX12_day := goodIn_r _ [6, 1, 7, 8, 9, 5, 10, 11, 12, 13, 14, 15, 16, 17, 18, 19, 20, 21, 22, 23, 24, 25, 26, 27, 28, 29, 30, 31, 32, 33, 34, 35, 36, 37, 38, 39, 40, 41, 42, 43, 44, 45, 46, 47, 48, 49, 50, 51, 52, 53, 54, 55, 56, 57, 58, 59, 60, 61, 62, 63, 64, 65, 66, 67, 68, 69, 70, 71, 72, 73, 74, 75, 76, 77, 78, 79, 80, 81] rfl rfl
set_option maxRecDepth 20000 in
theorem gX12_goesOn_X12_day : GoodIn wsX12_goesOn (wsV RX12 291 RX12 yX12_day wsX12_day) := goodIn_app (goodIn_r _ [2, 3, 4, 5] rfl rfl) ggX12_goesOn_X12_day
theorem dX12_goesOn_0 : decode cX12_goesOn 0 = .ok (.iconst 0, 1) := by decide +kernel
theorem dX12_goesOn_1 : decode cX12_goesOn 1 = .ok (.istore_n 2, 1) := by decide +kernel
theorem dX12_goesOn_2 : decode cX12_goesOn 2 = .ok (.iload_n 2, 1) := by decide +kernel
theorem dX12_goesOn_3 : decode cX12_goesOn 3 = .ok (.iload_n 1, 1) := by decide +kernel
theorem dX12_goesOn_4 : decode cX12_goesOn 4 = .ok (.if_icmp .ge 27, 3) := by decide +kernel
theorem dX12_goesOn_7 : decode cX12_goesOn 7 = .ok (.aload_n 0, 1) := by decide +kernel
theorem dX12_goesOn_8 : decode cX12_goesOn 8 = .ok (.getfield 33, 3) := by decide +kernel
theorem dX12_goesOn_11 : decode cX12_goesOn 11 = .ok (.bipush 39, 2) := by decide +kernel
theorem dX12_goesOn_13 : decode cX12_goesOn 13 = .ok (.iaload, 1) := by decide +kernel
theorem dX12_goesOn_14 : decode cX12_goesOn 14 = .ok (.sipush 400, 3) := by decide +kernel
theorem dX12_goesOn_17 : decode cX12_goesOn 17 = .ok (.if_icmp .ge 14, 3) := by decide +kernel
theorem dX12_goesOn_20 : decode cX12_goesOn 20 = .ok (.aload_n 0, 1) := by decide +kernel
theorem dX12_goesOn_21 : decode cX12_goesOn 21 = .ok (.invokevirtual 291, 3) := by decide +kernel
theorem dX12_goesOn_24 : decode cX12_goesOn 24 = .ok (.pop, 1) := by decide +kernel
theorem dX12_goesOn_25 : decode cX12_goesOn 25 = .ok (.iinc 2 1, 3) := by decide +kernel
theorem dX12_goesOn_28 : decode cX12_goesOn 28 = .ok (.goto (-26), 3) := by decide +kernel
theorem dX12_goesOn_31 : decode cX12_goesOn 31 = .ok (.iload_n 2, 1) := by decide +kernel
theorem dX12_goesOn_32 : decode cX12_goesOn 32 = .ok (.ireturn, 1) := by decide +kernel
set_option maxRecDepth 20000 in
theorem ggX12_write_X12_isMachine : GoodIn wsX12_write wsX12_isMachine := goodIn_r _ [6, 7, 8, 9, 5, 10, 43, 44, 45, 46, 47, 48, 49, 50, 51, 52, 53, 54, 55, 56, 57, 58, 59, 60, 61, 62, 63, 64, 65, 66, 67, 68, 69, 70, 71, 72, 73, 74, 75, 76, 77, 78, 79, 80, 81, 82, 83, 84, 85, 86, 87, 88, 89, 90, 91] rfl rfl
set_option maxRecDepth 20000 in
theorem gX12_write_X12_isMachine : GoodIn wsX12_write (wsV RX12 260 RX12 yX12_isMachine wsX12_isMachine) := goodIn_app (goodIn_r _ [2, 3, 4, 5] rfl rfl) ggX12_write_X12_isMachine
set_option maxRecDepth 20000 in
theorem ggX12_write_X12_isPhrase : GoodIn wsX12_write wsX12_isPhrase := goodIn_r _ [14, 7, 8, 9, 5, 10, 43, 44, 45, 46, 47, 48, 49, 50, 51, 52, 53, 54, 55, 56, 57, 58, 59, 60, 61, 62, 63, 64, 65, 66, 67, 68, 69, 70, 71, 72, 73, 74, 75, 76, 77, 78, 79, 80, 81, 82, 83, 84, 85, 86, 87, 88, 89, 90, 91] rfl rfl
set_option maxRecDepth 20000 in
theorem gX12_write_X12_isPhrase : GoodIn wsX12_write (wsV RX12 275 RX12 yX12_isPhrase wsX12_isPhrase) := goodIn_app (goodIn_r _ [11, 12, 13, 5] rfl rfl) ggX12_write_X12_isPhrase
set_option maxRecDepth 20000 in
theorem ggX12_write_X12_whyWrite : GoodIn wsX12_write wsX12_whyWrite := goodIn_r _ [18, 7, 19, 20, 21, 5, 22, 23, 24, 25, 26, 27, 28, 29, 43, 44, 45, 46, 47, 48, 49, 50, 51, 52, 53, 54, 55, 56, 57, 58, 59, 60, 61, 62, 63, 64, 65, 66, 67, 68, 69, 70, 71, 72, 73, 74, 75, 76, 77, 78, 79, 80, 81, 82, 83, 84, 85, 86, 87, 88, 89, 90, 91] rfl rfl
set_option maxRecDepth 20000 in
theorem gX12_write_X12_whyWrite : GoodIn wsX12_write (wsV RX12 257 RX12 yX12_whyWrite wsX12_whyWrite) := goodIn_app (goodIn_r _ [15, 16, 17, 5] rfl rfl) ggX12_write_X12_whyWrite
set_option maxRecDepth 20000 in
theorem ggX12_write_X12_keep : GoodIn wsX12_write wsX12_keep := goodIn_r _ [33, 34, 35, 7, 43, 44, 45, 46, 47, 48, 49, 50, 51, 52, 53, 54, 55, 56, 57, 58, 59, 60, 61, 62, 63, 64, 65, 66, 67, 68, 69, 70, 71, 72, 73, 74, 75, 76, 77, 78, 79, 80, 81, 82, 83, 84, 85, 86, 87, 88, 89, 90, 91] rfl rfl
set_option maxRecDepth 20000 in
theorem gX12_write_X12_keep : GoodIn wsX12_write (wsV RX12 294 RX12 yX12_keep wsX12_keep) := goodIn_app (goodIn_r _ [30, 31, 32, 5] rfl rfl) ggX12_write_X12_keep
set_option maxRecDepth 20000 in
theorem ggX12_write_X12_types : GoodIn wsX12_write wsX12_types := goodIn_r _ [39, 7, 40, 41, 5, 42, 43, 44, 45, 46, 47, 48, 49, 50, 51, 52, 53, 54, 55, 56, 57, 58, 59, 60, 61, 62, 63, 64, 65, 66, 67, 68, 69, 70, 71, 72, 73, 74, 75, 76, 77, 78, 79, 80, 81, 82, 83, 84, 85, 86, 87, 88, 89, 90, 91] rfl rfl
set_option maxRecDepth 20000 in
theorem gX12_write_X12_types : GoodIn wsX12_write (wsV RX12 287 RX12 yX12_types wsX12_types) := goodIn_app (goodIn_r _ [36, 37, 38, 5] rfl rfl) ggX12_write_X12_types
theorem dX12_write_0 : decode cX12_write 0 = .ok (.aload_n 0, 1) := by decide +kernel
theorem dX12_write_1 : decode cX12_write 1 = .ok (.iconst 0, 1) := by decide +kernel
theorem dX12_write_2 : decode cX12_write 2 = .ok (.putfield 1, 3) := by decide +kernel
theorem dX12_write_5 : decode cX12_write 5 = .ok (.aload_n 0, 1) := by decide +kernel
theorem dX12_write_6 : decode cX12_write 6 = .ok (.iload_n 1, 1) := by decide +kernel
theorem dX12_write_7 : decode cX12_write 7 = .ok (.invokevirtual 260, 3) := by decide +kernel
theorem dX12_write_10 : decode cX12_write 10 = .ok (.ifCond .eq 11, 3) := by decide +kernel
theorem dX12_write_13 : decode cX12_write 13 = .ok (.aload_n 0, 1) := by decide +kernel
theorem dX12_write_14 : decode cX12_write 14 = .ok (.iload_n 2, 1) := by decide +kernel
theorem dX12_write_15 : decode cX12_write 15 = .ok (.invokevirtual 275, 3) := by decide +kernel
theorem dX12_write_18 : decode cX12_write 18 = .ok (.ifCond .ne 5, 3) := by decide +kernel
theorem dX12_write_21 : decode cX12_write 21 = .ok (.iconst (-1), 1) := by decide +kernel
theorem dX12_write_22 : decode cX12_write 22 = .ok (.ireturn, 1) := by decide +kernel
theorem dX12_write_23 : decode cX12_write 23 = .ok (.aload_n 0, 1) := by decide +kernel
theorem dX12_write_24 : decode cX12_write 24 = .ok (.iload_n 1, 1) := by decide +kernel
theorem dX12_write_25 : decode cX12_write 25 = .ok (.iload_n 2, 1) := by decide +kernel
theorem dX12_write_26 : decode cX12_write 26 = .ok (.invokevirtual 257, 3) := by decide +kernel
theorem dX12_write_29 : decode cX12_write 29 = .ok (.istore_n 3, 1) := by decide +kernel
theorem dX12_write_30 : decode cX12_write 30 = .ok (.iload_n 3, 1) := by decide +kernel
theorem dX12_write_31 : decode cX12_write 31 = .ok (.ifCond .le 5, 3) := by decide +kernel
theorem dX12_write_34 : decode cX12_write 34 = .ok (.iload_n 3, 1) := by decide +kernel
theorem dX12_write_35 : decode cX12_write 35 = .ok (.ireturn, 1) := by decide +kernel
theorem dX12_write_36 : decode cX12_write 36 = .ok (.aload_n 0, 1) := by decide +kernel
theorem dX12_write_37 : decode cX12_write 37 = .ok (.invokevirtual 294, 3) := by decide +kernel
theorem dX12_write_40 : decode cX12_write 40 = .ok (.aload_n 0, 1) := by decide +kernel
theorem dX12_write_41 : decode cX12_write 41 = .ok (.iload_n 1, 1) := by decide +kernel
theorem dX12_write_42 : decode cX12_write 42 = .ok (.iload_n 2, 1) := by decide +kernel
theorem dX12_write_43 : decode cX12_write 43 = .ok (.invokevirtual 287, 3) := by decide +kernel
theorem dX12_write_46 : decode cX12_write 46 = .ok (.iconst 0, 1) := by decide +kernel
theorem dX12_write_47 : decode cX12_write 47 = .ok (.ireturn, 1) := by decide +kernel
set_option maxRecDepth 20000 in
theorem ggX12_turns_X12_isMachine : GoodIn wsX12_turns wsX12_isMachine := goodIn_r _ [7, 2, 8, 9, 6, 10, 24, 25, 26, 27, 28, 29, 30, 31, 32, 33, 34, 35, 36, 37, 38, 39, 40, 41, 42, 43, 44, 45, 46, 47, 48, 49, 50, 51, 52, 53, 54, 55, 56, 57, 58, 59, 60, 61, 62, 63, 64, 65, 66, 67, 68, 69, 70, 71, 72] rfl rfl
set_option maxRecDepth 20000 in
theorem gX12_turns_X12_isMachine : GoodIn wsX12_turns (wsV RX12 260 RX12 yX12_isMachine wsX12_isMachine) := goodIn_app (goodIn_r _ [3, 4, 5, 6] rfl rfl) ggX12_turns_X12_isMachine
set_option maxRecDepth 20000 in
theorem ggX12_turns_X12_isHeld : GoodIn wsX12_turns wsX12_isHeld := goodIn_r _ [14, 2, 15, 16, 6, 17, 24, 25, 26, 27, 28, 29, 30, 31, 32, 33, 34, 35, 36, 37, 38, 39, 40, 41, 42, 43, 44, 45, 46, 47, 48, 49, 50, 51, 52, 53, 54, 55, 56, 57, 58, 59, 60, 61, 62, 63, 64, 65, 66, 67, 68, 69, 70, 71, 72] rfl rfl
set_option maxRecDepth 20000 in
theorem gX12_turns_X12_isHeld : GoodIn wsX12_turns (wsV RX12 251 RX12 yX12_isHeld wsX12_isHeld) := goodIn_app (goodIn_r _ [11, 12, 13, 6] rfl rfl) ggX12_turns_X12_isHeld
set_option maxRecDepth 20000 in
theorem ggX12_turns_X12_keep : GoodIn wsX12_turns wsX12_keep := goodIn_r _ [21, 22, 23, 2, 24, 25, 26, 27, 28, 29, 30, 31, 32, 33, 34, 35, 36, 37, 38, 39, 40, 41, 42, 43, 44, 45, 46, 47, 48, 49, 50, 51, 52, 53, 54, 55, 56, 57, 58, 59, 60, 61, 62, 63, 64, 65, 66, 67, 68, 69, 70, 71, 72] rfl rfl
set_option maxRecDepth 20000 in
theorem gX12_turns_X12_keep : GoodIn wsX12_turns (wsV RX12 294 RX12 yX12_keep wsX12_keep) := goodIn_app (goodIn_r _ [18, 19, 20, 6] rfl rfl) ggX12_turns_X12_keep
theorem dX12_turns_0 : decode cX12_turns 0 = .ok (.aload_n 0, 1) := by decide +kernel
theorem dX12_turns_1 : decode cX12_turns 1 = .ok (.iconst 0, 1) := by decide +kernel
theorem dX12_turns_2 : decode cX12_turns 2 = .ok (.putfield 1, 3) := by decide +kernel
theorem dX12_turns_5 : decode cX12_turns 5 = .ok (.aload_n 0, 1) := by decide +kernel
theorem dX12_turns_6 : decode cX12_turns 6 = .ok (.iload_n 1, 1) := by decide +kernel
theorem dX12_turns_7 : decode cX12_turns 7 = .ok (.invokevirtual 260, 3) := by decide +kernel
theorem dX12_turns_10 : decode cX12_turns 10 = .ok (.ifCond .ne 5, 3) := by decide +kernel
theorem dX12_turns_13 : decode cX12_turns 13 = .ok (.iconst (-1), 1) := by decide +kernel
theorem dX12_turns_14 : decode cX12_turns 14 = .ok (.ireturn, 1) := by decide +kernel
theorem dX12_turns_15 : decode cX12_turns 15 = .ok (.aload_n 0, 1) := by decide +kernel
theorem dX12_turns_16 : decode cX12_turns 16 = .ok (.iload_n 1, 1) := by decide +kernel
theorem dX12_turns_17 : decode cX12_turns 17 = .ok (.invokevirtual 251, 3) := by decide +kernel
theorem dX12_turns_20 : decode cX12_turns 20 = .ok (.iload_n 2, 1) := by decide +kernel
theorem dX12_turns_21 : decode cX12_turns 21 = .ok (.if_icmp .ne 5, 3) := by decide +kernel
theorem dX12_turns_24 : decode cX12_turns 24 = .ok (.iconst 1, 1) := by decide +kernel
theorem dX12_turns_25 : decode cX12_turns 25 = .ok (.ireturn, 1) := by decide +kernel
theorem dX12_turns_26 : decode cX12_turns 26 = .ok (.aload_n 0, 1) := by decide +kernel
theorem dX12_turns_27 : decode cX12_turns 27 = .ok (.invokevirtual 294, 3) := by decide +kernel
theorem dX12_turns_30 : decode cX12_turns 30 = .ok (.aload_n 0, 1) := by decide +kernel
theorem dX12_turns_31 : decode cX12_turns 31 = .ok (.getfield 33, 3) := by decide +kernel
theorem dX12_turns_34 : decode cX12_turns 34 = .ok (.bipush 42, 2) := by decide +kernel
theorem dX12_turns_36 : decode cX12_turns 36 = .ok (.dup2, 1) := by decide +kernel
theorem dX12_turns_37 : decode cX12_turns 37 = .ok (.iaload, 1) := by decide +kernel
theorem dX12_turns_38 : decode cX12_turns 38 = .ok (.iconst 1, 1) := by decide +kernel
theorem dX12_turns_39 : decode cX12_turns 39 = .ok (.iload_n 1, 1) := by decide +kernel
theorem dX12_turns_40 : decode cX12_turns 40 = .ok (.ishl, 1) := by decide +kernel
theorem dX12_turns_41 : decode cX12_turns 41 = .ok (.ixor, 1) := by decide +kernel
theorem dX12_turns_42 : decode cX12_turns 42 = .ok (.iastore, 1) := by decide +kernel
theorem dX12_turns_43 : decode cX12_turns 43 = .ok (.iconst 0, 1) := by decide +kernel
theorem dX12_turns_44 : decode cX12_turns 44 = .ok (.ireturn, 1) := by decide +kernel
set_option maxRecDepth 20000 in
theorem ggX12_sit_X12_turns : GoodIn wsX12_sit wsX12_turns := goodIn_r _ [5, 6, 7, 8, 9, 10, 4, 11, 12, 13, 14, 15, 16, 17, 18, 19, 20, 21, 22, 23, 24, 25, 26, 27, 28, 29, 30, 31, 32, 33, 34, 35, 36, 37, 38, 39, 40, 41, 42, 43, 44, 45, 46, 47, 48, 49, 50, 51, 52, 53, 54, 55, 56, 57, 58, 59, 60, 61, 62, 63, 64, 65, 66, 67, 68, 69, 70, 71, 72, 73, 74, 75, 76] rfl rfl
set_option maxRecDepth 20000 in
theorem gX12_sit_X12_turns : GoodIn wsX12_sit (wsV RX12 297 RX12 yX12_turns wsX12_turns) := goodIn_app (goodIn_r _ [1, 2, 3, 4] rfl rfl) ggX12_sit_X12_turns
theorem dX12_sit_0 : decode cX12_sit 0 = .ok (.aload_n 0, 1) := by decide +kernel
theorem dX12_sit_1 : decode cX12_sit 1 = .ok (.iload_n 1, 1) := by decide +kernel
theorem dX12_sit_2 : decode cX12_sit 2 = .ok (.iconst 1, 1) := by decide +kernel
theorem dX12_sit_3 : decode cX12_sit 3 = .ok (.invokevirtual 297, 3) := by decide +kernel
theorem dX12_sit_6 : decode cX12_sit 6 = .ok (.ireturn, 1) := by decide +kernel
set_option maxRecDepth 20000 in
theorem ggX12_leave_X12_turns : GoodIn wsX12_leave wsX12_turns := goodIn_r _ [5, 6, 7, 8, 9, 10, 4, 11, 12, 13, 14, 15, 16, 17, 18, 19, 20, 21, 22, 23, 24, 25, 26, 27, 28, 29, 30, 31, 32, 33, 34, 35, 36, 37, 38, 39, 40, 41, 42, 43, 44, 45, 46, 47, 48, 49, 50, 51, 52, 53, 54, 55, 56, 57, 58, 59, 60, 61, 62, 63, 64, 65, 66, 67, 68, 69, 70, 71, 72, 73, 74, 75, 76] rfl rfl
set_option maxRecDepth 20000 in
theorem gX12_leave_X12_turns : GoodIn wsX12_leave (wsV RX12 297 RX12 yX12_turns wsX12_turns) := goodIn_app (goodIn_r _ [1, 2, 3, 4] rfl rfl) ggX12_leave_X12_turns
theorem dX12_leave_0 : decode cX12_leave 0 = .ok (.aload_n 0, 1) := by decide +kernel
theorem dX12_leave_1 : decode cX12_leave 1 = .ok (.iload_n 1, 1) := by decide +kernel
theorem dX12_leave_2 : decode cX12_leave 2 = .ok (.iconst 0, 1) := by decide +kernel
theorem dX12_leave_3 : decode cX12_leave 3 = .ok (.invokevirtual 297, 3) := by decide +kernel
theorem dX12_leave_6 : decode cX12_leave 6 = .ok (.ireturn, 1) := by decide +kernel
set_option maxRecDepth 20000 in
theorem ggX12_ribbon_X12_isMachine : GoodIn wsX12_ribbon wsX12_isMachine := goodIn_r _ [7, 2, 8, 9, 6, 10, 17, 18, 19, 20, 21, 22, 23, 24, 25, 26, 27, 28, 29, 30, 31, 32, 33, 34, 35, 36, 37, 38, 39, 40, 41, 42, 43, 44, 45, 46, 47, 48, 49, 50, 51, 52, 53, 54, 55, 56, 57, 58, 59, 60, 61, 62, 63, 64, 65] rfl rfl
set_option maxRecDepth 20000 in
theorem gX12_ribbon_X12_isMachine : GoodIn wsX12_ribbon (wsV RX12 260 RX12 yX12_isMachine wsX12_isMachine) := goodIn_app (goodIn_r _ [3, 4, 5, 6] rfl rfl) ggX12_ribbon_X12_isMachine
set_option maxRecDepth 20000 in
theorem ggX12_ribbon_X12_isIn : GoodIn wsX12_ribbon wsX12_isIn := goodIn_r _ [10] rfl rfl
set_option maxRecDepth 20000 in
theorem gX12_ribbon_X12_isIn : GoodIn wsX12_ribbon (va_wsS RX12 186 yX12_isIn wsX12_isIn) := goodIn_app (goodIn_r _ [8, 9, 6] rfl rfl) ggX12_ribbon_X12_isIn
set_option maxRecDepth 20000 in
theorem ggX12_ribbon_X12_keep : GoodIn wsX12_ribbon wsX12_keep := goodIn_r _ [14, 15, 16, 2, 17, 18, 19, 20, 21, 22, 23, 24, 25, 26, 27, 28, 29, 30, 31, 32, 33, 34, 35, 36, 37, 38, 39, 40, 41, 42, 43, 44, 45, 46, 47, 48, 49, 50, 51, 52, 53, 54, 55, 56, 57, 58, 59, 60, 61, 62, 63, 64, 65] rfl rfl
set_option maxRecDepth 20000 in
theorem gX12_ribbon_X12_keep : GoodIn wsX12_ribbon (wsV RX12 294 RX12 yX12_keep wsX12_keep) := goodIn_app (goodIn_r _ [11, 12, 13, 6] rfl rfl) ggX12_ribbon_X12_keep
theorem dX12_ribbon_0 : decode cX12_ribbon 0 = .ok (.aload_n 0, 1) := by decide +kernel
theorem dX12_ribbon_1 : decode cX12_ribbon 1 = .ok (.iconst 0, 1) := by decide +kernel
theorem dX12_ribbon_2 : decode cX12_ribbon 2 = .ok (.putfield 1, 3) := by decide +kernel
theorem dX12_ribbon_5 : decode cX12_ribbon 5 = .ok (.aload_n 0, 1) := by decide +kernel
theorem dX12_ribbon_6 : decode cX12_ribbon 6 = .ok (.iload_n 1, 1) := by decide +kernel
theorem dX12_ribbon_7 : decode cX12_ribbon 7 = .ok (.invokevirtual 260, 3) := by decide +kernel
theorem dX12_ribbon_10 : decode cX12_ribbon 10 = .ok (.ifCond .eq 14, 3) := by decide +kernel
theorem dX12_ribbon_13 : decode cX12_ribbon 13 = .ok (.iload_n 2, 1) := by decide +kernel
theorem dX12_ribbon_14 : decode cX12_ribbon 14 = .ok (.iconst 1, 1) := by decide +kernel
theorem dX12_ribbon_15 : decode cX12_ribbon 15 = .ok (.sipush 999, 3) := by decide +kernel
theorem dX12_ribbon_18 : decode cX12_ribbon 18 = .ok (.invokestatic 186, 3) := by decide +kernel
theorem dX12_ribbon_21 : decode cX12_ribbon 21 = .ok (.ifCond .ne 5, 3) := by decide +kernel
theorem dX12_ribbon_24 : decode cX12_ribbon 24 = .ok (.iconst (-1), 1) := by decide +kernel
theorem dX12_ribbon_25 : decode cX12_ribbon 25 = .ok (.ireturn, 1) := by decide +kernel
theorem dX12_ribbon_26 : decode cX12_ribbon 26 = .ok (.aload_n 0, 1) := by decide +kernel
theorem dX12_ribbon_27 : decode cX12_ribbon 27 = .ok (.getfield 33, 3) := by decide +kernel
theorem dX12_ribbon_30 : decode cX12_ribbon 30 = .ok (.bipush 44, 2) := by decide +kernel
theorem dX12_ribbon_32 : decode cX12_ribbon 32 = .ok (.iload_n 1, 1) := by decide +kernel
theorem dX12_ribbon_33 : decode cX12_ribbon 33 = .ok (.iadd, 1) := by decide +kernel
theorem dX12_ribbon_34 : decode cX12_ribbon 34 = .ok (.iaload, 1) := by decide +kernel
theorem dX12_ribbon_35 : decode cX12_ribbon 35 = .ok (.iload_n 2, 1) := by decide +kernel
theorem dX12_ribbon_36 : decode cX12_ribbon 36 = .ok (.if_icmp .lt 5, 3) := by decide +kernel
theorem dX12_ribbon_39 : decode cX12_ribbon 39 = .ok (.iconst 1, 1) := by decide +kernel
theorem dX12_ribbon_40 : decode cX12_ribbon 40 = .ok (.ireturn, 1) := by decide +kernel
theorem dX12_ribbon_41 : decode cX12_ribbon 41 = .ok (.aload_n 0, 1) := by decide +kernel
theorem dX12_ribbon_42 : decode cX12_ribbon 42 = .ok (.invokevirtual 294, 3) := by decide +kernel
theorem dX12_ribbon_45 : decode cX12_ribbon 45 = .ok (.aload_n 0, 1) := by decide +kernel
theorem dX12_ribbon_46 : decode cX12_ribbon 46 = .ok (.getfield 33, 3) := by decide +kernel
theorem dX12_ribbon_49 : decode cX12_ribbon 49 = .ok (.bipush 44, 2) := by decide +kernel
theorem dX12_ribbon_51 : decode cX12_ribbon 51 = .ok (.iload_n 1, 1) := by decide +kernel
theorem dX12_ribbon_52 : decode cX12_ribbon 52 = .ok (.iadd, 1) := by decide +kernel
theorem dX12_ribbon_53 : decode cX12_ribbon 53 = .ok (.iload_n 2, 1) := by decide +kernel
theorem dX12_ribbon_54 : decode cX12_ribbon 54 = .ok (.iastore, 1) := by decide +kernel
theorem dX12_ribbon_55 : decode cX12_ribbon 55 = .ok (.iconst 0, 1) := by decide +kernel
theorem dX12_ribbon_56 : decode cX12_ribbon 56 = .ok (.ireturn, 1) := by decide +kernel
set_option maxRecDepth 20000 in
theorem ggX12_clear_X12_whyClear : GoodIn wsX12_clear wsX12_whyClear := goodIn_r _ [6, 7, 8, 9, 10, 5, 11, 12, 13, 14, 25, 26, 27, 28, 29, 30, 31, 32, 33, 34, 35, 36, 37, 38, 39, 40, 41, 42, 43, 44, 45, 46, 47, 48, 49, 50, 51, 52, 53, 54, 55, 56, 57, 58, 59, 60, 61, 62, 63, 64, 65, 66, 67, 68, 69, 70, 71, 72, 73] rfl rfl
set_option maxRecDepth 20000 in
theorem gX12_clear_X12_whyClear : GoodIn wsX12_clear (wsV RX12 300 RX12 yX12_whyClear wsX12_whyClear) := goodIn_app (goodIn_r _ [2, 3, 4, 5] rfl rfl) ggX12_clear_X12_whyClear
set_option maxRecDepth 20000 in
theorem ggX12_clear_X12_keep : GoodIn wsX12_clear wsX12_keep := goodIn_r _ [18, 19, 20, 7, 25, 26, 27, 28, 29, 30, 31, 32, 33, 34, 35, 36, 37, 38, 39, 40, 41, 42, 43, 44, 45, 46, 47, 48, 49, 50, 51, 52, 53, 54, 55, 56, 57, 58, 59, 60, 61, 62, 63, 64, 65, 66, 67, 68, 69, 70, 71, 72, 73] rfl rfl
set_option maxRecDepth 20000 in
theorem gX12_clear_X12_keep : GoodIn wsX12_clear (wsV RX12 294 RX12 yX12_keep wsX12_keep) := goodIn_app (goodIn_r _ [15, 16, 17, 5] rfl rfl) ggX12_clear_X12_keep
set_option maxRecDepth 20000 in
theorem ggX12_clear_X12_evens : GoodIn wsX12_clear wsX12_evens := goodIn_r _ [24, 7, 8, 9, 10, 5, 11, 12, 13, 14, 25, 26, 27, 28, 29, 30, 31, 32, 33, 34, 35, 36, 37, 38, 39, 40, 41, 42, 43, 44, 45, 46, 47, 48, 49, 50, 51, 52, 53, 54, 55, 56, 57, 58, 59, 60, 61, 62, 63, 64, 65, 66, 67, 68, 69, 70, 71, 72, 73] rfl rfl
set_option maxRecDepth 20000 in
theorem gX12_clear_X12_evens : GoodIn wsX12_clear (wsV RX12 303 RX12 yX12_evens wsX12_evens) := goodIn_app (goodIn_r _ [21, 22, 23, 5] rfl rfl) ggX12_clear_X12_evens
theorem dX12_clear_0 : decode cX12_clear 0 = .ok (.aload_n 0, 1) := by decide +kernel
theorem dX12_clear_1 : decode cX12_clear 1 = .ok (.iconst 0, 1) := by decide +kernel
theorem dX12_clear_2 : decode cX12_clear 2 = .ok (.putfield 1, 3) := by decide +kernel
theorem dX12_clear_5 : decode cX12_clear 5 = .ok (.aload_n 0, 1) := by decide +kernel
theorem dX12_clear_6 : decode cX12_clear 6 = .ok (.invokevirtual 300, 3) := by decide +kernel
theorem dX12_clear_9 : decode cX12_clear 9 = .ok (.ifCond .le 5, 3) := by decide +kernel
theorem dX12_clear_12 : decode cX12_clear 12 = .ok (.iconst 1, 1) := by decide +kernel
theorem dX12_clear_13 : decode cX12_clear 13 = .ok (.ireturn, 1) := by decide +kernel
theorem dX12_clear_14 : decode cX12_clear 14 = .ok (.aload_n 0, 1) := by decide +kernel
theorem dX12_clear_15 : decode cX12_clear 15 = .ok (.invokevirtual 294, 3) := by decide +kernel
theorem dX12_clear_18 : decode cX12_clear 18 = .ok (.aload_n 0, 1) := by decide +kernel
theorem dX12_clear_19 : decode cX12_clear 19 = .ok (.invokevirtual 303, 3) := by decide +kernel
theorem dX12_clear_22 : decode cX12_clear 22 = .ok (.iconst 0, 1) := by decide +kernel
theorem dX12_clear_23 : decode cX12_clear 23 = .ok (.ireturn, 1) := by decide +kernel
set_option maxRecDepth 20000 in
theorem ggX12_days_X12_isIn : GoodIn wsX12_days wsX12_isIn := goodIn_r _ [6] rfl rfl
set_option maxRecDepth 20000 in
theorem gX12_days_X12_isIn : GoodIn wsX12_days (va_wsS RX12 186 yX12_isIn wsX12_isIn) := goodIn_app (goodIn_r _ [3, 4, 5] rfl rfl) ggX12_days_X12_isIn
set_option maxRecDepth 20000 in
theorem ggX12_days_X12_keep : GoodIn wsX12_days wsX12_keep := goodIn_r _ [10, 11, 12, 2, 47, 48, 49, 50, 51, 52, 53, 54, 55, 56, 57, 58, 59, 60, 61, 62, 63, 64, 65, 66, 67, 68, 69, 70, 71, 72, 73, 74, 75, 76, 77, 78, 79, 80, 81, 82, 83, 84, 85, 86, 87, 88, 89, 90, 91, 92, 93, 94, 95] rfl rfl
set_option maxRecDepth 20000 in
theorem gX12_days_X12_keep : GoodIn wsX12_days (wsV RX12 294 RX12 yX12_keep wsX12_keep) := goodIn_app (goodIn_r _ [7, 8, 9, 5] rfl rfl) ggX12_days_X12_keep
set_option maxRecDepth 20000 in
theorem ggX12_days_X12_goesOn : GoodIn wsX12_days wsX12_goesOn := goodIn_r _ [16, 2, 17, 18, 19, 5, 20, 21, 22, 23, 24, 25, 26, 27, 28, 29, 30, 31, 32, 33, 34, 35, 36, 37, 38, 39, 40, 41, 42, 43, 44, 45, 46, 47, 48, 49, 50, 51, 52, 53, 54, 55, 56, 57, 58, 59, 60, 61, 62, 63, 64, 65, 66, 67, 68, 69, 70, 71, 72, 73, 74, 75, 76, 77, 78, 79, 80, 81, 82, 83, 84, 85, 86, 87, 88, 89, 90, 91, 92, 93, 94, 95] rfl rfl
set_option maxRecDepth 20000 in
theorem gX12_days_X12_goesOn : GoodIn wsX12_days (wsV RX12 306 RX12 yX12_goesOn wsX12_goesOn) := goodIn_app (goodIn_r _ [13, 14, 15, 5] rfl rfl) ggX12_days_X12_goesOn
theorem dX12_days_0 : decode cX12_days 0 = .ok (.aload_n 0, 1) := by decide +kernel
theorem dX12_days_1 : decode cX12_days 1 = .ok (.iconst 0, 1) := by decide +kernel
theorem dX12_days_2 : decode cX12_days 2 = .ok (.putfield 1, 3) := by decide +kernel
theorem dX12_days_5 : decode cX12_days 5 = .ok (.iload_n 1, 1) := by decide +kernel
theorem dX12_days_6 : decode cX12_days 6 = .ok (.iconst 1, 1) := by decide +kernel
theorem dX12_days_7 : decode cX12_days 7 = .ok (.bipush 60, 2) := by decide +kernel
theorem dX12_days_9 : decode cX12_days 9 = .ok (.invokestatic 186, 3) := by decide +kernel
theorem dX12_days_12 : decode cX12_days 12 = .ok (.ifCond .ne 5, 3) := by decide +kernel
theorem dX12_days_15 : decode cX12_days 15 = .ok (.iconst (-1), 1) := by decide +kernel
theorem dX12_days_16 : decode cX12_days 16 = .ok (.ireturn, 1) := by decide +kernel
theorem dX12_days_17 : decode cX12_days 17 = .ok (.aload_n 0, 1) := by decide +kernel
theorem dX12_days_18 : decode cX12_days 18 = .ok (.getfield 33, 3) := by decide +kernel
theorem dX12_days_21 : decode cX12_days 21 = .ok (.bipush 39, 2) := by decide +kernel
theorem dX12_days_23 : decode cX12_days 23 = .ok (.iaload, 1) := by decide +kernel
theorem dX12_days_24 : decode cX12_days 24 = .ok (.sipush 400, 3) := by decide +kernel
theorem dX12_days_27 : decode cX12_days 27 = .ok (.if_icmp .ne 5, 3) := by decide +kernel
theorem dX12_days_30 : decode cX12_days 30 = .ok (.iconst 0, 1) := by decide +kernel
theorem dX12_days_31 : decode cX12_days 31 = .ok (.ireturn, 1) := by decide +kernel
theorem dX12_days_32 : decode cX12_days 32 = .ok (.aload_n 0, 1) := by decide +kernel
theorem dX12_days_33 : decode cX12_days 33 = .ok (.invokevirtual 294, 3) := by decide +kernel
theorem dX12_days_36 : decode cX12_days 36 = .ok (.aload_n 0, 1) := by decide +kernel
theorem dX12_days_37 : decode cX12_days 37 = .ok (.iload_n 1, 1) := by decide +kernel
theorem dX12_days_38 : decode cX12_days 38 = .ok (.invokevirtual 306, 3) := by decide +kernel
theorem dX12_days_41 : decode cX12_days 41 = .ok (.ireturn, 1) := by decide +kernel
theorem dX12_keep_0 : decode cX12_keep 0 = .ok (.aload_n 0, 1) := by decide +kernel
theorem dX12_keep_1 : decode cX12_keep 1 = .ok (.getfield 248, 3) := by decide +kernel
theorem dX12_keep_4 : decode cX12_keep 4 = .ok (.bipush 8, 2) := by decide +kernel
theorem dX12_keep_6 : decode cX12_keep 6 = .ok (.if_icmp .ne 39, 3) := by decide +kernel
theorem dX12_keep_9 : decode cX12_keep 9 = .ok (.iconst 0, 1) := by decide +kernel
theorem dX12_keep_10 : decode cX12_keep 10 = .ok (.istore_n 1, 1) := by decide +kernel
theorem dX12_keep_11 : decode cX12_keep 11 = .ok (.iload_n 1, 1) := by decide +kernel
theorem dX12_keep_12 : decode cX12_keep 12 = .ok (.sipush 413, 3) := by decide +kernel
theorem dX12_keep_15 : decode cX12_keep 15 = .ok (.if_icmp .ge 24, 3) := by decide +kernel
theorem dX12_keep_18 : decode cX12_keep 18 = .ok (.aload_n 0, 1) := by decide +kernel
theorem dX12_keep_19 : decode cX12_keep 19 = .ok (.getfield 50, 3) := by decide +kernel
theorem dX12_keep_22 : decode cX12_keep 22 = .ok (.iload_n 1, 1) := by decide +kernel
theorem dX12_keep_23 : decode cX12_keep 23 = .ok (.aload_n 0, 1) := by decide +kernel
theorem dX12_keep_24 : decode cX12_keep 24 = .ok (.getfield 50, 3) := by decide +kernel
theorem dX12_keep_27 : decode cX12_keep 27 = .ok (.iload_n 1, 1) := by decide +kernel
theorem dX12_keep_28 : decode cX12_keep 28 = .ok (.bipush 59, 2) := by decide +kernel
theorem dX12_keep_30 : decode cX12_keep 30 = .ok (.iadd, 1) := by decide +kernel
theorem dX12_keep_31 : decode cX12_keep 31 = .ok (.iaload, 1) := by decide +kernel
theorem dX12_keep_32 : decode cX12_keep 32 = .ok (.iastore, 1) := by decide +kernel
theorem dX12_keep_33 : decode cX12_keep 33 = .ok (.iinc 1 1, 3) := by decide +kernel
theorem dX12_keep_36 : decode cX12_keep 36 = .ok (.goto (-25), 3) := by decide +kernel
theorem dX12_keep_39 : decode cX12_keep 39 = .ok (.aload_n 0, 1) := by decide +kernel
theorem dX12_keep_40 : decode cX12_keep 40 = .ok (.bipush 7, 2) := by decide +kernel
theorem dX12_keep_42 : decode cX12_keep 42 = .ok (.putfield 248, 3) := by decide +kernel
theorem dX12_keep_45 : decode cX12_keep 45 = .ok (.iconst 0, 1) := by decide +kernel
theorem dX12_keep_46 : decode cX12_keep 46 = .ok (.istore_n 1, 1) := by decide +kernel
theorem dX12_keep_47 : decode cX12_keep 47 = .ok (.iload_n 1, 1) := by decide +kernel
theorem dX12_keep_48 : decode cX12_keep 48 = .ok (.bipush 59, 2) := by decide +kernel
theorem dX12_keep_50 : decode cX12_keep 50 = .ok (.if_icmp .ge 32, 3) := by decide +kernel
theorem dX12_keep_53 : decode cX12_keep 53 = .ok (.aload_n 0, 1) := by decide +kernel
theorem dX12_keep_54 : decode cX12_keep 54 = .ok (.getfield 50, 3) := by decide +kernel
theorem dX12_keep_57 : decode cX12_keep 57 = .ok (.bipush 59, 2) := by decide +kernel
theorem dX12_keep_59 : decode cX12_keep 59 = .ok (.aload_n 0, 1) := by decide +kernel
theorem dX12_keep_60 : decode cX12_keep 60 = .ok (.getfield 248, 3) := by decide +kernel
theorem dX12_keep_63 : decode cX12_keep 63 = .ok (.imul, 1) := by decide +kernel
theorem dX12_keep_64 : decode cX12_keep 64 = .ok (.iload_n 1, 1) := by decide +kernel
theorem dX12_keep_65 : decode cX12_keep 65 = .ok (.iadd, 1) := by decide +kernel
theorem dX12_keep_66 : decode cX12_keep 66 = .ok (.aload_n 0, 1) := by decide +kernel
theorem dX12_keep_67 : decode cX12_keep 67 = .ok (.getfield 33, 3) := by decide +kernel
theorem dX12_keep_70 : decode cX12_keep 70 = .ok (.bipush 39, 2) := by decide +kernel
theorem dX12_keep_72 : decode cX12_keep 72 = .ok (.iload_n 1, 1) := by decide +kernel
theorem dX12_keep_73 : decode cX12_keep 73 = .ok (.iadd, 1) := by decide +kernel
theorem dX12_keep_74 : decode cX12_keep 74 = .ok (.iaload, 1) := by decide +kernel
theorem dX12_keep_75 : decode cX12_keep 75 = .ok (.iastore, 1) := by decide +kernel
theorem dX12_keep_76 : decode cX12_keep 76 = .ok (.iinc 1 1, 3) := by decide +kernel
theorem dX12_keep_79 : decode cX12_keep 79 = .ok (.goto (-32), 3) := by decide +kernel
theorem dX12_keep_82 : decode cX12_keep 82 = .ok (.aload_n 0, 1) := by decide +kernel
theorem dX12_keep_83 : decode cX12_keep 83 = .ok (.dup, 1) := by decide +kernel
theorem dX12_keep_84 : decode cX12_keep 84 = .ok (.getfield 248, 3) := by decide +kernel
theorem dX12_keep_87 : decode cX12_keep 87 = .ok (.iconst 1, 1) := by decide +kernel
theorem dX12_keep_88 : decode cX12_keep 88 = .ok (.iadd, 1) := by decide +kernel
theorem dX12_keep_89 : decode cX12_keep 89 = .ok (.putfield 248, 3) := by decide +kernel
theorem dX12_keep_92 : decode cX12_keep 92 = .ok (.return_, 1) := by decide +kernel
theorem dX12_undo_0 : decode cX12_undo 0 = .ok (.aload_n 0, 1) := by decide +kernel
theorem dX12_undo_1 : decode cX12_undo 1 = .ok (.iconst 0, 1) := by decide +kernel
theorem dX12_undo_2 : decode cX12_undo 2 = .ok (.putfield 1, 3) := by decide +kernel
theorem dX12_undo_5 : decode cX12_undo 5 = .ok (.aload_n 0, 1) := by decide +kernel
theorem dX12_undo_6 : decode cX12_undo 6 = .ok (.getfield 248, 3) := by decide +kernel
theorem dX12_undo_9 : decode cX12_undo 9 = .ok (.ifCond .ne 5, 3) := by decide +kernel
theorem dX12_undo_12 : decode cX12_undo 12 = .ok (.iconst (-1), 1) := by decide +kernel
theorem dX12_undo_13 : decode cX12_undo 13 = .ok (.ireturn, 1) := by decide +kernel
theorem dX12_undo_14 : decode cX12_undo 14 = .ok (.aload_n 0, 1) := by decide +kernel
theorem dX12_undo_15 : decode cX12_undo 15 = .ok (.dup, 1) := by decide +kernel
theorem dX12_undo_16 : decode cX12_undo 16 = .ok (.getfield 248, 3) := by decide +kernel
theorem dX12_undo_19 : decode cX12_undo 19 = .ok (.iconst 1, 1) := by decide +kernel
theorem dX12_undo_20 : decode cX12_undo 20 = .ok (.isub, 1) := by decide +kernel
theorem dX12_undo_21 : decode cX12_undo 21 = .ok (.putfield 248, 3) := by decide +kernel
theorem dX12_undo_24 : decode cX12_undo 24 = .ok (.iconst 0, 1) := by decide +kernel
theorem dX12_undo_25 : decode cX12_undo 25 = .ok (.istore_n 1, 1) := by decide +kernel
theorem dX12_undo_26 : decode cX12_undo 26 = .ok (.iload_n 1, 1) := by decide +kernel
theorem dX12_undo_27 : decode cX12_undo 27 = .ok (.bipush 59, 2) := by decide +kernel
theorem dX12_undo_29 : decode cX12_undo 29 = .ok (.if_icmp .ge 32, 3) := by decide +kernel
theorem dX12_undo_32 : decode cX12_undo 32 = .ok (.aload_n 0, 1) := by decide +kernel
theorem dX12_undo_33 : decode cX12_undo 33 = .ok (.getfield 33, 3) := by decide +kernel
theorem dX12_undo_36 : decode cX12_undo 36 = .ok (.bipush 39, 2) := by decide +kernel
theorem dX12_undo_38 : decode cX12_undo 38 = .ok (.iload_n 1, 1) := by decide +kernel
theorem dX12_undo_39 : decode cX12_undo 39 = .ok (.iadd, 1) := by decide +kernel
theorem dX12_undo_40 : decode cX12_undo 40 = .ok (.aload_n 0, 1) := by decide +kernel
theorem dX12_undo_41 : decode cX12_undo 41 = .ok (.getfield 50, 3) := by decide +kernel
theorem dX12_undo_44 : decode cX12_undo 44 = .ok (.bipush 59, 2) := by decide +kernel
theorem dX12_undo_46 : decode cX12_undo 46 = .ok (.aload_n 0, 1) := by decide +kernel
theorem dX12_undo_47 : decode cX12_undo 47 = .ok (.getfield 248, 3) := by decide +kernel
theorem dX12_undo_50 : decode cX12_undo 50 = .ok (.imul, 1) := by decide +kernel
theorem dX12_undo_51 : decode cX12_undo 51 = .ok (.iload_n 1, 1) := by decide +kernel
theorem dX12_undo_52 : decode cX12_undo 52 = .ok (.iadd, 1) := by decide +kernel
theorem dX12_undo_53 : decode cX12_undo 53 = .ok (.iaload, 1) := by decide +kernel
theorem dX12_undo_54 : decode cX12_undo 54 = .ok (.iastore, 1) := by decide +kernel
theorem dX12_undo_55 : decode cX12_undo 55 = .ok (.iinc 1 1, 3) := by decide +kernel
theorem dX12_undo_58 : decode cX12_undo 58 = .ok (.goto (-32), 3) := by decide +kernel
theorem dX12_undo_61 : decode cX12_undo 61 = .ok (.aload_n 0, 1) := by decide +kernel
theorem dX12_undo_62 : decode cX12_undo 62 = .ok (.getfield 248, 3) := by decide +kernel
theorem dX12_undo_65 : decode cX12_undo 65 = .ok (.ireturn, 1) := by decide +kernel
theorem dX12_tries_0 : decode cX12_tries 0 = .ok (.iconst 0, 1) := by decide +kernel
theorem dX12_tries_1 : decode cX12_tries 1 = .ok (.istore_n 1, 1) := by decide +kernel
theorem dX12_tries_2 : decode cX12_tries 2 = .ok (.iload_n 1, 1) := by decide +kernel
theorem dX12_tries_3 : decode cX12_tries 3 = .ok (.bipush 59, 2) := by decide +kernel
theorem dX12_tries_5 : decode cX12_tries 5 = .ok (.if_icmp .ge 24, 3) := by decide +kernel
theorem dX12_tries_8 : decode cX12_tries 8 = .ok (.aload_n 0, 1) := by decide +kernel
theorem dX12_tries_9 : decode cX12_tries 9 = .ok (.getfield 53, 3) := by decide +kernel
theorem dX12_tries_12 : decode cX12_tries 12 = .ok (.iload_n 1, 1) := by decide +kernel
theorem dX12_tries_13 : decode cX12_tries 13 = .ok (.aload_n 0, 1) := by decide +kernel
theorem dX12_tries_14 : decode cX12_tries 14 = .ok (.getfield 33, 3) := by decide +kernel
theorem dX12_tries_17 : decode cX12_tries 17 = .ok (.bipush 39, 2) := by decide +kernel
theorem dX12_tries_19 : decode cX12_tries 19 = .ok (.iload_n 1, 1) := by decide +kernel
theorem dX12_tries_20 : decode cX12_tries 20 = .ok (.iadd, 1) := by decide +kernel
theorem dX12_tries_21 : decode cX12_tries 21 = .ok (.iaload, 1) := by decide +kernel
theorem dX12_tries_22 : decode cX12_tries 22 = .ok (.iastore, 1) := by decide +kernel
theorem dX12_tries_23 : decode cX12_tries 23 = .ok (.iinc 1 1, 3) := by decide +kernel
theorem dX12_tries_26 : decode cX12_tries 26 = .ok (.goto (-24), 3) := by decide +kernel
theorem dX12_tries_29 : decode cX12_tries 29 = .ok (.return_, 1) := by decide +kernel
theorem dX12_back_0 : decode cX12_back 0 = .ok (.iconst 0, 1) := by decide +kernel
theorem dX12_back_1 : decode cX12_back 1 = .ok (.istore_n 1, 1) := by decide +kernel
theorem dX12_back_2 : decode cX12_back 2 = .ok (.iload_n 1, 1) := by decide +kernel
theorem dX12_back_3 : decode cX12_back 3 = .ok (.bipush 59, 2) := by decide +kernel
theorem dX12_back_5 : decode cX12_back 5 = .ok (.if_icmp .ge 24, 3) := by decide +kernel
theorem dX12_back_8 : decode cX12_back 8 = .ok (.aload_n 0, 1) := by decide +kernel
theorem dX12_back_9 : decode cX12_back 9 = .ok (.getfield 33, 3) := by decide +kernel
theorem dX12_back_12 : decode cX12_back 12 = .ok (.bipush 39, 2) := by decide +kernel
theorem dX12_back_14 : decode cX12_back 14 = .ok (.iload_n 1, 1) := by decide +kernel
theorem dX12_back_15 : decode cX12_back 15 = .ok (.iadd, 1) := by decide +kernel
theorem dX12_back_16 : decode cX12_back 16 = .ok (.aload_n 0, 1) := by decide +kernel
theorem dX12_back_17 : decode cX12_back 17 = .ok (.getfield 53, 3) := by decide +kernel
theorem dX12_back_20 : decode cX12_back 20 = .ok (.iload_n 1, 1) := by decide +kernel
theorem dX12_back_21 : decode cX12_back 21 = .ok (.iaload, 1) := by decide +kernel
theorem dX12_back_22 : decode cX12_back 22 = .ok (.iastore, 1) := by decide +kernel
theorem dX12_back_23 : decode cX12_back 23 = .ok (.iinc 1 1, 3) := by decide +kernel
theorem dX12_back_26 : decode cX12_back 26 = .ok (.goto (-24), 3) := by decide +kernel
theorem dX12_back_29 : decode cX12_back 29 = .ok (.return_, 1) := by decide +kernel
set_option maxRecDepth 20000 in
theorem ggX12_canFollow_X12_isHeld : GoodIn wsX12_canFollow wsX12_isHeld := goodIn_r _ [6, 1, 7, 8, 5, 9, 14, 15, 16, 17, 18, 19, 20, 21, 22, 23, 24, 25, 26, 27, 28, 29, 30, 31, 32, 33, 34, 35, 36, 37, 38, 39, 40, 41, 42, 43, 44, 45, 46, 47, 48, 49, 50, 51, 52, 53, 54, 55, 56, 57, 58, 59, 60, 61, 62] rfl rfl
set_option maxRecDepth 20000 in
theorem gX12_canFollow_X12_isHeld : GoodIn wsX12_canFollow (wsV RX12 251 RX12 yX12_isHeld wsX12_isHeld) := goodIn_app (goodIn_r _ [2, 3, 4, 5] rfl rfl) ggX12_canFollow_X12_isHeld
set_option maxRecDepth 20000 in
theorem ggX12_canFollow_X12_bitOf : GoodIn wsX12_canFollow wsX12_bitOf := goodIn_r _ [9] rfl rfl
set_option maxRecDepth 20000 in
theorem gX12_canFollow_X12_bitOf : GoodIn wsX12_canFollow (va_wsS RX12 233 yX12_bitOf wsX12_bitOf) := goodIn_app (goodIn_r _ [7, 8, 5] rfl rfl) ggX12_canFollow_X12_bitOf
set_option maxRecDepth 20000 in
theorem ggX12_canFollow_X12_isAnswer : GoodIn wsX12_canFollow wsX12_isAnswer := goodIn_r _ [13, 1, 7, 8, 5, 9, 14, 15, 16, 17, 18, 19, 20, 21, 22, 23, 24, 25, 26, 27, 28, 29, 30, 31, 32, 33, 34, 35, 36, 37, 38, 39, 40, 41, 42, 43, 44, 45, 46, 47, 48, 49, 50, 51, 52, 53, 54, 55, 56, 57, 58, 59, 60, 61, 62] rfl rfl
set_option maxRecDepth 20000 in
theorem gX12_canFollow_X12_isAnswer : GoodIn wsX12_canFollow (wsV RX12 254 RX12 yX12_isAnswer wsX12_isAnswer) := goodIn_app (goodIn_r _ [10, 11, 12, 5] rfl rfl) ggX12_canFollow_X12_isAnswer
theorem dX12_canFollow_0 : decode cX12_canFollow 0 = .ok (.aload_n 0, 1) := by decide +kernel
theorem dX12_canFollow_1 : decode cX12_canFollow 1 = .ok (.iload_n 1, 1) := by decide +kernel
theorem dX12_canFollow_2 : decode cX12_canFollow 2 = .ok (.invokevirtual 251, 3) := by decide +kernel
theorem dX12_canFollow_5 : decode cX12_canFollow 5 = .ok (.ifCond .ne 43, 3) := by decide +kernel
theorem dX12_canFollow_8 : decode cX12_canFollow 8 = .ok (.iload_n 1, 1) := by decide +kernel
theorem dX12_canFollow_9 : decode cX12_canFollow 9 = .ok (.iload_n 3, 1) := by decide +kernel
theorem dX12_canFollow_10 : decode cX12_canFollow 10 = .ok (.if_icmp .eq 38, 3) := by decide +kernel
theorem dX12_canFollow_13 : decode cX12_canFollow 13 = .ok (.aload_n 0, 1) := by decide +kernel
theorem dX12_canFollow_14 : decode cX12_canFollow 14 = .ok (.getfield 33, 3) := by decide +kernel
theorem dX12_canFollow_17 : decode cX12_canFollow 17 = .ok (.bipush 9, 2) := by decide +kernel
theorem dX12_canFollow_19 : decode cX12_canFollow 19 = .ok (.iload_n 1, 1) := by decide +kernel
theorem dX12_canFollow_20 : decode cX12_canFollow 20 = .ok (.iadd, 1) := by decide +kernel
theorem dX12_canFollow_21 : decode cX12_canFollow 21 = .ok (.iaload, 1) := by decide +kernel
theorem dX12_canFollow_22 : decode cX12_canFollow 22 = .ok (.iload_n 2, 1) := by decide +kernel
theorem dX12_canFollow_23 : decode cX12_canFollow 23 = .ok (.invokestatic 233, 3) := by decide +kernel
theorem dX12_canFollow_26 : decode cX12_canFollow 26 = .ok (.ifCond .eq 22, 3) := by decide +kernel
theorem dX12_canFollow_29 : decode cX12_canFollow 29 = .ok (.iload 4, 2) := by decide +kernel
theorem dX12_canFollow_31 : decode cX12_canFollow 31 = .ok (.ifCond .lt 13, 3) := by decide +kernel
theorem dX12_canFollow_34 : decode cX12_canFollow 34 = .ok (.aload_n 0, 1) := by decide +kernel
theorem dX12_canFollow_35 : decode cX12_canFollow 35 = .ok (.iload_n 2, 1) := by decide +kernel
theorem dX12_canFollow_36 : decode cX12_canFollow 36 = .ok (.iload 4, 2) := by decide +kernel
theorem dX12_canFollow_38 : decode cX12_canFollow 38 = .ok (.invokevirtual 254, 3) := by decide +kernel
theorem dX12_canFollow_41 : decode cX12_canFollow 41 = .ok (.ifCond .eq 7, 3) := by decide +kernel
theorem dX12_canFollow_44 : decode cX12_canFollow 44 = .ok (.iconst 1, 1) := by decide +kernel
theorem dX12_canFollow_45 : decode cX12_canFollow 45 = .ok (.goto 4, 3) := by decide +kernel
theorem dX12_canFollow_48 : decode cX12_canFollow 48 = .ok (.iconst 0, 1) := by decide +kernel
theorem dX12_canFollow_49 : decode cX12_canFollow 49 = .ok (.ireturn, 1) := by decide +kernel
set_option maxRecDepth 20000 in
theorem ggX12_laysWants_X12_canFollow : GoodIn wsX12_laysWants wsX12_canFollow := goodIn_r _ [8, 3, 9, 10, 11, 7, 12, 13, 14, 15, 16, 17, 18, 19, 20, 21, 22, 23, 24, 25, 26, 27, 28, 29, 30, 31, 32, 33, 34, 35, 36, 37, 38, 39, 40, 41, 42, 43, 44, 45, 46, 47, 48, 49, 50, 51, 52, 53, 54, 55, 56, 57, 58, 59, 60, 61, 62, 63, 64, 65, 66, 67, 68] rfl rfl
set_option maxRecDepth 20000 in
theorem gX12_laysWants_X12_canFollow : GoodIn wsX12_laysWants (wsV RX12 310 RX12 yX12_canFollow wsX12_canFollow) := goodIn_app (goodIn_r _ [4, 5, 6, 7] rfl rfl) ggX12_laysWants_X12_canFollow
theorem dX12_laysWants_0 : decode cX12_laysWants 0 = .ok (.iconst 0, 1) := by decide +kernel
theorem dX12_laysWants_1 : decode cX12_laysWants 1 = .ok (.istore_n 2, 1) := by decide +kernel
theorem dX12_laysWants_2 : decode cX12_laysWants 2 = .ok (.iload_n 2, 1) := by decide +kernel
theorem dX12_laysWants_3 : decode cX12_laysWants 3 = .ok (.bipush 48, 2) := by decide +kernel
theorem dX12_laysWants_5 : decode cX12_laysWants 5 = .ok (.if_icmp .ge 30, 3) := by decide +kernel
theorem dX12_laysWants_8 : decode cX12_laysWants 8 = .ok (.aload_n 0, 1) := by decide +kernel
theorem dX12_laysWants_9 : decode cX12_laysWants 9 = .ok (.getfield 56, 3) := by decide +kernel
theorem dX12_laysWants_12 : decode cX12_laysWants 12 = .ok (.iload_n 2, 1) := by decide +kernel
theorem dX12_laysWants_13 : decode cX12_laysWants 13 = .ok (.iload_n 2, 1) := by decide +kernel
theorem dX12_laysWants_14 : decode cX12_laysWants 14 = .ok (.bipush 8, 2) := by decide +kernel
theorem dX12_laysWants_16 : decode cX12_laysWants 16 = .ok (.irem, 1) := by decide +kernel
theorem dX12_laysWants_17 : decode cX12_laysWants 17 = .ok (.iload_n 1, 1) := by decide +kernel
theorem dX12_laysWants_18 : decode cX12_laysWants 18 = .ok (.if_icmp .ne 7, 3) := by decide +kernel
theorem dX12_laysWants_21 : decode cX12_laysWants 21 = .ok (.iconst 0, 1) := by decide +kernel
theorem dX12_laysWants_22 : decode cX12_laysWants 22 = .ok (.goto 6, 3) := by decide +kernel
theorem dX12_laysWants_25 : decode cX12_laysWants 25 = .ok (.ldc_w 309, 3) := by decide +kernel
theorem dX12_laysWants_28 : decode cX12_laysWants 28 = .ok (.iastore, 1) := by decide +kernel
theorem dX12_laysWants_29 : decode cX12_laysWants 29 = .ok (.iinc 2 1, 3) := by decide +kernel
theorem dX12_laysWants_32 : decode cX12_laysWants 32 = .ok (.goto (-30), 3) := by decide +kernel
theorem dX12_laysWants_35 : decode cX12_laysWants 35 = .ok (.iconst 1, 1) := by decide +kernel
theorem dX12_laysWants_36 : decode cX12_laysWants 36 = .ok (.istore_n 2, 1) := by decide +kernel
theorem dX12_laysWants_37 : decode cX12_laysWants 37 = .ok (.iload_n 2, 1) := by decide +kernel
theorem dX12_laysWants_38 : decode cX12_laysWants 38 = .ok (.ifCond .eq 115, 3) := by decide +kernel
theorem dX12_laysWants_41 : decode cX12_laysWants 41 = .ok (.iconst 0, 1) := by decide +kernel
theorem dX12_laysWants_42 : decode cX12_laysWants 42 = .ok (.istore_n 2, 1) := by decide +kernel
theorem dX12_laysWants_43 : decode cX12_laysWants 43 = .ok (.iconst 0, 1) := by decide +kernel
theorem dX12_laysWants_44 : decode cX12_laysWants 44 = .ok (.istore_n 3, 1) := by decide +kernel
theorem dX12_laysWants_45 : decode cX12_laysWants 45 = .ok (.iload_n 3, 1) := by decide +kernel
theorem dX12_laysWants_46 : decode cX12_laysWants 46 = .ok (.bipush 48, 2) := by decide +kernel
theorem dX12_laysWants_48 : decode cX12_laysWants 48 = .ok (.if_icmp .ge 102, 3) := by decide +kernel
theorem dX12_laysWants_51 : decode cX12_laysWants 51 = .ok (.iconst 0, 1) := by decide +kernel
theorem dX12_laysWants_52 : decode cX12_laysWants 52 = .ok (.istore 4, 2) := by decide +kernel
theorem dX12_laysWants_54 : decode cX12_laysWants 54 = .ok (.iload 4, 2) := by decide +kernel
theorem dX12_laysWants_56 : decode cX12_laysWants 56 = .ok (.bipush 48, 2) := by decide +kernel
theorem dX12_laysWants_58 : decode cX12_laysWants 58 = .ok (.if_icmp .ge 86, 3) := by decide +kernel
theorem dX12_laysWants_61 : decode cX12_laysWants 61 = .ok (.aload_n 0, 1) := by decide +kernel
theorem dX12_laysWants_62 : decode cX12_laysWants 62 = .ok (.getfield 56, 3) := by decide +kernel
theorem dX12_laysWants_65 : decode cX12_laysWants 65 = .ok (.iload 4, 2) := by decide +kernel
theorem dX12_laysWants_67 : decode cX12_laysWants 67 = .ok (.iaload, 1) := by decide +kernel
theorem dX12_laysWants_68 : decode cX12_laysWants 68 = .ok (.iconst 1, 1) := by decide +kernel
theorem dX12_laysWants_69 : decode cX12_laysWants 69 = .ok (.iadd, 1) := by decide +kernel
theorem dX12_laysWants_70 : decode cX12_laysWants 70 = .ok (.aload_n 0, 1) := by decide +kernel
theorem dX12_laysWants_71 : decode cX12_laysWants 71 = .ok (.getfield 56, 3) := by decide +kernel
theorem dX12_laysWants_74 : decode cX12_laysWants 74 = .ok (.iload_n 3, 1) := by decide +kernel
theorem dX12_laysWants_75 : decode cX12_laysWants 75 = .ok (.iaload, 1) := by decide +kernel
theorem dX12_laysWants_76 : decode cX12_laysWants 76 = .ok (.if_icmp .ge 62, 3) := by decide +kernel
theorem dX12_laysWants_79 : decode cX12_laysWants 79 = .ok (.iload 4, 2) := by decide +kernel
theorem dX12_laysWants_81 : decode cX12_laysWants 81 = .ok (.bipush 8, 2) := by decide +kernel
theorem dX12_laysWants_83 : decode cX12_laysWants 83 = .ok (.idiv, 1) := by decide +kernel
theorem dX12_laysWants_84 : decode cX12_laysWants 84 = .ok (.aload_n 0, 1) := by decide +kernel
theorem dX12_laysWants_85 : decode cX12_laysWants 85 = .ok (.getfield 33, 3) := by decide +kernel
theorem dX12_laysWants_88 : decode cX12_laysWants 88 = .ok (.iconst 0, 1) := by decide +kernel
theorem dX12_laysWants_89 : decode cX12_laysWants 89 = .ok (.iaload, 1) := by decide +kernel
theorem dX12_laysWants_90 : decode cX12_laysWants 90 = .ok (.if_icmp .ge 48, 3) := by decide +kernel
theorem dX12_laysWants_93 : decode cX12_laysWants 93 = .ok (.aload_n 0, 1) := by decide +kernel
theorem dX12_laysWants_94 : decode cX12_laysWants 94 = .ok (.iload 4, 2) := by decide +kernel
theorem dX12_laysWants_96 : decode cX12_laysWants 96 = .ok (.bipush 8, 2) := by decide +kernel
theorem dX12_laysWants_98 : decode cX12_laysWants 98 = .ok (.idiv, 1) := by decide +kernel
theorem dX12_laysWants_99 : decode cX12_laysWants 99 = .ok (.iload 4, 2) := by decide +kernel
theorem dX12_laysWants_101 : decode cX12_laysWants 101 = .ok (.bipush 8, 2) := by decide +kernel
theorem dX12_laysWants_103 : decode cX12_laysWants 103 = .ok (.irem, 1) := by decide +kernel
theorem dX12_laysWants_104 : decode cX12_laysWants 104 = .ok (.iload_n 3, 1) := by decide +kernel
theorem dX12_laysWants_105 : decode cX12_laysWants 105 = .ok (.bipush 8, 2) := by decide +kernel
theorem dX12_laysWants_107 : decode cX12_laysWants 107 = .ok (.idiv, 1) := by decide +kernel
theorem dX12_laysWants_108 : decode cX12_laysWants 108 = .ok (.iload_n 3, 1) := by decide +kernel
theorem dX12_laysWants_109 : decode cX12_laysWants 109 = .ok (.bipush 8, 2) := by decide +kernel
theorem dX12_laysWants_111 : decode cX12_laysWants 111 = .ok (.irem, 1) := by decide +kernel
theorem dX12_laysWants_112 : decode cX12_laysWants 112 = .ok (.invokevirtual 310, 3) := by decide +kernel
theorem dX12_laysWants_115 : decode cX12_laysWants 115 = .ok (.ifCond .ne 6, 3) := by decide +kernel
theorem dX12_laysWants_118 : decode cX12_laysWants 118 = .ok (.goto 20, 3) := by decide +kernel
theorem dX12_laysWants_121 : decode cX12_laysWants 121 = .ok (.aload_n 0, 1) := by decide +kernel
theorem dX12_laysWants_122 : decode cX12_laysWants 122 = .ok (.getfield 56, 3) := by decide +kernel
theorem dX12_laysWants_125 : decode cX12_laysWants 125 = .ok (.iload_n 3, 1) := by decide +kernel
theorem dX12_laysWants_126 : decode cX12_laysWants 126 = .ok (.aload_n 0, 1) := by decide +kernel
theorem dX12_laysWants_127 : decode cX12_laysWants 127 = .ok (.getfield 56, 3) := by decide +kernel
theorem dX12_laysWants_130 : decode cX12_laysWants 130 = .ok (.iload 4, 2) := by decide +kernel
theorem dX12_laysWants_132 : decode cX12_laysWants 132 = .ok (.iaload, 1) := by decide +kernel
theorem dX12_laysWants_133 : decode cX12_laysWants 133 = .ok (.iconst 1, 1) := by decide +kernel
theorem dX12_laysWants_134 : decode cX12_laysWants 134 = .ok (.iadd, 1) := by decide +kernel
theorem dX12_laysWants_135 : decode cX12_laysWants 135 = .ok (.iastore, 1) := by decide +kernel
theorem dX12_laysWants_136 : decode cX12_laysWants 136 = .ok (.iconst 1, 1) := by decide +kernel
theorem dX12_laysWants_137 : decode cX12_laysWants 137 = .ok (.istore_n 2, 1) := by decide +kernel
theorem dX12_laysWants_138 : decode cX12_laysWants 138 = .ok (.iinc 4 1, 3) := by decide +kernel
theorem dX12_laysWants_141 : decode cX12_laysWants 141 = .ok (.goto (-87), 3) := by decide +kernel
theorem dX12_laysWants_144 : decode cX12_laysWants 144 = .ok (.iinc 3 1, 3) := by decide +kernel
theorem dX12_laysWants_147 : decode cX12_laysWants 147 = .ok (.goto (-102), 3) := by decide +kernel
theorem dX12_laysWants_150 : decode cX12_laysWants 150 = .ok (.goto (-113), 3) := by decide +kernel
theorem dX12_laysWants_153 : decode cX12_laysWants 153 = .ok (.return_, 1) := by decide +kernel
set_option maxRecDepth 20000 in
theorem ggX12_followBy_X12_canFollow : GoodIn wsX12_followBy wsX12_canFollow := goodIn_r _ [7, 1, 8, 9, 10, 6, 11, 12, 13, 14, 15, 16, 17, 18, 19, 20, 21, 22, 23, 24, 25, 26, 27, 28, 29, 30, 31, 32, 33, 34, 35, 36, 37, 38, 39, 40, 41, 42, 43, 44, 45, 46, 47, 48, 49, 50, 51, 52, 53, 54, 55, 56, 57, 58, 59, 60, 61, 62, 63, 64, 65, 66, 67] rfl rfl
set_option maxRecDepth 20000 in
theorem gX12_followBy_X12_canFollow : GoodIn wsX12_followBy (wsV RX12 310 RX12 yX12_canFollow wsX12_canFollow) := goodIn_app (goodIn_r _ [3, 4, 5, 6] rfl rfl) ggX12_followBy_X12_canFollow
theorem dX12_followBy_0 : decode cX12_followBy 0 = .ok (.iconst 0, 1) := by decide +kernel
theorem dX12_followBy_1 : decode cX12_followBy 1 = .ok (.istore 4, 2) := by decide +kernel
theorem dX12_followBy_3 : decode cX12_followBy 3 = .ok (.iload 4, 2) := by decide +kernel
theorem dX12_followBy_5 : decode cX12_followBy 5 = .ok (.bipush 48, 2) := by decide +kernel
theorem dX12_followBy_7 : decode cX12_followBy 7 = .ok (.if_icmp .ge 56, 3) := by decide +kernel
theorem dX12_followBy_10 : decode cX12_followBy 10 = .ok (.iload 4, 2) := by decide +kernel
theorem dX12_followBy_12 : decode cX12_followBy 12 = .ok (.bipush 8, 2) := by decide +kernel
theorem dX12_followBy_14 : decode cX12_followBy 14 = .ok (.idiv, 1) := by decide +kernel
theorem dX12_followBy_15 : decode cX12_followBy 15 = .ok (.aload_n 0, 1) := by decide +kernel
theorem dX12_followBy_16 : decode cX12_followBy 16 = .ok (.getfield 33, 3) := by decide +kernel
theorem dX12_followBy_19 : decode cX12_followBy 19 = .ok (.iconst 0, 1) := by decide +kernel
theorem dX12_followBy_20 : decode cX12_followBy 20 = .ok (.iaload, 1) := by decide +kernel
theorem dX12_followBy_21 : decode cX12_followBy 21 = .ok (.if_icmp .ge 36, 3) := by decide +kernel
theorem dX12_followBy_24 : decode cX12_followBy 24 = .ok (.aload_n 0, 1) := by decide +kernel
theorem dX12_followBy_25 : decode cX12_followBy 25 = .ok (.getfield 56, 3) := by decide +kernel
theorem dX12_followBy_28 : decode cX12_followBy 28 = .ok (.iload 4, 2) := by decide +kernel
theorem dX12_followBy_30 : decode cX12_followBy 30 = .ok (.iaload, 1) := by decide +kernel
theorem dX12_followBy_31 : decode cX12_followBy 31 = .ok (.iload_n 3, 1) := by decide +kernel
theorem dX12_followBy_32 : decode cX12_followBy 32 = .ok (.if_icmp .ne 25, 3) := by decide +kernel
theorem dX12_followBy_35 : decode cX12_followBy 35 = .ok (.aload_n 0, 1) := by decide +kernel
theorem dX12_followBy_36 : decode cX12_followBy 36 = .ok (.iload 4, 2) := by decide +kernel
theorem dX12_followBy_38 : decode cX12_followBy 38 = .ok (.bipush 8, 2) := by decide +kernel
theorem dX12_followBy_40 : decode cX12_followBy 40 = .ok (.idiv, 1) := by decide +kernel
theorem dX12_followBy_41 : decode cX12_followBy 41 = .ok (.iload 4, 2) := by decide +kernel
theorem dX12_followBy_43 : decode cX12_followBy 43 = .ok (.bipush 8, 2) := by decide +kernel
theorem dX12_followBy_45 : decode cX12_followBy 45 = .ok (.irem, 1) := by decide +kernel
theorem dX12_followBy_46 : decode cX12_followBy 46 = .ok (.iload_n 1, 1) := by decide +kernel
theorem dX12_followBy_47 : decode cX12_followBy 47 = .ok (.iload_n 2, 1) := by decide +kernel
theorem dX12_followBy_48 : decode cX12_followBy 48 = .ok (.invokevirtual 310, 3) := by decide +kernel
theorem dX12_followBy_51 : decode cX12_followBy 51 = .ok (.ifCond .eq 6, 3) := by decide +kernel
theorem dX12_followBy_54 : decode cX12_followBy 54 = .ok (.iload 4, 2) := by decide +kernel
theorem dX12_followBy_56 : decode cX12_followBy 56 = .ok (.ireturn, 1) := by decide +kernel
theorem dX12_followBy_57 : decode cX12_followBy 57 = .ok (.iinc 4 1, 3) := by decide +kernel
theorem dX12_followBy_60 : decode cX12_followBy 60 = .ok (.goto (-57), 3) := by decide +kernel
theorem dX12_followBy_63 : decode cX12_followBy 63 = .ok (.iconst (-1), 1) := by decide +kernel
theorem dX12_followBy_64 : decode cX12_followBy 64 = .ok (.ireturn, 1) := by decide +kernel
set_option maxRecDepth 20000 in
theorem ggX12_comes_X12_isPhrase : GoodIn wsX12_comes wsX12_isPhrase := goodIn_r _ [9, 2, 10, 11, 8, 12, 38, 39, 40, 41, 42, 43, 44, 45, 46, 47, 48, 49, 50, 51, 52, 53, 54, 55, 56, 57, 58, 59, 60, 61, 62, 63, 64, 65, 66, 67, 68, 69, 70, 71, 72, 73, 74, 75, 76, 77, 78, 79, 80, 81, 82, 83, 84, 85, 86] rfl rfl
set_option maxRecDepth 20000 in
theorem gX12_comes_X12_isPhrase : GoodIn wsX12_comes (wsV RX12 275 RX12 yX12_isPhrase wsX12_isPhrase) := goodIn_app (goodIn_r _ [5, 6, 7, 8] rfl rfl) ggX12_comes_X12_isPhrase
set_option maxRecDepth 20000 in
theorem ggX12_comes_X12_laysWants : GoodIn wsX12_comes wsX12_laysWants := goodIn_r _ [16, 17, 18, 2, 19, 20, 21, 8, 22, 23, 24, 25, 26, 27, 28, 29, 30, 31, 32, 33, 38, 39, 40, 41, 42, 43, 44, 45, 46, 47, 48, 49, 50, 51, 52, 53, 54, 55, 56, 57, 58, 59, 60, 61, 62, 63, 64, 65, 66, 67, 68, 69, 70, 71, 72, 73, 74, 75, 76, 77, 78, 79, 80, 81, 82, 83, 84, 85, 86] rfl rfl
set_option maxRecDepth 20000 in
theorem gX12_comes_X12_laysWants : GoodIn wsX12_comes (wsV RX12 314 RX12 yX12_laysWants wsX12_laysWants) := goodIn_app (goodIn_r _ [13, 14, 15, 8] rfl rfl) ggX12_comes_X12_laysWants
set_option maxRecDepth 20000 in
theorem ggX12_comes_X12_followBy : GoodIn wsX12_comes wsX12_followBy := goodIn_r _ [37, 2, 17, 19, 20, 21, 8, 22, 23, 24, 25, 26, 27, 28, 29, 30, 31, 32, 33, 38, 39, 40, 41, 42, 43, 44, 45, 46, 47, 48, 49, 50, 51, 52, 53, 54, 55, 56, 57, 58, 59, 60, 61, 62, 63, 64, 65, 66, 67, 68, 69, 70, 71, 72, 73, 74, 75, 76, 77, 78, 79, 80, 81, 82, 83, 84, 85, 86] rfl rfl
set_option maxRecDepth 20000 in
theorem gX12_comes_X12_followBy : GoodIn wsX12_comes (wsV RX12 317 RX12 yX12_followBy wsX12_followBy) := goodIn_app (goodIn_r _ [34, 35, 36, 8] rfl rfl) ggX12_comes_X12_followBy
theorem dX12_comes_0 : decode cX12_comes 0 = .ok (.aload_n 0, 1) := by decide +kernel
theorem dX12_comes_1 : decode cX12_comes 1 = .ok (.iconst 0, 1) := by decide +kernel
theorem dX12_comes_2 : decode cX12_comes 2 = .ok (.putfield 1, 3) := by decide +kernel
theorem dX12_comes_5 : decode cX12_comes 5 = .ok (.aload_n 0, 1) := by decide +kernel
theorem dX12_comes_6 : decode cX12_comes 6 = .ok (.iload_n 1, 1) := by decide +kernel
theorem dX12_comes_7 : decode cX12_comes 7 = .ok (.invokevirtual 275, 3) := by decide +kernel
theorem dX12_comes_10 : decode cX12_comes 10 = .ok (.ifCond .ne 5, 3) := by decide +kernel
theorem dX12_comes_13 : decode cX12_comes 13 = .ok (.iconst (-1), 1) := by decide +kernel
theorem dX12_comes_14 : decode cX12_comes 14 = .ok (.ireturn, 1) := by decide +kernel
theorem dX12_comes_15 : decode cX12_comes 15 = .ok (.aload_n 0, 1) := by decide +kernel
theorem dX12_comes_16 : decode cX12_comes 16 = .ok (.iload_n 1, 1) := by decide +kernel
theorem dX12_comes_17 : decode cX12_comes 17 = .ok (.invokevirtual 314, 3) := by decide +kernel
theorem dX12_comes_20 : decode cX12_comes 20 = .ok (.iconst 0, 1) := by decide +kernel
theorem dX12_comes_21 : decode cX12_comes 21 = .ok (.istore_n 2, 1) := by decide +kernel
theorem dX12_comes_22 : decode cX12_comes 22 = .ok (.iload_n 2, 1) := by decide +kernel
theorem dX12_comes_23 : decode cX12_comes 23 = .ok (.bipush 48, 2) := by decide +kernel
theorem dX12_comes_25 : decode cX12_comes 25 = .ok (.if_icmp .ge 35, 3) := by decide +kernel
theorem dX12_comes_28 : decode cX12_comes 28 = .ok (.aload_n 0, 1) := by decide +kernel
theorem dX12_comes_29 : decode cX12_comes 29 = .ok (.aload_n 0, 1) := by decide +kernel
theorem dX12_comes_30 : decode cX12_comes 30 = .ok (.getfield 33, 3) := by decide +kernel
theorem dX12_comes_33 : decode cX12_comes 33 = .ok (.bipush 41, 2) := by decide +kernel
theorem dX12_comes_35 : decode cX12_comes 35 = .ok (.iaload, 1) := by decide +kernel
theorem dX12_comes_36 : decode cX12_comes 36 = .ok (.iconst 1, 1) := by decide +kernel
theorem dX12_comes_37 : decode cX12_comes 37 = .ok (.isub, 1) := by decide +kernel
theorem dX12_comes_38 : decode cX12_comes 38 = .ok (.aload_n 0, 1) := by decide +kernel
theorem dX12_comes_39 : decode cX12_comes 39 = .ok (.getfield 33, 3) := by decide +kernel
theorem dX12_comes_42 : decode cX12_comes 42 = .ok (.bipush 40, 2) := by decide +kernel
theorem dX12_comes_44 : decode cX12_comes 44 = .ok (.iaload, 1) := by decide +kernel
theorem dX12_comes_45 : decode cX12_comes 45 = .ok (.iconst 1, 1) := by decide +kernel
theorem dX12_comes_46 : decode cX12_comes 46 = .ok (.isub, 1) := by decide +kernel
theorem dX12_comes_47 : decode cX12_comes 47 = .ok (.iload_n 2, 1) := by decide +kernel
theorem dX12_comes_48 : decode cX12_comes 48 = .ok (.invokevirtual 317, 3) := by decide +kernel
theorem dX12_comes_51 : decode cX12_comes 51 = .ok (.ifCond .ge 9, 3) := by decide +kernel
theorem dX12_comes_54 : decode cX12_comes 54 = .ok (.iinc 2 1, 3) := by decide +kernel
theorem dX12_comes_57 : decode cX12_comes 57 = .ok (.goto (-35), 3) := by decide +kernel
theorem dX12_comes_60 : decode cX12_comes 60 = .ok (.iload_n 2, 1) := by decide +kernel
theorem dX12_comes_61 : decode cX12_comes 61 = .ok (.bipush 48, 2) := by decide +kernel
theorem dX12_comes_63 : decode cX12_comes 63 = .ok (.if_icmp .ne 5, 3) := by decide +kernel
theorem dX12_comes_66 : decode cX12_comes 66 = .ok (.iconst (-1), 1) := by decide +kernel
theorem dX12_comes_67 : decode cX12_comes 67 = .ok (.ireturn, 1) := by decide +kernel
theorem dX12_comes_68 : decode cX12_comes 68 = .ok (.aload_n 0, 1) := by decide +kernel
theorem dX12_comes_69 : decode cX12_comes 69 = .ok (.iload_n 2, 1) := by decide +kernel
theorem dX12_comes_70 : decode cX12_comes 70 = .ok (.iconst 1, 1) := by decide +kernel
theorem dX12_comes_71 : decode cX12_comes 71 = .ok (.iadd, 1) := by decide +kernel
theorem dX12_comes_72 : decode cX12_comes 72 = .ok (.putfield 62, 3) := by decide +kernel
theorem dX12_comes_75 : decode cX12_comes 75 = .ok (.aload_n 0, 1) := by decide +kernel
theorem dX12_comes_76 : decode cX12_comes 76 = .ok (.getfield 33, 3) := by decide +kernel
theorem dX12_comes_79 : decode cX12_comes 79 = .ok (.bipush 41, 2) := by decide +kernel
theorem dX12_comes_81 : decode cX12_comes 81 = .ok (.iaload, 1) := by decide +kernel
theorem dX12_comes_82 : decode cX12_comes 82 = .ok (.iconst 1, 1) := by decide +kernel
theorem dX12_comes_83 : decode cX12_comes 83 = .ok (.isub, 1) := by decide +kernel
theorem dX12_comes_84 : decode cX12_comes 84 = .ok (.istore_n 3, 1) := by decide +kernel
theorem dX12_comes_85 : decode cX12_comes 85 = .ok (.aload_n 0, 1) := by decide +kernel
theorem dX12_comes_86 : decode cX12_comes 86 = .ok (.getfield 33, 3) := by decide +kernel
theorem dX12_comes_89 : decode cX12_comes 89 = .ok (.bipush 40, 2) := by decide +kernel
theorem dX12_comes_91 : decode cX12_comes 91 = .ok (.iaload, 1) := by decide +kernel
theorem dX12_comes_92 : decode cX12_comes 92 = .ok (.iconst 1, 1) := by decide +kernel
theorem dX12_comes_93 : decode cX12_comes 93 = .ok (.isub, 1) := by decide +kernel
theorem dX12_comes_94 : decode cX12_comes 94 = .ok (.istore 4, 2) := by decide +kernel
theorem dX12_comes_96 : decode cX12_comes 96 = .ok (.iconst 0, 1) := by decide +kernel
theorem dX12_comes_97 : decode cX12_comes 97 = .ok (.istore 5, 2) := by decide +kernel
theorem dX12_comes_99 : decode cX12_comes 99 = .ok (.iload 5, 2) := by decide +kernel
theorem dX12_comes_101 : decode cX12_comes 101 = .ok (.aload_n 0, 1) := by decide +kernel
theorem dX12_comes_102 : decode cX12_comes 102 = .ok (.getfield 62, 3) := by decide +kernel
theorem dX12_comes_105 : decode cX12_comes 105 = .ok (.if_icmp .ge 44, 3) := by decide +kernel
theorem dX12_comes_108 : decode cX12_comes 108 = .ok (.aload_n 0, 1) := by decide +kernel
theorem dX12_comes_109 : decode cX12_comes 109 = .ok (.iload_n 3, 1) := by decide +kernel
theorem dX12_comes_110 : decode cX12_comes 110 = .ok (.iload 4, 2) := by decide +kernel
theorem dX12_comes_112 : decode cX12_comes 112 = .ok (.iload_n 2, 1) := by decide +kernel
theorem dX12_comes_113 : decode cX12_comes 113 = .ok (.iload 5, 2) := by decide +kernel
theorem dX12_comes_115 : decode cX12_comes 115 = .ok (.isub, 1) := by decide +kernel
theorem dX12_comes_116 : decode cX12_comes 116 = .ok (.invokevirtual 317, 3) := by decide +kernel
theorem dX12_comes_119 : decode cX12_comes 119 = .ok (.istore 6, 2) := by decide +kernel
theorem dX12_comes_121 : decode cX12_comes 121 = .ok (.aload_n 0, 1) := by decide +kernel
theorem dX12_comes_122 : decode cX12_comes 122 = .ok (.getfield 59, 3) := by decide +kernel
theorem dX12_comes_125 : decode cX12_comes 125 = .ok (.iload 5, 2) := by decide +kernel
theorem dX12_comes_127 : decode cX12_comes 127 = .ok (.iload 6, 2) := by decide +kernel
theorem dX12_comes_129 : decode cX12_comes 129 = .ok (.iastore, 1) := by decide +kernel
theorem dX12_comes_130 : decode cX12_comes 130 = .ok (.iload 6, 2) := by decide +kernel
theorem dX12_comes_132 : decode cX12_comes 132 = .ok (.bipush 8, 2) := by decide +kernel
theorem dX12_comes_134 : decode cX12_comes 134 = .ok (.idiv, 1) := by decide +kernel
theorem dX12_comes_135 : decode cX12_comes 135 = .ok (.istore_n 3, 1) := by decide +kernel
theorem dX12_comes_136 : decode cX12_comes 136 = .ok (.iload 6, 2) := by decide +kernel
theorem dX12_comes_138 : decode cX12_comes 138 = .ok (.bipush 8, 2) := by decide +kernel
theorem dX12_comes_140 : decode cX12_comes 140 = .ok (.irem, 1) := by decide +kernel
theorem dX12_comes_141 : decode cX12_comes 141 = .ok (.istore 4, 2) := by decide +kernel
theorem dX12_comes_143 : decode cX12_comes 143 = .ok (.iinc 5 1, 3) := by decide +kernel
theorem dX12_comes_146 : decode cX12_comes 146 = .ok (.goto (-47), 3) := by decide +kernel
theorem dX12_comes_149 : decode cX12_comes 149 = .ok (.aload_n 0, 1) := by decide +kernel
theorem dX12_comes_150 : decode cX12_comes 150 = .ok (.getfield 62, 3) := by decide +kernel
theorem dX12_comes_153 : decode cX12_comes 153 = .ok (.ireturn, 1) := by decide +kernel
set_option maxRecDepth 20000 in
theorem ggX12_comesAt_X12_isIn : GoodIn wsX12_comesAt wsX12_isIn := goodIn_r _ [7] rfl rfl
set_option maxRecDepth 20000 in
theorem gX12_comesAt_X12_isIn : GoodIn wsX12_comesAt (va_wsS RX12 186 yX12_isIn wsX12_isIn) := goodIn_app (goodIn_r _ [4, 5, 6] rfl rfl) ggX12_comesAt_X12_isIn
theorem dX12_comesAt_0 : decode cX12_comesAt 0 = .ok (.aload_n 0, 1) := by decide +kernel
theorem dX12_comesAt_1 : decode cX12_comesAt 1 = .ok (.iconst 0, 1) := by decide +kernel
theorem dX12_comesAt_2 : decode cX12_comesAt 2 = .ok (.putfield 1, 3) := by decide +kernel
theorem dX12_comesAt_5 : decode cX12_comesAt 5 = .ok (.iload_n 1, 1) := by decide +kernel
theorem dX12_comesAt_6 : decode cX12_comesAt 6 = .ok (.iconst 0, 1) := by decide +kernel
theorem dX12_comesAt_7 : decode cX12_comesAt 7 = .ok (.aload_n 0, 1) := by decide +kernel
theorem dX12_comesAt_8 : decode cX12_comesAt 8 = .ok (.getfield 62, 3) := by decide +kernel
theorem dX12_comesAt_11 : decode cX12_comesAt 11 = .ok (.iconst 1, 1) := by decide +kernel
theorem dX12_comesAt_12 : decode cX12_comesAt 12 = .ok (.isub, 1) := by decide +kernel
theorem dX12_comesAt_13 : decode cX12_comesAt 13 = .ok (.invokestatic 186, 3) := by decide +kernel
theorem dX12_comesAt_16 : decode cX12_comesAt 16 = .ok (.ifCond .eq 12, 3) := by decide +kernel
theorem dX12_comesAt_19 : decode cX12_comesAt 19 = .ok (.aload_n 0, 1) := by decide +kernel
theorem dX12_comesAt_20 : decode cX12_comesAt 20 = .ok (.getfield 59, 3) := by decide +kernel
theorem dX12_comesAt_23 : decode cX12_comesAt 23 = .ok (.iload_n 1, 1) := by decide +kernel
theorem dX12_comesAt_24 : decode cX12_comesAt 24 = .ok (.iaload, 1) := by decide +kernel
theorem dX12_comesAt_25 : decode cX12_comesAt 25 = .ok (.goto 4, 3) := by decide +kernel
theorem dX12_comesAt_28 : decode cX12_comesAt 28 = .ok (.iconst (-1), 1) := by decide +kernel
theorem dX12_comesAt_29 : decode cX12_comesAt 29 = .ok (.ireturn, 1) := by decide +kernel
set_option maxRecDepth 20000 in
theorem ggX12_silent_X12_tries : GoodIn wsX12_silent wsX12_tries := goodIn_r _ [6, 7, 8, 43, 44, 45, 46, 47, 48, 49, 50, 51, 52, 53, 54, 55, 56, 57, 58, 59, 60, 61, 62, 63, 64, 65, 66, 67, 68, 69, 70, 71, 72, 73, 74, 75, 76, 77, 78, 79, 80, 81, 82, 83, 84, 85, 86, 87, 88, 89, 90, 91] rfl rfl
set_option maxRecDepth 20000 in
theorem gX12_silent_X12_tries : GoodIn wsX12_silent (wsV RX12 321 RX12 yX12_tries wsX12_tries) := goodIn_app (goodIn_r _ [2, 3, 4, 5] rfl rfl) ggX12_silent_X12_tries
set_option maxRecDepth 20000 in
theorem ggX12_silent_X12_day : GoodIn wsX12_silent wsX12_day := goodIn_r _ [12, 8, 13, 14, 15, 5, 16, 17, 18, 19, 20, 21, 22, 23, 24, 25, 26, 27, 28, 29, 30, 31, 32, 33, 34, 35, 36, 37, 38, 43, 44, 45, 46, 47, 48, 49, 50, 51, 52, 53, 54, 55, 56, 57, 58, 59, 60, 61, 62, 63, 64, 65, 66, 67, 68, 69, 70, 71, 72, 73, 74, 75, 76, 77, 78, 79, 80, 81, 82, 83, 84, 85, 86, 87, 88, 89, 90, 91] rfl rfl
set_option maxRecDepth 20000 in
theorem gX12_silent_X12_day : GoodIn wsX12_silent (wsV RX12 291 RX12 yX12_day wsX12_day) := goodIn_app (goodIn_r _ [9, 10, 11, 5] rfl rfl) ggX12_silent_X12_day
set_option maxRecDepth 20000 in
theorem ggX12_silent_X12_back : GoodIn wsX12_silent wsX12_back := goodIn_r _ [42, 8, 7, 43, 44, 45, 46, 47, 48, 49, 50, 51, 52, 53, 54, 55, 56, 57, 58, 59, 60, 61, 62, 63, 64, 65, 66, 67, 68, 69, 70, 71, 72, 73, 74, 75, 76, 77, 78, 79, 80, 81, 82, 83, 84, 85, 86, 87, 88, 89, 90, 91] rfl rfl
set_option maxRecDepth 20000 in
theorem gX12_silent_X12_back : GoodIn wsX12_silent (wsV RX12 324 RX12 yX12_back wsX12_back) := goodIn_app (goodIn_r _ [39, 40, 41, 5] rfl rfl) ggX12_silent_X12_back
theorem dX12_silent_0 : decode cX12_silent 0 = .ok (.aload_n 0, 1) := by decide +kernel
theorem dX12_silent_1 : decode cX12_silent 1 = .ok (.iconst 0, 1) := by decide +kernel
theorem dX12_silent_2 : decode cX12_silent 2 = .ok (.putfield 1, 3) := by decide +kernel
theorem dX12_silent_5 : decode cX12_silent 5 = .ok (.aload_n 0, 1) := by decide +kernel
theorem dX12_silent_6 : decode cX12_silent 6 = .ok (.invokevirtual 321, 3) := by decide +kernel
theorem dX12_silent_9 : decode cX12_silent 9 = .ok (.iconst (-1), 1) := by decide +kernel
theorem dX12_silent_10 : decode cX12_silent 10 = .ok (.istore_n 1, 1) := by decide +kernel
theorem dX12_silent_11 : decode cX12_silent 11 = .ok (.iconst 1, 1) := by decide +kernel
theorem dX12_silent_12 : decode cX12_silent 12 = .ok (.istore_n 2, 1) := by decide +kernel
theorem dX12_silent_13 : decode cX12_silent 13 = .ok (.iload_n 2, 1) := by decide +kernel
theorem dX12_silent_14 : decode cX12_silent 14 = .ok (.bipush 99, 2) := by decide +kernel
theorem dX12_silent_16 : decode cX12_silent 16 = .ok (.if_icmp .gt 22, 3) := by decide +kernel
theorem dX12_silent_19 : decode cX12_silent 19 = .ok (.iload_n 1, 1) := by decide +kernel
theorem dX12_silent_20 : decode cX12_silent 20 = .ok (.ifCond .ge 18, 3) := by decide +kernel
theorem dX12_silent_23 : decode cX12_silent 23 = .ok (.aload_n 0, 1) := by decide +kernel
theorem dX12_silent_24 : decode cX12_silent 24 = .ok (.invokevirtual 291, 3) := by decide +kernel
theorem dX12_silent_27 : decode cX12_silent 27 = .ok (.ifCond .ne 5, 3) := by decide +kernel
theorem dX12_silent_30 : decode cX12_silent 30 = .ok (.iload_n 2, 1) := by decide +kernel
theorem dX12_silent_31 : decode cX12_silent 31 = .ok (.istore_n 1, 1) := by decide +kernel
theorem dX12_silent_32 : decode cX12_silent 32 = .ok (.iinc 2 1, 3) := by decide +kernel
theorem dX12_silent_35 : decode cX12_silent 35 = .ok (.goto (-22), 3) := by decide +kernel
theorem dX12_silent_38 : decode cX12_silent 38 = .ok (.aload_n 0, 1) := by decide +kernel
theorem dX12_silent_39 : decode cX12_silent 39 = .ok (.invokevirtual 324, 3) := by decide +kernel
theorem dX12_silent_42 : decode cX12_silent 42 = .ok (.iload_n 1, 1) := by decide +kernel
theorem dX12_silent_43 : decode cX12_silent 43 = .ok (.ireturn, 1) := by decide +kernel
set_option maxRecDepth 20000 in
theorem ggX12_isRow_X12_isIn : GoodIn wsX12_isRow wsX12_isIn := goodIn_r _ [5] rfl rfl
set_option maxRecDepth 20000 in
theorem gX12_isRow_X12_isIn : GoodIn wsX12_isRow (va_wsS RX12 186 yX12_isIn wsX12_isIn) := goodIn_app (goodIn_r _ [2, 3, 4] rfl rfl) ggX12_isRow_X12_isIn
set_option maxRecDepth 20000 in
theorem ggX12_isRow_X12_octet : GoodIn wsX12_isRow wsX12_octet := goodIn_r _ [9, 10, 16, 17, 18, 19, 20, 21, 22, 23, 24, 25, 26, 27, 28, 29, 30, 31, 32, 33, 34, 35, 36, 37, 38, 39, 40, 41, 42, 43, 44, 45, 46, 47, 48, 49, 50, 51, 52, 53, 54, 55, 56, 57, 58, 59, 60, 61, 62, 63, 64] rfl rfl
set_option maxRecDepth 20000 in
theorem gX12_isRow_X12_octet : GoodIn wsX12_isRow (wsV RX12 327 RX12 yX12_octet wsX12_octet) := goodIn_app (goodIn_r _ [6, 7, 8, 4] rfl rfl) ggX12_isRow_X12_octet
set_option maxRecDepth 20000 in
theorem ggX12_isRow_X12_isPhrase : GoodIn wsX12_isRow wsX12_isPhrase := goodIn_r _ [14, 15, 2, 3, 4, 5, 16, 17, 18, 19, 20, 21, 22, 23, 24, 25, 26, 27, 28, 29, 30, 31, 32, 33, 34, 35, 36, 37, 38, 39, 40, 41, 42, 43, 44, 45, 46, 47, 48, 49, 50, 51, 52, 53, 54, 55, 56, 57, 58, 59, 60, 61, 62, 63, 64] rfl rfl
set_option maxRecDepth 20000 in
theorem gX12_isRow_X12_isPhrase : GoodIn wsX12_isRow (wsV RX12 275 RX12 yX12_isPhrase wsX12_isPhrase) := goodIn_app (goodIn_r _ [11, 12, 13, 4] rfl rfl) ggX12_isRow_X12_isPhrase
theorem dX12_isRow_0 : decode cX12_isRow 0 = .ok (.aload_n 0, 1) := by decide +kernel
theorem dX12_isRow_1 : decode cX12_isRow 1 = .ok (.getfield 18, 3) := by decide +kernel
theorem dX12_isRow_4 : decode cX12_isRow 4 = .ok (.iconst 1, 1) := by decide +kernel
theorem dX12_isRow_5 : decode cX12_isRow 5 = .ok (.bipush 9, 2) := by decide +kernel
theorem dX12_isRow_7 : decode cX12_isRow 7 = .ok (.invokestatic 186, 3) := by decide +kernel
theorem dX12_isRow_10 : decode cX12_isRow 10 = .ok (.istore_n 1, 1) := by decide +kernel
theorem dX12_isRow_11 : decode cX12_isRow 11 = .ok (.iconst 0, 1) := by decide +kernel
theorem dX12_isRow_12 : decode cX12_isRow 12 = .ok (.istore_n 2, 1) := by decide +kernel
theorem dX12_isRow_13 : decode cX12_isRow 13 = .ok (.iload_n 2, 1) := by decide +kernel
theorem dX12_isRow_14 : decode cX12_isRow 14 = .ok (.aload_n 0, 1) := by decide +kernel
theorem dX12_isRow_15 : decode cX12_isRow 15 = .ok (.getfield 18, 3) := by decide +kernel
theorem dX12_isRow_18 : decode cX12_isRow 18 = .ok (.if_icmp .ge 23, 3) := by decide +kernel
theorem dX12_isRow_21 : decode cX12_isRow 21 = .ok (.iload_n 1, 1) := by decide +kernel
theorem dX12_isRow_22 : decode cX12_isRow 22 = .ok (.ifCond .eq 19, 3) := by decide +kernel
theorem dX12_isRow_25 : decode cX12_isRow 25 = .ok (.aload_n 0, 1) := by decide +kernel
theorem dX12_isRow_26 : decode cX12_isRow 26 = .ok (.aload_n 0, 1) := by decide +kernel
theorem dX12_isRow_27 : decode cX12_isRow 27 = .ok (.iload_n 2, 1) := by decide +kernel
theorem dX12_isRow_28 : decode cX12_isRow 28 = .ok (.invokevirtual 327, 3) := by decide +kernel
theorem dX12_isRow_31 : decode cX12_isRow 31 = .ok (.invokevirtual 275, 3) := by decide +kernel
theorem dX12_isRow_34 : decode cX12_isRow 34 = .ok (.istore_n 1, 1) := by decide +kernel
theorem dX12_isRow_35 : decode cX12_isRow 35 = .ok (.iinc 2 1, 3) := by decide +kernel
theorem dX12_isRow_38 : decode cX12_isRow 38 = .ok (.goto (-25), 3) := by decide +kernel
theorem dX12_isRow_41 : decode cX12_isRow 41 = .ok (.iload_n 1, 1) := by decide +kernel
theorem dX12_isRow_42 : decode cX12_isRow 42 = .ok (.ireturn, 1) := by decide +kernel
set_option maxRecDepth 20000 in
theorem ggX12_isWriter_X12_octet : GoodIn wsX12_isWriter wsX12_octet := goodIn_r _ [6, 7, 11, 12, 13, 14, 15, 16, 17, 18, 19, 20, 21, 22, 23, 24, 25, 26, 27, 28, 29, 30, 31, 32, 33, 34, 35, 36, 37, 38, 39, 40, 41, 42, 43, 44, 45, 46, 47, 48, 49, 50, 51, 52, 53, 54, 55, 56, 57, 58, 59] rfl rfl
set_option maxRecDepth 20000 in
theorem gX12_isWriter_X12_octet : GoodIn wsX12_isWriter (wsV RX12 327 RX12 yX12_octet wsX12_octet) := goodIn_app (goodIn_r _ [2, 3, 4, 5] rfl rfl) ggX12_isWriter_X12_octet
set_option maxRecDepth 20000 in
theorem ggX12_isWriter_X12_bitOf : GoodIn wsX12_isWriter wsX12_bitOf := goodIn_r _ [10] rfl rfl
set_option maxRecDepth 20000 in
theorem gX12_isWriter_X12_bitOf : GoodIn wsX12_isWriter (va_wsS RX12 233 yX12_bitOf wsX12_bitOf) := goodIn_app (goodIn_r _ [8, 9, 5] rfl rfl) ggX12_isWriter_X12_bitOf
theorem dX12_isWriter_0 : decode cX12_isWriter 0 = .ok (.aload_n 0, 1) := by decide +kernel
theorem dX12_isWriter_1 : decode cX12_isWriter 1 = .ok (.getfield 33, 3) := by decide +kernel
theorem dX12_isWriter_4 : decode cX12_isWriter 4 = .ok (.bipush 9, 2) := by decide +kernel
theorem dX12_isWriter_6 : decode cX12_isWriter 6 = .ok (.iload_n 1, 1) := by decide +kernel
theorem dX12_isWriter_7 : decode cX12_isWriter 7 = .ok (.iadd, 1) := by decide +kernel
theorem dX12_isWriter_8 : decode cX12_isWriter 8 = .ok (.iaload, 1) := by decide +kernel
theorem dX12_isWriter_9 : decode cX12_isWriter 9 = .ok (.aload_n 0, 1) := by decide +kernel
theorem dX12_isWriter_10 : decode cX12_isWriter 10 = .ok (.iload_n 2, 1) := by decide +kernel
theorem dX12_isWriter_11 : decode cX12_isWriter 11 = .ok (.invokevirtual 327, 3) := by decide +kernel
theorem dX12_isWriter_14 : decode cX12_isWriter 14 = .ok (.invokestatic 233, 3) := by decide +kernel
theorem dX12_isWriter_17 : decode cX12_isWriter 17 = .ok (.ireturn, 1) := by decide +kernel
set_option maxRecDepth 20000 in
theorem ggX12_laysWays_X12_isWriter : GoodIn wsX12_laysWays wsX12_isWriter := goodIn_r _ [9, 2, 10, 11, 12, 8, 13, 14, 15, 16, 17, 18, 19, 20, 21, 22, 23, 24, 25, 26, 27, 28, 29, 30, 31, 32, 33, 34, 35, 36, 37, 38, 39, 40, 41, 42, 43, 44, 45, 46, 47, 48, 49, 50, 51, 52, 53, 54, 55, 56, 57, 58, 59, 60, 61, 62, 63, 64, 65, 66] rfl rfl
set_option maxRecDepth 20000 in
theorem gX12_laysWays_X12_isWriter : GoodIn wsX12_laysWays (wsV RX12 330 RX12 yX12_isWriter wsX12_isWriter) := goodIn_app (goodIn_r _ [5, 6, 7, 8] rfl rfl) ggX12_laysWays_X12_isWriter
theorem dX12_laysWays_0 : decode cX12_laysWays 0 = .ok (.iconst 0, 1) := by decide +kernel
theorem dX12_laysWays_1 : decode cX12_laysWays 1 = .ok (.istore_n 1, 1) := by decide +kernel
theorem dX12_laysWays_2 : decode cX12_laysWays 2 = .ok (.iload_n 1, 1) := by decide +kernel
theorem dX12_laysWays_3 : decode cX12_laysWays 3 = .ok (.aload_n 0, 1) := by decide +kernel
theorem dX12_laysWays_4 : decode cX12_laysWays 4 = .ok (.getfield 18, 3) := by decide +kernel
theorem dX12_laysWays_7 : decode cX12_laysWays 7 = .ok (.if_icmp .ge 113, 3) := by decide +kernel
theorem dX12_laysWays_10 : decode cX12_laysWays 10 = .ok (.iconst 0, 1) := by decide +kernel
theorem dX12_laysWays_11 : decode cX12_laysWays 11 = .ok (.istore_n 2, 1) := by decide +kernel
theorem dX12_laysWays_12 : decode cX12_laysWays 12 = .ok (.iload_n 2, 1) := by decide +kernel
theorem dX12_laysWays_13 : decode cX12_laysWays 13 = .ok (.aload_n 0, 1) := by decide +kernel
theorem dX12_laysWays_14 : decode cX12_laysWays 14 = .ok (.getfield 33, 3) := by decide +kernel
theorem dX12_laysWays_17 : decode cX12_laysWays 17 = .ok (.iconst 0, 1) := by decide +kernel
theorem dX12_laysWays_18 : decode cX12_laysWays 18 = .ok (.iaload, 1) := by decide +kernel
theorem dX12_laysWays_19 : decode cX12_laysWays 19 = .ok (.if_icmp .ge 95, 3) := by decide +kernel
theorem dX12_laysWays_22 : decode cX12_laysWays 22 = .ok (.iload_n 1, 1) := by decide +kernel
theorem dX12_laysWays_23 : decode cX12_laysWays 23 = .ok (.ifCond .ne 7, 3) := by decide +kernel
theorem dX12_laysWays_26 : decode cX12_laysWays 26 = .ok (.iconst 1, 1) := by decide +kernel
theorem dX12_laysWays_27 : decode cX12_laysWays 27 = .ok (.goto 4, 3) := by decide +kernel
theorem dX12_laysWays_30 : decode cX12_laysWays 30 = .ok (.iconst 0, 1) := by decide +kernel
theorem dX12_laysWays_31 : decode cX12_laysWays 31 = .ok (.istore_n 3, 1) := by decide +kernel
theorem dX12_laysWays_32 : decode cX12_laysWays 32 = .ok (.iconst 0, 1) := by decide +kernel
theorem dX12_laysWays_33 : decode cX12_laysWays 33 = .ok (.istore 4, 2) := by decide +kernel
theorem dX12_laysWays_35 : decode cX12_laysWays 35 = .ok (.iload 4, 2) := by decide +kernel
theorem dX12_laysWays_37 : decode cX12_laysWays 37 = .ok (.aload_n 0, 1) := by decide +kernel
theorem dX12_laysWays_38 : decode cX12_laysWays 38 = .ok (.getfield 33, 3) := by decide +kernel
theorem dX12_laysWays_41 : decode cX12_laysWays 41 = .ok (.iconst 0, 1) := by decide +kernel
theorem dX12_laysWays_42 : decode cX12_laysWays 42 = .ok (.iaload, 1) := by decide +kernel
theorem dX12_laysWays_43 : decode cX12_laysWays 43 = .ok (.if_icmp .ge 40, 3) := by decide +kernel
theorem dX12_laysWays_46 : decode cX12_laysWays 46 = .ok (.iload_n 1, 1) := by decide +kernel
theorem dX12_laysWays_47 : decode cX12_laysWays 47 = .ok (.ifCond .le 36, 3) := by decide +kernel
theorem dX12_laysWays_50 : decode cX12_laysWays 50 = .ok (.iload_n 3, 1) := by decide +kernel
theorem dX12_laysWays_51 : decode cX12_laysWays 51 = .ok (.iload 4, 2) := by decide +kernel
theorem dX12_laysWays_53 : decode cX12_laysWays 53 = .ok (.iload_n 2, 1) := by decide +kernel
theorem dX12_laysWays_54 : decode cX12_laysWays 54 = .ok (.if_icmp .ne 7, 3) := by decide +kernel
theorem dX12_laysWays_57 : decode cX12_laysWays 57 = .ok (.iconst 0, 1) := by decide +kernel
theorem dX12_laysWays_58 : decode cX12_laysWays 58 = .ok (.goto 17, 3) := by decide +kernel
theorem dX12_laysWays_61 : decode cX12_laysWays 61 = .ok (.aload_n 0, 1) := by decide +kernel
theorem dX12_laysWays_62 : decode cX12_laysWays 62 = .ok (.getfield 65, 3) := by decide +kernel
theorem dX12_laysWays_65 : decode cX12_laysWays 65 = .ok (.bipush 6, 2) := by decide +kernel
theorem dX12_laysWays_67 : decode cX12_laysWays 67 = .ok (.iload_n 1, 1) := by decide +kernel
theorem dX12_laysWays_68 : decode cX12_laysWays 68 = .ok (.iconst 1, 1) := by decide +kernel
theorem dX12_laysWays_69 : decode cX12_laysWays 69 = .ok (.isub, 1) := by decide +kernel
theorem dX12_laysWays_70 : decode cX12_laysWays 70 = .ok (.imul, 1) := by decide +kernel
theorem dX12_laysWays_71 : decode cX12_laysWays 71 = .ok (.iload 4, 2) := by decide +kernel
theorem dX12_laysWays_73 : decode cX12_laysWays 73 = .ok (.iadd, 1) := by decide +kernel
theorem dX12_laysWays_74 : decode cX12_laysWays 74 = .ok (.iaload, 1) := by decide +kernel
theorem dX12_laysWays_75 : decode cX12_laysWays 75 = .ok (.iadd, 1) := by decide +kernel
theorem dX12_laysWays_76 : decode cX12_laysWays 76 = .ok (.istore_n 3, 1) := by decide +kernel
theorem dX12_laysWays_77 : decode cX12_laysWays 77 = .ok (.iinc 4 1, 3) := by decide +kernel
theorem dX12_laysWays_80 : decode cX12_laysWays 80 = .ok (.goto (-45), 3) := by decide +kernel
theorem dX12_laysWays_83 : decode cX12_laysWays 83 = .ok (.aload_n 0, 1) := by decide +kernel
theorem dX12_laysWays_84 : decode cX12_laysWays 84 = .ok (.getfield 65, 3) := by decide +kernel
theorem dX12_laysWays_87 : decode cX12_laysWays 87 = .ok (.bipush 6, 2) := by decide +kernel
theorem dX12_laysWays_89 : decode cX12_laysWays 89 = .ok (.iload_n 1, 1) := by decide +kernel
theorem dX12_laysWays_90 : decode cX12_laysWays 90 = .ok (.imul, 1) := by decide +kernel
theorem dX12_laysWays_91 : decode cX12_laysWays 91 = .ok (.iload_n 2, 1) := by decide +kernel
theorem dX12_laysWays_92 : decode cX12_laysWays 92 = .ok (.iadd, 1) := by decide +kernel
theorem dX12_laysWays_93 : decode cX12_laysWays 93 = .ok (.aload_n 0, 1) := by decide +kernel
theorem dX12_laysWays_94 : decode cX12_laysWays 94 = .ok (.iload_n 2, 1) := by decide +kernel
theorem dX12_laysWays_95 : decode cX12_laysWays 95 = .ok (.iload_n 1, 1) := by decide +kernel
theorem dX12_laysWays_96 : decode cX12_laysWays 96 = .ok (.invokevirtual 330, 3) := by decide +kernel
theorem dX12_laysWays_99 : decode cX12_laysWays 99 = .ok (.ifCond .eq 7, 3) := by decide +kernel
theorem dX12_laysWays_102 : decode cX12_laysWays 102 = .ok (.iload_n 3, 1) := by decide +kernel
theorem dX12_laysWays_103 : decode cX12_laysWays 103 = .ok (.goto 4, 3) := by decide +kernel
theorem dX12_laysWays_106 : decode cX12_laysWays 106 = .ok (.iconst 0, 1) := by decide +kernel
theorem dX12_laysWays_107 : decode cX12_laysWays 107 = .ok (.iastore, 1) := by decide +kernel
theorem dX12_laysWays_108 : decode cX12_laysWays 108 = .ok (.iinc 2 1, 3) := by decide +kernel
theorem dX12_laysWays_111 : decode cX12_laysWays 111 = .ok (.goto (-99), 3) := by decide +kernel
theorem dX12_laysWays_114 : decode cX12_laysWays 114 = .ok (.iinc 1 1, 3) := by decide +kernel
theorem dX12_laysWays_117 : decode cX12_laysWays 117 = .ok (.goto (-115), 3) := by decide +kernel
theorem dX12_laysWays_120 : decode cX12_laysWays 120 = .ok (.aload_n 0, 1) := by decide +kernel
theorem dX12_laysWays_121 : decode cX12_laysWays 121 = .ok (.getfield 18, 3) := by decide +kernel
theorem dX12_laysWays_124 : decode cX12_laysWays 124 = .ok (.iconst 1, 1) := by decide +kernel
theorem dX12_laysWays_125 : decode cX12_laysWays 125 = .ok (.isub, 1) := by decide +kernel
theorem dX12_laysWays_126 : decode cX12_laysWays 126 = .ok (.istore_n 1, 1) := by decide +kernel
theorem dX12_laysWays_127 : decode cX12_laysWays 127 = .ok (.iload_n 1, 1) := by decide +kernel
theorem dX12_laysWays_128 : decode cX12_laysWays 128 = .ok (.ifCond .lt 125, 3) := by decide +kernel
theorem dX12_laysWays_131 : decode cX12_laysWays 131 = .ok (.iconst 0, 1) := by decide +kernel
theorem dX12_laysWays_132 : decode cX12_laysWays 132 = .ok (.istore_n 2, 1) := by decide +kernel
theorem dX12_laysWays_133 : decode cX12_laysWays 133 = .ok (.iload_n 2, 1) := by decide +kernel
theorem dX12_laysWays_134 : decode cX12_laysWays 134 = .ok (.aload_n 0, 1) := by decide +kernel
theorem dX12_laysWays_135 : decode cX12_laysWays 135 = .ok (.getfield 33, 3) := by decide +kernel
theorem dX12_laysWays_138 : decode cX12_laysWays 138 = .ok (.iconst 0, 1) := by decide +kernel
theorem dX12_laysWays_139 : decode cX12_laysWays 139 = .ok (.iaload, 1) := by decide +kernel
theorem dX12_laysWays_140 : decode cX12_laysWays 140 = .ok (.if_icmp .ge 107, 3) := by decide +kernel
theorem dX12_laysWays_143 : decode cX12_laysWays 143 = .ok (.iload_n 1, 1) := by decide +kernel
theorem dX12_laysWays_144 : decode cX12_laysWays 144 = .ok (.aload_n 0, 1) := by decide +kernel
theorem dX12_laysWays_145 : decode cX12_laysWays 145 = .ok (.getfield 18, 3) := by decide +kernel
theorem dX12_laysWays_148 : decode cX12_laysWays 148 = .ok (.iconst 1, 1) := by decide +kernel
theorem dX12_laysWays_149 : decode cX12_laysWays 149 = .ok (.isub, 1) := by decide +kernel
theorem dX12_laysWays_150 : decode cX12_laysWays 150 = .ok (.if_icmp .ne 7, 3) := by decide +kernel
theorem dX12_laysWays_153 : decode cX12_laysWays 153 = .ok (.iconst 1, 1) := by decide +kernel
theorem dX12_laysWays_154 : decode cX12_laysWays 154 = .ok (.goto 4, 3) := by decide +kernel
theorem dX12_laysWays_157 : decode cX12_laysWays 157 = .ok (.iconst 0, 1) := by decide +kernel
theorem dX12_laysWays_158 : decode cX12_laysWays 158 = .ok (.istore_n 3, 1) := by decide +kernel
theorem dX12_laysWays_159 : decode cX12_laysWays 159 = .ok (.iconst 0, 1) := by decide +kernel
theorem dX12_laysWays_160 : decode cX12_laysWays 160 = .ok (.istore 4, 2) := by decide +kernel
theorem dX12_laysWays_162 : decode cX12_laysWays 162 = .ok (.iload 4, 2) := by decide +kernel
theorem dX12_laysWays_164 : decode cX12_laysWays 164 = .ok (.aload_n 0, 1) := by decide +kernel
theorem dX12_laysWays_165 : decode cX12_laysWays 165 = .ok (.getfield 33, 3) := by decide +kernel
theorem dX12_laysWays_168 : decode cX12_laysWays 168 = .ok (.iconst 0, 1) := by decide +kernel
theorem dX12_laysWays_169 : decode cX12_laysWays 169 = .ok (.iaload, 1) := by decide +kernel
theorem dX12_laysWays_170 : decode cX12_laysWays 170 = .ok (.if_icmp .ge 46, 3) := by decide +kernel
theorem dX12_laysWays_173 : decode cX12_laysWays 173 = .ok (.iload_n 1, 1) := by decide +kernel
theorem dX12_laysWays_174 : decode cX12_laysWays 174 = .ok (.aload_n 0, 1) := by decide +kernel
theorem dX12_laysWays_175 : decode cX12_laysWays 175 = .ok (.getfield 18, 3) := by decide +kernel
theorem dX12_laysWays_178 : decode cX12_laysWays 178 = .ok (.iconst 1, 1) := by decide +kernel
theorem dX12_laysWays_179 : decode cX12_laysWays 179 = .ok (.isub, 1) := by decide +kernel
theorem dX12_laysWays_180 : decode cX12_laysWays 180 = .ok (.if_icmp .ge 36, 3) := by decide +kernel
theorem dX12_laysWays_183 : decode cX12_laysWays 183 = .ok (.iload_n 3, 1) := by decide +kernel
theorem dX12_laysWays_184 : decode cX12_laysWays 184 = .ok (.iload 4, 2) := by decide +kernel
theorem dX12_laysWays_186 : decode cX12_laysWays 186 = .ok (.iload_n 2, 1) := by decide +kernel
theorem dX12_laysWays_187 : decode cX12_laysWays 187 = .ok (.if_icmp .ne 7, 3) := by decide +kernel
theorem dX12_laysWays_190 : decode cX12_laysWays 190 = .ok (.iconst 0, 1) := by decide +kernel
theorem dX12_laysWays_191 : decode cX12_laysWays 191 = .ok (.goto 17, 3) := by decide +kernel
theorem dX12_laysWays_194 : decode cX12_laysWays 194 = .ok (.aload_n 0, 1) := by decide +kernel
theorem dX12_laysWays_195 : decode cX12_laysWays 195 = .ok (.getfield 68, 3) := by decide +kernel
theorem dX12_laysWays_198 : decode cX12_laysWays 198 = .ok (.bipush 6, 2) := by decide +kernel
theorem dX12_laysWays_200 : decode cX12_laysWays 200 = .ok (.iload_n 1, 1) := by decide +kernel
theorem dX12_laysWays_201 : decode cX12_laysWays 201 = .ok (.iconst 1, 1) := by decide +kernel
theorem dX12_laysWays_202 : decode cX12_laysWays 202 = .ok (.iadd, 1) := by decide +kernel
theorem dX12_laysWays_203 : decode cX12_laysWays 203 = .ok (.imul, 1) := by decide +kernel
theorem dX12_laysWays_204 : decode cX12_laysWays 204 = .ok (.iload 4, 2) := by decide +kernel
theorem dX12_laysWays_206 : decode cX12_laysWays 206 = .ok (.iadd, 1) := by decide +kernel
theorem dX12_laysWays_207 : decode cX12_laysWays 207 = .ok (.iaload, 1) := by decide +kernel
theorem dX12_laysWays_208 : decode cX12_laysWays 208 = .ok (.iadd, 1) := by decide +kernel
theorem dX12_laysWays_209 : decode cX12_laysWays 209 = .ok (.istore_n 3, 1) := by decide +kernel
theorem dX12_laysWays_210 : decode cX12_laysWays 210 = .ok (.iinc 4 1, 3) := by decide +kernel
theorem dX12_laysWays_213 : decode cX12_laysWays 213 = .ok (.goto (-51), 3) := by decide +kernel
theorem dX12_laysWays_216 : decode cX12_laysWays 216 = .ok (.aload_n 0, 1) := by decide +kernel
theorem dX12_laysWays_217 : decode cX12_laysWays 217 = .ok (.getfield 68, 3) := by decide +kernel
theorem dX12_laysWays_220 : decode cX12_laysWays 220 = .ok (.bipush 6, 2) := by decide +kernel
theorem dX12_laysWays_222 : decode cX12_laysWays 222 = .ok (.iload_n 1, 1) := by decide +kernel
theorem dX12_laysWays_223 : decode cX12_laysWays 223 = .ok (.imul, 1) := by decide +kernel
theorem dX12_laysWays_224 : decode cX12_laysWays 224 = .ok (.iload_n 2, 1) := by decide +kernel
theorem dX12_laysWays_225 : decode cX12_laysWays 225 = .ok (.iadd, 1) := by decide +kernel
theorem dX12_laysWays_226 : decode cX12_laysWays 226 = .ok (.aload_n 0, 1) := by decide +kernel
theorem dX12_laysWays_227 : decode cX12_laysWays 227 = .ok (.iload_n 2, 1) := by decide +kernel
theorem dX12_laysWays_228 : decode cX12_laysWays 228 = .ok (.iload_n 1, 1) := by decide +kernel
theorem dX12_laysWays_229 : decode cX12_laysWays 229 = .ok (.invokevirtual 330, 3) := by decide +kernel
theorem dX12_laysWays_232 : decode cX12_laysWays 232 = .ok (.ifCond .eq 7, 3) := by decide +kernel
theorem dX12_laysWays_235 : decode cX12_laysWays 235 = .ok (.iload_n 3, 1) := by decide +kernel
theorem dX12_laysWays_236 : decode cX12_laysWays 236 = .ok (.goto 4, 3) := by decide +kernel
theorem dX12_laysWays_239 : decode cX12_laysWays 239 = .ok (.iconst 0, 1) := by decide +kernel
theorem dX12_laysWays_240 : decode cX12_laysWays 240 = .ok (.iastore, 1) := by decide +kernel
theorem dX12_laysWays_241 : decode cX12_laysWays 241 = .ok (.iinc 2 1, 3) := by decide +kernel
theorem dX12_laysWays_244 : decode cX12_laysWays 244 = .ok (.goto (-111), 3) := by decide +kernel
theorem dX12_laysWays_247 : decode cX12_laysWays 247 = .ok (.iinc 1 (-1), 3) := by decide +kernel
theorem dX12_laysWays_250 : decode cX12_laysWays 250 = .ok (.goto (-123), 3) := by decide +kernel
theorem dX12_laysWays_253 : decode cX12_laysWays 253 = .ok (.return_, 1) := by decide +kernel
set_option maxRecDepth 20000 in
theorem ggX12_mostAt_X12_isWriter : GoodIn wsX12_mostAt wsX12_isWriter := goodIn_r _ [8, 1, 9, 10, 11, 7, 12, 13, 14, 15, 16, 20, 21, 22, 23, 24, 25, 26, 27, 28, 29, 30, 31, 32, 33, 34, 35, 36, 37, 38, 39, 40, 41, 42, 43, 44, 45, 46, 47, 48, 49, 50, 51, 52, 53, 54, 55, 56, 57, 58, 59, 60, 61, 62, 63, 64, 65, 66, 67, 68] rfl rfl
set_option maxRecDepth 20000 in
theorem gX12_mostAt_X12_isWriter : GoodIn wsX12_mostAt (wsV RX12 330 RX12 yX12_isWriter wsX12_isWriter) := goodIn_app (goodIn_r _ [4, 5, 6, 7] rfl rfl) ggX12_mostAt_X12_isWriter
set_option maxRecDepth 20000 in
theorem ggX12_mostAt_X12_greater : GoodIn wsX12_mostAt wsX12_greater := goodIn_r _ [19] rfl rfl
set_option maxRecDepth 20000 in
theorem gX12_mostAt_X12_greater : GoodIn wsX12_mostAt (va_wsS RX12 333 yX12_greater wsX12_greater) := goodIn_app (goodIn_r _ [17, 18, 7] rfl rfl) ggX12_mostAt_X12_greater
theorem dX12_mostAt_0 : decode cX12_mostAt 0 = .ok (.iconst 0, 1) := by decide +kernel
theorem dX12_mostAt_1 : decode cX12_mostAt 1 = .ok (.istore_n 2, 1) := by decide +kernel
theorem dX12_mostAt_2 : decode cX12_mostAt 2 = .ok (.iconst 0, 1) := by decide +kernel
theorem dX12_mostAt_3 : decode cX12_mostAt 3 = .ok (.istore_n 3, 1) := by decide +kernel
theorem dX12_mostAt_4 : decode cX12_mostAt 4 = .ok (.iload_n 3, 1) := by decide +kernel
theorem dX12_mostAt_5 : decode cX12_mostAt 5 = .ok (.aload_n 0, 1) := by decide +kernel
theorem dX12_mostAt_6 : decode cX12_mostAt 6 = .ok (.getfield 33, 3) := by decide +kernel
theorem dX12_mostAt_9 : decode cX12_mostAt 9 = .ok (.iconst 0, 1) := by decide +kernel
theorem dX12_mostAt_10 : decode cX12_mostAt 10 = .ok (.iaload, 1) := by decide +kernel
theorem dX12_mostAt_11 : decode cX12_mostAt 11 = .ok (.if_icmp .ge 50, 3) := by decide +kernel
theorem dX12_mostAt_14 : decode cX12_mostAt 14 = .ok (.iload_n 2, 1) := by decide +kernel
theorem dX12_mostAt_15 : decode cX12_mostAt 15 = .ok (.aload_n 0, 1) := by decide +kernel
theorem dX12_mostAt_16 : decode cX12_mostAt 16 = .ok (.iload_n 3, 1) := by decide +kernel
theorem dX12_mostAt_17 : decode cX12_mostAt 17 = .ok (.iload_n 1, 1) := by decide +kernel
theorem dX12_mostAt_18 : decode cX12_mostAt 18 = .ok (.invokevirtual 330, 3) := by decide +kernel
theorem dX12_mostAt_21 : decode cX12_mostAt 21 = .ok (.ifCond .eq 29, 3) := by decide +kernel
theorem dX12_mostAt_24 : decode cX12_mostAt 24 = .ok (.aload_n 0, 1) := by decide +kernel
theorem dX12_mostAt_25 : decode cX12_mostAt 25 = .ok (.getfield 65, 3) := by decide +kernel
theorem dX12_mostAt_28 : decode cX12_mostAt 28 = .ok (.bipush 6, 2) := by decide +kernel
theorem dX12_mostAt_30 : decode cX12_mostAt 30 = .ok (.iload_n 1, 1) := by decide +kernel
theorem dX12_mostAt_31 : decode cX12_mostAt 31 = .ok (.imul, 1) := by decide +kernel
theorem dX12_mostAt_32 : decode cX12_mostAt 32 = .ok (.iload_n 3, 1) := by decide +kernel
theorem dX12_mostAt_33 : decode cX12_mostAt 33 = .ok (.iadd, 1) := by decide +kernel
theorem dX12_mostAt_34 : decode cX12_mostAt 34 = .ok (.iaload, 1) := by decide +kernel
theorem dX12_mostAt_35 : decode cX12_mostAt 35 = .ok (.aload_n 0, 1) := by decide +kernel
theorem dX12_mostAt_36 : decode cX12_mostAt 36 = .ok (.getfield 68, 3) := by decide +kernel
theorem dX12_mostAt_39 : decode cX12_mostAt 39 = .ok (.bipush 6, 2) := by decide +kernel
theorem dX12_mostAt_41 : decode cX12_mostAt 41 = .ok (.iload_n 1, 1) := by decide +kernel
theorem dX12_mostAt_42 : decode cX12_mostAt 42 = .ok (.imul, 1) := by decide +kernel
theorem dX12_mostAt_43 : decode cX12_mostAt 43 = .ok (.iload_n 3, 1) := by decide +kernel
theorem dX12_mostAt_44 : decode cX12_mostAt 44 = .ok (.iadd, 1) := by decide +kernel
theorem dX12_mostAt_45 : decode cX12_mostAt 45 = .ok (.iaload, 1) := by decide +kernel
theorem dX12_mostAt_46 : decode cX12_mostAt 46 = .ok (.imul, 1) := by decide +kernel
theorem dX12_mostAt_47 : decode cX12_mostAt 47 = .ok (.goto 4, 3) := by decide +kernel
theorem dX12_mostAt_50 : decode cX12_mostAt 50 = .ok (.iconst 0, 1) := by decide +kernel
theorem dX12_mostAt_51 : decode cX12_mostAt 51 = .ok (.invokestatic 333, 3) := by decide +kernel
theorem dX12_mostAt_54 : decode cX12_mostAt 54 = .ok (.istore_n 2, 1) := by decide +kernel
theorem dX12_mostAt_55 : decode cX12_mostAt 55 = .ok (.iinc 3 1, 3) := by decide +kernel
theorem dX12_mostAt_58 : decode cX12_mostAt 58 = .ok (.goto (-54), 3) := by decide +kernel
theorem dX12_mostAt_61 : decode cX12_mostAt 61 = .ok (.iload_n 2, 1) := by decide +kernel
theorem dX12_mostAt_62 : decode cX12_mostAt 62 = .ok (.ireturn, 1) := by decide +kernel
set_option maxRecDepth 20000 in
theorem ggX12_ways_X12_taken : GoodIn wsX12_ways wsX12_taken := goodIn_r _ [12, 13, 4, 14, 15, 51, 52, 53, 54, 55, 56, 57, 58, 59, 60, 61, 62, 63, 64, 65, 66, 67, 68, 69, 70, 71, 72, 73, 74, 75, 76, 77, 78, 79, 80, 81, 82, 83, 84, 85, 86, 87, 88, 89, 90, 91, 92, 93, 94, 95, 96, 97, 98, 99] rfl rfl
set_option maxRecDepth 20000 in
theorem gX12_ways_X12_taken : GoodIn wsX12_ways (wsV RX12 236 RX12 yX12_taken wsX12_taken) := goodIn_app (goodIn_r _ [8, 9, 10, 11] rfl rfl) ggX12_ways_X12_taken
set_option maxRecDepth 20000 in
theorem ggX12_ways_X12_isRow : GoodIn wsX12_ways wsX12_isRow := goodIn_r _ [19, 4, 20, 21, 11, 22, 23, 24, 25, 26, 27, 28, 29, 30, 31, 2, 51, 52, 53, 54, 55, 56, 57, 58, 59, 60, 61, 62, 63, 64, 65, 66, 67, 68, 69, 70, 71, 72, 73, 74, 75, 76, 77, 78, 79, 80, 81, 82, 83, 84, 85, 86, 87, 88, 89, 90, 91, 92, 93, 94, 95, 96, 97, 98, 99] rfl rfl
set_option maxRecDepth 20000 in
theorem gX12_ways_X12_isRow : GoodIn wsX12_ways (wsV RX12 336 RX12 yX12_isRow wsX12_isRow) := goodIn_app (goodIn_r _ [16, 17, 18, 11] rfl rfl) ggX12_ways_X12_isRow
set_option maxRecDepth 20000 in
theorem ggX12_ways_X12_laysWays : GoodIn wsX12_ways wsX12_laysWays := goodIn_r _ [35, 4, 2, 36, 3, 37, 38, 39, 11, 40, 23, 24, 25, 26, 27, 41, 42, 43, 51, 52, 53, 54, 55, 56, 57, 58, 59, 60, 61, 62, 63, 64, 65, 66, 67, 68, 69, 70, 71, 72, 73, 74, 75, 76, 77, 78, 79, 80, 81, 82, 83, 84, 85, 86, 87, 88, 89, 90, 91, 92, 93, 94, 95, 96, 97, 98, 99] rfl rfl
set_option maxRecDepth 20000 in
theorem gX12_ways_X12_laysWays : GoodIn wsX12_ways (wsV RX12 339 RX12 yX12_laysWays wsX12_laysWays) := goodIn_app (goodIn_r _ [32, 33, 34, 11] rfl rfl) ggX12_ways_X12_laysWays
set_option maxRecDepth 20000 in
theorem ggX12_ways_X12_mostAt : GoodIn wsX12_ways wsX12_mostAt := goodIn_r _ [47, 2, 36, 3, 37, 38, 39, 11, 40, 23, 24, 25, 26, 27, 41, 42, 43, 48, 49, 50, 51, 52, 53, 54, 55, 56, 57, 58, 59, 60, 61, 62, 63, 64, 65, 66, 67, 68, 69, 70, 71, 72, 73, 74, 75, 76, 77, 78, 79, 80, 81, 82, 83, 84, 85, 86, 87, 88, 89, 90, 91, 92, 93, 94, 95, 96, 97, 98, 99] rfl rfl
set_option maxRecDepth 20000 in
theorem gX12_ways_X12_mostAt : GoodIn wsX12_ways (wsV RX12 345 RX12 yX12_mostAt wsX12_mostAt) := goodIn_app (goodIn_r _ [44, 45, 46, 11] rfl rfl) ggX12_ways_X12_mostAt
theorem dX12_ways_0 : decode cX12_ways 0 = .ok (.aload_n 0, 1) := by decide +kernel
theorem dX12_ways_1 : decode cX12_ways 1 = .ok (.iconst 0, 1) := by decide +kernel
theorem dX12_ways_2 : decode cX12_ways 2 = .ok (.putfield 1, 3) := by decide +kernel
theorem dX12_ways_5 : decode cX12_ways 5 = .ok (.aload_n 0, 1) := by decide +kernel
theorem dX12_ways_6 : decode cX12_ways 6 = .ok (.sipush 940, 3) := by decide +kernel
theorem dX12_ways_9 : decode cX12_ways 9 = .ok (.invokevirtual 236, 3) := by decide +kernel
theorem dX12_ways_12 : decode cX12_ways 12 = .ok (.aload_n 0, 1) := by decide +kernel
theorem dX12_ways_13 : decode cX12_ways 13 = .ok (.invokevirtual 336, 3) := by decide +kernel
theorem dX12_ways_16 : decode cX12_ways 16 = .ok (.ifCond .ne 5, 3) := by decide +kernel
theorem dX12_ways_19 : decode cX12_ways 19 = .ok (.iconst (-1), 1) := by decide +kernel
theorem dX12_ways_20 : decode cX12_ways 20 = .ok (.ireturn, 1) := by decide +kernel
theorem dX12_ways_21 : decode cX12_ways 21 = .ok (.aload_n 0, 1) := by decide +kernel
theorem dX12_ways_22 : decode cX12_ways 22 = .ok (.invokevirtual 339, 3) := by decide +kernel
theorem dX12_ways_25 : decode cX12_ways 25 = .ok (.iconst 0, 1) := by decide +kernel
theorem dX12_ways_26 : decode cX12_ways 26 = .ok (.istore_n 1, 1) := by decide +kernel
theorem dX12_ways_27 : decode cX12_ways 27 = .ok (.iconst 0, 1) := by decide +kernel
theorem dX12_ways_28 : decode cX12_ways 28 = .ok (.istore_n 2, 1) := by decide +kernel
theorem dX12_ways_29 : decode cX12_ways 29 = .ok (.iload_n 2, 1) := by decide +kernel
theorem dX12_ways_30 : decode cX12_ways 30 = .ok (.aload_n 0, 1) := by decide +kernel
theorem dX12_ways_31 : decode cX12_ways 31 = .ok (.getfield 33, 3) := by decide +kernel
theorem dX12_ways_34 : decode cX12_ways 34 = .ok (.iconst 0, 1) := by decide +kernel
theorem dX12_ways_35 : decode cX12_ways 35 = .ok (.iaload, 1) := by decide +kernel
theorem dX12_ways_36 : decode cX12_ways 36 = .ok (.if_icmp .ge 18, 3) := by decide +kernel
theorem dX12_ways_39 : decode cX12_ways 39 = .ok (.iload_n 1, 1) := by decide +kernel
theorem dX12_ways_40 : decode cX12_ways 40 = .ok (.aload_n 0, 1) := by decide +kernel
theorem dX12_ways_41 : decode cX12_ways 41 = .ok (.getfield 68, 3) := by decide +kernel
theorem dX12_ways_44 : decode cX12_ways 44 = .ok (.iload_n 2, 1) := by decide +kernel
theorem dX12_ways_45 : decode cX12_ways 45 = .ok (.iaload, 1) := by decide +kernel
theorem dX12_ways_46 : decode cX12_ways 46 = .ok (.iadd, 1) := by decide +kernel
theorem dX12_ways_47 : decode cX12_ways 47 = .ok (.istore_n 1, 1) := by decide +kernel
theorem dX12_ways_48 : decode cX12_ways 48 = .ok (.iinc 2 1, 3) := by decide +kernel
theorem dX12_ways_51 : decode cX12_ways 51 = .ok (.goto (-22), 3) := by decide +kernel
theorem dX12_ways_54 : decode cX12_ways 54 = .ok (.iload_n 1, 1) := by decide +kernel
theorem dX12_ways_55 : decode cX12_ways 55 = .ok (.ifCond .ne 5, 3) := by decide +kernel
theorem dX12_ways_58 : decode cX12_ways 58 = .ok (.iconst 0, 1) := by decide +kernel
theorem dX12_ways_59 : decode cX12_ways 59 = .ok (.ireturn, 1) := by decide +kernel
theorem dX12_ways_60 : decode cX12_ways 60 = .ok (.aload_n 0, 1) := by decide +kernel
theorem dX12_ways_61 : decode cX12_ways 61 = .ok (.aload_n 0, 1) := by decide +kernel
theorem dX12_ways_62 : decode cX12_ways 62 = .ok (.getfield 18, 3) := by decide +kernel
theorem dX12_ways_65 : decode cX12_ways 65 = .ok (.putfield 74, 3) := by decide +kernel
theorem dX12_ways_68 : decode cX12_ways 68 = .ok (.iconst (-1), 1) := by decide +kernel
theorem dX12_ways_69 : decode cX12_ways 69 = .ok (.istore_n 2, 1) := by decide +kernel
theorem dX12_ways_70 : decode cX12_ways 70 = .ok (.iconst 0, 1) := by decide +kernel
theorem dX12_ways_71 : decode cX12_ways 71 = .ok (.istore_n 3, 1) := by decide +kernel
theorem dX12_ways_72 : decode cX12_ways 72 = .ok (.iload_n 3, 1) := by decide +kernel
theorem dX12_ways_73 : decode cX12_ways 73 = .ok (.aload_n 0, 1) := by decide +kernel
theorem dX12_ways_74 : decode cX12_ways 74 = .ok (.getfield 18, 3) := by decide +kernel
theorem dX12_ways_77 : decode cX12_ways 77 = .ok (.if_icmp .ge 50, 3) := by decide +kernel
theorem dX12_ways_80 : decode cX12_ways 80 = .ok (.iconst 0, 1) := by decide +kernel
theorem dX12_ways_81 : decode cX12_ways 81 = .ok (.istore 4, 2) := by decide +kernel
theorem dX12_ways_83 : decode cX12_ways 83 = .ok (.iload 4, 2) := by decide +kernel
theorem dX12_ways_85 : decode cX12_ways 85 = .ok (.iload_n 2, 1) := by decide +kernel
theorem dX12_ways_86 : decode cX12_ways 86 = .ok (.if_icmp .eq 18, 3) := by decide +kernel
theorem dX12_ways_89 : decode cX12_ways 89 = .ok (.aload_n 0, 1) := by decide +kernel
theorem dX12_ways_90 : decode cX12_ways 90 = .ok (.getfield 68, 3) := by decide +kernel
theorem dX12_ways_93 : decode cX12_ways 93 = .ok (.bipush 6, 2) := by decide +kernel
theorem dX12_ways_95 : decode cX12_ways 95 = .ok (.iload_n 3, 1) := by decide +kernel
theorem dX12_ways_96 : decode cX12_ways 96 = .ok (.imul, 1) := by decide +kernel
theorem dX12_ways_97 : decode cX12_ways 97 = .ok (.iload 4, 2) := by decide +kernel
theorem dX12_ways_99 : decode cX12_ways 99 = .ok (.iadd, 1) := by decide +kernel
theorem dX12_ways_100 : decode cX12_ways 100 = .ok (.iaload, 1) := by decide +kernel
theorem dX12_ways_101 : decode cX12_ways 101 = .ok (.ifCond .ne 9, 3) := by decide +kernel
theorem dX12_ways_104 : decode cX12_ways 104 = .ok (.iinc 4 1, 3) := by decide +kernel
theorem dX12_ways_107 : decode cX12_ways 107 = .ok (.goto (-24), 3) := by decide +kernel
theorem dX12_ways_110 : decode cX12_ways 110 = .ok (.aload_n 0, 1) := by decide +kernel
theorem dX12_ways_111 : decode cX12_ways 111 = .ok (.getfield 71, 3) := by decide +kernel
theorem dX12_ways_114 : decode cX12_ways 114 = .ok (.iload_n 3, 1) := by decide +kernel
theorem dX12_ways_115 : decode cX12_ways 115 = .ok (.iload 4, 2) := by decide +kernel
theorem dX12_ways_117 : decode cX12_ways 117 = .ok (.iastore, 1) := by decide +kernel
theorem dX12_ways_118 : decode cX12_ways 118 = .ok (.iload 4, 2) := by decide +kernel
theorem dX12_ways_120 : decode cX12_ways 120 = .ok (.istore_n 2, 1) := by decide +kernel
theorem dX12_ways_121 : decode cX12_ways 121 = .ok (.iinc 3 1, 3) := by decide +kernel
theorem dX12_ways_124 : decode cX12_ways 124 = .ok (.goto (-52), 3) := by decide +kernel
theorem dX12_ways_127 : decode cX12_ways 127 = .ok (.aload_n 0, 1) := by decide +kernel
theorem dX12_ways_128 : decode cX12_ways 128 = .ok (.iconst 0, 1) := by decide +kernel
theorem dX12_ways_129 : decode cX12_ways 129 = .ok (.putfield 342, 3) := by decide +kernel
theorem dX12_ways_132 : decode cX12_ways 132 = .ok (.iconst 1, 1) := by decide +kernel
theorem dX12_ways_133 : decode cX12_ways 133 = .ok (.istore_n 3, 1) := by decide +kernel
theorem dX12_ways_134 : decode cX12_ways 134 = .ok (.iload_n 3, 1) := by decide +kernel
theorem dX12_ways_135 : decode cX12_ways 135 = .ok (.aload_n 0, 1) := by decide +kernel
theorem dX12_ways_136 : decode cX12_ways 136 = .ok (.getfield 18, 3) := by decide +kernel
theorem dX12_ways_139 : decode cX12_ways 139 = .ok (.if_icmp .ge 30, 3) := by decide +kernel
theorem dX12_ways_142 : decode cX12_ways 142 = .ok (.aload_n 0, 1) := by decide +kernel
theorem dX12_ways_143 : decode cX12_ways 143 = .ok (.iload_n 3, 1) := by decide +kernel
theorem dX12_ways_144 : decode cX12_ways 144 = .ok (.invokevirtual 345, 3) := by decide +kernel
theorem dX12_ways_147 : decode cX12_ways 147 = .ok (.aload_n 0, 1) := by decide +kernel
theorem dX12_ways_148 : decode cX12_ways 148 = .ok (.aload_n 0, 1) := by decide +kernel
theorem dX12_ways_149 : decode cX12_ways 149 = .ok (.getfield 342, 3) := by decide +kernel
theorem dX12_ways_152 : decode cX12_ways 152 = .ok (.invokevirtual 345, 3) := by decide +kernel
theorem dX12_ways_155 : decode cX12_ways 155 = .ok (.if_icmp .ge 8, 3) := by decide +kernel
theorem dX12_ways_158 : decode cX12_ways 158 = .ok (.aload_n 0, 1) := by decide +kernel
theorem dX12_ways_159 : decode cX12_ways 159 = .ok (.iload_n 3, 1) := by decide +kernel
theorem dX12_ways_160 : decode cX12_ways 160 = .ok (.putfield 342, 3) := by decide +kernel
theorem dX12_ways_163 : decode cX12_ways 163 = .ok (.iinc 3 1, 3) := by decide +kernel
theorem dX12_ways_166 : decode cX12_ways 166 = .ok (.goto (-32), 3) := by decide +kernel
theorem dX12_ways_169 : decode cX12_ways 169 = .ok (.iload_n 1, 1) := by decide +kernel
theorem dX12_ways_170 : decode cX12_ways 170 = .ok (.ireturn, 1) := by decide +kernel
set_option maxRecDepth 20000 in
theorem ggX12_waysAt_X12_isIn : GoodIn wsX12_waysAt wsX12_isIn := goodIn_r _ [7] rfl rfl
set_option maxRecDepth 20000 in
theorem gX12_waysAt_X12_isIn : GoodIn wsX12_waysAt (va_wsS RX12 186 yX12_isIn wsX12_isIn) := goodIn_app (goodIn_r _ [4, 5, 6] rfl rfl) ggX12_waysAt_X12_isIn
theorem dX12_waysAt_0 : decode cX12_waysAt 0 = .ok (.aload_n 0, 1) := by decide +kernel
theorem dX12_waysAt_1 : decode cX12_waysAt 1 = .ok (.iconst 0, 1) := by decide +kernel
theorem dX12_waysAt_2 : decode cX12_waysAt 2 = .ok (.putfield 1, 3) := by decide +kernel
theorem dX12_waysAt_5 : decode cX12_waysAt 5 = .ok (.iload_n 1, 1) := by decide +kernel
theorem dX12_waysAt_6 : decode cX12_waysAt 6 = .ok (.iconst 0, 1) := by decide +kernel
theorem dX12_waysAt_7 : decode cX12_waysAt 7 = .ok (.aload_n 0, 1) := by decide +kernel
theorem dX12_waysAt_8 : decode cX12_waysAt 8 = .ok (.getfield 74, 3) := by decide +kernel
theorem dX12_waysAt_11 : decode cX12_waysAt 11 = .ok (.iconst 1, 1) := by decide +kernel
theorem dX12_waysAt_12 : decode cX12_waysAt 12 = .ok (.isub, 1) := by decide +kernel
theorem dX12_waysAt_13 : decode cX12_waysAt 13 = .ok (.invokestatic 186, 3) := by decide +kernel
theorem dX12_waysAt_16 : decode cX12_waysAt 16 = .ok (.ifCond .eq 12, 3) := by decide +kernel
theorem dX12_waysAt_19 : decode cX12_waysAt 19 = .ok (.aload_n 0, 1) := by decide +kernel
theorem dX12_waysAt_20 : decode cX12_waysAt 20 = .ok (.getfield 71, 3) := by decide +kernel
theorem dX12_waysAt_23 : decode cX12_waysAt 23 = .ok (.iload_n 1, 1) := by decide +kernel
theorem dX12_waysAt_24 : decode cX12_waysAt 24 = .ok (.iaload, 1) := by decide +kernel
theorem dX12_waysAt_25 : decode cX12_waysAt 25 = .ok (.goto 4, 3) := by decide +kernel
theorem dX12_waysAt_28 : decode cX12_waysAt 28 = .ok (.iconst (-1), 1) := by decide +kernel
theorem dX12_waysAt_29 : decode cX12_waysAt 29 = .ok (.ireturn, 1) := by decide +kernel
theorem dX12_ask_0 : decode cX12_ask 0 = .ok (.aload_n 0, 1) := by decide +kernel
theorem dX12_ask_1 : decode cX12_ask 1 = .ok (.iconst 0, 1) := by decide +kernel
theorem dX12_ask_2 : decode cX12_ask 2 = .ok (.putfield 1, 3) := by decide +kernel
theorem dX12_ask_5 : decode cX12_ask 5 = .ok (.aload_n 0, 1) := by decide +kernel
theorem dX12_ask_6 : decode cX12_ask 6 = .ok (.getfield 74, 3) := by decide +kernel
theorem dX12_ask_9 : decode cX12_ask 9 = .ok (.ifCond .le 10, 3) := by decide +kernel
theorem dX12_ask_12 : decode cX12_ask 12 = .ok (.aload_n 0, 1) := by decide +kernel
theorem dX12_ask_13 : decode cX12_ask 13 = .ok (.getfield 342, 3) := by decide +kernel
theorem dX12_ask_16 : decode cX12_ask 16 = .ok (.goto 4, 3) := by decide +kernel
theorem dX12_ask_19 : decode cX12_ask 19 = .ok (.iconst (-1), 1) := by decide +kernel
theorem dX12_ask_20 : decode cX12_ask 20 = .ok (.ireturn, 1) := by decide +kernel
set_option maxRecDepth 20000 in
theorem ggX12_lacks_X12_taken : GoodIn wsX12_lacks wsX12_taken := goodIn_r _ [7, 8, 2, 9, 10, 35, 36, 37, 38, 39, 40, 41, 42, 43, 44, 45, 46, 47, 48, 49, 50, 51, 52, 53, 54, 55, 56, 57, 58, 59, 60, 61, 62, 63, 64, 65, 66, 67, 68, 69, 70, 71, 72, 73, 74, 75, 76, 77, 78, 79, 80, 81, 82, 83] rfl rfl
set_option maxRecDepth 20000 in
theorem gX12_lacks_X12_taken : GoodIn wsX12_lacks (wsV RX12 236 RX12 yX12_taken wsX12_taken) := goodIn_app (goodIn_r _ [3, 4, 5, 6] rfl rfl) ggX12_lacks_X12_taken
set_option maxRecDepth 20000 in
theorem ggX12_lacks_X12_isRow : GoodIn wsX12_lacks wsX12_isRow := goodIn_r _ [14, 2, 15, 16, 6, 17, 18, 19, 20, 21, 22, 23, 24, 25, 26, 27, 35, 36, 37, 38, 39, 40, 41, 42, 43, 44, 45, 46, 47, 48, 49, 50, 51, 52, 53, 54, 55, 56, 57, 58, 59, 60, 61, 62, 63, 64, 65, 66, 67, 68, 69, 70, 71, 72, 73, 74, 75, 76, 77, 78, 79, 80, 81, 82, 83] rfl rfl
set_option maxRecDepth 20000 in
theorem gX12_lacks_X12_isRow : GoodIn wsX12_lacks (wsV RX12 336 RX12 yX12_isRow wsX12_isRow) := goodIn_app (goodIn_r _ [11, 12, 13, 6] rfl rfl) ggX12_lacks_X12_isRow
set_option maxRecDepth 20000 in
theorem ggX12_lacks_X12_octet : GoodIn wsX12_lacks wsX12_octet := goodIn_r _ [21, 22, 35, 36, 37, 38, 39, 40, 41, 42, 43, 44, 45, 46, 47, 48, 49, 50, 51, 52, 53, 54, 55, 56, 57, 58, 59, 60, 61, 62, 63, 64, 65, 66, 67, 68, 69, 70, 71, 72, 73, 74, 75, 76, 77, 78, 79, 80, 81, 82, 83] rfl rfl
set_option maxRecDepth 20000 in
theorem gX12_lacks_X12_octet : GoodIn wsX12_lacks (wsV RX12 327 RX12 yX12_octet wsX12_octet) := goodIn_app (goodIn_r _ [18, 19, 20, 6] rfl rfl) ggX12_lacks_X12_octet
set_option maxRecDepth 20000 in
theorem ggX12_lacks_X12_isAnswer : GoodIn wsX12_lacks wsX12_isAnswer := goodIn_r _ [31, 27, 32, 33, 6, 34, 35, 36, 37, 38, 39, 40, 41, 42, 43, 44, 45, 46, 47, 48, 49, 50, 51, 52, 53, 54, 55, 56, 57, 58, 59, 60, 61, 62, 63, 64, 65, 66, 67, 68, 69, 70, 71, 72, 73, 74, 75, 76, 77, 78, 79, 80, 81, 82, 83] rfl rfl
set_option maxRecDepth 20000 in
theorem gX12_lacks_X12_isAnswer : GoodIn wsX12_lacks (wsV RX12 254 RX12 yX12_isAnswer wsX12_isAnswer) := goodIn_app (goodIn_r _ [28, 29, 30, 6] rfl rfl) ggX12_lacks_X12_isAnswer
theorem dX12_lacks_0 : decode cX12_lacks 0 = .ok (.aload_n 0, 1) := by decide +kernel
theorem dX12_lacks_1 : decode cX12_lacks 1 = .ok (.iconst 0, 1) := by decide +kernel
theorem dX12_lacks_2 : decode cX12_lacks 2 = .ok (.putfield 1, 3) := by decide +kernel
theorem dX12_lacks_5 : decode cX12_lacks 5 = .ok (.aload_n 0, 1) := by decide +kernel
theorem dX12_lacks_6 : decode cX12_lacks 6 = .ok (.sipush 940, 3) := by decide +kernel
theorem dX12_lacks_9 : decode cX12_lacks 9 = .ok (.invokevirtual 236, 3) := by decide +kernel
theorem dX12_lacks_12 : decode cX12_lacks 12 = .ok (.aload_n 0, 1) := by decide +kernel
theorem dX12_lacks_13 : decode cX12_lacks 13 = .ok (.invokevirtual 336, 3) := by decide +kernel
theorem dX12_lacks_16 : decode cX12_lacks 16 = .ok (.ifCond .ne 5, 3) := by decide +kernel
theorem dX12_lacks_19 : decode cX12_lacks 19 = .ok (.iconst (-1), 1) := by decide +kernel
theorem dX12_lacks_20 : decode cX12_lacks 20 = .ok (.ireturn, 1) := by decide +kernel
theorem dX12_lacks_21 : decode cX12_lacks 21 = .ok (.lconst 0, 1) := by decide +kernel
theorem dX12_lacks_22 : decode cX12_lacks 22 = .ok (.lstore_n 1, 1) := by decide +kernel
theorem dX12_lacks_23 : decode cX12_lacks 23 = .ok (.iconst 0, 1) := by decide +kernel
theorem dX12_lacks_24 : decode cX12_lacks 24 = .ok (.istore_n 3, 1) := by decide +kernel
theorem dX12_lacks_25 : decode cX12_lacks 25 = .ok (.iconst 1, 1) := by decide +kernel
theorem dX12_lacks_26 : decode cX12_lacks 26 = .ok (.istore 4, 2) := by decide +kernel
theorem dX12_lacks_28 : decode cX12_lacks 28 = .ok (.iload 4, 2) := by decide +kernel
theorem dX12_lacks_30 : decode cX12_lacks 30 = .ok (.aload_n 0, 1) := by decide +kernel
theorem dX12_lacks_31 : decode cX12_lacks 31 = .ok (.getfield 18, 3) := by decide +kernel
theorem dX12_lacks_34 : decode cX12_lacks 34 = .ok (.if_icmp .ge 72, 3) := by decide +kernel
theorem dX12_lacks_37 : decode cX12_lacks 37 = .ok (.lconst 1, 1) := by decide +kernel
theorem dX12_lacks_38 : decode cX12_lacks 38 = .ok (.bipush 8, 2) := by decide +kernel
theorem dX12_lacks_40 : decode cX12_lacks 40 = .ok (.aload_n 0, 1) := by decide +kernel
theorem dX12_lacks_41 : decode cX12_lacks 41 = .ok (.iload 4, 2) := by decide +kernel
theorem dX12_lacks_43 : decode cX12_lacks 43 = .ok (.invokevirtual 327, 3) := by decide +kernel
theorem dX12_lacks_46 : decode cX12_lacks 46 = .ok (.imul, 1) := by decide +kernel
theorem dX12_lacks_47 : decode cX12_lacks 47 = .ok (.aload_n 0, 1) := by decide +kernel
theorem dX12_lacks_48 : decode cX12_lacks 48 = .ok (.iload 4, 2) := by decide +kernel
theorem dX12_lacks_50 : decode cX12_lacks 50 = .ok (.iconst 1, 1) := by decide +kernel
theorem dX12_lacks_51 : decode cX12_lacks 51 = .ok (.isub, 1) := by decide +kernel
theorem dX12_lacks_52 : decode cX12_lacks 52 = .ok (.invokevirtual 327, 3) := by decide +kernel
theorem dX12_lacks_55 : decode cX12_lacks 55 = .ok (.iadd, 1) := by decide +kernel
theorem dX12_lacks_56 : decode cX12_lacks 56 = .ok (.lshl, 1) := by decide +kernel
theorem dX12_lacks_57 : decode cX12_lacks 57 = .ok (.lstore 5, 2) := by decide +kernel
theorem dX12_lacks_59 : decode cX12_lacks 59 = .ok (.aload_n 0, 1) := by decide +kernel
theorem dX12_lacks_60 : decode cX12_lacks 60 = .ok (.aload_n 0, 1) := by decide +kernel
theorem dX12_lacks_61 : decode cX12_lacks 61 = .ok (.iload 4, 2) := by decide +kernel
theorem dX12_lacks_63 : decode cX12_lacks 63 = .ok (.invokevirtual 327, 3) := by decide +kernel
theorem dX12_lacks_66 : decode cX12_lacks 66 = .ok (.aload_n 0, 1) := by decide +kernel
theorem dX12_lacks_67 : decode cX12_lacks 67 = .ok (.iload 4, 2) := by decide +kernel
theorem dX12_lacks_69 : decode cX12_lacks 69 = .ok (.iconst 1, 1) := by decide +kernel
theorem dX12_lacks_70 : decode cX12_lacks 70 = .ok (.isub, 1) := by decide +kernel
theorem dX12_lacks_71 : decode cX12_lacks 71 = .ok (.invokevirtual 327, 3) := by decide +kernel
theorem dX12_lacks_74 : decode cX12_lacks 74 = .ok (.invokevirtual 254, 3) := by decide +kernel
theorem dX12_lacks_77 : decode cX12_lacks 77 = .ok (.ifCond .ne 23, 3) := by decide +kernel
theorem dX12_lacks_80 : decode cX12_lacks 80 = .ok (.lload_n 1, 1) := by decide +kernel
theorem dX12_lacks_81 : decode cX12_lacks 81 = .ok (.lload 5, 2) := by decide +kernel
theorem dX12_lacks_83 : decode cX12_lacks 83 = .ok (.land, 1) := by decide +kernel
theorem dX12_lacks_84 : decode cX12_lacks 84 = .ok (.lconst 0, 1) := by decide +kernel
theorem dX12_lacks_85 : decode cX12_lacks 85 = .ok (.lcmp, 1) := by decide +kernel
theorem dX12_lacks_86 : decode cX12_lacks 86 = .ok (.ifCond .eq 6, 3) := by decide +kernel
theorem dX12_lacks_89 : decode cX12_lacks 89 = .ok (.goto 11, 3) := by decide +kernel
theorem dX12_lacks_92 : decode cX12_lacks 92 = .ok (.lload_n 1, 1) := by decide +kernel
theorem dX12_lacks_93 : decode cX12_lacks 93 = .ok (.lload 5, 2) := by decide +kernel
theorem dX12_lacks_95 : decode cX12_lacks 95 = .ok (.lor, 1) := by decide +kernel
theorem dX12_lacks_96 : decode cX12_lacks 96 = .ok (.lstore_n 1, 1) := by decide +kernel
theorem dX12_lacks_97 : decode cX12_lacks 97 = .ok (.iinc 3 1, 3) := by decide +kernel
theorem dX12_lacks_100 : decode cX12_lacks 100 = .ok (.iinc 4 1, 3) := by decide +kernel
theorem dX12_lacks_103 : decode cX12_lacks 103 = .ok (.goto (-75), 3) := by decide +kernel
theorem dX12_lacks_106 : decode cX12_lacks 106 = .ok (.iload_n 3, 1) := by decide +kernel
theorem dX12_lacks_107 : decode cX12_lacks 107 = .ok (.ireturn, 1) := by decide +kernel
theorem dX12_longOf_0 : decode cX12_longOf 0 = .ok (.iconst 0, 1) := by decide +kernel
theorem dX12_longOf_1 : decode cX12_longOf 1 = .ok (.istore_n 2, 1) := by decide +kernel
theorem dX12_longOf_2 : decode cX12_longOf 2 = .ok (.iconst 0, 1) := by decide +kernel
theorem dX12_longOf_3 : decode cX12_longOf 3 = .ok (.istore_n 3, 1) := by decide +kernel
theorem dX12_longOf_4 : decode cX12_longOf 4 = .ok (.iload_n 3, 1) := by decide +kernel
theorem dX12_longOf_5 : decode cX12_longOf 5 = .ok (.bipush 64, 2) := by decide +kernel
theorem dX12_longOf_7 : decode cX12_longOf 7 = .ok (.if_icmp .ge 29, 3) := by decide +kernel
theorem dX12_longOf_10 : decode cX12_longOf 10 = .ok (.iload_n 2, 1) := by decide +kernel
theorem dX12_longOf_11 : decode cX12_longOf 11 = .ok (.lload_n 0, 1) := by decide +kernel
theorem dX12_longOf_12 : decode cX12_longOf 12 = .ok (.iload_n 3, 1) := by decide +kernel
theorem dX12_longOf_13 : decode cX12_longOf 13 = .ok (.lshr, 1) := by decide +kernel
theorem dX12_longOf_14 : decode cX12_longOf 14 = .ok (.ldc2_w 348, 3) := by decide +kernel
theorem dX12_longOf_17 : decode cX12_longOf 17 = .ok (.land, 1) := by decide +kernel
theorem dX12_longOf_18 : decode cX12_longOf 18 = .ok (.lconst 0, 1) := by decide +kernel
theorem dX12_longOf_19 : decode cX12_longOf 19 = .ok (.lcmp, 1) := by decide +kernel
theorem dX12_longOf_20 : decode cX12_longOf 20 = .ok (.ifCond .eq 7, 3) := by decide +kernel
theorem dX12_longOf_23 : decode cX12_longOf 23 = .ok (.iconst 1, 1) := by decide +kernel
theorem dX12_longOf_24 : decode cX12_longOf 24 = .ok (.goto 4, 3) := by decide +kernel
theorem dX12_longOf_27 : decode cX12_longOf 27 = .ok (.iconst 0, 1) := by decide +kernel
theorem dX12_longOf_28 : decode cX12_longOf 28 = .ok (.iadd, 1) := by decide +kernel
theorem dX12_longOf_29 : decode cX12_longOf 29 = .ok (.istore_n 2, 1) := by decide +kernel
theorem dX12_longOf_30 : decode cX12_longOf 30 = .ok (.iinc 3 8, 3) := by decide +kernel
theorem dX12_longOf_33 : decode cX12_longOf 33 = .ok (.goto (-29), 3) := by decide +kernel
theorem dX12_longOf_36 : decode cX12_longOf 36 = .ok (.iload_n 2, 1) := by decide +kernel
theorem dX12_longOf_37 : decode cX12_longOf 37 = .ok (.ireturn, 1) := by decide +kernel
set_option maxRecDepth 20000 in
theorem ggX12_letterOf_X12_longOf : GoodIn wsX12_letterOf wsX12_longOf := goodIn_r _ [6, 2] rfl rfl
set_option maxRecDepth 20000 in
theorem gX12_letterOf_X12_longOf : GoodIn wsX12_letterOf (va_wsS RX12 350 yX12_longOf wsX12_longOf) := goodIn_app (goodIn_r _ [3, 4, 5] rfl rfl) ggX12_letterOf_X12_longOf
theorem dX12_letterOf_0 : decode cX12_letterOf 0 = .ok (.aload_n 0, 1) := by decide +kernel
theorem dX12_letterOf_1 : decode cX12_letterOf 1 = .ok (.getfield 43, 3) := by decide +kernel
theorem dX12_letterOf_4 : decode cX12_letterOf 4 = .ok (.bipush 6, 2) := by decide +kernel
theorem dX12_letterOf_6 : decode cX12_letterOf 6 = .ok (.iload_n 1, 1) := by decide +kernel
theorem dX12_letterOf_7 : decode cX12_letterOf 7 = .ok (.iadd, 1) := by decide +kernel
theorem dX12_letterOf_8 : decode cX12_letterOf 8 = .ok (.laload, 1) := by decide +kernel
theorem dX12_letterOf_9 : decode cX12_letterOf 9 = .ok (.lstore_n 3, 1) := by decide +kernel
theorem dX12_letterOf_10 : decode cX12_letterOf 10 = .ok (.lload_n 3, 1) := by decide +kernel
theorem dX12_letterOf_11 : decode cX12_letterOf 11 = .ok (.bipush 8, 2) := by decide +kernel
theorem dX12_letterOf_13 : decode cX12_letterOf 13 = .ok (.lload_n 3, 1) := by decide +kernel
theorem dX12_letterOf_14 : decode cX12_letterOf 14 = .ok (.invokestatic 350, 3) := by decide +kernel
theorem dX12_letterOf_17 : decode cX12_letterOf 17 = .ok (.iconst 1, 1) := by decide +kernel
theorem dX12_letterOf_18 : decode cX12_letterOf 18 = .ok (.isub, 1) := by decide +kernel
theorem dX12_letterOf_19 : decode cX12_letterOf 19 = .ok (.iload_n 2, 1) := by decide +kernel
theorem dX12_letterOf_20 : decode cX12_letterOf 20 = .ok (.isub, 1) := by decide +kernel
theorem dX12_letterOf_21 : decode cX12_letterOf 21 = .ok (.imul, 1) := by decide +kernel
theorem dX12_letterOf_22 : decode cX12_letterOf 22 = .ok (.lshr, 1) := by decide +kernel
theorem dX12_letterOf_23 : decode cX12_letterOf 23 = .ok (.ldc2_w 348, 3) := by decide +kernel
theorem dX12_letterOf_26 : decode cX12_letterOf 26 = .ok (.land, 1) := by decide +kernel
theorem dX12_letterOf_27 : decode cX12_letterOf 27 = .ok (.l2i, 1) := by decide +kernel
theorem dX12_letterOf_28 : decode cX12_letterOf 28 = .ok (.ireturn, 1) := by decide +kernel
set_option maxRecDepth 20000 in
theorem ggX12_isFaint_X12_longOf : GoodIn wsX12_isFaint wsX12_longOf := goodIn_r _ [6, 7] rfl rfl
set_option maxRecDepth 20000 in
theorem gX12_isFaint_X12_longOf : GoodIn wsX12_isFaint (va_wsS RX12 350 yX12_longOf wsX12_longOf) := goodIn_app (goodIn_r _ [3, 4, 5] rfl rfl) ggX12_isFaint_X12_longOf
set_option maxRecDepth 20000 in
theorem ggX12_isFaint_X12_octet : GoodIn wsX12_isFaint wsX12_octet := goodIn_r _ [11, 12, 17, 18, 19, 20, 21, 22, 23, 24, 25, 26, 27, 28, 29, 30, 31, 32, 33, 34, 35, 36, 37, 38, 39, 40, 41, 42, 43, 44, 45, 46, 47, 48, 49, 50, 51, 52, 53, 54, 55, 56, 57, 58, 59, 60, 61, 62, 63, 64, 65] rfl rfl
set_option maxRecDepth 20000 in
theorem gX12_isFaint_X12_octet : GoodIn wsX12_isFaint (wsV RX12 327 RX12 yX12_octet wsX12_octet) := goodIn_app (goodIn_r _ [8, 9, 10, 5] rfl rfl) ggX12_isFaint_X12_octet
set_option maxRecDepth 20000 in
theorem ggX12_isFaint_X12_letterOf : GoodIn wsX12_isFaint wsX12_letterOf := goodIn_r _ [16, 1, 7, 3, 4, 5, 6, 17, 18, 19, 20, 21, 22, 23, 24, 25, 26, 27, 28, 29, 30, 31, 32, 33, 34, 35, 36, 37, 38, 39, 40, 41, 42, 43, 44, 45, 46, 47, 48, 49, 50, 51, 52, 53, 54, 55, 56, 57, 58, 59, 60, 61, 62, 63, 64, 65] rfl rfl
set_option maxRecDepth 20000 in
theorem gX12_isFaint_X12_letterOf : GoodIn wsX12_isFaint (wsV RX12 354 RX12 yX12_letterOf wsX12_letterOf) := goodIn_app (goodIn_r _ [13, 14, 15, 5] rfl rfl) ggX12_isFaint_X12_letterOf
theorem dX12_isFaint_0 : decode cX12_isFaint 0 = .ok (.aload_n 0, 1) := by decide +kernel
theorem dX12_isFaint_1 : decode cX12_isFaint 1 = .ok (.getfield 43, 3) := by decide +kernel
theorem dX12_isFaint_4 : decode cX12_isFaint 4 = .ok (.bipush 6, 2) := by decide +kernel
theorem dX12_isFaint_6 : decode cX12_isFaint 6 = .ok (.iload_n 1, 1) := by decide +kernel
theorem dX12_isFaint_7 : decode cX12_isFaint 7 = .ok (.iadd, 1) := by decide +kernel
theorem dX12_isFaint_8 : decode cX12_isFaint 8 = .ok (.laload, 1) := by decide +kernel
theorem dX12_isFaint_9 : decode cX12_isFaint 9 = .ok (.invokestatic 350, 3) := by decide +kernel
theorem dX12_isFaint_12 : decode cX12_isFaint 12 = .ok (.aload_n 0, 1) := by decide +kernel
theorem dX12_isFaint_13 : decode cX12_isFaint 13 = .ok (.getfield 18, 3) := by decide +kernel
theorem dX12_isFaint_16 : decode cX12_isFaint 16 = .ok (.if_icmp .ne 7, 3) := by decide +kernel
theorem dX12_isFaint_19 : decode cX12_isFaint 19 = .ok (.iconst 1, 1) := by decide +kernel
theorem dX12_isFaint_20 : decode cX12_isFaint 20 = .ok (.goto 4, 3) := by decide +kernel
theorem dX12_isFaint_23 : decode cX12_isFaint 23 = .ok (.iconst 0, 1) := by decide +kernel
theorem dX12_isFaint_24 : decode cX12_isFaint 24 = .ok (.istore_n 2, 1) := by decide +kernel
theorem dX12_isFaint_25 : decode cX12_isFaint 25 = .ok (.iconst 0, 1) := by decide +kernel
theorem dX12_isFaint_26 : decode cX12_isFaint 26 = .ok (.istore_n 3, 1) := by decide +kernel
theorem dX12_isFaint_27 : decode cX12_isFaint 27 = .ok (.iload_n 3, 1) := by decide +kernel
theorem dX12_isFaint_28 : decode cX12_isFaint 28 = .ok (.aload_n 0, 1) := by decide +kernel
theorem dX12_isFaint_29 : decode cX12_isFaint 29 = .ok (.getfield 18, 3) := by decide +kernel
theorem dX12_isFaint_32 : decode cX12_isFaint 32 = .ok (.if_icmp .ge 43, 3) := by decide +kernel
theorem dX12_isFaint_35 : decode cX12_isFaint 35 = .ok (.iload_n 2, 1) := by decide +kernel
theorem dX12_isFaint_36 : decode cX12_isFaint 36 = .ok (.ifCond .eq 39, 3) := by decide +kernel
theorem dX12_isFaint_39 : decode cX12_isFaint 39 = .ok (.aload_n 0, 1) := by decide +kernel
theorem dX12_isFaint_40 : decode cX12_isFaint 40 = .ok (.iload_n 3, 1) := by decide +kernel
theorem dX12_isFaint_41 : decode cX12_isFaint 41 = .ok (.invokevirtual 327, 3) := by decide +kernel
theorem dX12_isFaint_44 : decode cX12_isFaint 44 = .ok (.bipush 63, 2) := by decide +kernel
theorem dX12_isFaint_46 : decode cX12_isFaint 46 = .ok (.if_icmp .eq 17, 3) := by decide +kernel
theorem dX12_isFaint_49 : decode cX12_isFaint 49 = .ok (.aload_n 0, 1) := by decide +kernel
theorem dX12_isFaint_50 : decode cX12_isFaint 50 = .ok (.iload_n 3, 1) := by decide +kernel
theorem dX12_isFaint_51 : decode cX12_isFaint 51 = .ok (.invokevirtual 327, 3) := by decide +kernel
theorem dX12_isFaint_54 : decode cX12_isFaint 54 = .ok (.aload_n 0, 1) := by decide +kernel
theorem dX12_isFaint_55 : decode cX12_isFaint 55 = .ok (.iload_n 1, 1) := by decide +kernel
theorem dX12_isFaint_56 : decode cX12_isFaint 56 = .ok (.iload_n 3, 1) := by decide +kernel
theorem dX12_isFaint_57 : decode cX12_isFaint 57 = .ok (.invokevirtual 354, 3) := by decide +kernel
theorem dX12_isFaint_60 : decode cX12_isFaint 60 = .ok (.if_icmp .ne 7, 3) := by decide +kernel
theorem dX12_isFaint_63 : decode cX12_isFaint 63 = .ok (.iconst 1, 1) := by decide +kernel
theorem dX12_isFaint_64 : decode cX12_isFaint 64 = .ok (.goto 4, 3) := by decide +kernel
theorem dX12_isFaint_67 : decode cX12_isFaint 67 = .ok (.iconst 0, 1) := by decide +kernel
theorem dX12_isFaint_68 : decode cX12_isFaint 68 = .ok (.istore_n 2, 1) := by decide +kernel
theorem dX12_isFaint_69 : decode cX12_isFaint 69 = .ok (.iinc 3 1, 3) := by decide +kernel
theorem dX12_isFaint_72 : decode cX12_isFaint 72 = .ok (.goto (-45), 3) := by decide +kernel
theorem dX12_isFaint_75 : decode cX12_isFaint 75 = .ok (.iload_n 2, 1) := by decide +kernel
theorem dX12_isFaint_76 : decode cX12_isFaint 76 = .ok (.ireturn, 1) := by decide +kernel
set_option maxRecDepth 20000 in
theorem ggX12_leftBy_X12_bitOf : GoodIn wsX12_leftBy wsX12_bitOf := goodIn_r _ [5] rfl rfl
set_option maxRecDepth 20000 in
theorem gX12_leftBy_X12_bitOf : GoodIn wsX12_leftBy (va_wsS RX12 233 yX12_bitOf wsX12_bitOf) := goodIn_app (goodIn_r _ [2, 3, 4] rfl rfl) ggX12_leftBy_X12_bitOf
set_option maxRecDepth 20000 in
theorem ggX12_leftBy_X12_letterOf : GoodIn wsX12_leftBy wsX12_letterOf := goodIn_r _ [9, 10, 11, 12, 13, 4, 14, 18, 19, 20, 21, 22, 23, 24, 25, 26, 27, 28, 29, 30, 31, 32, 33, 34, 35, 36, 37, 38, 39, 40, 41, 42, 43, 44, 45, 46, 47, 48, 49, 50, 51, 52, 53, 54, 55, 56, 57, 58, 59, 60, 61, 62, 63, 64, 65, 66] rfl rfl
set_option maxRecDepth 20000 in
theorem gX12_leftBy_X12_letterOf : GoodIn wsX12_leftBy (wsV RX12 354 RX12 yX12_letterOf wsX12_letterOf) := goodIn_app (goodIn_r _ [6, 7, 8, 4] rfl rfl) ggX12_leftBy_X12_letterOf
set_option maxRecDepth 20000 in
theorem ggX12_leftBy_X12_greater : GoodIn wsX12_leftBy wsX12_greater := goodIn_r _ [17] rfl rfl
set_option maxRecDepth 20000 in
theorem gX12_leftBy_X12_greater : GoodIn wsX12_leftBy (va_wsS RX12 333 yX12_greater wsX12_greater) := goodIn_app (goodIn_r _ [15, 16, 4] rfl rfl) ggX12_leftBy_X12_greater
theorem dX12_leftBy_0 : decode cX12_leftBy 0 = .ok (.iconst 0, 1) := by decide +kernel
theorem dX12_leftBy_1 : decode cX12_leftBy 1 = .ok (.istore_n 3, 1) := by decide +kernel
theorem dX12_leftBy_2 : decode cX12_leftBy 2 = .ok (.iconst 0, 1) := by decide +kernel
theorem dX12_leftBy_3 : decode cX12_leftBy 3 = .ok (.istore 4, 2) := by decide +kernel
theorem dX12_leftBy_5 : decode cX12_leftBy 5 = .ok (.iload 4, 2) := by decide +kernel
theorem dX12_leftBy_7 : decode cX12_leftBy 7 = .ok (.aload_n 0, 1) := by decide +kernel
theorem dX12_leftBy_8 : decode cX12_leftBy 8 = .ok (.getfield 33, 3) := by decide +kernel
theorem dX12_leftBy_11 : decode cX12_leftBy 11 = .ok (.iconst 1, 1) := by decide +kernel
theorem dX12_leftBy_12 : decode cX12_leftBy 12 = .ok (.iaload, 1) := by decide +kernel
theorem dX12_leftBy_13 : decode cX12_leftBy 13 = .ok (.if_icmp .ge 84, 3) := by decide +kernel
theorem dX12_leftBy_16 : decode cX12_leftBy 16 = .ok (.iconst 0, 1) := by decide +kernel
theorem dX12_leftBy_17 : decode cX12_leftBy 17 = .ok (.istore 5, 2) := by decide +kernel
theorem dX12_leftBy_19 : decode cX12_leftBy 19 = .ok (.iconst 0, 1) := by decide +kernel
theorem dX12_leftBy_20 : decode cX12_leftBy 20 = .ok (.istore 6, 2) := by decide +kernel
theorem dX12_leftBy_22 : decode cX12_leftBy 22 = .ok (.iload 6, 2) := by decide +kernel
theorem dX12_leftBy_24 : decode cX12_leftBy 24 = .ok (.aload_n 0, 1) := by decide +kernel
theorem dX12_leftBy_25 : decode cX12_leftBy 25 = .ok (.getfield 33, 3) := by decide +kernel
theorem dX12_leftBy_28 : decode cX12_leftBy 28 = .ok (.iconst 1, 1) := by decide +kernel
theorem dX12_leftBy_29 : decode cX12_leftBy 29 = .ok (.iaload, 1) := by decide +kernel
theorem dX12_leftBy_30 : decode cX12_leftBy 30 = .ok (.if_icmp .ge 54, 3) := by decide +kernel
theorem dX12_leftBy_33 : decode cX12_leftBy 33 = .ok (.iload 5, 2) := by decide +kernel
theorem dX12_leftBy_35 : decode cX12_leftBy 35 = .ok (.iload_n 1, 1) := by decide +kernel
theorem dX12_leftBy_36 : decode cX12_leftBy 36 = .ok (.iload 4, 2) := by decide +kernel
theorem dX12_leftBy_38 : decode cX12_leftBy 38 = .ok (.invokestatic 233, 3) := by decide +kernel
theorem dX12_leftBy_41 : decode cX12_leftBy 41 = .ok (.ifCond .eq 33, 3) := by decide +kernel
theorem dX12_leftBy_44 : decode cX12_leftBy 44 = .ok (.iload_n 1, 1) := by decide +kernel
theorem dX12_leftBy_45 : decode cX12_leftBy 45 = .ok (.iload 6, 2) := by decide +kernel
theorem dX12_leftBy_47 : decode cX12_leftBy 47 = .ok (.invokestatic 233, 3) := by decide +kernel
theorem dX12_leftBy_50 : decode cX12_leftBy 50 = .ok (.ifCond .eq 24, 3) := by decide +kernel
theorem dX12_leftBy_53 : decode cX12_leftBy 53 = .ok (.aload_n 0, 1) := by decide +kernel
theorem dX12_leftBy_54 : decode cX12_leftBy 54 = .ok (.iload 4, 2) := by decide +kernel
theorem dX12_leftBy_56 : decode cX12_leftBy 56 = .ok (.iload_n 2, 1) := by decide +kernel
theorem dX12_leftBy_57 : decode cX12_leftBy 57 = .ok (.invokevirtual 354, 3) := by decide +kernel
theorem dX12_leftBy_60 : decode cX12_leftBy 60 = .ok (.aload_n 0, 1) := by decide +kernel
theorem dX12_leftBy_61 : decode cX12_leftBy 61 = .ok (.iload 6, 2) := by decide +kernel
theorem dX12_leftBy_63 : decode cX12_leftBy 63 = .ok (.iload_n 2, 1) := by decide +kernel
theorem dX12_leftBy_64 : decode cX12_leftBy 64 = .ok (.invokevirtual 354, 3) := by decide +kernel
theorem dX12_leftBy_67 : decode cX12_leftBy 67 = .ok (.if_icmp .ne 7, 3) := by decide +kernel
theorem dX12_leftBy_70 : decode cX12_leftBy 70 = .ok (.iconst 1, 1) := by decide +kernel
theorem dX12_leftBy_71 : decode cX12_leftBy 71 = .ok (.goto 4, 3) := by decide +kernel
theorem dX12_leftBy_74 : decode cX12_leftBy 74 = .ok (.iconst 0, 1) := by decide +kernel
theorem dX12_leftBy_75 : decode cX12_leftBy 75 = .ok (.iadd, 1) := by decide +kernel
theorem dX12_leftBy_76 : decode cX12_leftBy 76 = .ok (.istore 5, 2) := by decide +kernel
theorem dX12_leftBy_78 : decode cX12_leftBy 78 = .ok (.iinc 6 1, 3) := by decide +kernel
theorem dX12_leftBy_81 : decode cX12_leftBy 81 = .ok (.goto (-59), 3) := by decide +kernel
theorem dX12_leftBy_84 : decode cX12_leftBy 84 = .ok (.iload_n 3, 1) := by decide +kernel
theorem dX12_leftBy_85 : decode cX12_leftBy 85 = .ok (.iload 5, 2) := by decide +kernel
theorem dX12_leftBy_87 : decode cX12_leftBy 87 = .ok (.invokestatic 333, 3) := by decide +kernel
theorem dX12_leftBy_90 : decode cX12_leftBy 90 = .ok (.istore_n 3, 1) := by decide +kernel
theorem dX12_leftBy_91 : decode cX12_leftBy 91 = .ok (.iinc 4 1, 3) := by decide +kernel
theorem dX12_leftBy_94 : decode cX12_leftBy 94 = .ok (.goto (-89), 3) := by decide +kernel
theorem dX12_leftBy_97 : decode cX12_leftBy 97 = .ok (.iload_n 3, 1) := by decide +kernel
theorem dX12_leftBy_98 : decode cX12_leftBy 98 = .ok (.ireturn, 1) := by decide +kernel
set_option maxRecDepth 20000 in
theorem ggX12_faint_X12_taken : GoodIn wsX12_faint wsX12_taken := goodIn_r _ [10, 11, 2, 12, 13, 45, 46, 47, 48, 49, 50, 51, 52, 53, 54, 55, 56, 57, 58, 59, 60, 61, 62, 63, 64, 65, 66, 67, 68, 69, 70, 71, 72, 73, 74, 75, 76, 77, 78, 79, 80, 81, 82, 83, 84, 85, 86, 87, 88, 89, 90, 91, 92, 93] rfl rfl
set_option maxRecDepth 20000 in
theorem gX12_faint_X12_taken : GoodIn wsX12_faint (wsV RX12 236 RX12 yX12_taken wsX12_taken) := goodIn_app (goodIn_r _ [6, 7, 8, 9] rfl rfl) ggX12_faint_X12_taken
set_option maxRecDepth 20000 in
theorem ggX12_faint_X12_isIn : GoodIn wsX12_faint wsX12_isIn := goodIn_r _ [16] rfl rfl
set_option maxRecDepth 20000 in
theorem gX12_faint_X12_isIn : GoodIn wsX12_faint (va_wsS RX12 186 yX12_isIn wsX12_isIn) := goodIn_app (goodIn_r _ [14, 15, 9] rfl rfl) ggX12_faint_X12_isIn
set_option maxRecDepth 20000 in
theorem ggX12_faint_X12_octet : GoodIn wsX12_faint wsX12_octet := goodIn_r _ [20, 21, 45, 46, 47, 48, 49, 50, 51, 52, 53, 54, 55, 56, 57, 58, 59, 60, 61, 62, 63, 64, 65, 66, 67, 68, 69, 70, 71, 72, 73, 74, 75, 76, 77, 78, 79, 80, 81, 82, 83, 84, 85, 86, 87, 88, 89, 90, 91, 92, 93] rfl rfl
set_option maxRecDepth 20000 in
theorem gX12_faint_X12_octet : GoodIn wsX12_faint (wsV RX12 327 RX12 yX12_octet wsX12_octet) := goodIn_app (goodIn_r _ [17, 18, 19, 9] rfl rfl) ggX12_faint_X12_octet
set_option maxRecDepth 20000 in
theorem ggX12_faint_X12_isFaint : GoodIn wsX12_faint wsX12_isFaint := goodIn_r _ [25, 26, 2, 27, 28, 9, 29, 30, 17, 18, 19, 20, 21, 31, 32, 33, 34, 45, 46, 47, 48, 49, 50, 51, 52, 53, 54, 55, 56, 57, 58, 59, 60, 61, 62, 63, 64, 65, 66, 67, 68, 69, 70, 71, 72, 73, 74, 75, 76, 77, 78, 79, 80, 81, 82, 83, 84, 85, 86, 87, 88, 89, 90, 91, 92, 93] rfl rfl
set_option maxRecDepth 20000 in
theorem gX12_faint_X12_isFaint : GoodIn wsX12_faint (wsV RX12 357 RX12 yX12_isFaint wsX12_isFaint) := goodIn_app (goodIn_r _ [22, 23, 24, 9] rfl rfl) ggX12_faint_X12_isFaint
set_option maxRecDepth 20000 in
theorem ggX12_faint_X12_leftBy : GoodIn wsX12_faint wsX12_leftBy := goodIn_r _ [38, 3, 39, 40, 9, 41, 31, 32, 33, 34, 26, 30, 27, 28, 29, 42, 43, 44, 45, 46, 47, 48, 49, 50, 51, 52, 53, 54, 55, 56, 57, 58, 59, 60, 61, 62, 63, 64, 65, 66, 67, 68, 69, 70, 71, 72, 73, 74, 75, 76, 77, 78, 79, 80, 81, 82, 83, 84, 85, 86, 87, 88, 89, 90, 91, 92, 93] rfl rfl
set_option maxRecDepth 20000 in
theorem gX12_faint_X12_leftBy : GoodIn wsX12_faint (wsV RX12 367 RX12 yX12_leftBy wsX12_leftBy) := goodIn_app (goodIn_r _ [35, 36, 37, 9] rfl rfl) ggX12_faint_X12_leftBy
theorem dX12_faint_0 : decode cX12_faint 0 = .ok (.aload_n 0, 1) := by decide +kernel
theorem dX12_faint_1 : decode cX12_faint 1 = .ok (.iconst 0, 1) := by decide +kernel
theorem dX12_faint_2 : decode cX12_faint 2 = .ok (.putfield 1, 3) := by decide +kernel
theorem dX12_faint_5 : decode cX12_faint 5 = .ok (.aload_n 0, 1) := by decide +kernel
theorem dX12_faint_6 : decode cX12_faint 6 = .ok (.sipush 940, 3) := by decide +kernel
theorem dX12_faint_9 : decode cX12_faint 9 = .ok (.invokevirtual 236, 3) := by decide +kernel
theorem dX12_faint_12 : decode cX12_faint 12 = .ok (.aload_n 0, 1) := by decide +kernel
theorem dX12_faint_13 : decode cX12_faint 13 = .ok (.getfield 18, 3) := by decide +kernel
theorem dX12_faint_16 : decode cX12_faint 16 = .ok (.iconst 1, 1) := by decide +kernel
theorem dX12_faint_17 : decode cX12_faint 17 = .ok (.bipush 7, 2) := by decide +kernel
theorem dX12_faint_19 : decode cX12_faint 19 = .ok (.invokestatic 186, 3) := by decide +kernel
theorem dX12_faint_22 : decode cX12_faint 22 = .ok (.ifCond .ne 5, 3) := by decide +kernel
theorem dX12_faint_25 : decode cX12_faint 25 = .ok (.iconst (-1), 1) := by decide +kernel
theorem dX12_faint_26 : decode cX12_faint 26 = .ok (.ireturn, 1) := by decide +kernel
theorem dX12_faint_27 : decode cX12_faint 27 = .ok (.iconst 0, 1) := by decide +kernel
theorem dX12_faint_28 : decode cX12_faint 28 = .ok (.istore_n 1, 1) := by decide +kernel
theorem dX12_faint_29 : decode cX12_faint 29 = .ok (.iload_n 1, 1) := by decide +kernel
theorem dX12_faint_30 : decode cX12_faint 30 = .ok (.aload_n 0, 1) := by decide +kernel
theorem dX12_faint_31 : decode cX12_faint 31 = .ok (.getfield 18, 3) := by decide +kernel
theorem dX12_faint_34 : decode cX12_faint 34 = .ok (.if_icmp .ge 36, 3) := by decide +kernel
theorem dX12_faint_37 : decode cX12_faint 37 = .ok (.aload_n 0, 1) := by decide +kernel
theorem dX12_faint_38 : decode cX12_faint 38 = .ok (.iload_n 1, 1) := by decide +kernel
theorem dX12_faint_39 : decode cX12_faint 39 = .ok (.invokevirtual 327, 3) := by decide +kernel
theorem dX12_faint_42 : decode cX12_faint 42 = .ok (.bipush 63, 2) := by decide +kernel
theorem dX12_faint_44 : decode cX12_faint 44 = .ok (.if_icmp .eq 20, 3) := by decide +kernel
theorem dX12_faint_47 : decode cX12_faint 47 = .ok (.aload_n 0, 1) := by decide +kernel
theorem dX12_faint_48 : decode cX12_faint 48 = .ok (.iload_n 1, 1) := by decide +kernel
theorem dX12_faint_49 : decode cX12_faint 49 = .ok (.invokevirtual 327, 3) := by decide +kernel
theorem dX12_faint_52 : decode cX12_faint 52 = .ok (.bipush 97, 2) := by decide +kernel
theorem dX12_faint_54 : decode cX12_faint 54 = .ok (.bipush 122, 2) := by decide +kernel
theorem dX12_faint_56 : decode cX12_faint 56 = .ok (.invokestatic 186, 3) := by decide +kernel
theorem dX12_faint_59 : decode cX12_faint 59 = .ok (.ifCond .ne 5, 3) := by decide +kernel
theorem dX12_faint_62 : decode cX12_faint 62 = .ok (.iconst (-1), 1) := by decide +kernel
theorem dX12_faint_63 : decode cX12_faint 63 = .ok (.ireturn, 1) := by decide +kernel
theorem dX12_faint_64 : decode cX12_faint 64 = .ok (.iinc 1 1, 3) := by decide +kernel
theorem dX12_faint_67 : decode cX12_faint 67 = .ok (.goto (-38), 3) := by decide +kernel
theorem dX12_faint_70 : decode cX12_faint 70 = .ok (.iconst 0, 1) := by decide +kernel
theorem dX12_faint_71 : decode cX12_faint 71 = .ok (.istore_n 1, 1) := by decide +kernel
theorem dX12_faint_72 : decode cX12_faint 72 = .ok (.iconst 0, 1) := by decide +kernel
theorem dX12_faint_73 : decode cX12_faint 73 = .ok (.istore_n 2, 1) := by decide +kernel
theorem dX12_faint_74 : decode cX12_faint 74 = .ok (.iload_n 2, 1) := by decide +kernel
theorem dX12_faint_75 : decode cX12_faint 75 = .ok (.aload_n 0, 1) := by decide +kernel
theorem dX12_faint_76 : decode cX12_faint 76 = .ok (.getfield 33, 3) := by decide +kernel
theorem dX12_faint_79 : decode cX12_faint 79 = .ok (.iconst 1, 1) := by decide +kernel
theorem dX12_faint_80 : decode cX12_faint 80 = .ok (.iaload, 1) := by decide +kernel
theorem dX12_faint_81 : decode cX12_faint 81 = .ok (.if_icmp .ge 27, 3) := by decide +kernel
theorem dX12_faint_84 : decode cX12_faint 84 = .ok (.iload_n 1, 1) := by decide +kernel
theorem dX12_faint_85 : decode cX12_faint 85 = .ok (.aload_n 0, 1) := by decide +kernel
theorem dX12_faint_86 : decode cX12_faint 86 = .ok (.iload_n 2, 1) := by decide +kernel
theorem dX12_faint_87 : decode cX12_faint 87 = .ok (.invokevirtual 357, 3) := by decide +kernel
theorem dX12_faint_90 : decode cX12_faint 90 = .ok (.ifCond .eq 9, 3) := by decide +kernel
theorem dX12_faint_93 : decode cX12_faint 93 = .ok (.iconst 1, 1) := by decide +kernel
theorem dX12_faint_94 : decode cX12_faint 94 = .ok (.iload_n 2, 1) := by decide +kernel
theorem dX12_faint_95 : decode cX12_faint 95 = .ok (.ishl, 1) := by decide +kernel
theorem dX12_faint_96 : decode cX12_faint 96 = .ok (.goto 4, 3) := by decide +kernel
theorem dX12_faint_99 : decode cX12_faint 99 = .ok (.iconst 0, 1) := by decide +kernel
theorem dX12_faint_100 : decode cX12_faint 100 = .ok (.ior, 1) := by decide +kernel
theorem dX12_faint_101 : decode cX12_faint 101 = .ok (.istore_n 1, 1) := by decide +kernel
theorem dX12_faint_102 : decode cX12_faint 102 = .ok (.iinc 2 1, 3) := by decide +kernel
theorem dX12_faint_105 : decode cX12_faint 105 = .ok (.goto (-31), 3) := by decide +kernel
theorem dX12_faint_108 : decode cX12_faint 108 = .ok (.iload_n 1, 1) := by decide +kernel
theorem dX12_faint_109 : decode cX12_faint 109 = .ok (.ifCond .ne 5, 3) := by decide +kernel
theorem dX12_faint_112 : decode cX12_faint 112 = .ok (.iconst 0, 1) := by decide +kernel
theorem dX12_faint_113 : decode cX12_faint 113 = .ok (.ireturn, 1) := by decide +kernel
theorem dX12_faint_114 : decode cX12_faint 114 = .ok (.aload_n 0, 1) := by decide +kernel
theorem dX12_faint_115 : decode cX12_faint 115 = .ok (.iconst 1, 1) := by decide +kernel
theorem dX12_faint_116 : decode cX12_faint 116 = .ok (.putfield 360, 3) := by decide +kernel
theorem dX12_faint_119 : decode cX12_faint 119 = .ok (.aload_n 0, 1) := by decide +kernel
theorem dX12_faint_120 : decode cX12_faint 120 = .ok (.iconst 0, 1) := by decide +kernel
theorem dX12_faint_121 : decode cX12_faint 121 = .ok (.putfield 364, 3) := by decide +kernel
theorem dX12_faint_124 : decode cX12_faint 124 = .ok (.iconst 1, 1) := by decide +kernel
theorem dX12_faint_125 : decode cX12_faint 125 = .ok (.istore_n 2, 1) := by decide +kernel
theorem dX12_faint_126 : decode cX12_faint 126 = .ok (.iload_n 2, 1) := by decide +kernel
theorem dX12_faint_127 : decode cX12_faint 127 = .ok (.aload_n 0, 1) := by decide +kernel
theorem dX12_faint_128 : decode cX12_faint 128 = .ok (.getfield 18, 3) := by decide +kernel
theorem dX12_faint_131 : decode cX12_faint 131 = .ok (.if_icmp .ge 32, 3) := by decide +kernel
theorem dX12_faint_134 : decode cX12_faint 134 = .ok (.aload_n 0, 1) := by decide +kernel
theorem dX12_faint_135 : decode cX12_faint 135 = .ok (.iload_n 1, 1) := by decide +kernel
theorem dX12_faint_136 : decode cX12_faint 136 = .ok (.iload_n 2, 1) := by decide +kernel
theorem dX12_faint_137 : decode cX12_faint 137 = .ok (.invokevirtual 367, 3) := by decide +kernel
theorem dX12_faint_140 : decode cX12_faint 140 = .ok (.aload_n 0, 1) := by decide +kernel
theorem dX12_faint_141 : decode cX12_faint 141 = .ok (.iload_n 1, 1) := by decide +kernel
theorem dX12_faint_142 : decode cX12_faint 142 = .ok (.aload_n 0, 1) := by decide +kernel
theorem dX12_faint_143 : decode cX12_faint 143 = .ok (.getfield 364, 3) := by decide +kernel
theorem dX12_faint_146 : decode cX12_faint 146 = .ok (.invokevirtual 367, 3) := by decide +kernel
theorem dX12_faint_149 : decode cX12_faint 149 = .ok (.if_icmp .ge 8, 3) := by decide +kernel
theorem dX12_faint_152 : decode cX12_faint 152 = .ok (.aload_n 0, 1) := by decide +kernel
theorem dX12_faint_153 : decode cX12_faint 153 = .ok (.iload_n 2, 1) := by decide +kernel
theorem dX12_faint_154 : decode cX12_faint 154 = .ok (.putfield 364, 3) := by decide +kernel
theorem dX12_faint_157 : decode cX12_faint 157 = .ok (.iinc 2 1, 3) := by decide +kernel
theorem dX12_faint_160 : decode cX12_faint 160 = .ok (.goto (-34), 3) := by decide +kernel
theorem dX12_faint_163 : decode cX12_faint 163 = .ok (.iload_n 1, 1) := by decide +kernel
theorem dX12_faint_164 : decode cX12_faint 164 = .ok (.ireturn, 1) := by decide +kernel
theorem dX12_look_0 : decode cX12_look 0 = .ok (.aload_n 0, 1) := by decide +kernel
theorem dX12_look_1 : decode cX12_look 1 = .ok (.iconst 0, 1) := by decide +kernel
theorem dX12_look_2 : decode cX12_look 2 = .ok (.putfield 1, 3) := by decide +kernel
theorem dX12_look_5 : decode cX12_look 5 = .ok (.aload_n 0, 1) := by decide +kernel
theorem dX12_look_6 : decode cX12_look 6 = .ok (.getfield 360, 3) := by decide +kernel
theorem dX12_look_9 : decode cX12_look 9 = .ok (.ifCond .eq 10, 3) := by decide +kernel
theorem dX12_look_12 : decode cX12_look 12 = .ok (.aload_n 0, 1) := by decide +kernel
theorem dX12_look_13 : decode cX12_look 13 = .ok (.getfield 364, 3) := by decide +kernel
theorem dX12_look_16 : decode cX12_look 16 = .ok (.goto 4, 3) := by decide +kernel
theorem dX12_look_19 : decode cX12_look 19 = .ok (.iconst (-1), 1) := by decide +kernel
theorem dX12_look_20 : decode cX12_look 20 = .ok (.ireturn, 1) := by decide +kernel
theorem dX12_common_0 : decode cX12_common 0 = .ok (.iload_n 0, 1) := by decide +kernel
theorem dX12_common_1 : decode cX12_common 1 = .ok (.istore_n 2, 1) := by decide +kernel
theorem dX12_common_2 : decode cX12_common 2 = .ok (.iload_n 1, 1) := by decide +kernel
theorem dX12_common_3 : decode cX12_common 3 = .ok (.istore_n 3, 1) := by decide +kernel
theorem dX12_common_4 : decode cX12_common 4 = .ok (.iload_n 3, 1) := by decide +kernel
theorem dX12_common_5 : decode cX12_common 5 = .ok (.ifCond .eq 16, 3) := by decide +kernel
theorem dX12_common_8 : decode cX12_common 8 = .ok (.iload_n 2, 1) := by decide +kernel
theorem dX12_common_9 : decode cX12_common 9 = .ok (.iload_n 3, 1) := by decide +kernel
theorem dX12_common_10 : decode cX12_common 10 = .ok (.irem, 1) := by decide +kernel
theorem dX12_common_11 : decode cX12_common 11 = .ok (.istore 4, 2) := by decide +kernel
theorem dX12_common_13 : decode cX12_common 13 = .ok (.iload_n 3, 1) := by decide +kernel
theorem dX12_common_14 : decode cX12_common 14 = .ok (.istore_n 2, 1) := by decide +kernel
theorem dX12_common_15 : decode cX12_common 15 = .ok (.iload 4, 2) := by decide +kernel
theorem dX12_common_17 : decode cX12_common 17 = .ok (.istore_n 3, 1) := by decide +kernel
theorem dX12_common_18 : decode cX12_common 18 = .ok (.goto (-14), 3) := by decide +kernel
theorem dX12_common_21 : decode cX12_common 21 = .ok (.iload_n 2, 1) := by decide +kernel
theorem dX12_common_22 : decode cX12_common 22 = .ok (.ireturn, 1) := by decide +kernel
set_option maxRecDepth 20000 in
theorem ggX12_ship_X12_taken : GoodIn wsX12_ship wsX12_taken := goodIn_r _ [9, 10, 2, 11, 12, 24, 25, 26, 27, 28, 29, 30, 31, 32, 33, 34, 35, 36, 37, 38, 39, 40, 41, 42, 43, 44, 45, 46, 47, 48, 49, 50, 51, 52, 53, 54, 55, 56, 57, 58, 59, 60, 61, 62, 63, 64, 65, 66, 67, 68, 69, 70, 71, 72] rfl rfl
set_option maxRecDepth 20000 in
theorem gX12_ship_X12_taken : GoodIn wsX12_ship (wsV RX12 236 RX12 yX12_taken wsX12_taken) := goodIn_app (goodIn_r _ [5, 6, 7, 8] rfl rfl) ggX12_ship_X12_taken
set_option maxRecDepth 20000 in
theorem ggX12_ship_X12_isIn : GoodIn wsX12_ship wsX12_isIn := goodIn_r _ [15] rfl rfl
set_option maxRecDepth 20000 in
theorem gX12_ship_X12_isIn : GoodIn wsX12_ship (va_wsS RX12 186 yX12_isIn wsX12_isIn) := goodIn_app (goodIn_r _ [13, 14, 8] rfl rfl) ggX12_ship_X12_isIn
set_option maxRecDepth 20000 in
theorem ggX12_ship_X12_octet : GoodIn wsX12_ship wsX12_octet := goodIn_r _ [19, 20, 24, 25, 26, 27, 28, 29, 30, 31, 32, 33, 34, 35, 36, 37, 38, 39, 40, 41, 42, 43, 44, 45, 46, 47, 48, 49, 50, 51, 52, 53, 54, 55, 56, 57, 58, 59, 60, 61, 62, 63, 64, 65, 66, 67, 68, 69, 70, 71, 72] rfl rfl
set_option maxRecDepth 20000 in
theorem gX12_ship_X12_octet : GoodIn wsX12_ship (wsV RX12 327 RX12 yX12_octet wsX12_octet) := goodIn_app (goodIn_r _ [16, 17, 18, 8] rfl rfl) ggX12_ship_X12_octet
set_option maxRecDepth 20000 in
theorem ggX12_ship_X12_common : GoodIn wsX12_ship wsX12_common := goodIn_r _ [23] rfl rfl
set_option maxRecDepth 20000 in
theorem gX12_ship_X12_common : GoodIn wsX12_ship (va_wsS RX12 371 yX12_common wsX12_common) := goodIn_app (goodIn_r _ [21, 22, 8] rfl rfl) ggX12_ship_X12_common
theorem dX12_ship_0 : decode cX12_ship 0 = .ok (.aload_n 0, 1) := by decide +kernel
theorem dX12_ship_1 : decode cX12_ship 1 = .ok (.iconst 0, 1) := by decide +kernel
theorem dX12_ship_2 : decode cX12_ship 2 = .ok (.putfield 1, 3) := by decide +kernel
theorem dX12_ship_5 : decode cX12_ship 5 = .ok (.aload_n 0, 1) := by decide +kernel
theorem dX12_ship_6 : decode cX12_ship 6 = .ok (.sipush 940, 3) := by decide +kernel
theorem dX12_ship_9 : decode cX12_ship 9 = .ok (.invokevirtual 236, 3) := by decide +kernel
theorem dX12_ship_12 : decode cX12_ship 12 = .ok (.aload_n 0, 1) := by decide +kernel
theorem dX12_ship_13 : decode cX12_ship 13 = .ok (.getfield 18, 3) := by decide +kernel
theorem dX12_ship_16 : decode cX12_ship 16 = .ok (.iconst 1, 1) := by decide +kernel
theorem dX12_ship_17 : decode cX12_ship 17 = .ok (.bipush 6, 2) := by decide +kernel
theorem dX12_ship_19 : decode cX12_ship 19 = .ok (.invokestatic 186, 3) := by decide +kernel
theorem dX12_ship_22 : decode cX12_ship 22 = .ok (.ifCond .ne 5, 3) := by decide +kernel
theorem dX12_ship_25 : decode cX12_ship 25 = .ok (.iconst (-1), 1) := by decide +kernel
theorem dX12_ship_26 : decode cX12_ship 26 = .ok (.ireturn, 1) := by decide +kernel
theorem dX12_ship_27 : decode cX12_ship 27 = .ok (.iconst 0, 1) := by decide +kernel
theorem dX12_ship_28 : decode cX12_ship 28 = .ok (.istore_n 1, 1) := by decide +kernel
theorem dX12_ship_29 : decode cX12_ship 29 = .ok (.iload_n 1, 1) := by decide +kernel
theorem dX12_ship_30 : decode cX12_ship 30 = .ok (.aload_n 0, 1) := by decide +kernel
theorem dX12_ship_31 : decode cX12_ship 31 = .ok (.getfield 18, 3) := by decide +kernel
theorem dX12_ship_34 : decode cX12_ship 34 = .ok (.if_icmp .ge 25, 3) := by decide +kernel
theorem dX12_ship_37 : decode cX12_ship 37 = .ok (.aload_n 0, 1) := by decide +kernel
theorem dX12_ship_38 : decode cX12_ship 38 = .ok (.iload_n 1, 1) := by decide +kernel
theorem dX12_ship_39 : decode cX12_ship 39 = .ok (.invokevirtual 327, 3) := by decide +kernel
theorem dX12_ship_42 : decode cX12_ship 42 = .ok (.iconst 1, 1) := by decide +kernel
theorem dX12_ship_43 : decode cX12_ship 43 = .ok (.bipush 60, 2) := by decide +kernel
theorem dX12_ship_45 : decode cX12_ship 45 = .ok (.invokestatic 186, 3) := by decide +kernel
theorem dX12_ship_48 : decode cX12_ship 48 = .ok (.ifCond .ne 5, 3) := by decide +kernel
theorem dX12_ship_51 : decode cX12_ship 51 = .ok (.iconst (-1), 1) := by decide +kernel
theorem dX12_ship_52 : decode cX12_ship 52 = .ok (.ireturn, 1) := by decide +kernel
theorem dX12_ship_53 : decode cX12_ship 53 = .ok (.iinc 1 1, 3) := by decide +kernel
theorem dX12_ship_56 : decode cX12_ship 56 = .ok (.goto (-27), 3) := by decide +kernel
theorem dX12_ship_59 : decode cX12_ship 59 = .ok (.iconst 1, 1) := by decide +kernel
theorem dX12_ship_60 : decode cX12_ship 60 = .ok (.istore_n 1, 1) := by decide +kernel
theorem dX12_ship_61 : decode cX12_ship 61 = .ok (.iconst 0, 1) := by decide +kernel
theorem dX12_ship_62 : decode cX12_ship 62 = .ok (.istore_n 2, 1) := by decide +kernel
theorem dX12_ship_63 : decode cX12_ship 63 = .ok (.iload_n 2, 1) := by decide +kernel
theorem dX12_ship_64 : decode cX12_ship 64 = .ok (.aload_n 0, 1) := by decide +kernel
theorem dX12_ship_65 : decode cX12_ship 65 = .ok (.getfield 18, 3) := by decide +kernel
theorem dX12_ship_68 : decode cX12_ship 68 = .ok (.if_icmp .ge 51, 3) := by decide +kernel
theorem dX12_ship_71 : decode cX12_ship 71 = .ok (.iload_n 1, 1) := by decide +kernel
theorem dX12_ship_72 : decode cX12_ship 72 = .ok (.ldc_w 370, 3) := by decide +kernel
theorem dX12_ship_75 : decode cX12_ship 75 = .ok (.if_icmp .gt 44, 3) := by decide +kernel
theorem dX12_ship_78 : decode cX12_ship 78 = .ok (.aload_n 0, 1) := by decide +kernel
theorem dX12_ship_79 : decode cX12_ship 79 = .ok (.iload_n 2, 1) := by decide +kernel
theorem dX12_ship_80 : decode cX12_ship 80 = .ok (.invokevirtual 327, 3) := by decide +kernel
theorem dX12_ship_83 : decode cX12_ship 83 = .ok (.aload_n 0, 1) := by decide +kernel
theorem dX12_ship_84 : decode cX12_ship 84 = .ok (.iload_n 2, 1) := by decide +kernel
theorem dX12_ship_85 : decode cX12_ship 85 = .ok (.invokevirtual 327, 3) := by decide +kernel
theorem dX12_ship_88 : decode cX12_ship 88 = .ok (.iload_n 1, 1) := by decide +kernel
theorem dX12_ship_89 : decode cX12_ship 89 = .ok (.invokestatic 371, 3) := by decide +kernel
theorem dX12_ship_92 : decode cX12_ship 92 = .ok (.idiv, 1) := by decide +kernel
theorem dX12_ship_93 : decode cX12_ship 93 = .ok (.istore_n 3, 1) := by decide +kernel
theorem dX12_ship_94 : decode cX12_ship 94 = .ok (.iload_n 1, 1) := by decide +kernel
theorem dX12_ship_95 : decode cX12_ship 95 = .ok (.ldc_w 370, 3) := by decide +kernel
theorem dX12_ship_98 : decode cX12_ship 98 = .ok (.iload_n 3, 1) := by decide +kernel
theorem dX12_ship_99 : decode cX12_ship 99 = .ok (.idiv, 1) := by decide +kernel
theorem dX12_ship_100 : decode cX12_ship 100 = .ok (.if_icmp .le 9, 3) := by decide +kernel
theorem dX12_ship_103 : decode cX12_ship 103 = .ok (.ldc_w 374, 3) := by decide +kernel
theorem dX12_ship_106 : decode cX12_ship 106 = .ok (.goto 6, 3) := by decide +kernel
theorem dX12_ship_109 : decode cX12_ship 109 = .ok (.iload_n 1, 1) := by decide +kernel
theorem dX12_ship_110 : decode cX12_ship 110 = .ok (.iload_n 3, 1) := by decide +kernel
theorem dX12_ship_111 : decode cX12_ship 111 = .ok (.imul, 1) := by decide +kernel
theorem dX12_ship_112 : decode cX12_ship 112 = .ok (.istore_n 1, 1) := by decide +kernel
theorem dX12_ship_113 : decode cX12_ship 113 = .ok (.iinc 2 1, 3) := by decide +kernel
theorem dX12_ship_116 : decode cX12_ship 116 = .ok (.goto (-53), 3) := by decide +kernel
theorem dX12_ship_119 : decode cX12_ship 119 = .ok (.iload_n 1, 1) := by decide +kernel
theorem dX12_ship_120 : decode cX12_ship 120 = .ok (.ldc_w 370, 3) := by decide +kernel
theorem dX12_ship_123 : decode cX12_ship 123 = .ok (.if_icmp .le 7, 3) := by decide +kernel
theorem dX12_ship_126 : decode cX12_ship 126 = .ok (.iconst (-1), 1) := by decide +kernel
theorem dX12_ship_127 : decode cX12_ship 127 = .ok (.goto 4, 3) := by decide +kernel
theorem dX12_ship_130 : decode cX12_ship 130 = .ok (.iload_n 1, 1) := by decide +kernel
theorem dX12_ship_131 : decode cX12_ship 131 = .ok (.ireturn, 1) := by decide +kernel
set_option maxRecDepth 20000 in
theorem ggX12_part_X12_isMachine : GoodIn wsX12_part wsX12_isMachine := goodIn_r _ [6, 1, 7, 8, 5, 9, 22, 23, 24, 25, 26, 27, 28, 29, 30, 31, 32, 33, 34, 35, 36, 37, 38, 39, 40, 41, 42, 43, 44, 45, 46, 47, 48, 49, 50, 51, 52, 53, 54, 55, 56, 57, 58, 59, 60, 61, 62, 63, 64, 65, 66, 67, 68, 69, 70] rfl rfl
set_option maxRecDepth 20000 in
theorem gX12_part_X12_isMachine : GoodIn wsX12_part (wsV RX12 260 RX12 yX12_isMachine wsX12_isMachine) := goodIn_app (goodIn_r _ [2, 3, 4, 5] rfl rfl) ggX12_part_X12_isMachine
set_option maxRecDepth 20000 in
theorem ggX12_part_X12_isIn : GoodIn wsX12_part wsX12_isIn := goodIn_r _ [9] rfl rfl
set_option maxRecDepth 20000 in
theorem gX12_part_X12_isIn : GoodIn wsX12_part (va_wsS RX12 186 yX12_isIn wsX12_isIn) := goodIn_app (goodIn_r _ [7, 8, 5] rfl rfl) ggX12_part_X12_isIn
set_option maxRecDepth 20000 in
theorem ggX12_part_X12_sumOf : GoodIn wsX12_part wsX12_sumOf := goodIn_r _ [13, 1, 22, 23, 24, 25, 26, 27, 28, 29, 30, 31, 32, 33, 34, 35, 36, 37, 38, 39, 40, 41, 42, 43, 44, 45, 46, 47, 48, 49, 50, 51, 52, 53, 54, 55, 56, 57, 58, 59, 60, 61, 62, 63, 64, 65, 66, 67, 68, 69, 70] rfl rfl
set_option maxRecDepth 20000 in
theorem gX12_part_X12_sumOf : GoodIn wsX12_part (wsV RX12 278 RX12 yX12_sumOf wsX12_sumOf) := goodIn_app (goodIn_r _ [10, 11, 12, 5] rfl rfl) ggX12_part_X12_sumOf
set_option maxRecDepth 20000 in
theorem ggX12_part_X12_throwsIf : GoodIn wsX12_part wsX12_throwsIf := goodIn_r _ [17, 18, 22, 23, 24, 25, 26, 27, 28, 29, 30, 31, 32, 33, 34, 35, 36, 37, 38, 39, 40, 41, 42, 43, 44, 45, 46, 47, 48, 49, 50, 51, 52, 53, 54, 55, 56, 57, 58, 59, 60, 61, 62, 63, 64, 65, 66, 67, 68, 69, 70] rfl rfl
set_option maxRecDepth 20000 in
theorem gX12_part_X12_throwsIf : GoodIn wsX12_part (wsV RX12 263 RX12 yX12_throwsIf wsX12_throwsIf) := goodIn_app (goodIn_r _ [14, 15, 16, 5] rfl rfl) ggX12_part_X12_throwsIf
set_option maxRecDepth 20000 in
theorem ggX12_part_X12_common : GoodIn wsX12_part wsX12_common := goodIn_r _ [21] rfl rfl
set_option maxRecDepth 20000 in
theorem gX12_part_X12_common : GoodIn wsX12_part (va_wsS RX12 371 yX12_common wsX12_common) := goodIn_app (goodIn_r _ [19, 20, 5] rfl rfl) ggX12_part_X12_common
theorem dX12_part_0 : decode cX12_part 0 = .ok (.aload_n 0, 1) := by decide +kernel
theorem dX12_part_1 : decode cX12_part 1 = .ok (.aload_n 0, 1) := by decide +kernel
theorem dX12_part_2 : decode cX12_part 2 = .ok (.iload_n 1, 1) := by decide +kernel
theorem dX12_part_3 : decode cX12_part 3 = .ok (.invokevirtual 260, 3) := by decide +kernel
theorem dX12_part_6 : decode cX12_part 6 = .ok (.ifCond .eq 21, 3) := by decide +kernel
theorem dX12_part_9 : decode cX12_part 9 = .ok (.iload_n 2, 1) := by decide +kernel
theorem dX12_part_10 : decode cX12_part 10 = .ok (.iconst 0, 1) := by decide +kernel
theorem dX12_part_11 : decode cX12_part 11 = .ok (.iconst 1, 1) := by decide +kernel
theorem dX12_part_12 : decode cX12_part 12 = .ok (.invokestatic 186, 3) := by decide +kernel
theorem dX12_part_15 : decode cX12_part 15 = .ok (.ifCond .eq 12, 3) := by decide +kernel
theorem dX12_part_18 : decode cX12_part 18 = .ok (.aload_n 0, 1) := by decide +kernel
theorem dX12_part_19 : decode cX12_part 19 = .ok (.bipush 56, 2) := by decide +kernel
theorem dX12_part_21 : decode cX12_part 21 = .ok (.invokevirtual 278, 3) := by decide +kernel
theorem dX12_part_24 : decode cX12_part 24 = .ok (.ifCond .ne 7, 3) := by decide +kernel
theorem dX12_part_27 : decode cX12_part 27 = .ok (.iconst 1, 1) := by decide +kernel
theorem dX12_part_28 : decode cX12_part 28 = .ok (.goto 4, 3) := by decide +kernel
theorem dX12_part_31 : decode cX12_part 31 = .ok (.iconst 0, 1) := by decide +kernel
theorem dX12_part_32 : decode cX12_part 32 = .ok (.invokevirtual 263, 3) := by decide +kernel
theorem dX12_part_35 : decode cX12_part 35 = .ok (.ifCond .eq 5, 3) := by decide +kernel
theorem dX12_part_38 : decode cX12_part 38 = .ok (.iconst 0, 1) := by decide +kernel
theorem dX12_part_39 : decode cX12_part 39 = .ok (.ireturn, 1) := by decide +kernel
theorem dX12_part_40 : decode cX12_part 40 = .ok (.iload_n 2, 1) := by decide +kernel
theorem dX12_part_41 : decode cX12_part 41 = .ok (.ifCond .ne 15, 3) := by decide +kernel
theorem dX12_part_44 : decode cX12_part 44 = .ok (.aload_n 0, 1) := by decide +kernel
theorem dX12_part_45 : decode cX12_part 45 = .ok (.getfield 33, 3) := by decide +kernel
theorem dX12_part_48 : decode cX12_part 48 = .ok (.bipush 56, 2) := by decide +kernel
theorem dX12_part_50 : decode cX12_part 50 = .ok (.iload_n 1, 1) := by decide +kernel
theorem dX12_part_51 : decode cX12_part 51 = .ok (.iadd, 1) := by decide +kernel
theorem dX12_part_52 : decode cX12_part 52 = .ok (.iaload, 1) := by decide +kernel
theorem dX12_part_53 : decode cX12_part 53 = .ok (.goto 9, 3) := by decide +kernel
theorem dX12_part_56 : decode cX12_part 56 = .ok (.aload_n 0, 1) := by decide +kernel
theorem dX12_part_57 : decode cX12_part 57 = .ok (.bipush 56, 2) := by decide +kernel
theorem dX12_part_59 : decode cX12_part 59 = .ok (.invokevirtual 278, 3) := by decide +kernel
theorem dX12_part_62 : decode cX12_part 62 = .ok (.aload_n 0, 1) := by decide +kernel
theorem dX12_part_63 : decode cX12_part 63 = .ok (.bipush 56, 2) := by decide +kernel
theorem dX12_part_65 : decode cX12_part 65 = .ok (.invokevirtual 278, 3) := by decide +kernel
theorem dX12_part_68 : decode cX12_part 68 = .ok (.aload_n 0, 1) := by decide +kernel
theorem dX12_part_69 : decode cX12_part 69 = .ok (.getfield 33, 3) := by decide +kernel
theorem dX12_part_72 : decode cX12_part 72 = .ok (.bipush 56, 2) := by decide +kernel
theorem dX12_part_74 : decode cX12_part 74 = .ok (.iload_n 1, 1) := by decide +kernel
theorem dX12_part_75 : decode cX12_part 75 = .ok (.iadd, 1) := by decide +kernel
theorem dX12_part_76 : decode cX12_part 76 = .ok (.iaload, 1) := by decide +kernel
theorem dX12_part_77 : decode cX12_part 77 = .ok (.invokestatic 371, 3) := by decide +kernel
theorem dX12_part_80 : decode cX12_part 80 = .ok (.idiv, 1) := by decide +kernel
theorem dX12_part_81 : decode cX12_part 81 = .ok (.ireturn, 1) := by decide +kernel
theorem dX12_lays_0 : decode cX12_lays 0 = .ok (.aload_n 0, 1) := by decide +kernel
theorem dX12_lays_1 : decode cX12_lays 1 = .ok (.getfield 77, 3) := by decide +kernel
theorem dX12_lays_4 : decode cX12_lays 4 = .ok (.aload_n 0, 1) := by decide +kernel
theorem dX12_lays_5 : decode cX12_lays 5 = .ok (.getfield 375, 3) := by decide +kernel
theorem dX12_lays_8 : decode cX12_lays 8 = .ok (.iload_n 1, 1) := by decide +kernel
theorem dX12_lays_9 : decode cX12_lays 9 = .ok (.i2b, 1) := by decide +kernel
theorem dX12_lays_10 : decode cX12_lays 10 = .ok (.bastore, 1) := by decide +kernel
theorem dX12_lays_11 : decode cX12_lays 11 = .ok (.aload_n 0, 1) := by decide +kernel
theorem dX12_lays_12 : decode cX12_lays 12 = .ok (.dup, 1) := by decide +kernel
theorem dX12_lays_13 : decode cX12_lays 13 = .ok (.getfield 375, 3) := by decide +kernel
theorem dX12_lays_16 : decode cX12_lays 16 = .ok (.iconst 1, 1) := by decide +kernel
theorem dX12_lays_17 : decode cX12_lays 17 = .ok (.iadd, 1) := by decide +kernel
theorem dX12_lays_18 : decode cX12_lays 18 = .ok (.putfield 375, 3) := by decide +kernel
theorem dX12_lays_21 : decode cX12_lays 21 = .ok (.return_, 1) := by decide +kernel
set_option maxRecDepth 20000 in
theorem ggX12_spells_X12_lays : GoodIn wsX12_spells wsX12_lays := goodIn_r _ [6, 7, 8, 9, 10, 11, 12, 13, 14, 15, 16, 17, 18, 19, 20, 21, 22, 23, 24, 25, 26, 27, 28, 29, 30, 31, 32, 33, 34, 35, 36, 37, 38, 39, 40, 41, 42, 43, 44, 45, 46, 47, 48, 49, 50, 51, 52, 53, 54, 55, 56, 57] rfl rfl
set_option maxRecDepth 20000 in
theorem gX12_spells_X12_lays : GoodIn wsX12_spells (wsV RX12 378 RX12 yX12_lays wsX12_lays) := goodIn_app (goodIn_r _ [2, 3, 4, 5] rfl rfl) ggX12_spells_X12_lays
theorem dX12_spells_0 : decode cX12_spells 0 = .ok (.bipush 56, 2) := by decide +kernel
theorem dX12_spells_2 : decode cX12_spells 2 = .ok (.istore_n 3, 1) := by decide +kernel
theorem dX12_spells_3 : decode cX12_spells 3 = .ok (.iload_n 3, 1) := by decide +kernel
theorem dX12_spells_4 : decode cX12_spells 4 = .ok (.ifCond .lt 33, 3) := by decide +kernel
theorem dX12_spells_7 : decode cX12_spells 7 = .ok (.lload_n 1, 1) := by decide +kernel
theorem dX12_spells_8 : decode cX12_spells 8 = .ok (.iload_n 3, 1) := by decide +kernel
theorem dX12_spells_9 : decode cX12_spells 9 = .ok (.lshr, 1) := by decide +kernel
theorem dX12_spells_10 : decode cX12_spells 10 = .ok (.ldc2_w 348, 3) := by decide +kernel
theorem dX12_spells_13 : decode cX12_spells 13 = .ok (.land, 1) := by decide +kernel
theorem dX12_spells_14 : decode cX12_spells 14 = .ok (.lconst 0, 1) := by decide +kernel
theorem dX12_spells_15 : decode cX12_spells 15 = .ok (.lcmp, 1) := by decide +kernel
theorem dX12_spells_16 : decode cX12_spells 16 = .ok (.ifCond .eq 15, 3) := by decide +kernel
theorem dX12_spells_19 : decode cX12_spells 19 = .ok (.aload_n 0, 1) := by decide +kernel
theorem dX12_spells_20 : decode cX12_spells 20 = .ok (.lload_n 1, 1) := by decide +kernel
theorem dX12_spells_21 : decode cX12_spells 21 = .ok (.iload_n 3, 1) := by decide +kernel
theorem dX12_spells_22 : decode cX12_spells 22 = .ok (.lshr, 1) := by decide +kernel
theorem dX12_spells_23 : decode cX12_spells 23 = .ok (.ldc2_w 348, 3) := by decide +kernel
theorem dX12_spells_26 : decode cX12_spells 26 = .ok (.land, 1) := by decide +kernel
theorem dX12_spells_27 : decode cX12_spells 27 = .ok (.l2i, 1) := by decide +kernel
theorem dX12_spells_28 : decode cX12_spells 28 = .ok (.invokevirtual 378, 3) := by decide +kernel
theorem dX12_spells_31 : decode cX12_spells 31 = .ok (.iinc 3 (-8), 3) := by decide +kernel
theorem dX12_spells_34 : decode cX12_spells 34 = .ok (.goto (-31), 3) := by decide +kernel
theorem dX12_spells_37 : decode cX12_spells 37 = .ok (.return_, 1) := by decide +kernel
set_option maxRecDepth 20000 in
theorem ggX12_says_X12_lays : GoodIn wsX12_says wsX12_lays := goodIn_r _ [5, 6, 7, 13, 14, 15, 16, 17, 18, 19, 20, 21, 22, 23, 24, 25, 26, 27, 28, 29, 30, 31, 32, 33, 34, 35, 36, 37, 38, 39, 40, 41, 42, 43, 44, 45, 46, 47, 48, 49, 50, 51, 52, 53, 54, 55, 56, 57, 58, 59, 60, 61] rfl rfl
set_option maxRecDepth 20000 in
theorem gX12_says_X12_lays : GoodIn wsX12_says (wsV RX12 378 RX12 yX12_lays wsX12_lays) := goodIn_app (goodIn_r _ [1, 2, 3, 4] rfl rfl) ggX12_says_X12_lays
set_option maxRecDepth 20000 in
theorem ggX12_says_X12_spells : GoodIn wsX12_says wsX12_spells := goodIn_r _ [11, 12, 1, 2, 3, 4, 5, 6, 7, 13, 14, 15, 16, 17, 18, 19, 20, 21, 22, 23, 24, 25, 26, 27, 28, 29, 30, 31, 32, 33, 34, 35, 36, 37, 38, 39, 40, 41, 42, 43, 44, 45, 46, 47, 48, 49, 50, 51, 52, 53, 54, 55, 56, 57, 58, 59, 60, 61] rfl rfl
set_option maxRecDepth 20000 in
theorem gX12_says_X12_spells : GoodIn wsX12_says (wsV RX12 381 RX12 yX12_spells wsX12_spells) := goodIn_app (goodIn_r _ [8, 9, 10, 4] rfl rfl) ggX12_says_X12_spells
theorem dX12_says_0 : decode cX12_says 0 = .ok (.aload_n 0, 1) := by decide +kernel
theorem dX12_says_1 : decode cX12_says 1 = .ok (.bipush 32, 2) := by decide +kernel
theorem dX12_says_3 : decode cX12_says 3 = .ok (.invokevirtual 378, 3) := by decide +kernel
theorem dX12_says_6 : decode cX12_says 6 = .ok (.aload_n 0, 1) := by decide +kernel
theorem dX12_says_7 : decode cX12_says 7 = .ok (.lload_n 1, 1) := by decide +kernel
theorem dX12_says_8 : decode cX12_says 8 = .ok (.invokevirtual 381, 3) := by decide +kernel
theorem dX12_says_11 : decode cX12_says 11 = .ok (.return_, 1) := by decide +kernel
set_option maxRecDepth 20000 in
theorem ggX12_digits_X12_lays : GoodIn wsX12_digits wsX12_lays := goodIn_r _ [5, 6, 7, 8, 9, 10, 11, 12, 13, 14, 15, 16, 17, 18, 19, 20, 21, 22, 23, 24, 25, 26, 27, 28, 29, 30, 31, 32, 33, 34, 35, 36, 37, 38, 39, 40, 41, 42, 43, 44, 45, 46, 47, 48, 49, 50, 51, 52, 53, 54, 55, 56] rfl rfl
set_option maxRecDepth 20000 in
theorem gX12_digits_X12_lays : GoodIn wsX12_digits (wsV RX12 378 RX12 yX12_lays wsX12_lays) := goodIn_app (goodIn_r _ [1, 2, 3, 4] rfl rfl) ggX12_digits_X12_lays
theorem dX12_digits_0 : decode cX12_digits 0 = .ok (.aload_n 0, 1) := by decide +kernel
theorem dX12_digits_1 : decode cX12_digits 1 = .ok (.bipush 32, 2) := by decide +kernel
theorem dX12_digits_3 : decode cX12_digits 3 = .ok (.invokevirtual 378, 3) := by decide +kernel
theorem dX12_digits_6 : decode cX12_digits 6 = .ok (.iconst 1, 1) := by decide +kernel
theorem dX12_digits_7 : decode cX12_digits 7 = .ok (.istore_n 2, 1) := by decide +kernel
theorem dX12_digits_8 : decode cX12_digits 8 = .ok (.iload_n 1, 1) := by decide +kernel
theorem dX12_digits_9 : decode cX12_digits 9 = .ok (.iload_n 2, 1) := by decide +kernel
theorem dX12_digits_10 : decode cX12_digits 10 = .ok (.idiv, 1) := by decide +kernel
theorem dX12_digits_11 : decode cX12_digits 11 = .ok (.bipush 9, 2) := by decide +kernel
theorem dX12_digits_13 : decode cX12_digits 13 = .ok (.if_icmp .le 11, 3) := by decide +kernel
theorem dX12_digits_16 : decode cX12_digits 16 = .ok (.iload_n 2, 1) := by decide +kernel
theorem dX12_digits_17 : decode cX12_digits 17 = .ok (.bipush 10, 2) := by decide +kernel
theorem dX12_digits_19 : decode cX12_digits 19 = .ok (.imul, 1) := by decide +kernel
theorem dX12_digits_20 : decode cX12_digits 20 = .ok (.istore_n 2, 1) := by decide +kernel
theorem dX12_digits_21 : decode cX12_digits 21 = .ok (.goto (-13), 3) := by decide +kernel
theorem dX12_digits_24 : decode cX12_digits 24 = .ok (.iload_n 2, 1) := by decide +kernel
theorem dX12_digits_25 : decode cX12_digits 25 = .ok (.ifCond .le 24, 3) := by decide +kernel
theorem dX12_digits_28 : decode cX12_digits 28 = .ok (.aload_n 0, 1) := by decide +kernel
theorem dX12_digits_29 : decode cX12_digits 29 = .ok (.bipush 48, 2) := by decide +kernel
theorem dX12_digits_31 : decode cX12_digits 31 = .ok (.iload_n 1, 1) := by decide +kernel
theorem dX12_digits_32 : decode cX12_digits 32 = .ok (.iload_n 2, 1) := by decide +kernel
theorem dX12_digits_33 : decode cX12_digits 33 = .ok (.idiv, 1) := by decide +kernel
theorem dX12_digits_34 : decode cX12_digits 34 = .ok (.bipush 10, 2) := by decide +kernel
theorem dX12_digits_36 : decode cX12_digits 36 = .ok (.irem, 1) := by decide +kernel
theorem dX12_digits_37 : decode cX12_digits 37 = .ok (.iadd, 1) := by decide +kernel
theorem dX12_digits_38 : decode cX12_digits 38 = .ok (.invokevirtual 378, 3) := by decide +kernel
theorem dX12_digits_41 : decode cX12_digits 41 = .ok (.iload_n 2, 1) := by decide +kernel
theorem dX12_digits_42 : decode cX12_digits 42 = .ok (.bipush 10, 2) := by decide +kernel
theorem dX12_digits_44 : decode cX12_digits 44 = .ok (.idiv, 1) := by decide +kernel
theorem dX12_digits_45 : decode cX12_digits 45 = .ok (.istore_n 2, 1) := by decide +kernel
theorem dX12_digits_46 : decode cX12_digits 46 = .ok (.goto (-22), 3) := by decide +kernel
theorem dX12_digits_49 : decode cX12_digits 49 = .ok (.return_, 1) := by decide +kernel
set_option maxRecDepth 20000 in
theorem ggX12_line_X12_isMachine : GoodIn wsX12_line wsX12_isMachine := goodIn_r _ [12, 5, 13, 14, 11, 15, 41, 42, 43, 44, 45, 46, 47, 48, 49, 50, 51, 52, 53, 54, 55, 56, 57, 58, 59, 60, 61, 62, 63, 64, 65, 66, 67, 68, 69, 70, 71, 72, 73, 74, 75, 76, 77, 78, 79, 80, 81, 82, 83, 84, 85, 86, 87, 88, 89] rfl rfl
set_option maxRecDepth 20000 in
theorem gX12_line_X12_isMachine : GoodIn wsX12_line (wsV RX12 260 RX12 yX12_isMachine wsX12_isMachine) := goodIn_app (goodIn_r _ [8, 9, 10, 11] rfl rfl) ggX12_line_X12_isMachine
set_option maxRecDepth 20000 in
theorem ggX12_line_X12_spells : GoodIn wsX12_line wsX12_spells := goodIn_r _ [19, 20, 21, 22, 23, 11, 24, 25, 2, 41, 42, 43, 44, 45, 46, 47, 48, 49, 50, 51, 52, 53, 54, 55, 56, 57, 58, 59, 60, 61, 62, 63, 64, 65, 66, 67, 68, 69, 70, 71, 72, 73, 74, 75, 76, 77, 78, 79, 80, 81, 82, 83, 84, 85, 86, 87, 88, 89] rfl rfl
set_option maxRecDepth 20000 in
theorem gX12_line_X12_spells : GoodIn wsX12_line (wsV RX12 381 RX12 yX12_spells wsX12_spells) := goodIn_app (goodIn_r _ [16, 17, 18, 11] rfl rfl) ggX12_line_X12_spells
set_option maxRecDepth 20000 in
theorem ggX12_line_X12_says : GoodIn wsX12_line wsX12_says := goodIn_r _ [29, 21, 22, 23, 11, 24, 25, 2, 16, 17, 18, 19, 20, 41, 42, 43, 44, 45, 46, 47, 48, 49, 50, 51, 52, 53, 54, 55, 56, 57, 58, 59, 60, 61, 62, 63, 64, 65, 66, 67, 68, 69, 70, 71, 72, 73, 74, 75, 76, 77, 78, 79, 80, 81, 82, 83, 84, 85, 86, 87, 88, 89] rfl rfl
set_option maxRecDepth 20000 in
theorem gX12_line_X12_says : GoodIn wsX12_line (wsV RX12 385 RX12 yX12_says wsX12_says) := goodIn_app (goodIn_r _ [26, 27, 28, 11] rfl rfl) ggX12_line_X12_says
set_option maxRecDepth 20000 in
theorem ggX12_line_X12_digits : GoodIn wsX12_line wsX12_digits := goodIn_r _ [33, 21, 22, 23, 11, 24, 25, 2, 41, 42, 43, 44, 45, 46, 47, 48, 49, 50, 51, 52, 53, 54, 55, 56, 57, 58, 59, 60, 61, 62, 63, 64, 65, 66, 67, 68, 69, 70, 71, 72, 73, 74, 75, 76, 77, 78, 79, 80, 81, 82, 83, 84, 85, 86, 87, 88, 89] rfl rfl
set_option maxRecDepth 20000 in
theorem gX12_line_X12_digits : GoodIn wsX12_line (wsV RX12 388 RX12 yX12_digits wsX12_digits) := goodIn_app (goodIn_r _ [30, 31, 32, 11] rfl rfl) ggX12_line_X12_digits
set_option maxRecDepth 20000 in
theorem ggX12_line_X12_isHeld : GoodIn wsX12_line wsX12_isHeld := goodIn_r _ [37, 5, 38, 39, 11, 40, 41, 42, 43, 44, 45, 46, 47, 48, 49, 50, 51, 52, 53, 54, 55, 56, 57, 58, 59, 60, 61, 62, 63, 64, 65, 66, 67, 68, 69, 70, 71, 72, 73, 74, 75, 76, 77, 78, 79, 80, 81, 82, 83, 84, 85, 86, 87, 88, 89] rfl rfl
set_option maxRecDepth 20000 in
theorem gX12_line_X12_isHeld : GoodIn wsX12_line (wsV RX12 251 RX12 yX12_isHeld wsX12_isHeld) := goodIn_app (goodIn_r _ [34, 35, 36, 11] rfl rfl) ggX12_line_X12_isHeld
theorem dX12_line_0 : decode cX12_line 0 = .ok (.aload_n 0, 1) := by decide +kernel
theorem dX12_line_1 : decode cX12_line 1 = .ok (.iconst 0, 1) := by decide +kernel
theorem dX12_line_2 : decode cX12_line 2 = .ok (.putfield 1, 3) := by decide +kernel
theorem dX12_line_5 : decode cX12_line 5 = .ok (.aload_n 0, 1) := by decide +kernel
theorem dX12_line_6 : decode cX12_line 6 = .ok (.iload_n 1, 1) := by decide +kernel
theorem dX12_line_7 : decode cX12_line 7 = .ok (.invokevirtual 260, 3) := by decide +kernel
theorem dX12_line_10 : decode cX12_line 10 = .ok (.ifCond .ne 5, 3) := by decide +kernel
theorem dX12_line_13 : decode cX12_line 13 = .ok (.iconst (-1), 1) := by decide +kernel
theorem dX12_line_14 : decode cX12_line 14 = .ok (.ireturn, 1) := by decide +kernel
theorem dX12_line_15 : decode cX12_line 15 = .ok (.aload_n 0, 1) := by decide +kernel
theorem dX12_line_16 : decode cX12_line 16 = .ok (.iconst 0, 1) := by decide +kernel
theorem dX12_line_17 : decode cX12_line 17 = .ok (.putfield 375, 3) := by decide +kernel
theorem dX12_line_20 : decode cX12_line 20 = .ok (.aload_n 0, 1) := by decide +kernel
theorem dX12_line_21 : decode cX12_line 21 = .ok (.aload_n 0, 1) := by decide +kernel
theorem dX12_line_22 : decode cX12_line 22 = .ok (.getfield 43, 3) := by decide +kernel
theorem dX12_line_25 : decode cX12_line 25 = .ok (.iload_n 1, 1) := by decide +kernel
theorem dX12_line_26 : decode cX12_line 26 = .ok (.laload, 1) := by decide +kernel
theorem dX12_line_27 : decode cX12_line 27 = .ok (.invokevirtual 381, 3) := by decide +kernel
theorem dX12_line_30 : decode cX12_line 30 = .ok (.aload_n 0, 1) := by decide +kernel
theorem dX12_line_31 : decode cX12_line 31 = .ok (.ldc2_w 137, 3) := by decide +kernel
theorem dX12_line_34 : decode cX12_line 34 = .ok (.invokevirtual 385, 3) := by decide +kernel
theorem dX12_line_37 : decode cX12_line 37 = .ok (.aload_n 0, 1) := by decide +kernel
theorem dX12_line_38 : decode cX12_line 38 = .ok (.aload_n 0, 1) := by decide +kernel
theorem dX12_line_39 : decode cX12_line 39 = .ok (.getfield 33, 3) := by decide +kernel
theorem dX12_line_42 : decode cX12_line 42 = .ok (.bipush 50, 2) := by decide +kernel
theorem dX12_line_44 : decode cX12_line 44 = .ok (.iload_n 1, 1) := by decide +kernel
theorem dX12_line_45 : decode cX12_line 45 = .ok (.iadd, 1) := by decide +kernel
theorem dX12_line_46 : decode cX12_line 46 = .ok (.iaload, 1) := by decide +kernel
theorem dX12_line_47 : decode cX12_line 47 = .ok (.invokevirtual 388, 3) := by decide +kernel
theorem dX12_line_50 : decode cX12_line 50 = .ok (.aload_n 0, 1) := by decide +kernel
theorem dX12_line_51 : decode cX12_line 51 = .ok (.ldc2_w 135, 3) := by decide +kernel
theorem dX12_line_54 : decode cX12_line 54 = .ok (.invokevirtual 385, 3) := by decide +kernel
theorem dX12_line_57 : decode cX12_line 57 = .ok (.aload_n 0, 1) := by decide +kernel
theorem dX12_line_58 : decode cX12_line 58 = .ok (.aload_n 0, 1) := by decide +kernel
theorem dX12_line_59 : decode cX12_line 59 = .ok (.getfield 33, 3) := by decide +kernel
theorem dX12_line_62 : decode cX12_line 62 = .ok (.bipush 44, 2) := by decide +kernel
theorem dX12_line_64 : decode cX12_line 64 = .ok (.iload_n 1, 1) := by decide +kernel
theorem dX12_line_65 : decode cX12_line 65 = .ok (.iadd, 1) := by decide +kernel
theorem dX12_line_66 : decode cX12_line 66 = .ok (.iaload, 1) := by decide +kernel
theorem dX12_line_67 : decode cX12_line 67 = .ok (.invokevirtual 388, 3) := by decide +kernel
theorem dX12_line_70 : decode cX12_line 70 = .ok (.aload_n 0, 1) := by decide +kernel
theorem dX12_line_71 : decode cX12_line 71 = .ok (.iload_n 1, 1) := by decide +kernel
theorem dX12_line_72 : decode cX12_line 72 = .ok (.invokevirtual 251, 3) := by decide +kernel
theorem dX12_line_75 : decode cX12_line 75 = .ok (.ifCond .eq 10, 3) := by decide +kernel
theorem dX12_line_78 : decode cX12_line 78 = .ok (.aload_n 0, 1) := by decide +kernel
theorem dX12_line_79 : decode cX12_line 79 = .ok (.ldc2_w 125, 3) := by decide +kernel
theorem dX12_line_82 : decode cX12_line 82 = .ok (.invokevirtual 385, 3) := by decide +kernel
theorem dX12_line_85 : decode cX12_line 85 = .ok (.aload_n 0, 1) := by decide +kernel
theorem dX12_line_86 : decode cX12_line 86 = .ok (.getfield 375, 3) := by decide +kernel
theorem dX12_line_89 : decode cX12_line 89 = .ok (.ireturn, 1) := by decide +kernel
set_option maxRecDepth 20000 in
theorem ggX12_byteAt_X12_isIn : GoodIn wsX12_byteAt wsX12_isIn := goodIn_r _ [7] rfl rfl
set_option maxRecDepth 20000 in
theorem gX12_byteAt_X12_isIn : GoodIn wsX12_byteAt (va_wsS RX12 186 yX12_isIn wsX12_isIn) := goodIn_app (goodIn_r _ [4, 5, 6] rfl rfl) ggX12_byteAt_X12_isIn
theorem dX12_byteAt_0 : decode cX12_byteAt 0 = .ok (.aload_n 0, 1) := by decide +kernel
theorem dX12_byteAt_1 : decode cX12_byteAt 1 = .ok (.iconst 0, 1) := by decide +kernel
theorem dX12_byteAt_2 : decode cX12_byteAt 2 = .ok (.putfield 1, 3) := by decide +kernel
theorem dX12_byteAt_5 : decode cX12_byteAt 5 = .ok (.iload_n 1, 1) := by decide +kernel
theorem dX12_byteAt_6 : decode cX12_byteAt 6 = .ok (.iconst 0, 1) := by decide +kernel
theorem dX12_byteAt_7 : decode cX12_byteAt 7 = .ok (.aload_n 0, 1) := by decide +kernel
theorem dX12_byteAt_8 : decode cX12_byteAt 8 = .ok (.getfield 375, 3) := by decide +kernel
theorem dX12_byteAt_11 : decode cX12_byteAt 11 = .ok (.iconst 1, 1) := by decide +kernel
theorem dX12_byteAt_12 : decode cX12_byteAt 12 = .ok (.isub, 1) := by decide +kernel
theorem dX12_byteAt_13 : decode cX12_byteAt 13 = .ok (.invokestatic 186, 3) := by decide +kernel
theorem dX12_byteAt_16 : decode cX12_byteAt 16 = .ok (.ifCond .eq 12, 3) := by decide +kernel
theorem dX12_byteAt_19 : decode cX12_byteAt 19 = .ok (.aload_n 0, 1) := by decide +kernel
theorem dX12_byteAt_20 : decode cX12_byteAt 20 = .ok (.getfield 77, 3) := by decide +kernel
theorem dX12_byteAt_23 : decode cX12_byteAt 23 = .ok (.iload_n 1, 1) := by decide +kernel
theorem dX12_byteAt_24 : decode cX12_byteAt 24 = .ok (.baload, 1) := by decide +kernel
theorem dX12_byteAt_25 : decode cX12_byteAt 25 = .ok (.goto 4, 3) := by decide +kernel
theorem dX12_byteAt_28 : decode cX12_byteAt 28 = .ok (.iconst (-1), 1) := by decide +kernel
theorem dX12_byteAt_29 : decode cX12_byteAt 29 = .ok (.ireturn, 1) := by decide +kernel
theorem dX12_draw_0 : decode cX12_draw 0 = .ok (.aload_n 0, 1) := by decide +kernel
theorem dX12_draw_1 : decode cX12_draw 1 = .ok (.aload_n 0, 1) := by decide +kernel
theorem dX12_draw_2 : decode cX12_draw 2 = .ok (.getfield 391, 3) := by decide +kernel
theorem dX12_draw_5 : decode cX12_draw 5 = .ok (.ldc_w 394, 3) := by decide +kernel
theorem dX12_draw_8 : decode cX12_draw 8 = .ok (.imul, 1) := by decide +kernel
theorem dX12_draw_9 : decode cX12_draw 9 = .ok (.sipush 12345, 3) := by decide +kernel
theorem dX12_draw_12 : decode cX12_draw 12 = .ok (.iadd, 1) := by decide +kernel
theorem dX12_draw_13 : decode cX12_draw 13 = .ok (.putfield 391, 3) := by decide +kernel
theorem dX12_draw_16 : decode cX12_draw 16 = .ok (.aload_n 0, 1) := by decide +kernel
theorem dX12_draw_17 : decode cX12_draw 17 = .ok (.getfield 391, 3) := by decide +kernel
theorem dX12_draw_20 : decode cX12_draw 20 = .ok (.bipush 8, 2) := by decide +kernel
theorem dX12_draw_22 : decode cX12_draw 22 = .ok (.iushr, 1) := by decide +kernel
theorem dX12_draw_23 : decode cX12_draw 23 = .ok (.iload_n 1, 1) := by decide +kernel
theorem dX12_draw_24 : decode cX12_draw 24 = .ok (.irem, 1) := by decide +kernel
theorem dX12_draw_25 : decode cX12_draw 25 = .ok (.ireturn, 1) := by decide +kernel
set_option maxRecDepth 20000 in
theorem ggX12_drawDay_X12_draw : GoodIn wsX12_drawDay wsX12_draw := goodIn_r _ [6, 7, 8, 34, 35, 36, 37, 38, 39, 40, 41, 42, 43, 44, 45, 46, 47, 48, 49, 50, 51, 52, 53, 54, 55, 56, 57, 58, 59, 60, 61, 62, 63, 64, 65, 66, 67, 68, 69, 70, 71, 72, 73, 74, 75, 76, 77, 78, 79, 80, 81, 82] rfl rfl
set_option maxRecDepth 20000 in
theorem gX12_drawDay_X12_draw : GoodIn wsX12_drawDay (wsV RX12 395 RX12 yX12_draw wsX12_draw) := goodIn_app (goodIn_r _ [2, 3, 4, 5] rfl rfl) ggX12_drawDay_X12_draw
set_option maxRecDepth 20000 in
theorem ggX12_drawDay_X12_isIn : GoodIn wsX12_drawDay wsX12_isIn := goodIn_r _ [11] rfl rfl
set_option maxRecDepth 20000 in
theorem gX12_drawDay_X12_isIn : GoodIn wsX12_drawDay (va_wsS RX12 186 yX12_isIn wsX12_isIn) := goodIn_app (goodIn_r _ [9, 10, 5] rfl rfl) ggX12_drawDay_X12_isIn
set_option maxRecDepth 20000 in
theorem ggX12_drawDay_X12_whyWrite : GoodIn wsX12_drawDay wsX12_whyWrite := goodIn_r _ [15, 1, 16, 17, 18, 5, 19, 20, 21, 22, 23, 24, 25, 26, 34, 35, 36, 37, 38, 39, 40, 41, 42, 43, 44, 45, 46, 47, 48, 49, 50, 51, 52, 53, 54, 55, 56, 57, 58, 59, 60, 61, 62, 63, 64, 65, 66, 67, 68, 69, 70, 71, 72, 73, 74, 75, 76, 77, 78, 79, 80, 81, 82] rfl rfl
set_option maxRecDepth 20000 in
theorem gX12_drawDay_X12_whyWrite : GoodIn wsX12_drawDay (wsV RX12 257 RX12 yX12_whyWrite wsX12_whyWrite) := goodIn_app (goodIn_r _ [12, 13, 14, 5] rfl rfl) ggX12_drawDay_X12_whyWrite
set_option maxRecDepth 20000 in
theorem ggX12_drawDay_X12_types : GoodIn wsX12_drawDay wsX12_types := goodIn_r _ [30, 1, 31, 32, 5, 33, 34, 35, 36, 37, 38, 39, 40, 41, 42, 43, 44, 45, 46, 47, 48, 49, 50, 51, 52, 53, 54, 55, 56, 57, 58, 59, 60, 61, 62, 63, 64, 65, 66, 67, 68, 69, 70, 71, 72, 73, 74, 75, 76, 77, 78, 79, 80, 81, 82] rfl rfl
set_option maxRecDepth 20000 in
theorem gX12_drawDay_X12_types : GoodIn wsX12_drawDay (wsV RX12 287 RX12 yX12_types wsX12_types) := goodIn_app (goodIn_r _ [27, 28, 29, 5] rfl rfl) ggX12_drawDay_X12_types
theorem dX12_drawDay_0 : decode cX12_drawDay 0 = .ok (.aload_n 0, 1) := by decide +kernel
theorem dX12_drawDay_1 : decode cX12_drawDay 1 = .ok (.bipush 8, 2) := by decide +kernel
theorem dX12_drawDay_3 : decode cX12_drawDay 3 = .ok (.invokevirtual 395, 3) := by decide +kernel
theorem dX12_drawDay_6 : decode cX12_drawDay 6 = .ok (.istore_n 1, 1) := by decide +kernel
theorem dX12_drawDay_7 : decode cX12_drawDay 7 = .ok (.iload_n 1, 1) := by decide +kernel
theorem dX12_drawDay_8 : decode cX12_drawDay 8 = .ok (.ifCond .ne 25, 3) := by decide +kernel
theorem dX12_drawDay_11 : decode cX12_drawDay 11 = .ok (.aload_n 0, 1) := by decide +kernel
theorem dX12_drawDay_12 : decode cX12_drawDay 12 = .ok (.getfield 33, 3) := by decide +kernel
theorem dX12_drawDay_15 : decode cX12_drawDay 15 = .ok (.bipush 42, 2) := by decide +kernel
theorem dX12_drawDay_17 : decode cX12_drawDay 17 = .ok (.dup2, 1) := by decide +kernel
theorem dX12_drawDay_18 : decode cX12_drawDay 18 = .ok (.iaload, 1) := by decide +kernel
theorem dX12_drawDay_19 : decode cX12_drawDay 19 = .ok (.iconst 1, 1) := by decide +kernel
theorem dX12_drawDay_20 : decode cX12_drawDay 20 = .ok (.aload_n 0, 1) := by decide +kernel
theorem dX12_drawDay_21 : decode cX12_drawDay 21 = .ok (.aload_n 0, 1) := by decide +kernel
theorem dX12_drawDay_22 : decode cX12_drawDay 22 = .ok (.getfield 33, 3) := by decide +kernel
theorem dX12_drawDay_25 : decode cX12_drawDay 25 = .ok (.iconst 0, 1) := by decide +kernel
theorem dX12_drawDay_26 : decode cX12_drawDay 26 = .ok (.iaload, 1) := by decide +kernel
theorem dX12_drawDay_27 : decode cX12_drawDay 27 = .ok (.invokevirtual 395, 3) := by decide +kernel
theorem dX12_drawDay_30 : decode cX12_drawDay 30 = .ok (.ishl, 1) := by decide +kernel
theorem dX12_drawDay_31 : decode cX12_drawDay 31 = .ok (.ixor, 1) := by decide +kernel
theorem dX12_drawDay_32 : decode cX12_drawDay 32 = .ok (.iastore, 1) := by decide +kernel
theorem dX12_drawDay_33 : decode cX12_drawDay 33 = .ok (.iload_n 1, 1) := by decide +kernel
theorem dX12_drawDay_34 : decode cX12_drawDay 34 = .ok (.iconst 1, 1) := by decide +kernel
theorem dX12_drawDay_35 : decode cX12_drawDay 35 = .ok (.if_icmp .ne 46, 3) := by decide +kernel
theorem dX12_drawDay_38 : decode cX12_drawDay 38 = .ok (.aload_n 0, 1) := by decide +kernel
theorem dX12_drawDay_39 : decode cX12_drawDay 39 = .ok (.aload_n 0, 1) := by decide +kernel
theorem dX12_drawDay_40 : decode cX12_drawDay 40 = .ok (.getfield 33, 3) := by decide +kernel
theorem dX12_drawDay_43 : decode cX12_drawDay 43 = .ok (.iconst 0, 1) := by decide +kernel
theorem dX12_drawDay_44 : decode cX12_drawDay 44 = .ok (.iaload, 1) := by decide +kernel
theorem dX12_drawDay_45 : decode cX12_drawDay 45 = .ok (.invokevirtual 395, 3) := by decide +kernel
theorem dX12_drawDay_48 : decode cX12_drawDay 48 = .ok (.istore_n 2, 1) := by decide +kernel
theorem dX12_drawDay_49 : decode cX12_drawDay 49 = .ok (.aload_n 0, 1) := by decide +kernel
theorem dX12_drawDay_50 : decode cX12_drawDay 50 = .ok (.bipush 60, 2) := by decide +kernel
theorem dX12_drawDay_52 : decode cX12_drawDay 52 = .ok (.invokevirtual 395, 3) := by decide +kernel
theorem dX12_drawDay_55 : decode cX12_drawDay 55 = .ok (.iconst 1, 1) := by decide +kernel
theorem dX12_drawDay_56 : decode cX12_drawDay 56 = .ok (.iadd, 1) := by decide +kernel
theorem dX12_drawDay_57 : decode cX12_drawDay 57 = .ok (.istore_n 3, 1) := by decide +kernel
theorem dX12_drawDay_58 : decode cX12_drawDay 58 = .ok (.aload_n 0, 1) := by decide +kernel
theorem dX12_drawDay_59 : decode cX12_drawDay 59 = .ok (.getfield 33, 3) := by decide +kernel
theorem dX12_drawDay_62 : decode cX12_drawDay 62 = .ok (.bipush 44, 2) := by decide +kernel
theorem dX12_drawDay_64 : decode cX12_drawDay 64 = .ok (.iload_n 2, 1) := by decide +kernel
theorem dX12_drawDay_65 : decode cX12_drawDay 65 = .ok (.iadd, 1) := by decide +kernel
theorem dX12_drawDay_66 : decode cX12_drawDay 66 = .ok (.iaload, 1) := by decide +kernel
theorem dX12_drawDay_67 : decode cX12_drawDay 67 = .ok (.iload_n 3, 1) := by decide +kernel
theorem dX12_drawDay_68 : decode cX12_drawDay 68 = .ok (.if_icmp .ge 13, 3) := by decide +kernel
theorem dX12_drawDay_71 : decode cX12_drawDay 71 = .ok (.aload_n 0, 1) := by decide +kernel
theorem dX12_drawDay_72 : decode cX12_drawDay 72 = .ok (.getfield 33, 3) := by decide +kernel
theorem dX12_drawDay_75 : decode cX12_drawDay 75 = .ok (.bipush 44, 2) := by decide +kernel
theorem dX12_drawDay_77 : decode cX12_drawDay 77 = .ok (.iload_n 2, 1) := by decide +kernel
theorem dX12_drawDay_78 : decode cX12_drawDay 78 = .ok (.iadd, 1) := by decide +kernel
theorem dX12_drawDay_79 : decode cX12_drawDay 79 = .ok (.iload_n 3, 1) := by decide +kernel
theorem dX12_drawDay_80 : decode cX12_drawDay 80 = .ok (.iastore, 1) := by decide +kernel
theorem dX12_drawDay_81 : decode cX12_drawDay 81 = .ok (.iload_n 1, 1) := by decide +kernel
theorem dX12_drawDay_82 : decode cX12_drawDay 82 = .ok (.iconst 2, 1) := by decide +kernel
theorem dX12_drawDay_83 : decode cX12_drawDay 83 = .ok (.iconst 4, 1) := by decide +kernel
theorem dX12_drawDay_84 : decode cX12_drawDay 84 = .ok (.invokestatic 186, 3) := by decide +kernel
theorem dX12_drawDay_87 : decode cX12_drawDay 87 = .ok (.ifCond .eq 12, 3) := by decide +kernel
theorem dX12_drawDay_90 : decode cX12_drawDay 90 = .ok (.aload_n 0, 1) := by decide +kernel
theorem dX12_drawDay_91 : decode cX12_drawDay 91 = .ok (.getfield 33, 3) := by decide +kernel
theorem dX12_drawDay_94 : decode cX12_drawDay 94 = .ok (.iconst 1, 1) := by decide +kernel
theorem dX12_drawDay_95 : decode cX12_drawDay 95 = .ok (.iaload, 1) := by decide +kernel
theorem dX12_drawDay_96 : decode cX12_drawDay 96 = .ok (.ifCond .ne 4, 3) := by decide +kernel
theorem dX12_drawDay_99 : decode cX12_drawDay 99 = .ok (.return_, 1) := by decide +kernel
theorem dX12_drawDay_100 : decode cX12_drawDay 100 = .ok (.aload_n 0, 1) := by decide +kernel
theorem dX12_drawDay_101 : decode cX12_drawDay 101 = .ok (.aload_n 0, 1) := by decide +kernel
theorem dX12_drawDay_102 : decode cX12_drawDay 102 = .ok (.getfield 33, 3) := by decide +kernel
theorem dX12_drawDay_105 : decode cX12_drawDay 105 = .ok (.iconst 0, 1) := by decide +kernel
theorem dX12_drawDay_106 : decode cX12_drawDay 106 = .ok (.iaload, 1) := by decide +kernel
theorem dX12_drawDay_107 : decode cX12_drawDay 107 = .ok (.invokevirtual 395, 3) := by decide +kernel
theorem dX12_drawDay_110 : decode cX12_drawDay 110 = .ok (.istore_n 2, 1) := by decide +kernel
theorem dX12_drawDay_111 : decode cX12_drawDay 111 = .ok (.aload_n 0, 1) := by decide +kernel
theorem dX12_drawDay_112 : decode cX12_drawDay 112 = .ok (.aload_n 0, 1) := by decide +kernel
theorem dX12_drawDay_113 : decode cX12_drawDay 113 = .ok (.getfield 33, 3) := by decide +kernel
theorem dX12_drawDay_116 : decode cX12_drawDay 116 = .ok (.iconst 1, 1) := by decide +kernel
theorem dX12_drawDay_117 : decode cX12_drawDay 117 = .ok (.iaload, 1) := by decide +kernel
theorem dX12_drawDay_118 : decode cX12_drawDay 118 = .ok (.invokevirtual 395, 3) := by decide +kernel
theorem dX12_drawDay_121 : decode cX12_drawDay 121 = .ok (.istore_n 3, 1) := by decide +kernel
theorem dX12_drawDay_122 : decode cX12_drawDay 122 = .ok (.aload_n 0, 1) := by decide +kernel
theorem dX12_drawDay_123 : decode cX12_drawDay 123 = .ok (.iload_n 2, 1) := by decide +kernel
theorem dX12_drawDay_124 : decode cX12_drawDay 124 = .ok (.iload_n 3, 1) := by decide +kernel
theorem dX12_drawDay_125 : decode cX12_drawDay 125 = .ok (.invokevirtual 257, 3) := by decide +kernel
theorem dX12_drawDay_128 : decode cX12_drawDay 128 = .ok (.ifCond .ne 9, 3) := by decide +kernel
theorem dX12_drawDay_131 : decode cX12_drawDay 131 = .ok (.aload_n 0, 1) := by decide +kernel
theorem dX12_drawDay_132 : decode cX12_drawDay 132 = .ok (.iload_n 2, 1) := by decide +kernel
theorem dX12_drawDay_133 : decode cX12_drawDay 133 = .ok (.iload_n 3, 1) := by decide +kernel
theorem dX12_drawDay_134 : decode cX12_drawDay 134 = .ok (.invokevirtual 287, 3) := by decide +kernel
theorem dX12_drawDay_137 : decode cX12_drawDay 137 = .ok (.return_, 1) := by decide +kernel
set_option maxRecDepth 20000 in
theorem ggX12_draws_X12_drawDay : GoodIn wsX12_draws wsX12_drawDay := goodIn_r _ [7, 2, 8, 9, 10, 6, 11, 1, 12, 13, 14, 15, 16, 17, 18, 19, 20, 21, 22, 23, 24, 25, 26, 27, 28, 29, 30, 31, 32, 33, 34, 35, 36, 37, 46, 47, 48, 49, 50, 51, 52, 53, 54, 55, 56, 57, 58, 59, 60, 61, 62, 63, 64, 65, 66, 67, 68, 69, 70, 71, 72, 73, 74, 75, 76, 77, 78, 79, 80, 81, 82, 83, 84, 85, 86, 87, 88, 89, 90, 91, 92, 93, 94] rfl rfl
set_option maxRecDepth 20000 in
theorem gX12_draws_X12_drawDay : GoodIn wsX12_draws (wsV RX12 398 RX12 yX12_drawDay wsX12_drawDay) := goodIn_app (goodIn_r _ [3, 4, 5, 6] rfl rfl) ggX12_draws_X12_drawDay
set_option maxRecDepth 20000 in
theorem ggX12_draws_X12_day : GoodIn wsX12_draws wsX12_day := goodIn_r _ [41, 2, 42, 43, 44, 6, 45, 16, 17, 18, 19, 20, 21, 22, 23, 24, 25, 26, 27, 28, 29, 30, 31, 32, 33, 34, 35, 36, 37, 46, 47, 48, 49, 50, 51, 52, 53, 54, 55, 56, 57, 58, 59, 60, 61, 62, 63, 64, 65, 66, 67, 68, 69, 70, 71, 72, 73, 74, 75, 76, 77, 78, 79, 80, 81, 82, 83, 84, 85, 86, 87, 88, 89, 90, 91, 92, 93, 94] rfl rfl
set_option maxRecDepth 20000 in
theorem gX12_draws_X12_day : GoodIn wsX12_draws (wsV RX12 291 RX12 yX12_day wsX12_day) := goodIn_app (goodIn_r _ [38, 39, 40, 6] rfl rfl) ggX12_draws_X12_day
theorem dX12_draws_0 : decode cX12_draws 0 = .ok (.aload_n 0, 1) := by decide +kernel
theorem dX12_draws_1 : decode cX12_draws 1 = .ok (.iload_n 2, 1) := by decide +kernel
theorem dX12_draws_2 : decode cX12_draws 2 = .ok (.putfield 391, 3) := by decide +kernel
theorem dX12_draws_5 : decode cX12_draws 5 = .ok (.iconst 0, 1) := by decide +kernel
theorem dX12_draws_6 : decode cX12_draws 6 = .ok (.istore_n 3, 1) := by decide +kernel
theorem dX12_draws_7 : decode cX12_draws 7 = .ok (.iload_n 3, 1) := by decide +kernel
theorem dX12_draws_8 : decode cX12_draws 8 = .ok (.iload_n 1, 1) := by decide +kernel
theorem dX12_draws_9 : decode cX12_draws 9 = .ok (.if_icmp .ge 40, 3) := by decide +kernel
theorem dX12_draws_12 : decode cX12_draws 12 = .ok (.aload_n 0, 1) := by decide +kernel
theorem dX12_draws_13 : decode cX12_draws 13 = .ok (.getfield 33, 3) := by decide +kernel
theorem dX12_draws_16 : decode cX12_draws 16 = .ok (.bipush 39, 2) := by decide +kernel
theorem dX12_draws_18 : decode cX12_draws 18 = .ok (.iaload, 1) := by decide +kernel
theorem dX12_draws_19 : decode cX12_draws 19 = .ok (.sipush 400, 3) := by decide +kernel
theorem dX12_draws_22 : decode cX12_draws 22 = .ok (.if_icmp .ge 27, 3) := by decide +kernel
theorem dX12_draws_25 : decode cX12_draws 25 = .ok (.aload_n 0, 1) := by decide +kernel
theorem dX12_draws_26 : decode cX12_draws 26 = .ok (.getfield 33, 3) := by decide +kernel
theorem dX12_draws_29 : decode cX12_draws 29 = .ok (.iconst 0, 1) := by decide +kernel
theorem dX12_draws_30 : decode cX12_draws 30 = .ok (.iaload, 1) := by decide +kernel
theorem dX12_draws_31 : decode cX12_draws 31 = .ok (.ifCond .le 7, 3) := by decide +kernel
theorem dX12_draws_34 : decode cX12_draws 34 = .ok (.aload_n 0, 1) := by decide +kernel
theorem dX12_draws_35 : decode cX12_draws 35 = .ok (.invokevirtual 398, 3) := by decide +kernel
theorem dX12_draws_38 : decode cX12_draws 38 = .ok (.aload_n 0, 1) := by decide +kernel
theorem dX12_draws_39 : decode cX12_draws 39 = .ok (.invokevirtual 291, 3) := by decide +kernel
theorem dX12_draws_42 : decode cX12_draws 42 = .ok (.pop, 1) := by decide +kernel
theorem dX12_draws_43 : decode cX12_draws 43 = .ok (.iinc 3 1, 3) := by decide +kernel
theorem dX12_draws_46 : decode cX12_draws 46 = .ok (.goto (-39), 3) := by decide +kernel
theorem dX12_draws_49 : decode cX12_draws 49 = .ok (.iload_n 3, 1) := by decide +kernel
theorem dX12_draws_50 : decode cX12_draws 50 = .ok (.ireturn, 1) := by decide +kernel
set_option maxRecDepth 20000 in
theorem ggX12_drawn_X12_isIn : GoodIn wsX12_drawn wsX12_isIn := goodIn_r _ [6] rfl rfl
set_option maxRecDepth 20000 in
theorem gX12_drawn_X12_isIn : GoodIn wsX12_drawn (va_wsS RX12 186 yX12_isIn wsX12_isIn) := goodIn_app (goodIn_r _ [3, 4, 5] rfl rfl) ggX12_drawn_X12_isIn
set_option maxRecDepth 20000 in
theorem ggX12_drawn_X12_keep : GoodIn wsX12_drawn wsX12_keep := goodIn_r _ [10, 11, 12, 2, 57, 58, 59, 60, 61, 62, 63, 64, 65, 66, 67, 68, 69, 70, 71, 72, 73, 74, 75, 76, 77, 78, 79, 80, 81, 82, 83, 84, 85, 86, 87, 88, 89, 90, 91, 92, 93, 94, 95, 96, 97, 98, 99, 100, 101, 102, 103, 104, 105] rfl rfl
set_option maxRecDepth 20000 in
theorem gX12_drawn_X12_keep : GoodIn wsX12_drawn (wsV RX12 294 RX12 yX12_keep wsX12_keep) := goodIn_app (goodIn_r _ [7, 8, 9, 5] rfl rfl) ggX12_drawn_X12_keep
set_option maxRecDepth 20000 in
theorem ggX12_drawn_X12_draws : GoodIn wsX12_drawn wsX12_draws := goodIn_r _ [16, 17, 2, 18, 19, 20, 5, 21, 22, 23, 24, 25, 26, 3, 4, 6, 27, 28, 29, 30, 31, 32, 33, 34, 35, 36, 37, 38, 39, 40, 41, 42, 43, 44, 45, 46, 47, 48, 49, 50, 51, 52, 53, 54, 55, 56, 57, 58, 59, 60, 61, 62, 63, 64, 65, 66, 67, 68, 69, 70, 71, 72, 73, 74, 75, 76, 77, 78, 79, 80, 81, 82, 83, 84, 85, 86, 87, 88, 89, 90, 91, 92, 93, 94, 95, 96, 97, 98, 99, 100, 101, 102, 103, 104, 105] rfl rfl
set_option maxRecDepth 20000 in
theorem gX12_drawn_X12_draws : GoodIn wsX12_drawn (wsV RX12 401 RX12 yX12_draws wsX12_draws) := goodIn_app (goodIn_r _ [13, 14, 15, 5] rfl rfl) ggX12_drawn_X12_draws
theorem dX12_drawn_0 : decode cX12_drawn 0 = .ok (.aload_n 0, 1) := by decide +kernel
theorem dX12_drawn_1 : decode cX12_drawn 1 = .ok (.iconst 0, 1) := by decide +kernel
theorem dX12_drawn_2 : decode cX12_drawn 2 = .ok (.putfield 1, 3) := by decide +kernel
theorem dX12_drawn_5 : decode cX12_drawn 5 = .ok (.iload_n 1, 1) := by decide +kernel
theorem dX12_drawn_6 : decode cX12_drawn 6 = .ok (.iconst 1, 1) := by decide +kernel
theorem dX12_drawn_7 : decode cX12_drawn 7 = .ok (.bipush 60, 2) := by decide +kernel
theorem dX12_drawn_9 : decode cX12_drawn 9 = .ok (.invokestatic 186, 3) := by decide +kernel
theorem dX12_drawn_12 : decode cX12_drawn 12 = .ok (.ifCond .ne 5, 3) := by decide +kernel
theorem dX12_drawn_15 : decode cX12_drawn 15 = .ok (.iconst (-1), 1) := by decide +kernel
theorem dX12_drawn_16 : decode cX12_drawn 16 = .ok (.ireturn, 1) := by decide +kernel
theorem dX12_drawn_17 : decode cX12_drawn 17 = .ok (.aload_n 0, 1) := by decide +kernel
theorem dX12_drawn_18 : decode cX12_drawn 18 = .ok (.getfield 33, 3) := by decide +kernel
theorem dX12_drawn_21 : decode cX12_drawn 21 = .ok (.bipush 39, 2) := by decide +kernel
theorem dX12_drawn_23 : decode cX12_drawn 23 = .ok (.iaload, 1) := by decide +kernel
theorem dX12_drawn_24 : decode cX12_drawn 24 = .ok (.sipush 400, 3) := by decide +kernel
theorem dX12_drawn_27 : decode cX12_drawn 27 = .ok (.if_icmp .ge 7, 3) := by decide +kernel
theorem dX12_drawn_30 : decode cX12_drawn 30 = .ok (.aload_n 0, 1) := by decide +kernel
theorem dX12_drawn_31 : decode cX12_drawn 31 = .ok (.invokevirtual 294, 3) := by decide +kernel
theorem dX12_drawn_34 : decode cX12_drawn 34 = .ok (.aload_n 0, 1) := by decide +kernel
theorem dX12_drawn_35 : decode cX12_drawn 35 = .ok (.iload_n 1, 1) := by decide +kernel
theorem dX12_drawn_36 : decode cX12_drawn 36 = .ok (.iload_n 2, 1) := by decide +kernel
theorem dX12_drawn_37 : decode cX12_drawn 37 = .ok (.invokevirtual 401, 3) := by decide +kernel
theorem dX12_drawn_40 : decode cX12_drawn 40 = .ok (.ireturn, 1) := by decide +kernel
set_option maxRecDepth 20000 in
theorem ggX12_odds_X12_isMachine : GoodIn wsX12_odds wsX12_isMachine := goodIn_r _ [7, 2, 8, 9, 6, 10, 64, 65, 66, 67, 68, 69, 70, 71, 72, 73, 74, 75, 76, 77, 78, 79, 80, 81, 82, 83, 84, 85, 86, 87, 88, 89, 90, 91, 92, 93, 94, 95, 96, 97, 98, 99, 100, 101, 102, 103, 104, 105, 106, 107, 108, 109, 110, 111, 112] rfl rfl
set_option maxRecDepth 20000 in
theorem gX12_odds_X12_isMachine : GoodIn wsX12_odds (wsV RX12 260 RX12 yX12_isMachine wsX12_isMachine) := goodIn_app (goodIn_r _ [3, 4, 5, 6] rfl rfl) ggX12_odds_X12_isMachine
set_option maxRecDepth 20000 in
theorem ggX12_odds_X12_isIn : GoodIn wsX12_odds wsX12_isIn := goodIn_r _ [10] rfl rfl
set_option maxRecDepth 20000 in
theorem gX12_odds_X12_isIn : GoodIn wsX12_odds (va_wsS RX12 186 yX12_isIn wsX12_isIn) := goodIn_app (goodIn_r _ [8, 9, 6] rfl rfl) ggX12_odds_X12_isIn
set_option maxRecDepth 20000 in
theorem ggX12_odds_X12_tries : GoodIn wsX12_odds wsX12_tries := goodIn_r _ [14, 15, 2, 64, 65, 66, 67, 68, 69, 70, 71, 72, 73, 74, 75, 76, 77, 78, 79, 80, 81, 82, 83, 84, 85, 86, 87, 88, 89, 90, 91, 92, 93, 94, 95, 96, 97, 98, 99, 100, 101, 102, 103, 104, 105, 106, 107, 108, 109, 110, 111, 112] rfl rfl
set_option maxRecDepth 20000 in
theorem gX12_odds_X12_tries : GoodIn wsX12_odds (wsV RX12 321 RX12 yX12_tries wsX12_tries) := goodIn_app (goodIn_r _ [11, 12, 13, 6] rfl rfl) ggX12_odds_X12_tries
set_option maxRecDepth 20000 in
theorem ggX12_odds_X12_draws : GoodIn wsX12_odds wsX12_draws := goodIn_r _ [19, 20, 2, 21, 22, 23, 6, 24, 25, 26, 27, 28, 29, 8, 9, 10, 30, 31, 32, 33, 34, 35, 36, 37, 38, 39, 40, 41, 42, 43, 44, 45, 46, 47, 48, 49, 50, 51, 52, 53, 54, 55, 56, 57, 58, 59, 64, 65, 66, 67, 68, 69, 70, 71, 72, 73, 74, 75, 76, 77, 78, 79, 80, 81, 82, 83, 84, 85, 86, 87, 88, 89, 90, 91, 92, 93, 94, 95, 96, 97, 98, 99, 100, 101, 102, 103, 104, 105, 106, 107, 108, 109, 110, 111, 112] rfl rfl
set_option maxRecDepth 20000 in
theorem gX12_odds_X12_draws : GoodIn wsX12_odds (wsV RX12 401 RX12 yX12_draws wsX12_draws) := goodIn_app (goodIn_r _ [16, 17, 18, 6] rfl rfl) ggX12_odds_X12_draws
set_option maxRecDepth 20000 in
theorem ggX12_odds_X12_back : GoodIn wsX12_odds wsX12_back := goodIn_r _ [63, 2, 15, 64, 65, 66, 67, 68, 69, 70, 71, 72, 73, 74, 75, 76, 77, 78, 79, 80, 81, 82, 83, 84, 85, 86, 87, 88, 89, 90, 91, 92, 93, 94, 95, 96, 97, 98, 99, 100, 101, 102, 103, 104, 105, 106, 107, 108, 109, 110, 111, 112] rfl rfl
set_option maxRecDepth 20000 in
theorem gX12_odds_X12_back : GoodIn wsX12_odds (wsV RX12 324 RX12 yX12_back wsX12_back) := goodIn_app (goodIn_r _ [60, 61, 62, 6] rfl rfl) ggX12_odds_X12_back
theorem dX12_odds_0 : decode cX12_odds 0 = .ok (.aload_n 0, 1) := by decide +kernel
theorem dX12_odds_1 : decode cX12_odds 1 = .ok (.iconst 0, 1) := by decide +kernel
theorem dX12_odds_2 : decode cX12_odds 2 = .ok (.putfield 1, 3) := by decide +kernel
theorem dX12_odds_5 : decode cX12_odds 5 = .ok (.aload_n 0, 1) := by decide +kernel
theorem dX12_odds_6 : decode cX12_odds 6 = .ok (.iload_n 1, 1) := by decide +kernel
theorem dX12_odds_7 : decode cX12_odds 7 = .ok (.invokevirtual 260, 3) := by decide +kernel
theorem dX12_odds_10 : decode cX12_odds 10 = .ok (.ifCond .eq 13, 3) := by decide +kernel
theorem dX12_odds_13 : decode cX12_odds 13 = .ok (.iload_n 2, 1) := by decide +kernel
theorem dX12_odds_14 : decode cX12_odds 14 = .ok (.iconst 1, 1) := by decide +kernel
theorem dX12_odds_15 : decode cX12_odds 15 = .ok (.bipush 30, 2) := by decide +kernel
theorem dX12_odds_17 : decode cX12_odds 17 = .ok (.invokestatic 186, 3) := by decide +kernel
theorem dX12_odds_20 : decode cX12_odds 20 = .ok (.ifCond .ne 5, 3) := by decide +kernel
theorem dX12_odds_23 : decode cX12_odds 23 = .ok (.iconst (-1), 1) := by decide +kernel
theorem dX12_odds_24 : decode cX12_odds 24 = .ok (.ireturn, 1) := by decide +kernel
theorem dX12_odds_25 : decode cX12_odds 25 = .ok (.aload_n 0, 1) := by decide +kernel
theorem dX12_odds_26 : decode cX12_odds 26 = .ok (.invokevirtual 321, 3) := by decide +kernel
theorem dX12_odds_29 : decode cX12_odds 29 = .ok (.aload_n 0, 1) := by decide +kernel
theorem dX12_odds_30 : decode cX12_odds 30 = .ok (.getfield 33, 3) := by decide +kernel
theorem dX12_odds_33 : decode cX12_odds 33 = .ok (.bipush 50, 2) := by decide +kernel
theorem dX12_odds_35 : decode cX12_odds 35 = .ok (.iload_n 1, 1) := by decide +kernel
theorem dX12_odds_36 : decode cX12_odds 36 = .ok (.iadd, 1) := by decide +kernel
theorem dX12_odds_37 : decode cX12_odds 37 = .ok (.iaload, 1) := by decide +kernel
theorem dX12_odds_38 : decode cX12_odds 38 = .ok (.istore 4, 2) := by decide +kernel
theorem dX12_odds_40 : decode cX12_odds 40 = .ok (.iconst 0, 1) := by decide +kernel
theorem dX12_odds_41 : decode cX12_odds 41 = .ok (.istore 5, 2) := by decide +kernel
theorem dX12_odds_43 : decode cX12_odds 43 = .ok (.iconst 0, 1) := by decide +kernel
theorem dX12_odds_44 : decode cX12_odds 44 = .ok (.istore 6, 2) := by decide +kernel
theorem dX12_odds_46 : decode cX12_odds 46 = .ok (.iload 6, 2) := by decide +kernel
theorem dX12_odds_48 : decode cX12_odds 48 = .ok (.iload_n 2, 1) := by decide +kernel
theorem dX12_odds_49 : decode cX12_odds 49 = .ok (.if_icmp .ge 48, 3) := by decide +kernel
theorem dX12_odds_52 : decode cX12_odds 52 = .ok (.aload_n 0, 1) := by decide +kernel
theorem dX12_odds_53 : decode cX12_odds 53 = .ok (.bipush 10, 2) := by decide +kernel
theorem dX12_odds_55 : decode cX12_odds 55 = .ok (.iload_n 3, 1) := by decide +kernel
theorem dX12_odds_56 : decode cX12_odds 56 = .ok (.iload 6, 2) := by decide +kernel
theorem dX12_odds_58 : decode cX12_odds 58 = .ok (.iadd, 1) := by decide +kernel
theorem dX12_odds_59 : decode cX12_odds 59 = .ok (.invokevirtual 401, 3) := by decide +kernel
theorem dX12_odds_62 : decode cX12_odds 62 = .ok (.pop, 1) := by decide +kernel
theorem dX12_odds_63 : decode cX12_odds 63 = .ok (.iload 5, 2) := by decide +kernel
theorem dX12_odds_65 : decode cX12_odds 65 = .ok (.aload_n 0, 1) := by decide +kernel
theorem dX12_odds_66 : decode cX12_odds 66 = .ok (.getfield 33, 3) := by decide +kernel
theorem dX12_odds_69 : decode cX12_odds 69 = .ok (.bipush 50, 2) := by decide +kernel
theorem dX12_odds_71 : decode cX12_odds 71 = .ok (.iload_n 1, 1) := by decide +kernel
theorem dX12_odds_72 : decode cX12_odds 72 = .ok (.iadd, 1) := by decide +kernel
theorem dX12_odds_73 : decode cX12_odds 73 = .ok (.iaload, 1) := by decide +kernel
theorem dX12_odds_74 : decode cX12_odds 74 = .ok (.iload 4, 2) := by decide +kernel
theorem dX12_odds_76 : decode cX12_odds 76 = .ok (.if_icmp .le 7, 3) := by decide +kernel
theorem dX12_odds_79 : decode cX12_odds 79 = .ok (.iconst 1, 1) := by decide +kernel
theorem dX12_odds_80 : decode cX12_odds 80 = .ok (.goto 4, 3) := by decide +kernel
theorem dX12_odds_83 : decode cX12_odds 83 = .ok (.iconst 0, 1) := by decide +kernel
theorem dX12_odds_84 : decode cX12_odds 84 = .ok (.iadd, 1) := by decide +kernel
theorem dX12_odds_85 : decode cX12_odds 85 = .ok (.istore 5, 2) := by decide +kernel
theorem dX12_odds_87 : decode cX12_odds 87 = .ok (.aload_n 0, 1) := by decide +kernel
theorem dX12_odds_88 : decode cX12_odds 88 = .ok (.invokevirtual 324, 3) := by decide +kernel
theorem dX12_odds_91 : decode cX12_odds 91 = .ok (.iinc 6 1, 3) := by decide +kernel
theorem dX12_odds_94 : decode cX12_odds 94 = .ok (.goto (-48), 3) := by decide +kernel
theorem dX12_odds_97 : decode cX12_odds 97 = .ok (.iload 5, 2) := by decide +kernel
theorem dX12_odds_99 : decode cX12_odds 99 = .ok (.ireturn, 1) := by decide +kernel
set_option maxRecDepth 20000 in
theorem ggX12_bookLine_X12_isWord : GoodIn wsX12_bookLine wsX12_isWord := goodIn_r _ [15, 16, 17, 70, 71, 72, 73, 74, 75, 76, 77, 78, 79, 80, 81, 82, 83, 84, 85, 86, 87, 88, 89, 90, 91, 92, 93, 94, 95, 96, 97, 98, 99, 100, 101, 102, 103, 104, 105, 106, 107, 108, 109, 110, 111, 112, 113, 114, 115, 116, 117, 118] rfl rfl
set_option maxRecDepth 20000 in
theorem gX12_bookLine_X12_isWord : GoodIn wsX12_bookLine (wsV RX12 208 RX12 yX12_isWord wsX12_isWord) := goodIn_app (goodIn_r _ [11, 12, 13, 14] rfl rfl) ggX12_bookLine_X12_isWord
set_option maxRecDepth 20000 in
theorem ggX12_bookLine_X12_looksAt : GoodIn wsX12_bookLine wsX12_looksAt := goodIn_r _ [21, 5, 22, 23, 24, 14, 25, 16, 17, 26, 27, 28, 29, 30, 31, 32, 33, 34, 35, 36, 37, 38, 70, 71, 72, 73, 74, 75, 76, 77, 78, 79, 80, 81, 82, 83, 84, 85, 86, 87, 88, 89, 90, 91, 92, 93, 94, 95, 96, 97, 98, 99, 100, 101, 102, 103, 104, 105, 106, 107, 108, 109, 110, 111, 112, 113, 114, 115, 116, 117, 118] rfl rfl
set_option maxRecDepth 20000 in
theorem gX12_bookLine_X12_looksAt : GoodIn wsX12_bookLine (wsV RX12 205 RX12 yX12_looksAt wsX12_looksAt) := goodIn_app (goodIn_r _ [18, 19, 20, 14] rfl rfl) ggX12_bookLine_X12_looksAt
set_option maxRecDepth 20000 in
theorem ggX12_bookLine_X12_bad : GoodIn wsX12_bookLine wsX12_bad := goodIn_r _ [30, 31, 32, 33, 70, 71, 72, 73, 74, 75, 76, 77, 78, 79, 80, 81, 82, 83, 84, 85, 86, 87, 88, 89, 90, 91, 92, 93, 94, 95, 96, 97, 98, 99, 100, 101, 102, 103, 104, 105, 106, 107, 108, 109, 110, 111, 112, 113, 114, 115, 116, 117, 118] rfl rfl
set_option maxRecDepth 20000 in
theorem gX12_bookLine_X12_bad : GoodIn wsX12_bookLine (wsV RX12 180 RX12 yX12_bad wsX12_bad) := goodIn_app (goodIn_r _ [27, 28, 29, 14] rfl rfl) ggX12_bookLine_X12_bad
set_option maxRecDepth 20000 in
theorem ggX12_bookLine_X12_next : GoodIn wsX12_bookLine wsX12_next := goodIn_r _ [42, 43, 32, 44, 45, 46, 16, 47, 17, 48, 49, 50, 14, 51, 52, 53, 54, 55, 56, 57, 58, 70, 71, 72, 73, 74, 75, 76, 77, 78, 79, 80, 81, 82, 83, 84, 85, 86, 87, 88, 89, 90, 91, 92, 93, 94, 95, 96, 97, 98, 99, 100, 101, 102, 103, 104, 105, 106, 107, 108, 109, 110, 111, 112, 113, 114, 115, 116, 117, 118] rfl rfl
set_option maxRecDepth 20000 in
theorem gX12_bookLine_X12_next : GoodIn wsX12_bookLine (wsV RX12 183 RX12 yX12_next wsX12_next) := goodIn_app (goodIn_r _ [39, 40, 41, 14] rfl rfl) ggX12_bookLine_X12_next
set_option maxRecDepth 20000 in
theorem ggX12_bookLine_X12_takes : GoodIn wsX12_bookLine wsX12_takes := goodIn_r _ [62, 16, 47, 5, 27, 28, 29, 14, 30, 31, 32, 33, 63, 64, 65, 39, 40, 41, 42, 43, 44, 45, 46, 17, 48, 49, 50, 51, 52, 53, 54, 55, 56, 57, 58, 70, 71, 72, 73, 74, 75, 76, 77, 78, 79, 80, 81, 82, 83, 84, 85, 86, 87, 88, 89, 90, 91, 92, 93, 94, 95, 96, 97, 98, 99, 100, 101, 102, 103, 104, 105, 106, 107, 108, 109, 110, 111, 112, 113, 114, 115, 116, 117, 118] rfl rfl
set_option maxRecDepth 20000 in
theorem gX12_bookLine_X12_takes : GoodIn wsX12_bookLine (wsV RX12 193 RX12 yX12_takes wsX12_takes) := goodIn_app (goodIn_r _ [59, 60, 61, 14] rfl rfl) ggX12_bookLine_X12_takes
set_option maxRecDepth 20000 in
theorem ggX12_bookLine_X12_takesName : GoodIn wsX12_bookLine wsX12_takesName := goodIn_r _ [69, 18, 19, 20, 14, 21, 5, 22, 23, 24, 25, 16, 17, 26, 27, 28, 29, 30, 31, 32, 33, 34, 35, 36, 37, 38, 39, 40, 41, 42, 43, 44, 45, 46, 47, 48, 49, 50, 51, 52, 53, 54, 55, 56, 57, 58, 70, 71, 72, 73, 74, 75, 76, 77, 78, 79, 80, 81, 82, 83, 84, 85, 86, 87, 88, 89, 90, 91, 92, 93, 94, 95, 96, 97, 98, 99, 100, 101, 102, 103, 104, 105, 106, 107, 108, 109, 110, 111, 112, 113, 114, 115, 116, 117, 118] rfl rfl
set_option maxRecDepth 20000 in
theorem gX12_bookLine_X12_takesName : GoodIn wsX12_bookLine (wsV RX12 230 RX12 yX12_takesName wsX12_takesName) := goodIn_app (goodIn_r _ [66, 67, 68, 14] rfl rfl) ggX12_bookLine_X12_takesName
theorem dX12_bookLine_0 : decode cX12_bookLine 0 = .ok (.iconst 3, 1) := by decide +kernel
theorem dX12_bookLine_1 : decode cX12_bookLine 1 = .ok (.aload_n 0, 1) := by decide +kernel
theorem dX12_bookLine_2 : decode cX12_bookLine 2 = .ok (.getfield 404, 3) := by decide +kernel
theorem dX12_bookLine_5 : decode cX12_bookLine 5 = .ok (.imul, 1) := by decide +kernel
theorem dX12_bookLine_6 : decode cX12_bookLine 6 = .ok (.istore_n 1, 1) := by decide +kernel
theorem dX12_bookLine_7 : decode cX12_bookLine 7 = .ok (.aload_n 0, 1) := by decide +kernel
theorem dX12_bookLine_8 : decode cX12_bookLine 8 = .ok (.ldc2_w 117, 3) := by decide +kernel
theorem dX12_bookLine_11 : decode cX12_bookLine 11 = .ok (.invokevirtual 208, 3) := by decide +kernel
theorem dX12_bookLine_14 : decode cX12_bookLine 14 = .ok (.istore_n 2, 1) := by decide +kernel
theorem dX12_bookLine_15 : decode cX12_bookLine 15 = .ok (.aload_n 0, 1) := by decide +kernel
theorem dX12_bookLine_16 : decode cX12_bookLine 16 = .ok (.ldc2_w 115, 3) := by decide +kernel
theorem dX12_bookLine_19 : decode cX12_bookLine 19 = .ok (.invokevirtual 208, 3) := by decide +kernel
theorem dX12_bookLine_22 : decode cX12_bookLine 22 = .ok (.istore_n 3, 1) := by decide +kernel
theorem dX12_bookLine_23 : decode cX12_bookLine 23 = .ok (.iload_n 2, 1) := by decide +kernel
theorem dX12_bookLine_24 : decode cX12_bookLine 24 = .ok (.ifCond .ne 23, 3) := by decide +kernel
theorem dX12_bookLine_27 : decode cX12_bookLine 27 = .ok (.iload_n 3, 1) := by decide +kernel
theorem dX12_bookLine_28 : decode cX12_bookLine 28 = .ok (.ifCond .ne 19, 3) := by decide +kernel
theorem dX12_bookLine_31 : decode cX12_bookLine 31 = .ok (.aload_n 0, 1) := by decide +kernel
theorem dX12_bookLine_32 : decode cX12_bookLine 32 = .ok (.iconst 0, 1) := by decide +kernel
theorem dX12_bookLine_33 : decode cX12_bookLine 33 = .ok (.aload_n 0, 1) := by decide +kernel
theorem dX12_bookLine_34 : decode cX12_bookLine 34 = .ok (.getfield 33, 3) := by decide +kernel
theorem dX12_bookLine_37 : decode cX12_bookLine 37 = .ok (.iconst 0, 1) := by decide +kernel
theorem dX12_bookLine_38 : decode cX12_bookLine 38 = .ok (.iaload, 1) := by decide +kernel
theorem dX12_bookLine_39 : decode cX12_bookLine 39 = .ok (.invokevirtual 205, 3) := by decide +kernel
theorem dX12_bookLine_42 : decode cX12_bookLine 42 = .ok (.ifCond .ne 5, 3) := by decide +kernel
theorem dX12_bookLine_45 : decode cX12_bookLine 45 = .ok (.iconst 0, 1) := by decide +kernel
theorem dX12_bookLine_46 : decode cX12_bookLine 46 = .ok (.ireturn, 1) := by decide +kernel
theorem dX12_bookLine_47 : decode cX12_bookLine 47 = .ok (.aload_n 0, 1) := by decide +kernel
theorem dX12_bookLine_48 : decode cX12_bookLine 48 = .ok (.getfield 404, 3) := by decide +kernel
theorem dX12_bookLine_51 : decode cX12_bookLine 51 = .ok (.bipush 40, 2) := by decide +kernel
theorem dX12_bookLine_53 : decode cX12_bookLine 53 = .ok (.if_icmp .ne 9, 3) := by decide +kernel
theorem dX12_bookLine_56 : decode cX12_bookLine 56 = .ok (.aload_n 0, 1) := by decide +kernel
theorem dX12_bookLine_57 : decode cX12_bookLine 57 = .ok (.iconst 4, 1) := by decide +kernel
theorem dX12_bookLine_58 : decode cX12_bookLine 58 = .ok (.invokevirtual 180, 3) := by decide +kernel
theorem dX12_bookLine_61 : decode cX12_bookLine 61 = .ok (.ireturn, 1) := by decide +kernel
theorem dX12_bookLine_62 : decode cX12_bookLine 62 = .ok (.aload_n 0, 1) := by decide +kernel
theorem dX12_bookLine_63 : decode cX12_bookLine 63 = .ok (.getfield 190, 3) := by decide +kernel
theorem dX12_bookLine_66 : decode cX12_bookLine 66 = .ok (.istore 4, 2) := by decide +kernel
theorem dX12_bookLine_68 : decode cX12_bookLine 68 = .ok (.aload_n 0, 1) := by decide +kernel
theorem dX12_bookLine_69 : decode cX12_bookLine 69 = .ok (.invokevirtual 183, 3) := by decide +kernel
theorem dX12_bookLine_72 : decode cX12_bookLine 72 = .ok (.aload_n 0, 1) := by decide +kernel
theorem dX12_bookLine_73 : decode cX12_bookLine 73 = .ok (.getfield 40, 3) := by decide +kernel
theorem dX12_bookLine_76 : decode cX12_bookLine 76 = .ok (.iload_n 1, 1) := by decide +kernel
theorem dX12_bookLine_77 : decode cX12_bookLine 77 = .ok (.iload_n 2, 1) := by decide +kernel
theorem dX12_bookLine_78 : decode cX12_bookLine 78 = .ok (.ifCond .eq 7, 3) := by decide +kernel
theorem dX12_bookLine_81 : decode cX12_bookLine 81 = .ok (.iconst 5, 1) := by decide +kernel
theorem dX12_bookLine_82 : decode cX12_bookLine 82 = .ok (.goto 4, 3) := by decide +kernel
theorem dX12_bookLine_85 : decode cX12_bookLine 85 = .ok (.iconst 4, 1) := by decide +kernel
theorem dX12_bookLine_86 : decode cX12_bookLine 86 = .ok (.iastore, 1) := by decide +kernel
theorem dX12_bookLine_87 : decode cX12_bookLine 87 = .ok (.iload_n 3, 1) := by decide +kernel
theorem dX12_bookLine_88 : decode cX12_bookLine 88 = .ok (.ifCond .eq 5, 3) := by decide +kernel
theorem dX12_bookLine_91 : decode cX12_bookLine 91 = .ok (.iconst 1, 1) := by decide +kernel
theorem dX12_bookLine_92 : decode cX12_bookLine 92 = .ok (.ireturn, 1) := by decide +kernel
theorem dX12_bookLine_93 : decode cX12_bookLine 93 = .ok (.iload_n 2, 1) := by decide +kernel
theorem dX12_bookLine_94 : decode cX12_bookLine 94 = .ok (.ifCond .eq 29, 3) := by decide +kernel
theorem dX12_bookLine_97 : decode cX12_bookLine 97 = .ok (.aload_n 0, 1) := by decide +kernel
theorem dX12_bookLine_98 : decode cX12_bookLine 98 = .ok (.iconst 1, 1) := by decide +kernel
theorem dX12_bookLine_99 : decode cX12_bookLine 99 = .ok (.bipush 60, 2) := by decide +kernel
theorem dX12_bookLine_101 : decode cX12_bookLine 101 = .ok (.invokevirtual 193, 3) := by decide +kernel
theorem dX12_bookLine_104 : decode cX12_bookLine 104 = .ok (.ifCond .ne 5, 3) := by decide +kernel
theorem dX12_bookLine_107 : decode cX12_bookLine 107 = .ok (.iconst 0, 1) := by decide +kernel
theorem dX12_bookLine_108 : decode cX12_bookLine 108 = .ok (.ireturn, 1) := by decide +kernel
theorem dX12_bookLine_109 : decode cX12_bookLine 109 = .ok (.aload_n 0, 1) := by decide +kernel
theorem dX12_bookLine_110 : decode cX12_bookLine 110 = .ok (.getfield 40, 3) := by decide +kernel
theorem dX12_bookLine_113 : decode cX12_bookLine 113 = .ok (.iload_n 1, 1) := by decide +kernel
theorem dX12_bookLine_114 : decode cX12_bookLine 114 = .ok (.iconst 1, 1) := by decide +kernel
theorem dX12_bookLine_115 : decode cX12_bookLine 115 = .ok (.iadd, 1) := by decide +kernel
theorem dX12_bookLine_116 : decode cX12_bookLine 116 = .ok (.aload_n 0, 1) := by decide +kernel
theorem dX12_bookLine_117 : decode cX12_bookLine 117 = .ok (.getfield 190, 3) := by decide +kernel
theorem dX12_bookLine_120 : decode cX12_bookLine 120 = .ok (.iastore, 1) := by decide +kernel
theorem dX12_bookLine_121 : decode cX12_bookLine 121 = .ok (.iconst 1, 1) := by decide +kernel
theorem dX12_bookLine_122 : decode cX12_bookLine 122 = .ok (.ireturn, 1) := by decide +kernel
theorem dX12_bookLine_123 : decode cX12_bookLine 123 = .ok (.aload_n 0, 1) := by decide +kernel
theorem dX12_bookLine_124 : decode cX12_bookLine 124 = .ok (.ldc2_w 107, 3) := by decide +kernel
theorem dX12_bookLine_127 : decode cX12_bookLine 127 = .ok (.invokevirtual 208, 3) := by decide +kernel
theorem dX12_bookLine_130 : decode cX12_bookLine 130 = .ok (.ifCond .eq 7, 3) := by decide +kernel
theorem dX12_bookLine_133 : decode cX12_bookLine 133 = .ok (.iconst 0, 1) := by decide +kernel
theorem dX12_bookLine_134 : decode cX12_bookLine 134 = .ok (.goto 46, 3) := by decide +kernel
theorem dX12_bookLine_137 : decode cX12_bookLine 137 = .ok (.aload_n 0, 1) := by decide +kernel
theorem dX12_bookLine_138 : decode cX12_bookLine 138 = .ok (.ldc2_w 109, 3) := by decide +kernel
theorem dX12_bookLine_141 : decode cX12_bookLine 141 = .ok (.invokevirtual 208, 3) := by decide +kernel
theorem dX12_bookLine_144 : decode cX12_bookLine 144 = .ok (.ifCond .eq 7, 3) := by decide +kernel
theorem dX12_bookLine_147 : decode cX12_bookLine 147 = .ok (.iconst 1, 1) := by decide +kernel
theorem dX12_bookLine_148 : decode cX12_bookLine 148 = .ok (.goto 32, 3) := by decide +kernel
theorem dX12_bookLine_151 : decode cX12_bookLine 151 = .ok (.aload_n 0, 1) := by decide +kernel
theorem dX12_bookLine_152 : decode cX12_bookLine 152 = .ok (.ldc2_w 111, 3) := by decide +kernel
theorem dX12_bookLine_155 : decode cX12_bookLine 155 = .ok (.invokevirtual 208, 3) := by decide +kernel
theorem dX12_bookLine_158 : decode cX12_bookLine 158 = .ok (.ifCond .eq 7, 3) := by decide +kernel
theorem dX12_bookLine_161 : decode cX12_bookLine 161 = .ok (.iconst 2, 1) := by decide +kernel
theorem dX12_bookLine_162 : decode cX12_bookLine 162 = .ok (.goto 18, 3) := by decide +kernel
theorem dX12_bookLine_165 : decode cX12_bookLine 165 = .ok (.aload_n 0, 1) := by decide +kernel
theorem dX12_bookLine_166 : decode cX12_bookLine 166 = .ok (.ldc2_w 113, 3) := by decide +kernel
theorem dX12_bookLine_169 : decode cX12_bookLine 169 = .ok (.invokevirtual 208, 3) := by decide +kernel
theorem dX12_bookLine_172 : decode cX12_bookLine 172 = .ok (.ifCond .eq 7, 3) := by decide +kernel
theorem dX12_bookLine_175 : decode cX12_bookLine 175 = .ok (.iconst 3, 1) := by decide +kernel
theorem dX12_bookLine_176 : decode cX12_bookLine 176 = .ok (.goto 4, 3) := by decide +kernel
theorem dX12_bookLine_179 : decode cX12_bookLine 179 = .ok (.iconst (-1), 1) := by decide +kernel
theorem dX12_bookLine_180 : decode cX12_bookLine 180 = .ok (.istore 5, 2) := by decide +kernel
theorem dX12_bookLine_182 : decode cX12_bookLine 182 = .ok (.iload 5, 2) := by decide +kernel
theorem dX12_bookLine_184 : decode cX12_bookLine 184 = .ok (.ifCond .ge 9, 3) := by decide +kernel
theorem dX12_bookLine_187 : decode cX12_bookLine 187 = .ok (.aload_n 0, 1) := by decide +kernel
theorem dX12_bookLine_188 : decode cX12_bookLine 188 = .ok (.iconst 1, 1) := by decide +kernel
theorem dX12_bookLine_189 : decode cX12_bookLine 189 = .ok (.invokevirtual 180, 3) := by decide +kernel
theorem dX12_bookLine_192 : decode cX12_bookLine 192 = .ok (.ireturn, 1) := by decide +kernel
theorem dX12_bookLine_193 : decode cX12_bookLine 193 = .ok (.aload_n 0, 1) := by decide +kernel
theorem dX12_bookLine_194 : decode cX12_bookLine 194 = .ok (.invokevirtual 183, 3) := by decide +kernel
theorem dX12_bookLine_197 : decode cX12_bookLine 197 = .ok (.aload_n 0, 1) := by decide +kernel
theorem dX12_bookLine_198 : decode cX12_bookLine 198 = .ok (.getfield 40, 3) := by decide +kernel
theorem dX12_bookLine_201 : decode cX12_bookLine 201 = .ok (.iload_n 1, 1) := by decide +kernel
theorem dX12_bookLine_202 : decode cX12_bookLine 202 = .ok (.iload 5, 2) := by decide +kernel
theorem dX12_bookLine_204 : decode cX12_bookLine 204 = .ok (.iastore, 1) := by decide +kernel
theorem dX12_bookLine_205 : decode cX12_bookLine 205 = .ok (.aload_n 0, 1) := by decide +kernel
theorem dX12_bookLine_206 : decode cX12_bookLine 206 = .ok (.getfield 40, 3) := by decide +kernel
theorem dX12_bookLine_209 : decode cX12_bookLine 209 = .ok (.iload_n 1, 1) := by decide +kernel
theorem dX12_bookLine_210 : decode cX12_bookLine 210 = .ok (.iconst 1, 1) := by decide +kernel
theorem dX12_bookLine_211 : decode cX12_bookLine 211 = .ok (.iadd, 1) := by decide +kernel
theorem dX12_bookLine_212 : decode cX12_bookLine 212 = .ok (.iload 4, 2) := by decide +kernel
theorem dX12_bookLine_214 : decode cX12_bookLine 214 = .ok (.iastore, 1) := by decide +kernel
theorem dX12_bookLine_215 : decode cX12_bookLine 215 = .ok (.iload 5, 2) := by decide +kernel
theorem dX12_bookLine_217 : decode cX12_bookLine 217 = .ok (.iconst 1, 1) := by decide +kernel
theorem dX12_bookLine_218 : decode cX12_bookLine 218 = .ok (.if_icmp .eq 9, 3) := by decide +kernel
theorem dX12_bookLine_221 : decode cX12_bookLine 221 = .ok (.iload 5, 2) := by decide +kernel
theorem dX12_bookLine_223 : decode cX12_bookLine 223 = .ok (.iconst 2, 1) := by decide +kernel
theorem dX12_bookLine_224 : decode cX12_bookLine 224 = .ok (.if_icmp .ne 5, 3) := by decide +kernel
theorem dX12_bookLine_227 : decode cX12_bookLine 227 = .ok (.iconst 1, 1) := by decide +kernel
theorem dX12_bookLine_228 : decode cX12_bookLine 228 = .ok (.ireturn, 1) := by decide +kernel
theorem dX12_bookLine_229 : decode cX12_bookLine 229 = .ok (.iload 5, 2) := by decide +kernel
theorem dX12_bookLine_231 : decode cX12_bookLine 231 = .ok (.ifCond .ne 18, 3) := by decide +kernel
theorem dX12_bookLine_234 : decode cX12_bookLine 234 = .ok (.aload_n 0, 1) := by decide +kernel
theorem dX12_bookLine_235 : decode cX12_bookLine 235 = .ok (.bipush 6, 2) := by decide +kernel
theorem dX12_bookLine_237 : decode cX12_bookLine 237 = .ok (.aload_n 0, 1) := by decide +kernel
theorem dX12_bookLine_238 : decode cX12_bookLine 238 = .ok (.getfield 33, 3) := by decide +kernel
theorem dX12_bookLine_241 : decode cX12_bookLine 241 = .ok (.iconst 1, 1) := by decide +kernel
theorem dX12_bookLine_242 : decode cX12_bookLine 242 = .ok (.iaload, 1) := by decide +kernel
theorem dX12_bookLine_243 : decode cX12_bookLine 243 = .ok (.invokevirtual 230, 3) := by decide +kernel
theorem dX12_bookLine_246 : decode cX12_bookLine 246 = .ok (.goto 11, 3) := by decide +kernel
theorem dX12_bookLine_249 : decode cX12_bookLine 249 = .ok (.aload_n 0, 1) := by decide +kernel
theorem dX12_bookLine_250 : decode cX12_bookLine 250 = .ok (.iconst 1, 1) := by decide +kernel
theorem dX12_bookLine_251 : decode cX12_bookLine 251 = .ok (.sipush 999, 3) := by decide +kernel
theorem dX12_bookLine_254 : decode cX12_bookLine 254 = .ok (.invokevirtual 193, 3) := by decide +kernel
theorem dX12_bookLine_257 : decode cX12_bookLine 257 = .ok (.istore 6, 2) := by decide +kernel
theorem dX12_bookLine_259 : decode cX12_bookLine 259 = .ok (.aload_n 0, 1) := by decide +kernel
theorem dX12_bookLine_260 : decode cX12_bookLine 260 = .ok (.getfield 40, 3) := by decide +kernel
theorem dX12_bookLine_263 : decode cX12_bookLine 263 = .ok (.iload_n 1, 1) := by decide +kernel
theorem dX12_bookLine_264 : decode cX12_bookLine 264 = .ok (.iconst 2, 1) := by decide +kernel
theorem dX12_bookLine_265 : decode cX12_bookLine 265 = .ok (.iadd, 1) := by decide +kernel
theorem dX12_bookLine_266 : decode cX12_bookLine 266 = .ok (.aload_n 0, 1) := by decide +kernel
theorem dX12_bookLine_267 : decode cX12_bookLine 267 = .ok (.getfield 190, 3) := by decide +kernel
theorem dX12_bookLine_270 : decode cX12_bookLine 270 = .ok (.iastore, 1) := by decide +kernel
theorem dX12_bookLine_271 : decode cX12_bookLine 271 = .ok (.iload 6, 2) := by decide +kernel
theorem dX12_bookLine_273 : decode cX12_bookLine 273 = .ok (.ireturn, 1) := by decide +kernel
set_option maxRecDepth 20000 in
theorem ggX12_does_X12_whyWrite : GoodIn wsX12_does wsX12_whyWrite := goodIn_r _ [6, 1, 7, 8, 9, 5, 10, 11, 12, 13, 14, 15, 16, 17, 49, 50, 51, 52, 53, 54, 55, 56, 57, 58, 59, 60, 61, 62, 63, 64, 65, 66, 67, 68, 69, 70, 71, 72, 73, 74, 75, 76, 77, 78, 79, 80, 81, 82, 83, 84, 85, 86, 87, 88, 89, 90, 91, 92, 93, 94, 95, 96, 97] rfl rfl
set_option maxRecDepth 20000 in
theorem gX12_does_X12_whyWrite : GoodIn wsX12_does (wsV RX12 257 RX12 yX12_whyWrite wsX12_whyWrite) := goodIn_app (goodIn_r _ [2, 3, 4, 5] rfl rfl) ggX12_does_X12_whyWrite
set_option maxRecDepth 20000 in
theorem ggX12_does_X12_types : GoodIn wsX12_does wsX12_types := goodIn_r _ [21, 1, 22, 23, 5, 24, 49, 50, 51, 52, 53, 54, 55, 56, 57, 58, 59, 60, 61, 62, 63, 64, 65, 66, 67, 68, 69, 70, 71, 72, 73, 74, 75, 76, 77, 78, 79, 80, 81, 82, 83, 84, 85, 86, 87, 88, 89, 90, 91, 92, 93, 94, 95, 96, 97] rfl rfl
set_option maxRecDepth 20000 in
theorem gX12_does_X12_types : GoodIn wsX12_does (wsV RX12 287 RX12 yX12_types wsX12_types) := goodIn_app (goodIn_r _ [18, 19, 20, 5] rfl rfl) ggX12_does_X12_types
set_option maxRecDepth 20000 in
theorem ggX12_does_X12_isHeld : GoodIn wsX12_does wsX12_isHeld := goodIn_r _ [10, 1, 11, 12, 5, 13, 49, 50, 51, 52, 53, 54, 55, 56, 57, 58, 59, 60, 61, 62, 63, 64, 65, 66, 67, 68, 69, 70, 71, 72, 73, 74, 75, 76, 77, 78, 79, 80, 81, 82, 83, 84, 85, 86, 87, 88, 89, 90, 91, 92, 93, 94, 95, 96, 97] rfl rfl
set_option maxRecDepth 20000 in
theorem gX12_does_X12_isHeld : GoodIn wsX12_does (wsV RX12 251 RX12 yX12_isHeld wsX12_isHeld) := goodIn_app (goodIn_r _ [7, 8, 9, 5] rfl rfl) ggX12_does_X12_isHeld
set_option maxRecDepth 20000 in
theorem ggX12_does_X12_whyClear : GoodIn wsX12_does wsX12_whyClear := goodIn_r _ [28, 1, 29, 30, 31, 5, 32, 22, 23, 24, 49, 50, 51, 52, 53, 54, 55, 56, 57, 58, 59, 60, 61, 62, 63, 64, 65, 66, 67, 68, 69, 70, 71, 72, 73, 74, 75, 76, 77, 78, 79, 80, 81, 82, 83, 84, 85, 86, 87, 88, 89, 90, 91, 92, 93, 94, 95, 96, 97] rfl rfl
set_option maxRecDepth 20000 in
theorem gX12_does_X12_whyClear : GoodIn wsX12_does (wsV RX12 300 RX12 yX12_whyClear wsX12_whyClear) := goodIn_app (goodIn_r _ [25, 26, 27, 5] rfl rfl) ggX12_does_X12_whyClear
set_option maxRecDepth 20000 in
theorem ggX12_does_X12_evens : GoodIn wsX12_does wsX12_evens := goodIn_r _ [36, 1, 29, 30, 31, 5, 32, 22, 23, 24, 49, 50, 51, 52, 53, 54, 55, 56, 57, 58, 59, 60, 61, 62, 63, 64, 65, 66, 67, 68, 69, 70, 71, 72, 73, 74, 75, 76, 77, 78, 79, 80, 81, 82, 83, 84, 85, 86, 87, 88, 89, 90, 91, 92, 93, 94, 95, 96, 97] rfl rfl
set_option maxRecDepth 20000 in
theorem gX12_does_X12_evens : GoodIn wsX12_does (wsV RX12 303 RX12 yX12_evens wsX12_evens) := goodIn_app (goodIn_r _ [33, 34, 35, 5] rfl rfl) ggX12_does_X12_evens
set_option maxRecDepth 20000 in
theorem ggX12_does_X12_goesOn : GoodIn wsX12_does wsX12_goesOn := goodIn_r _ [40, 1, 41, 42, 43, 5, 44, 45, 46, 47, 48, 2, 3, 4, 6, 7, 8, 9, 10, 11, 12, 13, 14, 15, 16, 17, 18, 19, 20, 21, 22, 23, 24, 49, 50, 51, 52, 53, 54, 55, 56, 57, 58, 59, 60, 61, 62, 63, 64, 65, 66, 67, 68, 69, 70, 71, 72, 73, 74, 75, 76, 77, 78, 79, 80, 81, 82, 83, 84, 85, 86, 87, 88, 89, 90, 91, 92, 93, 94, 95, 96, 97] rfl rfl
set_option maxRecDepth 20000 in
theorem gX12_does_X12_goesOn : GoodIn wsX12_does (wsV RX12 306 RX12 yX12_goesOn wsX12_goesOn) := goodIn_app (goodIn_r _ [37, 38, 39, 5] rfl rfl) ggX12_does_X12_goesOn
theorem dX12_does_0 : decode cX12_does 0 = .ok (.iconst 0, 1) := by decide +kernel
theorem dX12_does_1 : decode cX12_does 1 = .ok (.istore 4, 2) := by decide +kernel
theorem dX12_does_3 : decode cX12_does 3 = .ok (.iload_n 1, 1) := by decide +kernel
theorem dX12_does_4 : decode cX12_does 4 = .ok (.tableswitch 155 0 4 #[36, 58, 58, 104, 142], 36) := by decide +kernel
theorem dX12_does_40 : decode cX12_does 40 = .ok (.aload_n 0, 1) := by decide +kernel
theorem dX12_does_41 : decode cX12_does 41 = .ok (.iload_n 2, 1) := by decide +kernel
theorem dX12_does_42 : decode cX12_does 42 = .ok (.iload_n 3, 1) := by decide +kernel
theorem dX12_does_43 : decode cX12_does 43 = .ok (.invokevirtual 257, 3) := by decide +kernel
theorem dX12_does_46 : decode cX12_does 46 = .ok (.istore 4, 2) := by decide +kernel
theorem dX12_does_48 : decode cX12_does 48 = .ok (.iload 4, 2) := by decide +kernel
theorem dX12_does_50 : decode cX12_does 50 = .ok (.ifCond .ne 142, 3) := by decide +kernel
theorem dX12_does_53 : decode cX12_does 53 = .ok (.aload_n 0, 1) := by decide +kernel
theorem dX12_does_54 : decode cX12_does 54 = .ok (.iload_n 2, 1) := by decide +kernel
theorem dX12_does_55 : decode cX12_does 55 = .ok (.iload_n 3, 1) := by decide +kernel
theorem dX12_does_56 : decode cX12_does 56 = .ok (.invokevirtual 287, 3) := by decide +kernel
theorem dX12_does_59 : decode cX12_does 59 = .ok (.goto 133, 3) := by decide +kernel
theorem dX12_does_62 : decode cX12_does 62 = .ok (.aload_n 0, 1) := by decide +kernel
theorem dX12_does_63 : decode cX12_does 63 = .ok (.iload_n 2, 1) := by decide +kernel
theorem dX12_does_64 : decode cX12_does 64 = .ok (.invokevirtual 251, 3) := by decide +kernel
theorem dX12_does_67 : decode cX12_does 67 = .ok (.iload_n 1, 1) := by decide +kernel
theorem dX12_does_68 : decode cX12_does 68 = .ok (.iconst 1, 1) := by decide +kernel
theorem dX12_does_69 : decode cX12_does 69 = .ok (.if_icmp .ne 7, 3) := by decide +kernel
theorem dX12_does_72 : decode cX12_does 72 = .ok (.iconst 1, 1) := by decide +kernel
theorem dX12_does_73 : decode cX12_does 73 = .ok (.goto 4, 3) := by decide +kernel
theorem dX12_does_76 : decode cX12_does 76 = .ok (.iconst 0, 1) := by decide +kernel
theorem dX12_does_77 : decode cX12_does 77 = .ok (.if_icmp .ne 7, 3) := by decide +kernel
theorem dX12_does_80 : decode cX12_does 80 = .ok (.iconst 1, 1) := by decide +kernel
theorem dX12_does_81 : decode cX12_does 81 = .ok (.goto 4, 3) := by decide +kernel
theorem dX12_does_84 : decode cX12_does 84 = .ok (.iconst 0, 1) := by decide +kernel
theorem dX12_does_85 : decode cX12_does 85 = .ok (.istore 4, 2) := by decide +kernel
theorem dX12_does_87 : decode cX12_does 87 = .ok (.iload 4, 2) := by decide +kernel
theorem dX12_does_89 : decode cX12_does 89 = .ok (.ifCond .ne 103, 3) := by decide +kernel
theorem dX12_does_92 : decode cX12_does 92 = .ok (.aload_n 0, 1) := by decide +kernel
theorem dX12_does_93 : decode cX12_does 93 = .ok (.getfield 33, 3) := by decide +kernel
theorem dX12_does_96 : decode cX12_does 96 = .ok (.bipush 42, 2) := by decide +kernel
theorem dX12_does_98 : decode cX12_does 98 = .ok (.dup2, 1) := by decide +kernel
theorem dX12_does_99 : decode cX12_does 99 = .ok (.iaload, 1) := by decide +kernel
theorem dX12_does_100 : decode cX12_does 100 = .ok (.iconst 1, 1) := by decide +kernel
theorem dX12_does_101 : decode cX12_does 101 = .ok (.iload_n 2, 1) := by decide +kernel
theorem dX12_does_102 : decode cX12_does 102 = .ok (.ishl, 1) := by decide +kernel
theorem dX12_does_103 : decode cX12_does 103 = .ok (.ixor, 1) := by decide +kernel
theorem dX12_does_104 : decode cX12_does 104 = .ok (.iastore, 1) := by decide +kernel
theorem dX12_does_105 : decode cX12_does 105 = .ok (.goto 87, 3) := by decide +kernel
theorem dX12_does_108 : decode cX12_does 108 = .ok (.aload_n 0, 1) := by decide +kernel
theorem dX12_does_109 : decode cX12_does 109 = .ok (.getfield 33, 3) := by decide +kernel
theorem dX12_does_112 : decode cX12_does 112 = .ok (.bipush 44, 2) := by decide +kernel
theorem dX12_does_114 : decode cX12_does 114 = .ok (.iload_n 2, 1) := by decide +kernel
theorem dX12_does_115 : decode cX12_does 115 = .ok (.iadd, 1) := by decide +kernel
theorem dX12_does_116 : decode cX12_does 116 = .ok (.iaload, 1) := by decide +kernel
theorem dX12_does_117 : decode cX12_does 117 = .ok (.iload_n 3, 1) := by decide +kernel
theorem dX12_does_118 : decode cX12_does 118 = .ok (.if_icmp .lt 7, 3) := by decide +kernel
theorem dX12_does_121 : decode cX12_does 121 = .ok (.iconst 1, 1) := by decide +kernel
theorem dX12_does_122 : decode cX12_does 122 = .ok (.goto 4, 3) := by decide +kernel
theorem dX12_does_125 : decode cX12_does 125 = .ok (.iconst 0, 1) := by decide +kernel
theorem dX12_does_126 : decode cX12_does 126 = .ok (.istore 4, 2) := by decide +kernel
theorem dX12_does_128 : decode cX12_does 128 = .ok (.iload 4, 2) := by decide +kernel
theorem dX12_does_130 : decode cX12_does 130 = .ok (.ifCond .ne 62, 3) := by decide +kernel
theorem dX12_does_133 : decode cX12_does 133 = .ok (.aload_n 0, 1) := by decide +kernel
theorem dX12_does_134 : decode cX12_does 134 = .ok (.getfield 33, 3) := by decide +kernel
theorem dX12_does_137 : decode cX12_does 137 = .ok (.bipush 44, 2) := by decide +kernel
theorem dX12_does_139 : decode cX12_does 139 = .ok (.iload_n 2, 1) := by decide +kernel
theorem dX12_does_140 : decode cX12_does 140 = .ok (.iadd, 1) := by decide +kernel
theorem dX12_does_141 : decode cX12_does 141 = .ok (.iload_n 3, 1) := by decide +kernel
theorem dX12_does_142 : decode cX12_does 142 = .ok (.iastore, 1) := by decide +kernel
theorem dX12_does_143 : decode cX12_does 143 = .ok (.goto 49, 3) := by decide +kernel
theorem dX12_does_146 : decode cX12_does 146 = .ok (.aload_n 0, 1) := by decide +kernel
theorem dX12_does_147 : decode cX12_does 147 = .ok (.invokevirtual 300, 3) := by decide +kernel
theorem dX12_does_150 : decode cX12_does 150 = .ok (.istore 4, 2) := by decide +kernel
theorem dX12_does_152 : decode cX12_does 152 = .ok (.aload_n 0, 1) := by decide +kernel
theorem dX12_does_153 : decode cX12_does 153 = .ok (.invokevirtual 303, 3) := by decide +kernel
theorem dX12_does_156 : decode cX12_does 156 = .ok (.goto 36, 3) := by decide +kernel
theorem dX12_does_159 : decode cX12_does 159 = .ok (.aload_n 0, 1) := by decide +kernel
theorem dX12_does_160 : decode cX12_does 160 = .ok (.getfield 33, 3) := by decide +kernel
theorem dX12_does_163 : decode cX12_does 163 = .ok (.bipush 39, 2) := by decide +kernel
theorem dX12_does_165 : decode cX12_does 165 = .ok (.iaload, 1) := by decide +kernel
theorem dX12_does_166 : decode cX12_does 166 = .ok (.iload_n 2, 1) := by decide +kernel
theorem dX12_does_167 : decode cX12_does 167 = .ok (.iadd, 1) := by decide +kernel
theorem dX12_does_168 : decode cX12_does 168 = .ok (.sipush 400, 3) := by decide +kernel
theorem dX12_does_171 : decode cX12_does 171 = .ok (.if_icmp .le 7, 3) := by decide +kernel
theorem dX12_does_174 : decode cX12_does 174 = .ok (.iconst 1, 1) := by decide +kernel
theorem dX12_does_175 : decode cX12_does 175 = .ok (.goto 4, 3) := by decide +kernel
theorem dX12_does_178 : decode cX12_does 178 = .ok (.iconst 0, 1) := by decide +kernel
theorem dX12_does_179 : decode cX12_does 179 = .ok (.istore 4, 2) := by decide +kernel
theorem dX12_does_181 : decode cX12_does 181 = .ok (.iload 4, 2) := by decide +kernel
theorem dX12_does_183 : decode cX12_does 183 = .ok (.ifCond .ne 9, 3) := by decide +kernel
theorem dX12_does_186 : decode cX12_does 186 = .ok (.aload_n 0, 1) := by decide +kernel
theorem dX12_does_187 : decode cX12_does 187 = .ok (.iload_n 2, 1) := by decide +kernel
theorem dX12_does_188 : decode cX12_does 188 = .ok (.invokevirtual 306, 3) := by decide +kernel
theorem dX12_does_191 : decode cX12_does 191 = .ok (.pop, 1) := by decide +kernel
theorem dX12_does_192 : decode cX12_does 192 = .ok (.iload 4, 2) := by decide +kernel
theorem dX12_does_194 : decode cX12_does 194 = .ok (.ifCond .le 13, 3) := by decide +kernel
theorem dX12_does_197 : decode cX12_does 197 = .ok (.bipush 10, 2) := by decide +kernel
theorem dX12_does_199 : decode cX12_does 199 = .ok (.iload_n 1, 1) := by decide +kernel
theorem dX12_does_200 : decode cX12_does 200 = .ok (.imul, 1) := by decide +kernel
theorem dX12_does_201 : decode cX12_does 201 = .ok (.iload 4, 2) := by decide +kernel
theorem dX12_does_203 : decode cX12_does 203 = .ok (.iadd, 1) := by decide +kernel
theorem dX12_does_204 : decode cX12_does 204 = .ok (.goto 4, 3) := by decide +kernel
theorem dX12_does_207 : decode cX12_does 207 = .ok (.iconst 0, 1) := by decide +kernel
theorem dX12_does_208 : decode cX12_does 208 = .ok (.ireturn, 1) := by decide +kernel
set_option maxRecDepth 20000 in
theorem ggX12_book_X12_isIn : GoodIn wsX12_book wsX12_isIn := goodIn_r _ [16] rfl rfl
set_option maxRecDepth 20000 in
theorem gX12_book_X12_isIn : GoodIn wsX12_book (va_wsS RX12 186 yX12_isIn wsX12_isIn) := goodIn_app (goodIn_r _ [13, 14, 15] rfl rfl) ggX12_book_X12_isIn
set_option maxRecDepth 20000 in
theorem ggX12_book_X12_taken : GoodIn wsX12_book wsX12_taken := goodIn_r _ [20, 21, 22, 23, 24, 159, 160, 161, 162, 163, 164, 165, 166, 167, 168, 169, 170, 171, 172, 173, 174, 175, 176, 177, 178, 179, 180, 181, 182, 183, 184, 185, 186, 187, 188, 189, 190, 191, 192, 193, 194, 195, 196, 197, 198, 199, 200, 201, 202, 203, 204, 205, 206, 207] rfl rfl
set_option maxRecDepth 20000 in
theorem gX12_book_X12_taken : GoodIn wsX12_book (wsV RX12 236 RX12 yX12_taken wsX12_taken) := goodIn_app (goodIn_r _ [17, 18, 19, 15] rfl rfl) ggX12_book_X12_taken
set_option maxRecDepth 20000 in
theorem ggX12_book_X12_next : GoodIn wsX12_book wsX12_next := goodIn_r _ [28, 23, 29, 30, 22, 24, 4, 31, 32, 33, 34, 35, 15, 36, 37, 38, 39, 40, 41, 42, 43, 159, 160, 161, 162, 163, 164, 165, 166, 167, 168, 169, 170, 171, 172, 173, 174, 175, 176, 177, 178, 179, 180, 181, 182, 183, 184, 185, 186, 187, 188, 189, 190, 191, 192, 193, 194, 195, 196, 197, 198, 199, 200, 201, 202, 203, 204, 205, 206, 207] rfl rfl
set_option maxRecDepth 20000 in
theorem gX12_book_X12_next : GoodIn wsX12_book (wsV RX12 183 RX12 yX12_next wsX12_next) := goodIn_app (goodIn_r _ [25, 26, 27, 15] rfl rfl) ggX12_book_X12_next
set_option maxRecDepth 20000 in
theorem ggX12_book_X12_bookLine : GoodIn wsX12_book wsX12_bookLine := goodIn_r _ [47, 3, 48, 49, 8, 50, 7, 51, 52, 53, 54, 55, 56, 57, 15, 58, 4, 32, 59, 60, 61, 62, 63, 64, 65, 66, 67, 68, 69, 70, 71, 2, 29, 5, 72, 73, 74, 75, 76, 25, 26, 27, 28, 23, 30, 22, 24, 31, 33, 34, 35, 36, 37, 38, 39, 40, 41, 42, 43, 77, 78, 79, 80, 13, 14, 16, 81, 82, 83, 84, 159, 160, 161, 162, 163, 164, 165, 166, 167, 168, 169, 170, 171, 172, 173, 174, 175, 176, 177, 178, 179, 180, 181, 182, 183, 184, 185, 186, 187, 188, 189, 190, 191, 192, 193, 194, 195, 196, 197, 198, 199, 200, 201, 202, 203, 204, 205, 206, 207] rfl rfl
set_option maxRecDepth 20000 in
theorem gX12_book_X12_bookLine : GoodIn wsX12_book (wsV RX12 407 RX12 yX12_bookLine wsX12_bookLine) := goodIn_app (goodIn_r _ [44, 45, 46, 15] rfl rfl) ggX12_book_X12_bookLine
set_option maxRecDepth 20000 in
theorem ggX12_book_X12_sign : GoodIn wsX12_book wsX12_sign := goodIn_r _ [88, 89, 90, 91, 15, 92, 4, 31, 68, 69, 70, 71, 2, 29, 5, 25, 26, 27, 28, 23, 30, 22, 24, 32, 33, 34, 35, 36, 37, 38, 39, 40, 41, 42, 43, 159, 160, 161, 162, 163, 164, 165, 166, 167, 168, 169, 170, 171, 172, 173, 174, 175, 176, 177, 178, 179, 180, 181, 182, 183, 184, 185, 186, 187, 188, 189, 190, 191, 192, 193, 194, 195, 196, 197, 198, 199, 200, 201, 202, 203, 204, 205, 206, 207] rfl rfl
set_option maxRecDepth 20000 in
theorem gX12_book_X12_sign : GoodIn wsX12_book (wsV RX12 245 RX12 yX12_sign wsX12_sign) := goodIn_app (goodIn_r _ [85, 86, 87, 15] rfl rfl) ggX12_book_X12_sign
set_option maxRecDepth 20000 in
theorem ggX12_book_X12_tries : GoodIn wsX12_book wsX12_tries := goodIn_r _ [96, 12, 8, 159, 160, 161, 162, 163, 164, 165, 166, 167, 168, 169, 170, 171, 172, 173, 174, 175, 176, 177, 178, 179, 180, 181, 182, 183, 184, 185, 186, 187, 188, 189, 190, 191, 192, 193, 194, 195, 196, 197, 198, 199, 200, 201, 202, 203, 204, 205, 206, 207] rfl rfl
set_option maxRecDepth 20000 in
theorem gX12_book_X12_tries : GoodIn wsX12_book (wsV RX12 321 RX12 yX12_tries wsX12_tries) := goodIn_app (goodIn_r _ [93, 94, 95, 15] rfl rfl) ggX12_book_X12_tries
set_option maxRecDepth 20000 in
theorem ggX12_book_X12_does : GoodIn wsX12_book wsX12_does := goodIn_r _ [100, 8, 101, 102, 103, 15, 104, 105, 106, 107, 108, 109, 110, 111, 112, 113, 114, 115, 116, 117, 118, 119, 120, 121, 122, 123, 124, 125, 126, 127, 128, 129, 130, 131, 132, 133, 134, 135, 136, 137, 138, 139, 140, 141, 142, 143, 144, 145, 146, 159, 160, 161, 162, 163, 164, 165, 166, 167, 168, 169, 170, 171, 172, 173, 174, 175, 176, 177, 178, 179, 180, 181, 182, 183, 184, 185, 186, 187, 188, 189, 190, 191, 192, 193, 194, 195, 196, 197, 198, 199, 200, 201, 202, 203, 204, 205, 206, 207] rfl rfl
set_option maxRecDepth 20000 in
theorem gX12_book_X12_does : GoodIn wsX12_book (wsV RX12 410 RX12 yX12_does wsX12_does) := goodIn_app (goodIn_r _ [97, 98, 99, 15] rfl rfl) ggX12_book_X12_does
set_option maxRecDepth 20000 in
theorem ggX12_book_X12_sumOf : GoodIn wsX12_book wsX12_sumOf := goodIn_r _ [150, 8, 159, 160, 161, 162, 163, 164, 165, 166, 167, 168, 169, 170, 171, 172, 173, 174, 175, 176, 177, 178, 179, 180, 181, 182, 183, 184, 185, 186, 187, 188, 189, 190, 191, 192, 193, 194, 195, 196, 197, 198, 199, 200, 201, 202, 203, 204, 205, 206, 207] rfl rfl
set_option maxRecDepth 20000 in
theorem gX12_book_X12_sumOf : GoodIn wsX12_book (wsV RX12 278 RX12 yX12_sumOf wsX12_sumOf) := goodIn_app (goodIn_r _ [147, 148, 149, 15] rfl rfl) ggX12_book_X12_sumOf
set_option maxRecDepth 20000 in
theorem ggX12_book_X12_keep : GoodIn wsX12_book wsX12_keep := goodIn_r _ [154, 11, 10, 8, 159, 160, 161, 162, 163, 164, 165, 166, 167, 168, 169, 170, 171, 172, 173, 174, 175, 176, 177, 178, 179, 180, 181, 182, 183, 184, 185, 186, 187, 188, 189, 190, 191, 192, 193, 194, 195, 196, 197, 198, 199, 200, 201, 202, 203, 204, 205, 206, 207] rfl rfl
set_option maxRecDepth 20000 in
theorem gX12_book_X12_keep : GoodIn wsX12_book (wsV RX12 294 RX12 yX12_keep wsX12_keep) := goodIn_app (goodIn_r _ [151, 152, 153, 15] rfl rfl) ggX12_book_X12_keep
set_option maxRecDepth 20000 in
theorem ggX12_book_X12_back : GoodIn wsX12_book wsX12_back := goodIn_r _ [158, 8, 12, 159, 160, 161, 162, 163, 164, 165, 166, 167, 168, 169, 170, 171, 172, 173, 174, 175, 176, 177, 178, 179, 180, 181, 182, 183, 184, 185, 186, 187, 188, 189, 190, 191, 192, 193, 194, 195, 196, 197, 198, 199, 200, 201, 202, 203, 204, 205, 206, 207] rfl rfl
set_option maxRecDepth 20000 in
theorem gX12_book_X12_back : GoodIn wsX12_book (wsV RX12 324 RX12 yX12_back wsX12_back) := goodIn_app (goodIn_r _ [155, 156, 157, 15] rfl rfl) ggX12_book_X12_back
theorem dX12_book_0 : decode cX12_book 0 = .ok (.aload_n 0, 1) := by decide +kernel
theorem dX12_book_1 : decode cX12_book 1 = .ok (.iconst 0, 1) := by decide +kernel
theorem dX12_book_2 : decode cX12_book 2 = .ok (.putfield 1, 3) := by decide +kernel
theorem dX12_book_5 : decode cX12_book 5 = .ok (.iload_n 1, 1) := by decide +kernel
theorem dX12_book_6 : decode cX12_book 6 = .ok (.iconst 0, 1) := by decide +kernel
theorem dX12_book_7 : decode cX12_book 7 = .ok (.iconst 1, 1) := by decide +kernel
theorem dX12_book_8 : decode cX12_book 8 = .ok (.invokestatic 186, 3) := by decide +kernel
theorem dX12_book_11 : decode cX12_book 11 = .ok (.ifCond .ne 7, 3) := by decide +kernel
theorem dX12_book_14 : decode cX12_book 14 = .ok (.sipush (-1000), 3) := by decide +kernel
theorem dX12_book_17 : decode cX12_book 17 = .ok (.ireturn, 1) := by decide +kernel
theorem dX12_book_18 : decode cX12_book 18 = .ok (.aload_n 0, 1) := by decide +kernel
theorem dX12_book_19 : decode cX12_book 19 = .ok (.sipush 400, 3) := by decide +kernel
theorem dX12_book_22 : decode cX12_book 22 = .ok (.invokevirtual 236, 3) := by decide +kernel
theorem dX12_book_25 : decode cX12_book 25 = .ok (.aload_n 0, 1) := by decide +kernel
theorem dX12_book_26 : decode cX12_book 26 = .ok (.iconst 0, 1) := by decide +kernel
theorem dX12_book_27 : decode cX12_book 27 = .ok (.putfield 171, 3) := by decide +kernel
theorem dX12_book_30 : decode cX12_book 30 = .ok (.aload_n 0, 1) := by decide +kernel
theorem dX12_book_31 : decode cX12_book 31 = .ok (.iconst 0, 1) := by decide +kernel
theorem dX12_book_32 : decode cX12_book 32 = .ok (.putfield 404, 3) := by decide +kernel
theorem dX12_book_35 : decode cX12_book 35 = .ok (.aload_n 0, 1) := by decide +kernel
theorem dX12_book_36 : decode cX12_book 36 = .ok (.invokevirtual 183, 3) := by decide +kernel
theorem dX12_book_39 : decode cX12_book 39 = .ok (.aload_n 0, 1) := by decide +kernel
theorem dX12_book_40 : decode cX12_book 40 = .ok (.getfield 154, 3) := by decide +kernel
theorem dX12_book_43 : decode cX12_book 43 = .ok (.ifCond .eq 40, 3) := by decide +kernel
theorem dX12_book_46 : decode cX12_book 46 = .ok (.aload_n 0, 1) := by decide +kernel
theorem dX12_book_47 : decode cX12_book 47 = .ok (.invokevirtual 407, 3) := by decide +kernel
theorem dX12_book_50 : decode cX12_book 50 = .ok (.ifCond .eq 12, 3) := by decide +kernel
theorem dX12_book_53 : decode cX12_book 53 = .ok (.aload_n 0, 1) := by decide +kernel
theorem dX12_book_54 : decode cX12_book 54 = .ok (.bipush 59, 2) := by decide +kernel
theorem dX12_book_56 : decode cX12_book 56 = .ok (.invokevirtual 245, 3) := by decide +kernel
theorem dX12_book_59 : decode cX12_book 59 = .ok (.ifCond .ne 11, 3) := by decide +kernel
theorem dX12_book_62 : decode cX12_book 62 = .ok (.bipush (-2), 2) := by decide +kernel
theorem dX12_book_64 : decode cX12_book 64 = .ok (.aload_n 0, 1) := by decide +kernel
theorem dX12_book_65 : decode cX12_book 65 = .ok (.getfield 174, 3) := by decide +kernel
theorem dX12_book_68 : decode cX12_book 68 = .ok (.isub, 1) := by decide +kernel
theorem dX12_book_69 : decode cX12_book 69 = .ok (.ireturn, 1) := by decide +kernel
theorem dX12_book_70 : decode cX12_book 70 = .ok (.aload_n 0, 1) := by decide +kernel
theorem dX12_book_71 : decode cX12_book 71 = .ok (.dup, 1) := by decide +kernel
theorem dX12_book_72 : decode cX12_book 72 = .ok (.getfield 404, 3) := by decide +kernel
theorem dX12_book_75 : decode cX12_book 75 = .ok (.iconst 1, 1) := by decide +kernel
theorem dX12_book_76 : decode cX12_book 76 = .ok (.iadd, 1) := by decide +kernel
theorem dX12_book_77 : decode cX12_book 77 = .ok (.putfield 404, 3) := by decide +kernel
theorem dX12_book_80 : decode cX12_book 80 = .ok (.goto (-41), 3) := by decide +kernel
theorem dX12_book_83 : decode cX12_book 83 = .ok (.aload_n 0, 1) := by decide +kernel
theorem dX12_book_84 : decode cX12_book 84 = .ok (.invokevirtual 321, 3) := by decide +kernel
theorem dX12_book_87 : decode cX12_book 87 = .ok (.iconst 0, 1) := by decide +kernel
theorem dX12_book_88 : decode cX12_book 88 = .ok (.istore_n 2, 1) := by decide +kernel
theorem dX12_book_89 : decode cX12_book 89 = .ok (.iload_n 2, 1) := by decide +kernel
theorem dX12_book_90 : decode cX12_book 90 = .ok (.iconst 4, 1) := by decide +kernel
theorem dX12_book_91 : decode cX12_book 91 = .ok (.if_icmp .ge 16, 3) := by decide +kernel
theorem dX12_book_94 : decode cX12_book 94 = .ok (.aload_n 0, 1) := by decide +kernel
theorem dX12_book_95 : decode cX12_book 95 = .ok (.getfield 80, 3) := by decide +kernel
theorem dX12_book_98 : decode cX12_book 98 = .ok (.iload_n 2, 1) := by decide +kernel
theorem dX12_book_99 : decode cX12_book 99 = .ok (.iconst 0, 1) := by decide +kernel
theorem dX12_book_100 : decode cX12_book 100 = .ok (.iastore, 1) := by decide +kernel
theorem dX12_book_101 : decode cX12_book 101 = .ok (.iinc 2 1, 3) := by decide +kernel
theorem dX12_book_104 : decode cX12_book 104 = .ok (.goto (-15), 3) := by decide +kernel
theorem dX12_book_107 : decode cX12_book 107 = .ok (.iconst (-1), 1) := by decide +kernel
theorem dX12_book_108 : decode cX12_book 108 = .ok (.istore_n 2, 1) := by decide +kernel
theorem dX12_book_109 : decode cX12_book 109 = .ok (.iconst 0, 1) := by decide +kernel
theorem dX12_book_110 : decode cX12_book 110 = .ok (.istore_n 3, 1) := by decide +kernel
theorem dX12_book_111 : decode cX12_book 111 = .ok (.iload_n 3, 1) := by decide +kernel
theorem dX12_book_112 : decode cX12_book 112 = .ok (.aload_n 0, 1) := by decide +kernel
theorem dX12_book_113 : decode cX12_book 113 = .ok (.getfield 404, 3) := by decide +kernel
theorem dX12_book_116 : decode cX12_book 116 = .ok (.if_icmp .ge 75, 3) := by decide +kernel
theorem dX12_book_119 : decode cX12_book 119 = .ok (.iload_n 2, 1) := by decide +kernel
theorem dX12_book_120 : decode cX12_book 120 = .ok (.ifCond .ge 71, 3) := by decide +kernel
theorem dX12_book_123 : decode cX12_book 123 = .ok (.aload_n 0, 1) := by decide +kernel
theorem dX12_book_124 : decode cX12_book 124 = .ok (.getfield 80, 3) := by decide +kernel
theorem dX12_book_127 : decode cX12_book 127 = .ok (.iconst 0, 1) := by decide +kernel
theorem dX12_book_128 : decode cX12_book 128 = .ok (.aload_n 0, 1) := by decide +kernel
theorem dX12_book_129 : decode cX12_book 129 = .ok (.aload_n 0, 1) := by decide +kernel
theorem dX12_book_130 : decode cX12_book 130 = .ok (.getfield 40, 3) := by decide +kernel
theorem dX12_book_133 : decode cX12_book 133 = .ok (.iconst 3, 1) := by decide +kernel
theorem dX12_book_134 : decode cX12_book 134 = .ok (.iload_n 3, 1) := by decide +kernel
theorem dX12_book_135 : decode cX12_book 135 = .ok (.imul, 1) := by decide +kernel
theorem dX12_book_136 : decode cX12_book 136 = .ok (.iaload, 1) := by decide +kernel
theorem dX12_book_137 : decode cX12_book 137 = .ok (.aload_n 0, 1) := by decide +kernel
theorem dX12_book_138 : decode cX12_book 138 = .ok (.getfield 40, 3) := by decide +kernel
theorem dX12_book_141 : decode cX12_book 141 = .ok (.iconst 3, 1) := by decide +kernel
theorem dX12_book_142 : decode cX12_book 142 = .ok (.iload_n 3, 1) := by decide +kernel
theorem dX12_book_143 : decode cX12_book 143 = .ok (.imul, 1) := by decide +kernel
theorem dX12_book_144 : decode cX12_book 144 = .ok (.iconst 1, 1) := by decide +kernel
theorem dX12_book_145 : decode cX12_book 145 = .ok (.iadd, 1) := by decide +kernel
theorem dX12_book_146 : decode cX12_book 146 = .ok (.iaload, 1) := by decide +kernel
theorem dX12_book_147 : decode cX12_book 147 = .ok (.aload_n 0, 1) := by decide +kernel
theorem dX12_book_148 : decode cX12_book 148 = .ok (.getfield 40, 3) := by decide +kernel
theorem dX12_book_151 : decode cX12_book 151 = .ok (.iconst 3, 1) := by decide +kernel
theorem dX12_book_152 : decode cX12_book 152 = .ok (.iload_n 3, 1) := by decide +kernel
theorem dX12_book_153 : decode cX12_book 153 = .ok (.imul, 1) := by decide +kernel
theorem dX12_book_154 : decode cX12_book 154 = .ok (.iconst 2, 1) := by decide +kernel
theorem dX12_book_155 : decode cX12_book 155 = .ok (.iadd, 1) := by decide +kernel
theorem dX12_book_156 : decode cX12_book 156 = .ok (.iaload, 1) := by decide +kernel
theorem dX12_book_157 : decode cX12_book 157 = .ok (.invokevirtual 410, 3) := by decide +kernel
theorem dX12_book_160 : decode cX12_book 160 = .ok (.iastore, 1) := by decide +kernel
theorem dX12_book_161 : decode cX12_book 161 = .ok (.aload_n 0, 1) := by decide +kernel
theorem dX12_book_162 : decode cX12_book 162 = .ok (.getfield 80, 3) := by decide +kernel
theorem dX12_book_165 : decode cX12_book 165 = .ok (.iconst 0, 1) := by decide +kernel
theorem dX12_book_166 : decode cX12_book 166 = .ok (.iaload, 1) := by decide +kernel
theorem dX12_book_167 : decode cX12_book 167 = .ok (.ifCond .le 8, 3) := by decide +kernel
theorem dX12_book_170 : decode cX12_book 170 = .ok (.iload_n 3, 1) := by decide +kernel
theorem dX12_book_171 : decode cX12_book 171 = .ok (.istore_n 2, 1) := by decide +kernel
theorem dX12_book_172 : decode cX12_book 172 = .ok (.goto 13, 3) := by decide +kernel
theorem dX12_book_175 : decode cX12_book 175 = .ok (.aload_n 0, 1) := by decide +kernel
theorem dX12_book_176 : decode cX12_book 176 = .ok (.getfield 80, 3) := by decide +kernel
theorem dX12_book_179 : decode cX12_book 179 = .ok (.iconst 1, 1) := by decide +kernel
theorem dX12_book_180 : decode cX12_book 180 = .ok (.dup2, 1) := by decide +kernel
theorem dX12_book_181 : decode cX12_book 181 = .ok (.iaload, 1) := by decide +kernel
theorem dX12_book_182 : decode cX12_book 182 = .ok (.iconst 1, 1) := by decide +kernel
theorem dX12_book_183 : decode cX12_book 183 = .ok (.iadd, 1) := by decide +kernel
theorem dX12_book_184 : decode cX12_book 184 = .ok (.iastore, 1) := by decide +kernel
theorem dX12_book_185 : decode cX12_book 185 = .ok (.iinc 3 1, 3) := by decide +kernel
theorem dX12_book_188 : decode cX12_book 188 = .ok (.goto (-77), 3) := by decide +kernel
theorem dX12_book_191 : decode cX12_book 191 = .ok (.aload_n 0, 1) := by decide +kernel
theorem dX12_book_192 : decode cX12_book 192 = .ok (.getfield 80, 3) := by decide +kernel
theorem dX12_book_195 : decode cX12_book 195 = .ok (.iconst 2, 1) := by decide +kernel
theorem dX12_book_196 : decode cX12_book 196 = .ok (.aload_n 0, 1) := by decide +kernel
theorem dX12_book_197 : decode cX12_book 197 = .ok (.getfield 33, 3) := by decide +kernel
theorem dX12_book_200 : decode cX12_book 200 = .ok (.bipush 39, 2) := by decide +kernel
theorem dX12_book_202 : decode cX12_book 202 = .ok (.iaload, 1) := by decide +kernel
theorem dX12_book_203 : decode cX12_book 203 = .ok (.iastore, 1) := by decide +kernel
theorem dX12_book_204 : decode cX12_book 204 = .ok (.aload_n 0, 1) := by decide +kernel
theorem dX12_book_205 : decode cX12_book 205 = .ok (.getfield 80, 3) := by decide +kernel
theorem dX12_book_208 : decode cX12_book 208 = .ok (.iconst 3, 1) := by decide +kernel
theorem dX12_book_209 : decode cX12_book 209 = .ok (.aload_n 0, 1) := by decide +kernel
theorem dX12_book_210 : decode cX12_book 210 = .ok (.bipush 50, 2) := by decide +kernel
theorem dX12_book_212 : decode cX12_book 212 = .ok (.invokevirtual 278, 3) := by decide +kernel
theorem dX12_book_215 : decode cX12_book 215 = .ok (.iastore, 1) := by decide +kernel
theorem dX12_book_216 : decode cX12_book 216 = .ok (.aload_n 0, 1) := by decide +kernel
theorem dX12_book_217 : decode cX12_book 217 = .ok (.iconst 1, 1) := by decide +kernel
theorem dX12_book_218 : decode cX12_book 218 = .ok (.putfield 413, 3) := by decide +kernel
theorem dX12_book_221 : decode cX12_book 221 = .ok (.iload_n 1, 1) := by decide +kernel
theorem dX12_book_222 : decode cX12_book 222 = .ok (.iconst 1, 1) := by decide +kernel
theorem dX12_book_223 : decode cX12_book 223 = .ok (.if_icmp .ne 52, 3) := by decide +kernel
theorem dX12_book_226 : decode cX12_book 226 = .ok (.aload_n 0, 1) := by decide +kernel
theorem dX12_book_227 : decode cX12_book 227 = .ok (.getfield 80, 3) := by decide +kernel
theorem dX12_book_230 : decode cX12_book 230 = .ok (.iconst 1, 1) := by decide +kernel
theorem dX12_book_231 : decode cX12_book 231 = .ok (.iaload, 1) := by decide +kernel
theorem dX12_book_232 : decode cX12_book 232 = .ok (.ifCond .le 43, 3) := by decide +kernel
theorem dX12_book_235 : decode cX12_book 235 = .ok (.aload_n 0, 1) := by decide +kernel
theorem dX12_book_236 : decode cX12_book 236 = .ok (.invokevirtual 294, 3) := by decide +kernel
theorem dX12_book_239 : decode cX12_book 239 = .ok (.iconst 0, 1) := by decide +kernel
theorem dX12_book_240 : decode cX12_book 240 = .ok (.istore_n 3, 1) := by decide +kernel
theorem dX12_book_241 : decode cX12_book 241 = .ok (.iload_n 3, 1) := by decide +kernel
theorem dX12_book_242 : decode cX12_book 242 = .ok (.bipush 59, 2) := by decide +kernel
theorem dX12_book_244 : decode cX12_book 244 = .ok (.if_icmp .ge 31, 3) := by decide +kernel
theorem dX12_book_247 : decode cX12_book 247 = .ok (.aload_n 0, 1) := by decide +kernel
theorem dX12_book_248 : decode cX12_book 248 = .ok (.getfield 50, 3) := by decide +kernel
theorem dX12_book_251 : decode cX12_book 251 = .ok (.bipush 59, 2) := by decide +kernel
theorem dX12_book_253 : decode cX12_book 253 = .ok (.aload_n 0, 1) := by decide +kernel
theorem dX12_book_254 : decode cX12_book 254 = .ok (.getfield 248, 3) := by decide +kernel
theorem dX12_book_257 : decode cX12_book 257 = .ok (.iconst 1, 1) := by decide +kernel
theorem dX12_book_258 : decode cX12_book 258 = .ok (.isub, 1) := by decide +kernel
theorem dX12_book_259 : decode cX12_book 259 = .ok (.imul, 1) := by decide +kernel
theorem dX12_book_260 : decode cX12_book 260 = .ok (.iload_n 3, 1) := by decide +kernel
theorem dX12_book_261 : decode cX12_book 261 = .ok (.iadd, 1) := by decide +kernel
theorem dX12_book_262 : decode cX12_book 262 = .ok (.aload_n 0, 1) := by decide +kernel
theorem dX12_book_263 : decode cX12_book 263 = .ok (.getfield 53, 3) := by decide +kernel
theorem dX12_book_266 : decode cX12_book 266 = .ok (.iload_n 3, 1) := by decide +kernel
theorem dX12_book_267 : decode cX12_book 267 = .ok (.iaload, 1) := by decide +kernel
theorem dX12_book_268 : decode cX12_book 268 = .ok (.iastore, 1) := by decide +kernel
theorem dX12_book_269 : decode cX12_book 269 = .ok (.iinc 3 1, 3) := by decide +kernel
theorem dX12_book_272 : decode cX12_book 272 = .ok (.goto (-31), 3) := by decide +kernel
theorem dX12_book_275 : decode cX12_book 275 = .ok (.iload_n 1, 1) := by decide +kernel
theorem dX12_book_276 : decode cX12_book 276 = .ok (.ifCond .ne 7, 3) := by decide +kernel
theorem dX12_book_279 : decode cX12_book 279 = .ok (.aload_n 0, 1) := by decide +kernel
theorem dX12_book_280 : decode cX12_book 280 = .ok (.invokevirtual 324, 3) := by decide +kernel
theorem dX12_book_283 : decode cX12_book 283 = .ok (.iload_n 2, 1) := by decide +kernel
theorem dX12_book_284 : decode cX12_book 284 = .ok (.ireturn, 1) := by decide +kernel
set_option maxRecDepth 20000 in
theorem ggX12_told_X12_isIn : GoodIn wsX12_told wsX12_isIn := goodIn_r _ [7] rfl rfl
set_option maxRecDepth 20000 in
theorem gX12_told_X12_isIn : GoodIn wsX12_told (va_wsS RX12 186 yX12_isIn wsX12_isIn) := goodIn_app (goodIn_r _ [4, 5, 6] rfl rfl) ggX12_told_X12_isIn
theorem dX12_told_0 : decode cX12_told 0 = .ok (.aload_n 0, 1) := by decide +kernel
theorem dX12_told_1 : decode cX12_told 1 = .ok (.iconst 0, 1) := by decide +kernel
theorem dX12_told_2 : decode cX12_told 2 = .ok (.putfield 1, 3) := by decide +kernel
theorem dX12_told_5 : decode cX12_told 5 = .ok (.aload_n 0, 1) := by decide +kernel
theorem dX12_told_6 : decode cX12_told 6 = .ok (.getfield 413, 3) := by decide +kernel
theorem dX12_told_9 : decode cX12_told 9 = .ok (.ifCond .eq 21, 3) := by decide +kernel
theorem dX12_told_12 : decode cX12_told 12 = .ok (.iload_n 1, 1) := by decide +kernel
theorem dX12_told_13 : decode cX12_told 13 = .ok (.iconst 0, 1) := by decide +kernel
theorem dX12_told_14 : decode cX12_told 14 = .ok (.iconst 3, 1) := by decide +kernel
theorem dX12_told_15 : decode cX12_told 15 = .ok (.invokestatic 186, 3) := by decide +kernel
theorem dX12_told_18 : decode cX12_told 18 = .ok (.ifCond .eq 12, 3) := by decide +kernel
theorem dX12_told_21 : decode cX12_told 21 = .ok (.aload_n 0, 1) := by decide +kernel
theorem dX12_told_22 : decode cX12_told 22 = .ok (.getfield 80, 3) := by decide +kernel
theorem dX12_told_25 : decode cX12_told 25 = .ok (.iload_n 1, 1) := by decide +kernel
theorem dX12_told_26 : decode cX12_told 26 = .ok (.iaload, 1) := by decide +kernel
theorem dX12_told_27 : decode cX12_told 27 = .ok (.goto 4, 3) := by decide +kernel
theorem dX12_told_30 : decode cX12_told 30 = .ok (.iconst (-1), 1) := by decide +kernel
theorem dX12_told_31 : decode cX12_told 31 = .ok (.ireturn, 1) := by decide +kernel
theorem dX12_code_0 : decode cX12_code 0 = .ok (.aload_n 0, 1) := by decide +kernel
theorem dX12_code_1 : decode cX12_code 1 = .ok (.getfield 40, 3) := by decide +kernel
theorem dX12_code_4 : decode cX12_code 4 = .ok (.iconst 3, 1) := by decide +kernel
theorem dX12_code_5 : decode cX12_code 5 = .ok (.aload_n 0, 1) := by decide +kernel
theorem dX12_code_6 : decode cX12_code 6 = .ok (.getfield 416, 3) := by decide +kernel
theorem dX12_code_9 : decode cX12_code 9 = .ok (.imul, 1) := by decide +kernel
theorem dX12_code_10 : decode cX12_code 10 = .ok (.iload_n 1, 1) := by decide +kernel
theorem dX12_code_11 : decode cX12_code 11 = .ok (.iastore, 1) := by decide +kernel
theorem dX12_code_12 : decode cX12_code 12 = .ok (.aload_n 0, 1) := by decide +kernel
theorem dX12_code_13 : decode cX12_code 13 = .ok (.getfield 40, 3) := by decide +kernel
theorem dX12_code_16 : decode cX12_code 16 = .ok (.iconst 3, 1) := by decide +kernel
theorem dX12_code_17 : decode cX12_code 17 = .ok (.aload_n 0, 1) := by decide +kernel
theorem dX12_code_18 : decode cX12_code 18 = .ok (.getfield 416, 3) := by decide +kernel
theorem dX12_code_21 : decode cX12_code 21 = .ok (.imul, 1) := by decide +kernel
theorem dX12_code_22 : decode cX12_code 22 = .ok (.iconst 1, 1) := by decide +kernel
theorem dX12_code_23 : decode cX12_code 23 = .ok (.iadd, 1) := by decide +kernel
theorem dX12_code_24 : decode cX12_code 24 = .ok (.iload_n 2, 1) := by decide +kernel
theorem dX12_code_25 : decode cX12_code 25 = .ok (.iastore, 1) := by decide +kernel
theorem dX12_code_26 : decode cX12_code 26 = .ok (.aload_n 0, 1) := by decide +kernel
theorem dX12_code_27 : decode cX12_code 27 = .ok (.getfield 40, 3) := by decide +kernel
theorem dX12_code_30 : decode cX12_code 30 = .ok (.iconst 3, 1) := by decide +kernel
theorem dX12_code_31 : decode cX12_code 31 = .ok (.aload_n 0, 1) := by decide +kernel
theorem dX12_code_32 : decode cX12_code 32 = .ok (.getfield 416, 3) := by decide +kernel
theorem dX12_code_35 : decode cX12_code 35 = .ok (.imul, 1) := by decide +kernel
theorem dX12_code_36 : decode cX12_code 36 = .ok (.iconst 2, 1) := by decide +kernel
theorem dX12_code_37 : decode cX12_code 37 = .ok (.iadd, 1) := by decide +kernel
theorem dX12_code_38 : decode cX12_code 38 = .ok (.iload_n 3, 1) := by decide +kernel
theorem dX12_code_39 : decode cX12_code 39 = .ok (.iastore, 1) := by decide +kernel
theorem dX12_code_40 : decode cX12_code 40 = .ok (.aload_n 0, 1) := by decide +kernel
theorem dX12_code_41 : decode cX12_code 41 = .ok (.dup, 1) := by decide +kernel
theorem dX12_code_42 : decode cX12_code 42 = .ok (.getfield 416, 3) := by decide +kernel
theorem dX12_code_45 : decode cX12_code 45 = .ok (.iconst 1, 1) := by decide +kernel
theorem dX12_code_46 : decode cX12_code 46 = .ok (.iadd, 1) := by decide +kernel
theorem dX12_code_47 : decode cX12_code 47 = .ok (.putfield 416, 3) := by decide +kernel
theorem dX12_code_50 : decode cX12_code 50 = .ok (.return_, 1) := by decide +kernel
set_option maxRecDepth 20000 in
theorem ggX12_joins_X12_code : GoodIn wsX12_joins wsX12_code := goodIn_r _ [7, 8, 9, 10, 11, 12, 13, 14, 15, 16, 17, 18, 19, 20, 21, 22, 23, 24, 25, 26, 27, 28, 29, 30, 31, 32, 33, 34, 35, 36, 37, 38, 39, 40, 41, 42, 43, 44, 45, 46, 47, 48, 49, 50, 51, 52, 53, 54, 55, 56, 57, 58] rfl rfl
set_option maxRecDepth 20000 in
theorem gX12_joins_X12_code : GoodIn wsX12_joins (wsV RX12 422 RX12 yX12_code wsX12_code) := goodIn_app (goodIn_r _ [3, 4, 5, 6] rfl rfl) ggX12_joins_X12_code
theorem dX12_joins_0 : decode cX12_joins 0 = .ok (.aload_n 0, 1) := by decide +kernel
theorem dX12_joins_1 : decode cX12_joins 1 = .ok (.getfield 419, 3) := by decide +kernel
theorem dX12_joins_4 : decode cX12_joins 4 = .ok (.ifCond .le 69, 3) := by decide +kernel
theorem dX12_joins_7 : decode cX12_joins 7 = .ok (.aload_n 0, 1) := by decide +kernel
theorem dX12_joins_8 : decode cX12_joins 8 = .ok (.getfield 83, 3) := by decide +kernel
theorem dX12_joins_11 : decode cX12_joins 11 = .ok (.aload_n 0, 1) := by decide +kernel
theorem dX12_joins_12 : decode cX12_joins 12 = .ok (.getfield 419, 3) := by decide +kernel
theorem dX12_joins_15 : decode cX12_joins 15 = .ok (.iconst 1, 1) := by decide +kernel
theorem dX12_joins_16 : decode cX12_joins 16 = .ok (.isub, 1) := by decide +kernel
theorem dX12_joins_17 : decode cX12_joins 17 = .ok (.iaload, 1) := by decide +kernel
theorem dX12_joins_18 : decode cX12_joins 18 = .ok (.bipush 21, 2) := by decide +kernel
theorem dX12_joins_20 : decode cX12_joins 20 = .ok (.if_icmp .eq 25, 3) := by decide +kernel
theorem dX12_joins_23 : decode cX12_joins 23 = .ok (.aload_n 0, 1) := by decide +kernel
theorem dX12_joins_24 : decode cX12_joins 24 = .ok (.getfield 83, 3) := by decide +kernel
theorem dX12_joins_27 : decode cX12_joins 27 = .ok (.aload_n 0, 1) := by decide +kernel
theorem dX12_joins_28 : decode cX12_joins 28 = .ok (.getfield 419, 3) := by decide +kernel
theorem dX12_joins_31 : decode cX12_joins 31 = .ok (.iconst 1, 1) := by decide +kernel
theorem dX12_joins_32 : decode cX12_joins 32 = .ok (.isub, 1) := by decide +kernel
theorem dX12_joins_33 : decode cX12_joins 33 = .ok (.iaload, 1) := by decide +kernel
theorem dX12_joins_34 : decode cX12_joins 34 = .ok (.bipush 22, 2) := by decide +kernel
theorem dX12_joins_36 : decode cX12_joins 36 = .ok (.if_icmp .ne 37, 3) := by decide +kernel
theorem dX12_joins_39 : decode cX12_joins 39 = .ok (.iload_n 1, 1) := by decide +kernel
theorem dX12_joins_40 : decode cX12_joins 40 = .ok (.bipush 22, 2) := by decide +kernel
theorem dX12_joins_42 : decode cX12_joins 42 = .ok (.if_icmp .ne 31, 3) := by decide +kernel
theorem dX12_joins_45 : decode cX12_joins 45 = .ok (.aload_n 0, 1) := by decide +kernel
theorem dX12_joins_46 : decode cX12_joins 46 = .ok (.dup, 1) := by decide +kernel
theorem dX12_joins_47 : decode cX12_joins 47 = .ok (.getfield 419, 3) := by decide +kernel
theorem dX12_joins_50 : decode cX12_joins 50 = .ok (.iconst 1, 1) := by decide +kernel
theorem dX12_joins_51 : decode cX12_joins 51 = .ok (.isub, 1) := by decide +kernel
theorem dX12_joins_52 : decode cX12_joins 52 = .ok (.putfield 419, 3) := by decide +kernel
theorem dX12_joins_55 : decode cX12_joins 55 = .ok (.aload_n 0, 1) := by decide +kernel
theorem dX12_joins_56 : decode cX12_joins 56 = .ok (.aload_n 0, 1) := by decide +kernel
theorem dX12_joins_57 : decode cX12_joins 57 = .ok (.getfield 83, 3) := by decide +kernel
theorem dX12_joins_60 : decode cX12_joins 60 = .ok (.aload_n 0, 1) := by decide +kernel
theorem dX12_joins_61 : decode cX12_joins 61 = .ok (.getfield 419, 3) := by decide +kernel
theorem dX12_joins_64 : decode cX12_joins 64 = .ok (.iaload, 1) := by decide +kernel
theorem dX12_joins_65 : decode cX12_joins 65 = .ok (.iconst 0, 1) := by decide +kernel
theorem dX12_joins_66 : decode cX12_joins 66 = .ok (.iconst 0, 1) := by decide +kernel
theorem dX12_joins_67 : decode cX12_joins 67 = .ok (.invokevirtual 422, 3) := by decide +kernel
theorem dX12_joins_70 : decode cX12_joins 70 = .ok (.goto (-70), 3) := by decide +kernel
theorem dX12_joins_73 : decode cX12_joins 73 = .ok (.return_, 1) := by decide +kernel
set_option maxRecDepth 20000 in
theorem ggX12_nots_X12_code : GoodIn wsX12_nots wsX12_code := goodIn_r _ [8, 9, 10, 11, 12, 13, 14, 15, 16, 17, 18, 19, 20, 21, 22, 23, 24, 25, 26, 27, 28, 29, 30, 31, 32, 33, 34, 35, 36, 37, 38, 39, 40, 41, 42, 43, 44, 45, 46, 47, 48, 49, 50, 51, 52, 53, 54, 55, 56, 57, 58, 59] rfl rfl
set_option maxRecDepth 20000 in
theorem gX12_nots_X12_code : GoodIn wsX12_nots (wsV RX12 422 RX12 yX12_code wsX12_code) := goodIn_app (goodIn_r _ [4, 5, 6, 7] rfl rfl) ggX12_nots_X12_code
theorem dX12_nots_0 : decode cX12_nots 0 = .ok (.aload_n 0, 1) := by decide +kernel
theorem dX12_nots_1 : decode cX12_nots 1 = .ok (.getfield 419, 3) := by decide +kernel
theorem dX12_nots_4 : decode cX12_nots 4 = .ok (.ifCond .le 50, 3) := by decide +kernel
theorem dX12_nots_7 : decode cX12_nots 7 = .ok (.aload_n 0, 1) := by decide +kernel
theorem dX12_nots_8 : decode cX12_nots 8 = .ok (.getfield 83, 3) := by decide +kernel
theorem dX12_nots_11 : decode cX12_nots 11 = .ok (.aload_n 0, 1) := by decide +kernel
theorem dX12_nots_12 : decode cX12_nots 12 = .ok (.getfield 419, 3) := by decide +kernel
theorem dX12_nots_15 : decode cX12_nots 15 = .ok (.iconst 1, 1) := by decide +kernel
theorem dX12_nots_16 : decode cX12_nots 16 = .ok (.isub, 1) := by decide +kernel
theorem dX12_nots_17 : decode cX12_nots 17 = .ok (.iaload, 1) := by decide +kernel
theorem dX12_nots_18 : decode cX12_nots 18 = .ok (.bipush 20, 2) := by decide +kernel
theorem dX12_nots_20 : decode cX12_nots 20 = .ok (.if_icmp .ne 34, 3) := by decide +kernel
theorem dX12_nots_23 : decode cX12_nots 23 = .ok (.aload_n 0, 1) := by decide +kernel
theorem dX12_nots_24 : decode cX12_nots 24 = .ok (.dup, 1) := by decide +kernel
theorem dX12_nots_25 : decode cX12_nots 25 = .ok (.getfield 419, 3) := by decide +kernel
theorem dX12_nots_28 : decode cX12_nots 28 = .ok (.iconst 1, 1) := by decide +kernel
theorem dX12_nots_29 : decode cX12_nots 29 = .ok (.isub, 1) := by decide +kernel
theorem dX12_nots_30 : decode cX12_nots 30 = .ok (.putfield 419, 3) := by decide +kernel
theorem dX12_nots_33 : decode cX12_nots 33 = .ok (.aload_n 0, 1) := by decide +kernel
theorem dX12_nots_34 : decode cX12_nots 34 = .ok (.dup, 1) := by decide +kernel
theorem dX12_nots_35 : decode cX12_nots 35 = .ok (.getfield 426, 3) := by decide +kernel
theorem dX12_nots_38 : decode cX12_nots 38 = .ok (.iconst 1, 1) := by decide +kernel
theorem dX12_nots_39 : decode cX12_nots 39 = .ok (.isub, 1) := by decide +kernel
theorem dX12_nots_40 : decode cX12_nots 40 = .ok (.putfield 426, 3) := by decide +kernel
theorem dX12_nots_43 : decode cX12_nots 43 = .ok (.aload_n 0, 1) := by decide +kernel
theorem dX12_nots_44 : decode cX12_nots 44 = .ok (.bipush 20, 2) := by decide +kernel
theorem dX12_nots_46 : decode cX12_nots 46 = .ok (.iconst 0, 1) := by decide +kernel
theorem dX12_nots_47 : decode cX12_nots 47 = .ok (.iconst 0, 1) := by decide +kernel
theorem dX12_nots_48 : decode cX12_nots 48 = .ok (.invokevirtual 422, 3) := by decide +kernel
theorem dX12_nots_51 : decode cX12_nots 51 = .ok (.goto (-51), 3) := by decide +kernel
theorem dX12_nots_54 : decode cX12_nots 54 = .ok (.return_, 1) := by decide +kernel
set_option maxRecDepth 20000 in
theorem ggX12_leafOf_X12_isWord : GoodIn wsX12_leafOf wsX12_isWord := goodIn_r _ [13, 14, 15, 16, 17, 18, 19, 20, 21, 22, 23, 24, 25, 26, 27, 28, 29, 30, 31, 32, 33, 34, 35, 36, 37, 38, 39, 40, 41, 42, 43, 44, 45, 46, 47, 48, 49, 50, 51, 52, 53, 54, 55, 56, 57, 58, 59, 60, 61, 62, 63, 64] rfl rfl
set_option maxRecDepth 20000 in
theorem gX12_leafOf_X12_isWord : GoodIn wsX12_leafOf (wsV RX12 208 RX12 yX12_isWord wsX12_isWord) := goodIn_app (goodIn_r _ [9, 10, 11, 12] rfl rfl) ggX12_leafOf_X12_isWord
theorem dX12_leafOf_0 : decode cX12_leafOf 0 = .ok (.aload_n 0, 1) := by decide +kernel
theorem dX12_leafOf_1 : decode cX12_leafOf 1 = .ok (.ldc2_w 125, 3) := by decide +kernel
theorem dX12_leafOf_4 : decode cX12_leafOf 4 = .ok (.invokevirtual 208, 3) := by decide +kernel
theorem dX12_leafOf_7 : decode cX12_leafOf 7 = .ok (.ifCond .eq 7, 3) := by decide +kernel
theorem dX12_leafOf_10 : decode cX12_leafOf 10 = .ok (.iconst 0, 1) := by decide +kernel
theorem dX12_leafOf_11 : decode cX12_leafOf 11 = .ok (.goto 104, 3) := by decide +kernel
theorem dX12_leafOf_14 : decode cX12_leafOf 14 = .ok (.aload_n 0, 1) := by decide +kernel
theorem dX12_leafOf_15 : decode cX12_leafOf 15 = .ok (.ldc2_w 127, 3) := by decide +kernel
theorem dX12_leafOf_18 : decode cX12_leafOf 18 = .ok (.invokevirtual 208, 3) := by decide +kernel
theorem dX12_leafOf_21 : decode cX12_leafOf 21 = .ok (.ifCond .eq 7, 3) := by decide +kernel
theorem dX12_leafOf_24 : decode cX12_leafOf 24 = .ok (.iconst 1, 1) := by decide +kernel
theorem dX12_leafOf_25 : decode cX12_leafOf 25 = .ok (.goto 90, 3) := by decide +kernel
theorem dX12_leafOf_28 : decode cX12_leafOf 28 = .ok (.aload_n 0, 1) := by decide +kernel
theorem dX12_leafOf_29 : decode cX12_leafOf 29 = .ok (.ldc2_w 129, 3) := by decide +kernel
theorem dX12_leafOf_32 : decode cX12_leafOf 32 = .ok (.invokevirtual 208, 3) := by decide +kernel
theorem dX12_leafOf_35 : decode cX12_leafOf 35 = .ok (.ifCond .eq 7, 3) := by decide +kernel
theorem dX12_leafOf_38 : decode cX12_leafOf 38 = .ok (.iconst 2, 1) := by decide +kernel
theorem dX12_leafOf_39 : decode cX12_leafOf 39 = .ok (.goto 76, 3) := by decide +kernel
theorem dX12_leafOf_42 : decode cX12_leafOf 42 = .ok (.aload_n 0, 1) := by decide +kernel
theorem dX12_leafOf_43 : decode cX12_leafOf 43 = .ok (.ldc2_w 131, 3) := by decide +kernel
theorem dX12_leafOf_46 : decode cX12_leafOf 46 = .ok (.invokevirtual 208, 3) := by decide +kernel
theorem dX12_leafOf_49 : decode cX12_leafOf 49 = .ok (.ifCond .eq 7, 3) := by decide +kernel
theorem dX12_leafOf_52 : decode cX12_leafOf 52 = .ok (.iconst 3, 1) := by decide +kernel
theorem dX12_leafOf_53 : decode cX12_leafOf 53 = .ok (.goto 62, 3) := by decide +kernel
theorem dX12_leafOf_56 : decode cX12_leafOf 56 = .ok (.aload_n 0, 1) := by decide +kernel
theorem dX12_leafOf_57 : decode cX12_leafOf 57 = .ok (.ldc2_w 133, 3) := by decide +kernel
theorem dX12_leafOf_60 : decode cX12_leafOf 60 = .ok (.invokevirtual 208, 3) := by decide +kernel
theorem dX12_leafOf_63 : decode cX12_leafOf 63 = .ok (.ifCond .eq 7, 3) := by decide +kernel
theorem dX12_leafOf_66 : decode cX12_leafOf 66 = .ok (.iconst 4, 1) := by decide +kernel
theorem dX12_leafOf_67 : decode cX12_leafOf 67 = .ok (.goto 48, 3) := by decide +kernel
theorem dX12_leafOf_70 : decode cX12_leafOf 70 = .ok (.aload_n 0, 1) := by decide +kernel
theorem dX12_leafOf_71 : decode cX12_leafOf 71 = .ok (.ldc2_w 135, 3) := by decide +kernel
theorem dX12_leafOf_74 : decode cX12_leafOf 74 = .ok (.invokevirtual 208, 3) := by decide +kernel
theorem dX12_leafOf_77 : decode cX12_leafOf 77 = .ok (.ifCond .eq 7, 3) := by decide +kernel
theorem dX12_leafOf_80 : decode cX12_leafOf 80 = .ok (.iconst 5, 1) := by decide +kernel
theorem dX12_leafOf_81 : decode cX12_leafOf 81 = .ok (.goto 34, 3) := by decide +kernel
theorem dX12_leafOf_84 : decode cX12_leafOf 84 = .ok (.aload_n 0, 1) := by decide +kernel
theorem dX12_leafOf_85 : decode cX12_leafOf 85 = .ok (.ldc2_w 137, 3) := by decide +kernel
theorem dX12_leafOf_88 : decode cX12_leafOf 88 = .ok (.invokevirtual 208, 3) := by decide +kernel
theorem dX12_leafOf_91 : decode cX12_leafOf 91 = .ok (.ifCond .eq 8, 3) := by decide +kernel
theorem dX12_leafOf_94 : decode cX12_leafOf 94 = .ok (.bipush 6, 2) := by decide +kernel
theorem dX12_leafOf_96 : decode cX12_leafOf 96 = .ok (.goto 19, 3) := by decide +kernel
theorem dX12_leafOf_99 : decode cX12_leafOf 99 = .ok (.aload_n 0, 1) := by decide +kernel
theorem dX12_leafOf_100 : decode cX12_leafOf 100 = .ok (.ldc2_w 139, 3) := by decide +kernel
theorem dX12_leafOf_103 : decode cX12_leafOf 103 = .ok (.invokevirtual 208, 3) := by decide +kernel
theorem dX12_leafOf_106 : decode cX12_leafOf 106 = .ok (.ifCond .eq 8, 3) := by decide +kernel
theorem dX12_leafOf_109 : decode cX12_leafOf 109 = .ok (.bipush 7, 2) := by decide +kernel
theorem dX12_leafOf_111 : decode cX12_leafOf 111 = .ok (.goto 4, 3) := by decide +kernel
theorem dX12_leafOf_114 : decode cX12_leafOf 114 = .ok (.iconst (-1), 1) := by decide +kernel
theorem dX12_leafOf_115 : decode cX12_leafOf 115 = .ok (.ireturn, 1) := by decide +kernel
set_option maxRecDepth 20000 in
theorem ggX12_operand_X12_isWord : GoodIn wsX12_operand wsX12_isWord := goodIn_r _ [15, 9, 16, 79, 80, 81, 82, 83, 84, 85, 86, 87, 88, 89, 90, 91, 92, 93, 94, 95, 96, 97, 98, 99, 100, 101, 102, 103, 104, 105, 106, 107, 108, 109, 110, 111, 112, 113, 114, 115, 116, 117, 118, 119, 120, 121, 122, 123, 124, 125, 126, 127] rfl rfl
set_option maxRecDepth 20000 in
theorem gX12_operand_X12_isWord : GoodIn wsX12_operand (wsV RX12 208 RX12 yX12_isWord wsX12_isWord) := goodIn_app (goodIn_r _ [11, 12, 13, 14] rfl rfl) ggX12_operand_X12_isWord
set_option maxRecDepth 20000 in
theorem ggX12_operand_X12_isSign : GoodIn wsX12_operand wsX12_isSign := goodIn_r _ [20, 9, 10, 79, 80, 81, 82, 83, 84, 85, 86, 87, 88, 89, 90, 91, 92, 93, 94, 95, 96, 97, 98, 99, 100, 101, 102, 103, 104, 105, 106, 107, 108, 109, 110, 111, 112, 113, 114, 115, 116, 117, 118, 119, 120, 121, 122, 123, 124, 125, 126, 127] rfl rfl
set_option maxRecDepth 20000 in
theorem gX12_operand_X12_isSign : GoodIn wsX12_operand (wsV RX12 177 RX12 yX12_isSign wsX12_isSign) := goodIn_app (goodIn_r _ [17, 18, 19, 14] rfl rfl) ggX12_operand_X12_isSign
set_option maxRecDepth 20000 in
theorem ggX12_operand_X12_leafOf : GoodIn wsX12_operand wsX12_leafOf := goodIn_r _ [24, 25, 26, 27, 28, 29, 30, 31, 32, 11, 12, 13, 14, 15, 9, 16, 79, 80, 81, 82, 83, 84, 85, 86, 87, 88, 89, 90, 91, 92, 93, 94, 95, 96, 97, 98, 99, 100, 101, 102, 103, 104, 105, 106, 107, 108, 109, 110, 111, 112, 113, 114, 115, 116, 117, 118, 119, 120, 121, 122, 123, 124, 125, 126, 127] rfl rfl
set_option maxRecDepth 20000 in
theorem gX12_operand_X12_leafOf : GoodIn wsX12_operand (wsV RX12 429 RX12 yX12_leafOf wsX12_leafOf) := goodIn_app (goodIn_r _ [21, 22, 23, 14] rfl rfl) ggX12_operand_X12_leafOf
set_option maxRecDepth 20000 in
theorem ggX12_operand_X12_bad : GoodIn wsX12_operand wsX12_bad := goodIn_r _ [36, 37, 38, 39, 79, 80, 81, 82, 83, 84, 85, 86, 87, 88, 89, 90, 91, 92, 93, 94, 95, 96, 97, 98, 99, 100, 101, 102, 103, 104, 105, 106, 107, 108, 109, 110, 111, 112, 113, 114, 115, 116, 117, 118, 119, 120, 121, 122, 123, 124, 125, 126, 127] rfl rfl
set_option maxRecDepth 20000 in
theorem gX12_operand_X12_bad : GoodIn wsX12_operand (wsV RX12 180 RX12 yX12_bad wsX12_bad) := goodIn_app (goodIn_r _ [33, 34, 35, 14] rfl rfl) ggX12_operand_X12_bad
set_option maxRecDepth 20000 in
theorem ggX12_operand_X12_next : GoodIn wsX12_operand wsX12_next := goodIn_r _ [43, 44, 38, 45, 46, 47, 9, 10, 16, 48, 49, 50, 14, 51, 52, 53, 54, 55, 56, 57, 58, 79, 80, 81, 82, 83, 84, 85, 86, 87, 88, 89, 90, 91, 92, 93, 94, 95, 96, 97, 98, 99, 100, 101, 102, 103, 104, 105, 106, 107, 108, 109, 110, 111, 112, 113, 114, 115, 116, 117, 118, 119, 120, 121, 122, 123, 124, 125, 126, 127] rfl rfl
set_option maxRecDepth 20000 in
theorem gX12_operand_X12_next : GoodIn wsX12_operand (wsV RX12 183 RX12 yX12_next wsX12_next) := goodIn_app (goodIn_r _ [40, 41, 42, 14] rfl rfl) ggX12_operand_X12_next
set_option maxRecDepth 20000 in
theorem ggX12_operand_X12_code : GoodIn wsX12_operand wsX12_code := goodIn_r _ [62, 63, 64, 79, 80, 81, 82, 83, 84, 85, 86, 87, 88, 89, 90, 91, 92, 93, 94, 95, 96, 97, 98, 99, 100, 101, 102, 103, 104, 105, 106, 107, 108, 109, 110, 111, 112, 113, 114, 115, 116, 117, 118, 119, 120, 121, 122, 123, 124, 125, 126, 127] rfl rfl
set_option maxRecDepth 20000 in
theorem gX12_operand_X12_code : GoodIn wsX12_operand (wsV RX12 422 RX12 yX12_code wsX12_code) := goodIn_app (goodIn_r _ [59, 60, 61, 14] rfl rfl) ggX12_operand_X12_code
set_option maxRecDepth 20000 in
theorem ggX12_operand_X12_looksAt : GoodIn wsX12_operand wsX12_looksAt := goodIn_r _ [68, 8, 69, 70, 71, 14, 72, 9, 16, 73, 33, 34, 35, 36, 37, 38, 39, 74, 75, 76, 77, 78, 79, 80, 81, 82, 83, 84, 85, 86, 87, 88, 89, 90, 91, 92, 93, 94, 95, 96, 97, 98, 99, 100, 101, 102, 103, 104, 105, 106, 107, 108, 109, 110, 111, 112, 113, 114, 115, 116, 117, 118, 119, 120, 121, 122, 123, 124, 125, 126, 127] rfl rfl
set_option maxRecDepth 20000 in
theorem gX12_operand_X12_looksAt : GoodIn wsX12_operand (wsV RX12 205 RX12 yX12_looksAt wsX12_looksAt) := goodIn_app (goodIn_r _ [65, 66, 67, 14] rfl rfl) ggX12_operand_X12_looksAt
theorem dX12_operand_0 : decode cX12_operand 0 = .ok (.aload_n 0, 1) := by decide +kernel
theorem dX12_operand_1 : decode cX12_operand 1 = .ok (.ldc2_w 123, 3) := by decide +kernel
theorem dX12_operand_4 : decode cX12_operand 4 = .ok (.invokevirtual 208, 3) := by decide +kernel
theorem dX12_operand_7 : decode cX12_operand 7 = .ok (.istore_n 1, 1) := by decide +kernel
theorem dX12_operand_8 : decode cX12_operand 8 = .ok (.aload_n 0, 1) := by decide +kernel
theorem dX12_operand_9 : decode cX12_operand 9 = .ok (.bipush 40, 2) := by decide +kernel
theorem dX12_operand_11 : decode cX12_operand 11 = .ok (.invokevirtual 177, 3) := by decide +kernel
theorem dX12_operand_14 : decode cX12_operand 14 = .ok (.istore_n 2, 1) := by decide +kernel
theorem dX12_operand_15 : decode cX12_operand 15 = .ok (.aload_n 0, 1) := by decide +kernel
theorem dX12_operand_16 : decode cX12_operand 16 = .ok (.invokevirtual 429, 3) := by decide +kernel
theorem dX12_operand_19 : decode cX12_operand 19 = .ok (.istore_n 3, 1) := by decide +kernel
theorem dX12_operand_20 : decode cX12_operand 20 = .ok (.iload_n 1, 1) := by decide +kernel
theorem dX12_operand_21 : decode cX12_operand 21 = .ok (.ifCond .ne 17, 3) := by decide +kernel
theorem dX12_operand_24 : decode cX12_operand 24 = .ok (.iload_n 2, 1) := by decide +kernel
theorem dX12_operand_25 : decode cX12_operand 25 = .ok (.ifCond .ne 13, 3) := by decide +kernel
theorem dX12_operand_28 : decode cX12_operand 28 = .ok (.iload_n 3, 1) := by decide +kernel
theorem dX12_operand_29 : decode cX12_operand 29 = .ok (.ifCond .ge 9, 3) := by decide +kernel
theorem dX12_operand_32 : decode cX12_operand 32 = .ok (.aload_n 0, 1) := by decide +kernel
theorem dX12_operand_33 : decode cX12_operand 33 = .ok (.iconst 1, 1) := by decide +kernel
theorem dX12_operand_34 : decode cX12_operand 34 = .ok (.invokevirtual 180, 3) := by decide +kernel
theorem dX12_operand_37 : decode cX12_operand 37 = .ok (.ireturn, 1) := by decide +kernel
theorem dX12_operand_38 : decode cX12_operand 38 = .ok (.aload_n 0, 1) := by decide +kernel
theorem dX12_operand_39 : decode cX12_operand 39 = .ok (.getfield 432, 3) := by decide +kernel
theorem dX12_operand_42 : decode cX12_operand 42 = .ok (.bipush 20, 2) := by decide +kernel
theorem dX12_operand_44 : decode cX12_operand 44 = .ok (.if_icmp .eq 12, 3) := by decide +kernel
theorem dX12_operand_47 : decode cX12_operand 47 = .ok (.aload_n 0, 1) := by decide +kernel
theorem dX12_operand_48 : decode cX12_operand 48 = .ok (.getfield 426, 3) := by decide +kernel
theorem dX12_operand_51 : decode cX12_operand 51 = .ok (.bipush 8, 2) := by decide +kernel
theorem dX12_operand_53 : decode cX12_operand 53 = .ok (.if_icmp .le 9, 3) := by decide +kernel
theorem dX12_operand_56 : decode cX12_operand 56 = .ok (.aload_n 0, 1) := by decide +kernel
theorem dX12_operand_57 : decode cX12_operand 57 = .ok (.iconst 4, 1) := by decide +kernel
theorem dX12_operand_58 : decode cX12_operand 58 = .ok (.invokevirtual 180, 3) := by decide +kernel
theorem dX12_operand_61 : decode cX12_operand 61 = .ok (.ireturn, 1) := by decide +kernel
theorem dX12_operand_62 : decode cX12_operand 62 = .ok (.aload_n 0, 1) := by decide +kernel
theorem dX12_operand_63 : decode cX12_operand 63 = .ok (.dup, 1) := by decide +kernel
theorem dX12_operand_64 : decode cX12_operand 64 = .ok (.getfield 432, 3) := by decide +kernel
theorem dX12_operand_67 : decode cX12_operand 67 = .ok (.iconst 1, 1) := by decide +kernel
theorem dX12_operand_68 : decode cX12_operand 68 = .ok (.iadd, 1) := by decide +kernel
theorem dX12_operand_69 : decode cX12_operand 69 = .ok (.putfield 432, 3) := by decide +kernel
theorem dX12_operand_72 : decode cX12_operand 72 = .ok (.aload_n 0, 1) := by decide +kernel
theorem dX12_operand_73 : decode cX12_operand 73 = .ok (.invokevirtual 183, 3) := by decide +kernel
theorem dX12_operand_76 : decode cX12_operand 76 = .ok (.iload_n 1, 1) := by decide +kernel
theorem dX12_operand_77 : decode cX12_operand 77 = .ok (.ifCond .ne 7, 3) := by decide +kernel
theorem dX12_operand_80 : decode cX12_operand 80 = .ok (.iload_n 2, 1) := by decide +kernel
theorem dX12_operand_81 : decode cX12_operand 81 = .ok (.ifCond .eq 45, 3) := by decide +kernel
theorem dX12_operand_84 : decode cX12_operand 84 = .ok (.aload_n 0, 1) := by decide +kernel
theorem dX12_operand_85 : decode cX12_operand 85 = .ok (.getfield 83, 3) := by decide +kernel
theorem dX12_operand_88 : decode cX12_operand 88 = .ok (.aload_n 0, 1) := by decide +kernel
theorem dX12_operand_89 : decode cX12_operand 89 = .ok (.getfield 419, 3) := by decide +kernel
theorem dX12_operand_92 : decode cX12_operand 92 = .ok (.iload_n 1, 1) := by decide +kernel
theorem dX12_operand_93 : decode cX12_operand 93 = .ok (.ifCond .eq 8, 3) := by decide +kernel
theorem dX12_operand_96 : decode cX12_operand 96 = .ok (.bipush 20, 2) := by decide +kernel
theorem dX12_operand_98 : decode cX12_operand 98 = .ok (.goto 5, 3) := by decide +kernel
theorem dX12_operand_101 : decode cX12_operand 101 = .ok (.bipush 23, 2) := by decide +kernel
theorem dX12_operand_103 : decode cX12_operand 103 = .ok (.iastore, 1) := by decide +kernel
theorem dX12_operand_104 : decode cX12_operand 104 = .ok (.aload_n 0, 1) := by decide +kernel
theorem dX12_operand_105 : decode cX12_operand 105 = .ok (.dup, 1) := by decide +kernel
theorem dX12_operand_106 : decode cX12_operand 106 = .ok (.getfield 419, 3) := by decide +kernel
theorem dX12_operand_109 : decode cX12_operand 109 = .ok (.iconst 1, 1) := by decide +kernel
theorem dX12_operand_110 : decode cX12_operand 110 = .ok (.iadd, 1) := by decide +kernel
theorem dX12_operand_111 : decode cX12_operand 111 = .ok (.putfield 419, 3) := by decide +kernel
theorem dX12_operand_114 : decode cX12_operand 114 = .ok (.aload_n 0, 1) := by decide +kernel
theorem dX12_operand_115 : decode cX12_operand 115 = .ok (.dup, 1) := by decide +kernel
theorem dX12_operand_116 : decode cX12_operand 116 = .ok (.getfield 426, 3) := by decide +kernel
theorem dX12_operand_119 : decode cX12_operand 119 = .ok (.iconst 1, 1) := by decide +kernel
theorem dX12_operand_120 : decode cX12_operand 120 = .ok (.iadd, 1) := by decide +kernel
theorem dX12_operand_121 : decode cX12_operand 121 = .ok (.putfield 426, 3) := by decide +kernel
theorem dX12_operand_124 : decode cX12_operand 124 = .ok (.iconst 1, 1) := by decide +kernel
theorem dX12_operand_125 : decode cX12_operand 125 = .ok (.ireturn, 1) := by decide +kernel
theorem dX12_operand_126 : decode cX12_operand 126 = .ok (.aload_n 0, 1) := by decide +kernel
theorem dX12_operand_127 : decode cX12_operand 127 = .ok (.iconst 1, 1) := by decide +kernel
theorem dX12_operand_128 : decode cX12_operand 128 = .ok (.putfield 435, 3) := by decide +kernel
theorem dX12_operand_131 : decode cX12_operand 131 = .ok (.iload_n 3, 1) := by decide +kernel
theorem dX12_operand_132 : decode cX12_operand 132 = .ok (.iconst 3, 1) := by decide +kernel
theorem dX12_operand_133 : decode cX12_operand 133 = .ok (.if_icmp .ge 12, 3) := by decide +kernel
theorem dX12_operand_136 : decode cX12_operand 136 = .ok (.aload_n 0, 1) := by decide +kernel
theorem dX12_operand_137 : decode cX12_operand 137 = .ok (.iload_n 3, 1) := by decide +kernel
theorem dX12_operand_138 : decode cX12_operand 138 = .ok (.iconst 0, 1) := by decide +kernel
theorem dX12_operand_139 : decode cX12_operand 139 = .ok (.iconst 0, 1) := by decide +kernel
theorem dX12_operand_140 : decode cX12_operand 140 = .ok (.invokevirtual 422, 3) := by decide +kernel
theorem dX12_operand_143 : decode cX12_operand 143 = .ok (.iconst 1, 1) := by decide +kernel
theorem dX12_operand_144 : decode cX12_operand 144 = .ok (.ireturn, 1) := by decide +kernel
theorem dX12_operand_145 : decode cX12_operand 145 = .ok (.iload_n 3, 1) := by decide +kernel
theorem dX12_operand_146 : decode cX12_operand 146 = .ok (.iconst 5, 1) := by decide +kernel
theorem dX12_operand_147 : decode cX12_operand 147 = .ok (.if_icmp .ge 59, 3) := by decide +kernel
theorem dX12_operand_150 : decode cX12_operand 150 = .ok (.iload_n 3, 1) := by decide +kernel
theorem dX12_operand_151 : decode cX12_operand 151 = .ok (.iconst 3, 1) := by decide +kernel
theorem dX12_operand_152 : decode cX12_operand 152 = .ok (.if_icmp .ne 18, 3) := by decide +kernel
theorem dX12_operand_155 : decode cX12_operand 155 = .ok (.aload_n 0, 1) := by decide +kernel
theorem dX12_operand_156 : decode cX12_operand 156 = .ok (.bipush 6, 2) := by decide +kernel
theorem dX12_operand_158 : decode cX12_operand 158 = .ok (.aload_n 0, 1) := by decide +kernel
theorem dX12_operand_159 : decode cX12_operand 159 = .ok (.getfield 33, 3) := by decide +kernel
theorem dX12_operand_162 : decode cX12_operand 162 = .ok (.iconst 1, 1) := by decide +kernel
theorem dX12_operand_163 : decode cX12_operand 163 = .ok (.iaload, 1) := by decide +kernel
theorem dX12_operand_164 : decode cX12_operand 164 = .ok (.invokevirtual 205, 3) := by decide +kernel
theorem dX12_operand_167 : decode cX12_operand 167 = .ok (.goto 14, 3) := by decide +kernel
theorem dX12_operand_170 : decode cX12_operand 170 = .ok (.aload_n 0, 1) := by decide +kernel
theorem dX12_operand_171 : decode cX12_operand 171 = .ok (.iconst 0, 1) := by decide +kernel
theorem dX12_operand_172 : decode cX12_operand 172 = .ok (.aload_n 0, 1) := by decide +kernel
theorem dX12_operand_173 : decode cX12_operand 173 = .ok (.getfield 33, 3) := by decide +kernel
theorem dX12_operand_176 : decode cX12_operand 176 = .ok (.iconst 0, 1) := by decide +kernel
theorem dX12_operand_177 : decode cX12_operand 177 = .ok (.iaload, 1) := by decide +kernel
theorem dX12_operand_178 : decode cX12_operand 178 = .ok (.invokevirtual 205, 3) := by decide +kernel
theorem dX12_operand_181 : decode cX12_operand 181 = .ok (.istore 4, 2) := by decide +kernel
theorem dX12_operand_183 : decode cX12_operand 183 = .ok (.iload 4, 2) := by decide +kernel
theorem dX12_operand_185 : decode cX12_operand 185 = .ok (.ifCond .ne 5, 3) := by decide +kernel
theorem dX12_operand_188 : decode cX12_operand 188 = .ok (.iconst 0, 1) := by decide +kernel
theorem dX12_operand_189 : decode cX12_operand 189 = .ok (.ireturn, 1) := by decide +kernel
theorem dX12_operand_190 : decode cX12_operand 190 = .ok (.aload_n 0, 1) := by decide +kernel
theorem dX12_operand_191 : decode cX12_operand 191 = .ok (.iload_n 3, 1) := by decide +kernel
theorem dX12_operand_192 : decode cX12_operand 192 = .ok (.iconst 0, 1) := by decide +kernel
theorem dX12_operand_193 : decode cX12_operand 193 = .ok (.aload_n 0, 1) := by decide +kernel
theorem dX12_operand_194 : decode cX12_operand 194 = .ok (.getfield 190, 3) := by decide +kernel
theorem dX12_operand_197 : decode cX12_operand 197 = .ok (.invokevirtual 422, 3) := by decide +kernel
theorem dX12_operand_200 : decode cX12_operand 200 = .ok (.aload_n 0, 1) := by decide +kernel
theorem dX12_operand_201 : decode cX12_operand 201 = .ok (.invokevirtual 183, 3) := by decide +kernel
theorem dX12_operand_204 : decode cX12_operand 204 = .ok (.iconst 1, 1) := by decide +kernel
theorem dX12_operand_205 : decode cX12_operand 205 = .ok (.ireturn, 1) := by decide +kernel
theorem dX12_operand_206 : decode cX12_operand 206 = .ok (.aload_n 0, 1) := by decide +kernel
theorem dX12_operand_207 : decode cX12_operand 207 = .ok (.getfield 154, 3) := by decide +kernel
theorem dX12_operand_210 : decode cX12_operand 210 = .ok (.iconst 3, 1) := by decide +kernel
theorem dX12_operand_211 : decode cX12_operand 211 = .ok (.if_icmp .ne 21, 3) := by decide +kernel
theorem dX12_operand_214 : decode cX12_operand 214 = .ok (.aload_n 0, 1) := by decide +kernel
theorem dX12_operand_215 : decode cX12_operand 215 = .ok (.getfield 164, 3) := by decide +kernel
theorem dX12_operand_218 : decode cX12_operand 218 = .ok (.bipush 60, 2) := by decide +kernel
theorem dX12_operand_220 : decode cX12_operand 220 = .ok (.if_icmp .lt 12, 3) := by decide +kernel
theorem dX12_operand_223 : decode cX12_operand 223 = .ok (.aload_n 0, 1) := by decide +kernel
theorem dX12_operand_224 : decode cX12_operand 224 = .ok (.getfield 164, 3) := by decide +kernel
theorem dX12_operand_227 : decode cX12_operand 227 = .ok (.bipush 62, 2) := by decide +kernel
theorem dX12_operand_229 : decode cX12_operand 229 = .ok (.if_icmp .le 9, 3) := by decide +kernel
theorem dX12_operand_232 : decode cX12_operand 232 = .ok (.aload_n 0, 1) := by decide +kernel
theorem dX12_operand_233 : decode cX12_operand 233 = .ok (.iconst 1, 1) := by decide +kernel
theorem dX12_operand_234 : decode cX12_operand 234 = .ok (.invokevirtual 180, 3) := by decide +kernel
theorem dX12_operand_237 : decode cX12_operand 237 = .ok (.ireturn, 1) := by decide +kernel
theorem dX12_operand_238 : decode cX12_operand 238 = .ok (.aload_n 0, 1) := by decide +kernel
theorem dX12_operand_239 : decode cX12_operand 239 = .ok (.getfield 164, 3) := by decide +kernel
theorem dX12_operand_242 : decode cX12_operand 242 = .ok (.istore 4, 2) := by decide +kernel
theorem dX12_operand_244 : decode cX12_operand 244 = .ok (.aload_n 0, 1) := by decide +kernel
theorem dX12_operand_245 : decode cX12_operand 245 = .ok (.invokevirtual 183, 3) := by decide +kernel
theorem dX12_operand_248 : decode cX12_operand 248 = .ok (.aload_n 0, 1) := by decide +kernel
theorem dX12_operand_249 : decode cX12_operand 249 = .ok (.getfield 154, 3) := by decide +kernel
theorem dX12_operand_252 : decode cX12_operand 252 = .ok (.iconst 2, 1) := by decide +kernel
theorem dX12_operand_253 : decode cX12_operand 253 = .ok (.if_icmp .eq 9, 3) := by decide +kernel
theorem dX12_operand_256 : decode cX12_operand 256 = .ok (.aload_n 0, 1) := by decide +kernel
theorem dX12_operand_257 : decode cX12_operand 257 = .ok (.iconst 1, 1) := by decide +kernel
theorem dX12_operand_258 : decode cX12_operand 258 = .ok (.invokevirtual 180, 3) := by decide +kernel
theorem dX12_operand_261 : decode cX12_operand 261 = .ok (.ireturn, 1) := by decide +kernel
theorem dX12_operand_262 : decode cX12_operand 262 = .ok (.aload_n 0, 1) := by decide +kernel
theorem dX12_operand_263 : decode cX12_operand 263 = .ok (.iload_n 3, 1) := by decide +kernel
theorem dX12_operand_264 : decode cX12_operand 264 = .ok (.iload 4, 2) := by decide +kernel
theorem dX12_operand_266 : decode cX12_operand 266 = .ok (.aload_n 0, 1) := by decide +kernel
theorem dX12_operand_267 : decode cX12_operand 267 = .ok (.getfield 164, 3) := by decide +kernel
theorem dX12_operand_270 : decode cX12_operand 270 = .ok (.invokevirtual 422, 3) := by decide +kernel
theorem dX12_operand_273 : decode cX12_operand 273 = .ok (.aload_n 0, 1) := by decide +kernel
theorem dX12_operand_274 : decode cX12_operand 274 = .ok (.invokevirtual 183, 3) := by decide +kernel
theorem dX12_operand_277 : decode cX12_operand 277 = .ok (.iconst 1, 1) := by decide +kernel
theorem dX12_operand_278 : decode cX12_operand 278 = .ok (.ireturn, 1) := by decide +kernel
set_option maxRecDepth 20000 in
theorem ggX12_behind_X12_nots : GoodIn wsX12_behind wsX12_nots := goodIn_r _ [11, 4, 3, 6, 12, 13, 14, 10, 15, 16, 17, 59, 60, 61, 62, 63, 64, 65, 66, 67, 68, 69, 70, 71, 72, 73, 74, 75, 76, 77, 78, 79, 80, 81, 82, 83, 84, 85, 86, 87, 88, 89, 90, 91, 92, 93, 94, 95, 96, 97, 98, 99, 100, 101, 102, 103, 104, 105, 106, 107] rfl rfl
set_option maxRecDepth 20000 in
theorem gX12_behind_X12_nots : GoodIn wsX12_behind (wsV RX12 438 RX12 yX12_nots wsX12_nots) := goodIn_app (goodIn_r _ [7, 8, 9, 10] rfl rfl) ggX12_behind_X12_nots
set_option maxRecDepth 20000 in
theorem ggX12_behind_X12_isWord : GoodIn wsX12_behind wsX12_isWord := goodIn_r _ [21, 22, 23, 59, 60, 61, 62, 63, 64, 65, 66, 67, 68, 69, 70, 71, 72, 73, 74, 75, 76, 77, 78, 79, 80, 81, 82, 83, 84, 85, 86, 87, 88, 89, 90, 91, 92, 93, 94, 95, 96, 97, 98, 99, 100, 101, 102, 103, 104, 105, 106, 107] rfl rfl
set_option maxRecDepth 20000 in
theorem gX12_behind_X12_isWord : GoodIn wsX12_behind (wsV RX12 208 RX12 yX12_isWord wsX12_isWord) := goodIn_app (goodIn_r _ [18, 19, 20, 10] rfl rfl) ggX12_behind_X12_isWord
set_option maxRecDepth 20000 in
theorem ggX12_behind_X12_joins : GoodIn wsX12_behind wsX12_joins := goodIn_r _ [27, 4, 3, 12, 13, 14, 10, 15, 16, 17, 59, 60, 61, 62, 63, 64, 65, 66, 67, 68, 69, 70, 71, 72, 73, 74, 75, 76, 77, 78, 79, 80, 81, 82, 83, 84, 85, 86, 87, 88, 89, 90, 91, 92, 93, 94, 95, 96, 97, 98, 99, 100, 101, 102, 103, 104, 105, 106, 107] rfl rfl
set_option maxRecDepth 20000 in
theorem gX12_behind_X12_joins : GoodIn wsX12_behind (wsV RX12 441 RX12 yX12_joins wsX12_joins) := goodIn_app (goodIn_r _ [24, 25, 26, 10] rfl rfl) ggX12_behind_X12_joins
set_option maxRecDepth 20000 in
theorem ggX12_behind_X12_next : GoodIn wsX12_behind wsX12_next := goodIn_r _ [31, 32, 33, 34, 35, 36, 22, 37, 23, 38, 39, 40, 10, 41, 42, 43, 44, 45, 46, 47, 48, 59, 60, 61, 62, 63, 64, 65, 66, 67, 68, 69, 70, 71, 72, 73, 74, 75, 76, 77, 78, 79, 80, 81, 82, 83, 84, 85, 86, 87, 88, 89, 90, 91, 92, 93, 94, 95, 96, 97, 98, 99, 100, 101, 102, 103, 104, 105, 106, 107] rfl rfl
set_option maxRecDepth 20000 in
theorem gX12_behind_X12_next : GoodIn wsX12_behind (wsV RX12 183 RX12 yX12_next wsX12_next) := goodIn_app (goodIn_r _ [28, 29, 30, 10] rfl rfl) ggX12_behind_X12_next
set_option maxRecDepth 20000 in
theorem ggX12_behind_X12_isSign : GoodIn wsX12_behind wsX12_isSign := goodIn_r _ [52, 22, 37, 59, 60, 61, 62, 63, 64, 65, 66, 67, 68, 69, 70, 71, 72, 73, 74, 75, 76, 77, 78, 79, 80, 81, 82, 83, 84, 85, 86, 87, 88, 89, 90, 91, 92, 93, 94, 95, 96, 97, 98, 99, 100, 101, 102, 103, 104, 105, 106, 107] rfl rfl
set_option maxRecDepth 20000 in
theorem gX12_behind_X12_isSign : GoodIn wsX12_behind (wsV RX12 177 RX12 yX12_isSign wsX12_isSign) := goodIn_app (goodIn_r _ [49, 50, 51, 10] rfl rfl) ggX12_behind_X12_isSign
set_option maxRecDepth 20000 in
theorem ggX12_behind_X12_bad : GoodIn wsX12_behind wsX12_bad := goodIn_r _ [56, 57, 33, 58, 59, 60, 61, 62, 63, 64, 65, 66, 67, 68, 69, 70, 71, 72, 73, 74, 75, 76, 77, 78, 79, 80, 81, 82, 83, 84, 85, 86, 87, 88, 89, 90, 91, 92, 93, 94, 95, 96, 97, 98, 99, 100, 101, 102, 103, 104, 105, 106, 107] rfl rfl
set_option maxRecDepth 20000 in
theorem gX12_behind_X12_bad : GoodIn wsX12_behind (wsV RX12 180 RX12 yX12_bad wsX12_bad) := goodIn_app (goodIn_r _ [53, 54, 55, 10] rfl rfl) ggX12_behind_X12_bad
theorem dX12_behind_0 : decode cX12_behind 0 = .ok (.aload_n 0, 1) := by decide +kernel
theorem dX12_behind_1 : decode cX12_behind 1 = .ok (.invokevirtual 438, 3) := by decide +kernel
theorem dX12_behind_4 : decode cX12_behind 4 = .ok (.aload_n 0, 1) := by decide +kernel
theorem dX12_behind_5 : decode cX12_behind 5 = .ok (.ldc2_w 121, 3) := by decide +kernel
theorem dX12_behind_8 : decode cX12_behind 8 = .ok (.invokevirtual 208, 3) := by decide +kernel
theorem dX12_behind_11 : decode cX12_behind 11 = .ok (.ifCond .ne 13, 3) := by decide +kernel
theorem dX12_behind_14 : decode cX12_behind 14 = .ok (.aload_n 0, 1) := by decide +kernel
theorem dX12_behind_15 : decode cX12_behind 15 = .ok (.ldc2_w 119, 3) := by decide +kernel
theorem dX12_behind_18 : decode cX12_behind 18 = .ok (.invokevirtual 208, 3) := by decide +kernel
theorem dX12_behind_21 : decode cX12_behind 21 = .ok (.ifCond .eq 71, 3) := by decide +kernel
theorem dX12_behind_24 : decode cX12_behind 24 = .ok (.aload_n 0, 1) := by decide +kernel
theorem dX12_behind_25 : decode cX12_behind 25 = .ok (.aload_n 0, 1) := by decide +kernel
theorem dX12_behind_26 : decode cX12_behind 26 = .ok (.ldc2_w 121, 3) := by decide +kernel
theorem dX12_behind_29 : decode cX12_behind 29 = .ok (.invokevirtual 208, 3) := by decide +kernel
theorem dX12_behind_32 : decode cX12_behind 32 = .ok (.ifCond .eq 8, 3) := by decide +kernel
theorem dX12_behind_35 : decode cX12_behind 35 = .ok (.bipush 21, 2) := by decide +kernel
theorem dX12_behind_37 : decode cX12_behind 37 = .ok (.goto 5, 3) := by decide +kernel
theorem dX12_behind_40 : decode cX12_behind 40 = .ok (.bipush 22, 2) := by decide +kernel
theorem dX12_behind_42 : decode cX12_behind 42 = .ok (.invokevirtual 441, 3) := by decide +kernel
theorem dX12_behind_45 : decode cX12_behind 45 = .ok (.aload_n 0, 1) := by decide +kernel
theorem dX12_behind_46 : decode cX12_behind 46 = .ok (.getfield 83, 3) := by decide +kernel
theorem dX12_behind_49 : decode cX12_behind 49 = .ok (.aload_n 0, 1) := by decide +kernel
theorem dX12_behind_50 : decode cX12_behind 50 = .ok (.getfield 419, 3) := by decide +kernel
theorem dX12_behind_53 : decode cX12_behind 53 = .ok (.aload_n 0, 1) := by decide +kernel
theorem dX12_behind_54 : decode cX12_behind 54 = .ok (.ldc2_w 121, 3) := by decide +kernel
theorem dX12_behind_57 : decode cX12_behind 57 = .ok (.invokevirtual 208, 3) := by decide +kernel
theorem dX12_behind_60 : decode cX12_behind 60 = .ok (.ifCond .eq 8, 3) := by decide +kernel
theorem dX12_behind_63 : decode cX12_behind 63 = .ok (.bipush 21, 2) := by decide +kernel
theorem dX12_behind_65 : decode cX12_behind 65 = .ok (.goto 5, 3) := by decide +kernel
theorem dX12_behind_68 : decode cX12_behind 68 = .ok (.bipush 22, 2) := by decide +kernel
theorem dX12_behind_70 : decode cX12_behind 70 = .ok (.iastore, 1) := by decide +kernel
theorem dX12_behind_71 : decode cX12_behind 71 = .ok (.aload_n 0, 1) := by decide +kernel
theorem dX12_behind_72 : decode cX12_behind 72 = .ok (.dup, 1) := by decide +kernel
theorem dX12_behind_73 : decode cX12_behind 73 = .ok (.getfield 419, 3) := by decide +kernel
theorem dX12_behind_76 : decode cX12_behind 76 = .ok (.iconst 1, 1) := by decide +kernel
theorem dX12_behind_77 : decode cX12_behind 77 = .ok (.iadd, 1) := by decide +kernel
theorem dX12_behind_78 : decode cX12_behind 78 = .ok (.putfield 419, 3) := by decide +kernel
theorem dX12_behind_81 : decode cX12_behind 81 = .ok (.aload_n 0, 1) := by decide +kernel
theorem dX12_behind_82 : decode cX12_behind 82 = .ok (.iconst 0, 1) := by decide +kernel
theorem dX12_behind_83 : decode cX12_behind 83 = .ok (.putfield 435, 3) := by decide +kernel
theorem dX12_behind_86 : decode cX12_behind 86 = .ok (.aload_n 0, 1) := by decide +kernel
theorem dX12_behind_87 : decode cX12_behind 87 = .ok (.invokevirtual 183, 3) := by decide +kernel
theorem dX12_behind_90 : decode cX12_behind 90 = .ok (.iconst 1, 1) := by decide +kernel
theorem dX12_behind_91 : decode cX12_behind 91 = .ok (.ireturn, 1) := by decide +kernel
theorem dX12_behind_92 : decode cX12_behind 92 = .ok (.aload_n 0, 1) := by decide +kernel
theorem dX12_behind_93 : decode cX12_behind 93 = .ok (.bipush 22, 2) := by decide +kernel
theorem dX12_behind_95 : decode cX12_behind 95 = .ok (.invokevirtual 441, 3) := by decide +kernel
theorem dX12_behind_98 : decode cX12_behind 98 = .ok (.aload_n 0, 1) := by decide +kernel
theorem dX12_behind_99 : decode cX12_behind 99 = .ok (.bipush 41, 2) := by decide +kernel
theorem dX12_behind_101 : decode cX12_behind 101 = .ok (.invokevirtual 177, 3) := by decide +kernel
theorem dX12_behind_104 : decode cX12_behind 104 = .ok (.ifCond .eq 10, 3) := by decide +kernel
theorem dX12_behind_107 : decode cX12_behind 107 = .ok (.aload_n 0, 1) := by decide +kernel
theorem dX12_behind_108 : decode cX12_behind 108 = .ok (.getfield 419, 3) := by decide +kernel
theorem dX12_behind_111 : decode cX12_behind 111 = .ok (.ifCond .ne 9, 3) := by decide +kernel
theorem dX12_behind_114 : decode cX12_behind 114 = .ok (.aload_n 0, 1) := by decide +kernel
theorem dX12_behind_115 : decode cX12_behind 115 = .ok (.iconst 1, 1) := by decide +kernel
theorem dX12_behind_116 : decode cX12_behind 116 = .ok (.invokevirtual 180, 3) := by decide +kernel
theorem dX12_behind_119 : decode cX12_behind 119 = .ok (.ireturn, 1) := by decide +kernel
theorem dX12_behind_120 : decode cX12_behind 120 = .ok (.aload_n 0, 1) := by decide +kernel
theorem dX12_behind_121 : decode cX12_behind 121 = .ok (.dup, 1) := by decide +kernel
theorem dX12_behind_122 : decode cX12_behind 122 = .ok (.getfield 419, 3) := by decide +kernel
theorem dX12_behind_125 : decode cX12_behind 125 = .ok (.iconst 1, 1) := by decide +kernel
theorem dX12_behind_126 : decode cX12_behind 126 = .ok (.isub, 1) := by decide +kernel
theorem dX12_behind_127 : decode cX12_behind 127 = .ok (.putfield 419, 3) := by decide +kernel
theorem dX12_behind_130 : decode cX12_behind 130 = .ok (.aload_n 0, 1) := by decide +kernel
theorem dX12_behind_131 : decode cX12_behind 131 = .ok (.dup, 1) := by decide +kernel
theorem dX12_behind_132 : decode cX12_behind 132 = .ok (.getfield 426, 3) := by decide +kernel
theorem dX12_behind_135 : decode cX12_behind 135 = .ok (.iconst 1, 1) := by decide +kernel
theorem dX12_behind_136 : decode cX12_behind 136 = .ok (.isub, 1) := by decide +kernel
theorem dX12_behind_137 : decode cX12_behind 137 = .ok (.putfield 426, 3) := by decide +kernel
theorem dX12_behind_140 : decode cX12_behind 140 = .ok (.aload_n 0, 1) := by decide +kernel
theorem dX12_behind_141 : decode cX12_behind 141 = .ok (.invokevirtual 183, 3) := by decide +kernel
theorem dX12_behind_144 : decode cX12_behind 144 = .ok (.iconst 1, 1) := by decide +kernel
theorem dX12_behind_145 : decode cX12_behind 145 = .ok (.ireturn, 1) := by decide +kernel
set_option maxRecDepth 20000 in
theorem ggX12_sentence_X12_taken : GoodIn wsX12_sentence wsX12_taken := goodIn_r _ [16, 17, 18, 19, 20, 103, 104, 105, 106, 107, 108, 109, 110, 111, 112, 113, 114, 115, 116, 117, 118, 119, 120, 121, 122, 123, 124, 125, 126, 127, 128, 129, 130, 131, 132, 133, 134, 135, 136, 137, 138, 139, 140, 141, 142, 143, 144, 145, 146, 147, 148, 149, 150, 151] rfl rfl
set_option maxRecDepth 20000 in
theorem gX12_sentence_X12_taken : GoodIn wsX12_sentence (wsV RX12 236 RX12 yX12_taken wsX12_taken) := goodIn_app (goodIn_r _ [12, 13, 14, 15] rfl rfl) ggX12_sentence_X12_taken
set_option maxRecDepth 20000 in
theorem ggX12_sentence_X12_next : GoodIn wsX12_sentence wsX12_next := goodIn_r _ [24, 19, 25, 26, 18, 20, 8, 27, 28, 29, 30, 31, 15, 32, 33, 34, 35, 36, 37, 38, 39, 103, 104, 105, 106, 107, 108, 109, 110, 111, 112, 113, 114, 115, 116, 117, 118, 119, 120, 121, 122, 123, 124, 125, 126, 127, 128, 129, 130, 131, 132, 133, 134, 135, 136, 137, 138, 139, 140, 141, 142, 143, 144, 145, 146, 147, 148, 149, 150, 151] rfl rfl
set_option maxRecDepth 20000 in
theorem gX12_sentence_X12_next : GoodIn wsX12_sentence (wsV RX12 183 RX12 yX12_next wsX12_next) := goodIn_app (goodIn_r _ [21, 22, 23, 15] rfl rfl) ggX12_sentence_X12_next
set_option maxRecDepth 20000 in
theorem ggX12_sentence_X12_nots : GoodIn wsX12_sentence wsX12_nots := goodIn_r _ [43, 5, 44, 6, 45, 46, 47, 15, 48, 11, 3, 103, 104, 105, 106, 107, 108, 109, 110, 111, 112, 113, 114, 115, 116, 117, 118, 119, 120, 121, 122, 123, 124, 125, 126, 127, 128, 129, 130, 131, 132, 133, 134, 135, 136, 137, 138, 139, 140, 141, 142, 143, 144, 145, 146, 147, 148, 149, 150, 151] rfl rfl
set_option maxRecDepth 20000 in
theorem gX12_sentence_X12_nots : GoodIn wsX12_sentence (wsV RX12 438 RX12 yX12_nots wsX12_nots) := goodIn_app (goodIn_r _ [40, 41, 42, 15] rfl rfl) ggX12_sentence_X12_nots
set_option maxRecDepth 20000 in
theorem ggX12_sentence_X12_joins : GoodIn wsX12_sentence wsX12_joins := goodIn_r _ [52, 5, 44, 45, 46, 47, 15, 48, 11, 3, 103, 104, 105, 106, 107, 108, 109, 110, 111, 112, 113, 114, 115, 116, 117, 118, 119, 120, 121, 122, 123, 124, 125, 126, 127, 128, 129, 130, 131, 132, 133, 134, 135, 136, 137, 138, 139, 140, 141, 142, 143, 144, 145, 146, 147, 148, 149, 150, 151] rfl rfl
set_option maxRecDepth 20000 in
theorem gX12_sentence_X12_joins : GoodIn wsX12_sentence (wsV RX12 441 RX12 yX12_joins wsX12_joins) := goodIn_app (goodIn_r _ [49, 50, 51, 15] rfl rfl) ggX12_sentence_X12_joins
set_option maxRecDepth 20000 in
theorem ggX12_sentence_X12_bad : GoodIn wsX12_sentence wsX12_bad := goodIn_r _ [56, 2, 25, 9, 103, 104, 105, 106, 107, 108, 109, 110, 111, 112, 113, 114, 115, 116, 117, 118, 119, 120, 121, 122, 123, 124, 125, 126, 127, 128, 129, 130, 131, 132, 133, 134, 135, 136, 137, 138, 139, 140, 141, 142, 143, 144, 145, 146, 147, 148, 149, 150, 151] rfl rfl
set_option maxRecDepth 20000 in
theorem gX12_sentence_X12_bad : GoodIn wsX12_sentence (wsV RX12 180 RX12 yX12_bad wsX12_bad) := goodIn_app (goodIn_r _ [53, 54, 55, 15] rfl rfl) ggX12_sentence_X12_bad
set_option maxRecDepth 20000 in
theorem ggX12_sentence_X12_behind : GoodIn wsX12_sentence wsX12_behind := goodIn_r _ [60, 61, 62, 44, 5, 7, 6, 40, 41, 42, 15, 43, 45, 46, 47, 48, 11, 3, 63, 64, 65, 66, 8, 28, 49, 50, 51, 52, 21, 22, 23, 24, 19, 25, 26, 18, 20, 27, 29, 30, 31, 32, 33, 34, 35, 36, 37, 38, 39, 67, 68, 69, 70, 53, 54, 55, 56, 2, 9, 103, 104, 105, 106, 107, 108, 109, 110, 111, 112, 113, 114, 115, 116, 117, 118, 119, 120, 121, 122, 123, 124, 125, 126, 127, 128, 129, 130, 131, 132, 133, 134, 135, 136, 137, 138, 139, 140, 141, 142, 143, 144, 145, 146, 147, 148, 149, 150, 151] rfl rfl
set_option maxRecDepth 20000 in
theorem gX12_sentence_X12_behind : GoodIn wsX12_sentence (wsV RX12 444 RX12 yX12_behind wsX12_behind) := goodIn_app (goodIn_r _ [57, 58, 59, 15] rfl rfl) ggX12_sentence_X12_behind
set_option maxRecDepth 20000 in
theorem ggX12_sentence_X12_operand : GoodIn wsX12_sentence wsX12_operand := goodIn_r _ [74, 75, 4, 6, 44, 5, 7, 10, 76, 8, 27, 63, 64, 65, 15, 66, 28, 67, 68, 69, 70, 77, 78, 79, 80, 81, 82, 83, 84, 85, 86, 87, 88, 53, 54, 55, 56, 2, 25, 9, 21, 22, 23, 24, 19, 26, 18, 20, 29, 30, 31, 32, 33, 34, 35, 36, 37, 38, 39, 45, 46, 47, 48, 11, 3, 89, 90, 91, 92, 93, 94, 95, 96, 97, 98, 99, 100, 101, 102, 103, 104, 105, 106, 107, 108, 109, 110, 111, 112, 113, 114, 115, 116, 117, 118, 119, 120, 121, 122, 123, 124, 125, 126, 127, 128, 129, 130, 131, 132, 133, 134, 135, 136, 137, 138, 139, 140, 141, 142, 143, 144, 145, 146, 147, 148, 149, 150, 151] rfl rfl
set_option maxRecDepth 20000 in
theorem gX12_sentence_X12_operand : GoodIn wsX12_sentence (wsV RX12 446 RX12 yX12_operand wsX12_operand) := goodIn_app (goodIn_r _ [71, 72, 73, 15] rfl rfl) ggX12_sentence_X12_operand
theorem dX12_sentence_0 : decode cX12_sentence 0 = .ok (.aload_n 0, 1) := by decide +kernel
theorem dX12_sentence_1 : decode cX12_sentence 1 = .ok (.iconst 0, 1) := by decide +kernel
theorem dX12_sentence_2 : decode cX12_sentence 2 = .ok (.putfield 1, 3) := by decide +kernel
theorem dX12_sentence_5 : decode cX12_sentence 5 = .ok (.aload_n 0, 1) := by decide +kernel
theorem dX12_sentence_6 : decode cX12_sentence 6 = .ok (.sipush 200, 3) := by decide +kernel
theorem dX12_sentence_9 : decode cX12_sentence 9 = .ok (.invokevirtual 236, 3) := by decide +kernel
theorem dX12_sentence_12 : decode cX12_sentence 12 = .ok (.aload_n 0, 1) := by decide +kernel
theorem dX12_sentence_13 : decode cX12_sentence 13 = .ok (.iconst 0, 1) := by decide +kernel
theorem dX12_sentence_14 : decode cX12_sentence 14 = .ok (.putfield 171, 3) := by decide +kernel
theorem dX12_sentence_17 : decode cX12_sentence 17 = .ok (.aload_n 0, 1) := by decide +kernel
theorem dX12_sentence_18 : decode cX12_sentence 18 = .ok (.iconst 0, 1) := by decide +kernel
theorem dX12_sentence_19 : decode cX12_sentence 19 = .ok (.putfield 416, 3) := by decide +kernel
theorem dX12_sentence_22 : decode cX12_sentence 22 = .ok (.aload_n 0, 1) := by decide +kernel
theorem dX12_sentence_23 : decode cX12_sentence 23 = .ok (.iconst 0, 1) := by decide +kernel
theorem dX12_sentence_24 : decode cX12_sentence 24 = .ok (.putfield 432, 3) := by decide +kernel
theorem dX12_sentence_27 : decode cX12_sentence 27 = .ok (.aload_n 0, 1) := by decide +kernel
theorem dX12_sentence_28 : decode cX12_sentence 28 = .ok (.iconst 0, 1) := by decide +kernel
theorem dX12_sentence_29 : decode cX12_sentence 29 = .ok (.putfield 419, 3) := by decide +kernel
theorem dX12_sentence_32 : decode cX12_sentence 32 = .ok (.aload_n 0, 1) := by decide +kernel
theorem dX12_sentence_33 : decode cX12_sentence 33 = .ok (.iconst 1, 1) := by decide +kernel
theorem dX12_sentence_34 : decode cX12_sentence 34 = .ok (.putfield 426, 3) := by decide +kernel
theorem dX12_sentence_37 : decode cX12_sentence 37 = .ok (.aload_n 0, 1) := by decide +kernel
theorem dX12_sentence_38 : decode cX12_sentence 38 = .ok (.iconst 0, 1) := by decide +kernel
theorem dX12_sentence_39 : decode cX12_sentence 39 = .ok (.putfield 435, 3) := by decide +kernel
theorem dX12_sentence_42 : decode cX12_sentence 42 = .ok (.aload_n 0, 1) := by decide +kernel
theorem dX12_sentence_43 : decode cX12_sentence 43 = .ok (.invokevirtual 183, 3) := by decide +kernel
theorem dX12_sentence_46 : decode cX12_sentence 46 = .ok (.iconst 1, 1) := by decide +kernel
theorem dX12_sentence_47 : decode cX12_sentence 47 = .ok (.istore_n 1, 1) := by decide +kernel
theorem dX12_sentence_48 : decode cX12_sentence 48 = .ok (.iload_n 1, 1) := by decide +kernel
theorem dX12_sentence_49 : decode cX12_sentence 49 = .ok (.ifCond .eq 83, 3) := by decide +kernel
theorem dX12_sentence_52 : decode cX12_sentence 52 = .ok (.aload_n 0, 1) := by decide +kernel
theorem dX12_sentence_53 : decode cX12_sentence 53 = .ok (.getfield 435, 3) := by decide +kernel
theorem dX12_sentence_56 : decode cX12_sentence 56 = .ok (.ifCond .eq 45, 3) := by decide +kernel
theorem dX12_sentence_59 : decode cX12_sentence 59 = .ok (.aload_n 0, 1) := by decide +kernel
theorem dX12_sentence_60 : decode cX12_sentence 60 = .ok (.getfield 154, 3) := by decide +kernel
theorem dX12_sentence_63 : decode cX12_sentence 63 = .ok (.ifCond .ne 38, 3) := by decide +kernel
theorem dX12_sentence_66 : decode cX12_sentence 66 = .ok (.aload_n 0, 1) := by decide +kernel
theorem dX12_sentence_67 : decode cX12_sentence 67 = .ok (.invokevirtual 438, 3) := by decide +kernel
theorem dX12_sentence_70 : decode cX12_sentence 70 = .ok (.aload_n 0, 1) := by decide +kernel
theorem dX12_sentence_71 : decode cX12_sentence 71 = .ok (.bipush 22, 2) := by decide +kernel
theorem dX12_sentence_73 : decode cX12_sentence 73 = .ok (.invokevirtual 441, 3) := by decide +kernel
theorem dX12_sentence_76 : decode cX12_sentence 76 = .ok (.aload_n 0, 1) := by decide +kernel
theorem dX12_sentence_77 : decode cX12_sentence 77 = .ok (.getfield 419, 3) := by decide +kernel
theorem dX12_sentence_80 : decode cX12_sentence 80 = .ok (.ifCond .le 16, 3) := by decide +kernel
theorem dX12_sentence_83 : decode cX12_sentence 83 = .ok (.aload_n 0, 1) := by decide +kernel
theorem dX12_sentence_84 : decode cX12_sentence 84 = .ok (.iconst 1, 1) := by decide +kernel
theorem dX12_sentence_85 : decode cX12_sentence 85 = .ok (.invokevirtual 180, 3) := by decide +kernel
theorem dX12_sentence_88 : decode cX12_sentence 88 = .ok (.pop, 1) := by decide +kernel
theorem dX12_sentence_89 : decode cX12_sentence 89 = .ok (.iconst (-1), 1) := by decide +kernel
theorem dX12_sentence_90 : decode cX12_sentence 90 = .ok (.aload_n 0, 1) := by decide +kernel
theorem dX12_sentence_91 : decode cX12_sentence 91 = .ok (.getfield 174, 3) := by decide +kernel
theorem dX12_sentence_94 : decode cX12_sentence 94 = .ok (.isub, 1) := by decide +kernel
theorem dX12_sentence_95 : decode cX12_sentence 95 = .ok (.ireturn, 1) := by decide +kernel
theorem dX12_sentence_96 : decode cX12_sentence 96 = .ok (.iconst 0, 1) := by decide +kernel
theorem dX12_sentence_97 : decode cX12_sentence 97 = .ok (.istore_n 1, 1) := by decide +kernel
theorem dX12_sentence_98 : decode cX12_sentence 98 = .ok (.goto (-50), 3) := by decide +kernel
theorem dX12_sentence_101 : decode cX12_sentence 101 = .ok (.aload_n 0, 1) := by decide +kernel
theorem dX12_sentence_102 : decode cX12_sentence 102 = .ok (.getfield 435, 3) := by decide +kernel
theorem dX12_sentence_105 : decode cX12_sentence 105 = .ok (.ifCond .eq 13, 3) := by decide +kernel
theorem dX12_sentence_108 : decode cX12_sentence 108 = .ok (.aload_n 0, 1) := by decide +kernel
theorem dX12_sentence_109 : decode cX12_sentence 109 = .ok (.invokevirtual 444, 3) := by decide +kernel
theorem dX12_sentence_112 : decode cX12_sentence 112 = .ok (.ifCond .ne (-64), 3) := by decide +kernel
theorem dX12_sentence_115 : decode cX12_sentence 115 = .ok (.goto 10, 3) := by decide +kernel
theorem dX12_sentence_118 : decode cX12_sentence 118 = .ok (.aload_n 0, 1) := by decide +kernel
theorem dX12_sentence_119 : decode cX12_sentence 119 = .ok (.invokevirtual 446, 3) := by decide +kernel
theorem dX12_sentence_122 : decode cX12_sentence 122 = .ok (.ifCond .ne (-74), 3) := by decide +kernel
theorem dX12_sentence_125 : decode cX12_sentence 125 = .ok (.iconst (-1), 1) := by decide +kernel
theorem dX12_sentence_126 : decode cX12_sentence 126 = .ok (.aload_n 0, 1) := by decide +kernel
theorem dX12_sentence_127 : decode cX12_sentence 127 = .ok (.getfield 174, 3) := by decide +kernel
theorem dX12_sentence_130 : decode cX12_sentence 130 = .ok (.isub, 1) := by decide +kernel
theorem dX12_sentence_131 : decode cX12_sentence 131 = .ok (.ireturn, 1) := by decide +kernel
theorem dX12_sentence_132 : decode cX12_sentence 132 = .ok (.aload_n 0, 1) := by decide +kernel
theorem dX12_sentence_133 : decode cX12_sentence 133 = .ok (.getfield 33, 3) := by decide +kernel
theorem dX12_sentence_136 : decode cX12_sentence 136 = .ok (.bipush 98, 2) := by decide +kernel
theorem dX12_sentence_138 : decode cX12_sentence 138 = .ok (.aload_n 0, 1) := by decide +kernel
theorem dX12_sentence_139 : decode cX12_sentence 139 = .ok (.getfield 416, 3) := by decide +kernel
theorem dX12_sentence_142 : decode cX12_sentence 142 = .ok (.iastore, 1) := by decide +kernel
theorem dX12_sentence_143 : decode cX12_sentence 143 = .ok (.iconst 0, 1) := by decide +kernel
theorem dX12_sentence_144 : decode cX12_sentence 144 = .ok (.istore_n 2, 1) := by decide +kernel
theorem dX12_sentence_145 : decode cX12_sentence 145 = .ok (.iload_n 2, 1) := by decide +kernel
theorem dX12_sentence_146 : decode cX12_sentence 146 = .ok (.iconst 3, 1) := by decide +kernel
theorem dX12_sentence_147 : decode cX12_sentence 147 = .ok (.aload_n 0, 1) := by decide +kernel
theorem dX12_sentence_148 : decode cX12_sentence 148 = .ok (.getfield 416, 3) := by decide +kernel
theorem dX12_sentence_151 : decode cX12_sentence 151 = .ok (.imul, 1) := by decide +kernel
theorem dX12_sentence_152 : decode cX12_sentence 152 = .ok (.if_icmp .ge 24, 3) := by decide +kernel
theorem dX12_sentence_155 : decode cX12_sentence 155 = .ok (.aload_n 0, 1) := by decide +kernel
theorem dX12_sentence_156 : decode cX12_sentence 156 = .ok (.getfield 33, 3) := by decide +kernel
theorem dX12_sentence_159 : decode cX12_sentence 159 = .ok (.bipush 99, 2) := by decide +kernel
theorem dX12_sentence_161 : decode cX12_sentence 161 = .ok (.iload_n 2, 1) := by decide +kernel
theorem dX12_sentence_162 : decode cX12_sentence 162 = .ok (.iadd, 1) := by decide +kernel
theorem dX12_sentence_163 : decode cX12_sentence 163 = .ok (.aload_n 0, 1) := by decide +kernel
theorem dX12_sentence_164 : decode cX12_sentence 164 = .ok (.getfield 40, 3) := by decide +kernel
theorem dX12_sentence_167 : decode cX12_sentence 167 = .ok (.iload_n 2, 1) := by decide +kernel
theorem dX12_sentence_168 : decode cX12_sentence 168 = .ok (.iaload, 1) := by decide +kernel
theorem dX12_sentence_169 : decode cX12_sentence 169 = .ok (.iastore, 1) := by decide +kernel
theorem dX12_sentence_170 : decode cX12_sentence 170 = .ok (.iinc 2 1, 3) := by decide +kernel
theorem dX12_sentence_173 : decode cX12_sentence 173 = .ok (.goto (-28), 3) := by decide +kernel
theorem dX12_sentence_176 : decode cX12_sentence 176 = .ok (.aload_n 0, 1) := by decide +kernel
theorem dX12_sentence_177 : decode cX12_sentence 177 = .ok (.getfield 432, 3) := by decide +kernel
theorem dX12_sentence_180 : decode cX12_sentence 180 = .ok (.ireturn, 1) := by decide +kernel
set_option maxRecDepth 20000 in
theorem ggX12_isLeaf_X12_isHeld : GoodIn wsX12_isLeaf wsX12_isHeld := goodIn_r _ [6, 1, 7, 8, 5, 9, 22, 23, 24, 25, 26, 27, 28, 29, 30, 31, 32, 33, 34, 35, 36, 37, 38, 39, 40, 41, 42, 43, 44, 45, 46, 47, 48, 49, 50, 51, 52, 53, 54, 55, 56, 57, 58, 59, 60, 61, 62, 63, 64, 65, 66, 67, 68, 69, 70] rfl rfl
set_option maxRecDepth 20000 in
theorem gX12_isLeaf_X12_isHeld : GoodIn wsX12_isLeaf (wsV RX12 251 RX12 yX12_isHeld wsX12_isHeld) := goodIn_app (goodIn_r _ [2, 3, 4, 5] rfl rfl) ggX12_isLeaf_X12_isHeld
set_option maxRecDepth 20000 in
theorem ggX12_isLeaf_X12_couldWrite : GoodIn wsX12_isLeaf wsX12_couldWrite := goodIn_r _ [13, 1, 14, 15, 16, 5, 17, 2, 3, 4, 6, 7, 8, 9, 18, 19, 20, 21, 22, 23, 24, 25, 26, 27, 28, 29, 30, 31, 32, 33, 34, 35, 36, 37, 38, 39, 40, 41, 42, 43, 44, 45, 46, 47, 48, 49, 50, 51, 52, 53, 54, 55, 56, 57, 58, 59, 60, 61, 62, 63, 64, 65, 66, 67, 68, 69, 70] rfl rfl
set_option maxRecDepth 20000 in
theorem gX12_isLeaf_X12_couldWrite : GoodIn wsX12_isLeaf (wsV RX12 267 RX12 yX12_couldWrite wsX12_couldWrite) := goodIn_app (goodIn_r _ [10, 11, 12, 5] rfl rfl) ggX12_isLeaf_X12_couldWrite
set_option maxRecDepth 20000 in
theorem ggX12_isLeaf_X12_whyWrite : GoodIn wsX12_isLeaf wsX12_whyWrite := goodIn_r _ [17, 1, 2, 3, 4, 5, 6, 7, 8, 9, 18, 19, 20, 21, 22, 23, 24, 25, 26, 27, 28, 29, 30, 31, 32, 33, 34, 35, 36, 37, 38, 39, 40, 41, 42, 43, 44, 45, 46, 47, 48, 49, 50, 51, 52, 53, 54, 55, 56, 57, 58, 59, 60, 61, 62, 63, 64, 65, 66, 67, 68, 69, 70] rfl rfl
set_option maxRecDepth 20000 in
theorem gX12_isLeaf_X12_whyWrite : GoodIn wsX12_isLeaf (wsV RX12 257 RX12 yX12_whyWrite wsX12_whyWrite) := goodIn_app (goodIn_r _ [14, 15, 16, 5] rfl rfl) ggX12_isLeaf_X12_whyWrite
theorem dX12_isLeaf_0 : decode cX12_isLeaf 0 = .ok (.iload_n 2, 1) := by decide +kernel
theorem dX12_isLeaf_1 : decode cX12_isLeaf 1 = .ok (.tableswitch 114 0 4 #[35, 41, 60, 74, 90], 35) := by decide +kernel
theorem dX12_isLeaf_36 : decode cX12_isLeaf 36 = .ok (.aload_n 0, 1) := by decide +kernel
theorem dX12_isLeaf_37 : decode cX12_isLeaf 37 = .ok (.iload_n 1, 1) := by decide +kernel
theorem dX12_isLeaf_38 : decode cX12_isLeaf 38 = .ok (.invokevirtual 251, 3) := by decide +kernel
theorem dX12_isLeaf_41 : decode cX12_isLeaf 41 = .ok (.ireturn, 1) := by decide +kernel
theorem dX12_isLeaf_42 : decode cX12_isLeaf 42 = .ok (.aload_n 0, 1) := by decide +kernel
theorem dX12_isLeaf_43 : decode cX12_isLeaf 43 = .ok (.getfield 33, 3) := by decide +kernel
theorem dX12_isLeaf_46 : decode cX12_isLeaf 46 = .ok (.bipush 41, 2) := by decide +kernel
theorem dX12_isLeaf_48 : decode cX12_isLeaf 48 = .ok (.iaload, 1) := by decide +kernel
theorem dX12_isLeaf_49 : decode cX12_isLeaf 49 = .ok (.iload_n 1, 1) := by decide +kernel
theorem dX12_isLeaf_50 : decode cX12_isLeaf 50 = .ok (.iconst 1, 1) := by decide +kernel
theorem dX12_isLeaf_51 : decode cX12_isLeaf 51 = .ok (.iadd, 1) := by decide +kernel
theorem dX12_isLeaf_52 : decode cX12_isLeaf 52 = .ok (.if_icmp .ne 7, 3) := by decide +kernel
theorem dX12_isLeaf_55 : decode cX12_isLeaf 55 = .ok (.iconst 1, 1) := by decide +kernel
theorem dX12_isLeaf_56 : decode cX12_isLeaf 56 = .ok (.goto 4, 3) := by decide +kernel
theorem dX12_isLeaf_59 : decode cX12_isLeaf 59 = .ok (.iconst 0, 1) := by decide +kernel
theorem dX12_isLeaf_60 : decode cX12_isLeaf 60 = .ok (.ireturn, 1) := by decide +kernel
theorem dX12_isLeaf_61 : decode cX12_isLeaf 61 = .ok (.aload_n 0, 1) := by decide +kernel
theorem dX12_isLeaf_62 : decode cX12_isLeaf 62 = .ok (.iload_n 1, 1) := by decide +kernel
theorem dX12_isLeaf_63 : decode cX12_isLeaf 63 = .ok (.invokevirtual 267, 3) := by decide +kernel
theorem dX12_isLeaf_66 : decode cX12_isLeaf 66 = .ok (.ifCond .ne 7, 3) := by decide +kernel
theorem dX12_isLeaf_69 : decode cX12_isLeaf 69 = .ok (.iconst 1, 1) := by decide +kernel
theorem dX12_isLeaf_70 : decode cX12_isLeaf 70 = .ok (.goto 4, 3) := by decide +kernel
theorem dX12_isLeaf_73 : decode cX12_isLeaf 73 = .ok (.iconst 0, 1) := by decide +kernel
theorem dX12_isLeaf_74 : decode cX12_isLeaf 74 = .ok (.ireturn, 1) := by decide +kernel
theorem dX12_isLeaf_75 : decode cX12_isLeaf 75 = .ok (.aload_n 0, 1) := by decide +kernel
theorem dX12_isLeaf_76 : decode cX12_isLeaf 76 = .ok (.iload_n 1, 1) := by decide +kernel
theorem dX12_isLeaf_77 : decode cX12_isLeaf 77 = .ok (.iload 4, 2) := by decide +kernel
theorem dX12_isLeaf_79 : decode cX12_isLeaf 79 = .ok (.invokevirtual 257, 3) := by decide +kernel
theorem dX12_isLeaf_82 : decode cX12_isLeaf 82 = .ok (.ifCond .ne 7, 3) := by decide +kernel
theorem dX12_isLeaf_85 : decode cX12_isLeaf 85 = .ok (.iconst 1, 1) := by decide +kernel
theorem dX12_isLeaf_86 : decode cX12_isLeaf 86 = .ok (.goto 4, 3) := by decide +kernel
theorem dX12_isLeaf_89 : decode cX12_isLeaf 89 = .ok (.iconst 0, 1) := by decide +kernel
theorem dX12_isLeaf_90 : decode cX12_isLeaf 90 = .ok (.ireturn, 1) := by decide +kernel
theorem dX12_isLeaf_91 : decode cX12_isLeaf 91 = .ok (.aload_n 0, 1) := by decide +kernel
theorem dX12_isLeaf_92 : decode cX12_isLeaf 92 = .ok (.getfield 33, 3) := by decide +kernel
theorem dX12_isLeaf_95 : decode cX12_isLeaf 95 = .ok (.bipush 62, 2) := by decide +kernel
theorem dX12_isLeaf_97 : decode cX12_isLeaf 97 = .ok (.bipush 6, 2) := by decide +kernel
theorem dX12_isLeaf_99 : decode cX12_isLeaf 99 = .ok (.iload_n 1, 1) := by decide +kernel
theorem dX12_isLeaf_100 : decode cX12_isLeaf 100 = .ok (.imul, 1) := by decide +kernel
theorem dX12_isLeaf_101 : decode cX12_isLeaf 101 = .ok (.iadd, 1) := by decide +kernel
theorem dX12_isLeaf_102 : decode cX12_isLeaf 102 = .ok (.iload 4, 2) := by decide +kernel
theorem dX12_isLeaf_104 : decode cX12_isLeaf 104 = .ok (.iadd, 1) := by decide +kernel
theorem dX12_isLeaf_105 : decode cX12_isLeaf 105 = .ok (.iaload, 1) := by decide +kernel
theorem dX12_isLeaf_106 : decode cX12_isLeaf 106 = .ok (.ifCond .le 7, 3) := by decide +kernel
theorem dX12_isLeaf_109 : decode cX12_isLeaf 109 = .ok (.iconst 1, 1) := by decide +kernel
theorem dX12_isLeaf_110 : decode cX12_isLeaf 110 = .ok (.goto 4, 3) := by decide +kernel
theorem dX12_isLeaf_113 : decode cX12_isLeaf 113 = .ok (.iconst 0, 1) := by decide +kernel
theorem dX12_isLeaf_114 : decode cX12_isLeaf 114 = .ok (.ireturn, 1) := by decide +kernel
theorem dX12_isLeaf_115 : decode cX12_isLeaf 115 = .ok (.iload_n 2, 1) := by decide +kernel
theorem dX12_isLeaf_116 : decode cX12_isLeaf 116 = .ok (.iconst 5, 1) := by decide +kernel
theorem dX12_isLeaf_117 : decode cX12_isLeaf 117 = .ok (.if_icmp .ne 15, 3) := by decide +kernel
theorem dX12_isLeaf_120 : decode cX12_isLeaf 120 = .ok (.aload_n 0, 1) := by decide +kernel
theorem dX12_isLeaf_121 : decode cX12_isLeaf 121 = .ok (.getfield 33, 3) := by decide +kernel
theorem dX12_isLeaf_124 : decode cX12_isLeaf 124 = .ok (.bipush 44, 2) := by decide +kernel
theorem dX12_isLeaf_126 : decode cX12_isLeaf 126 = .ok (.iload_n 1, 1) := by decide +kernel
theorem dX12_isLeaf_127 : decode cX12_isLeaf 127 = .ok (.iadd, 1) := by decide +kernel
theorem dX12_isLeaf_128 : decode cX12_isLeaf 128 = .ok (.iaload, 1) := by decide +kernel
theorem dX12_isLeaf_129 : decode cX12_isLeaf 129 = .ok (.goto 22, 3) := by decide +kernel
theorem dX12_isLeaf_132 : decode cX12_isLeaf 132 = .ok (.iload_n 2, 1) := by decide +kernel
theorem dX12_isLeaf_133 : decode cX12_isLeaf 133 = .ok (.bipush 6, 2) := by decide +kernel
theorem dX12_isLeaf_135 : decode cX12_isLeaf 135 = .ok (.if_icmp .ne 15, 3) := by decide +kernel
theorem dX12_isLeaf_138 : decode cX12_isLeaf 138 = .ok (.aload_n 0, 1) := by decide +kernel
theorem dX12_isLeaf_139 : decode cX12_isLeaf 139 = .ok (.getfield 33, 3) := by decide +kernel
theorem dX12_isLeaf_142 : decode cX12_isLeaf 142 = .ok (.bipush 50, 2) := by decide +kernel
theorem dX12_isLeaf_144 : decode cX12_isLeaf 144 = .ok (.iload_n 1, 1) := by decide +kernel
theorem dX12_isLeaf_145 : decode cX12_isLeaf 145 = .ok (.iadd, 1) := by decide +kernel
theorem dX12_isLeaf_146 : decode cX12_isLeaf 146 = .ok (.iaload, 1) := by decide +kernel
theorem dX12_isLeaf_147 : decode cX12_isLeaf 147 = .ok (.goto 4, 3) := by decide +kernel
theorem dX12_isLeaf_150 : decode cX12_isLeaf 150 = .ok (.iload_n 1, 1) := by decide +kernel
theorem dX12_isLeaf_151 : decode cX12_isLeaf 151 = .ok (.istore 5, 2) := by decide +kernel
theorem dX12_isLeaf_153 : decode cX12_isLeaf 153 = .ok (.iload_n 3, 1) := by decide +kernel
theorem dX12_isLeaf_154 : decode cX12_isLeaf 154 = .ok (.bipush 60, 2) := by decide +kernel
theorem dX12_isLeaf_156 : decode cX12_isLeaf 156 = .ok (.if_icmp .ne 18, 3) := by decide +kernel
theorem dX12_isLeaf_159 : decode cX12_isLeaf 159 = .ok (.iload 5, 2) := by decide +kernel
theorem dX12_isLeaf_161 : decode cX12_isLeaf 161 = .ok (.iload 4, 2) := by decide +kernel
theorem dX12_isLeaf_163 : decode cX12_isLeaf 163 = .ok (.if_icmp .ge 7, 3) := by decide +kernel
theorem dX12_isLeaf_166 : decode cX12_isLeaf 166 = .ok (.iconst 1, 1) := by decide +kernel
theorem dX12_isLeaf_167 : decode cX12_isLeaf 167 = .ok (.goto 40, 3) := by decide +kernel
theorem dX12_isLeaf_170 : decode cX12_isLeaf 170 = .ok (.iconst 0, 1) := by decide +kernel
theorem dX12_isLeaf_171 : decode cX12_isLeaf 171 = .ok (.goto 36, 3) := by decide +kernel
theorem dX12_isLeaf_174 : decode cX12_isLeaf 174 = .ok (.iload_n 3, 1) := by decide +kernel
theorem dX12_isLeaf_175 : decode cX12_isLeaf 175 = .ok (.bipush 61, 2) := by decide +kernel
theorem dX12_isLeaf_177 : decode cX12_isLeaf 177 = .ok (.if_icmp .ne 18, 3) := by decide +kernel
theorem dX12_isLeaf_180 : decode cX12_isLeaf 180 = .ok (.iload 5, 2) := by decide +kernel
theorem dX12_isLeaf_182 : decode cX12_isLeaf 182 = .ok (.iload 4, 2) := by decide +kernel
theorem dX12_isLeaf_184 : decode cX12_isLeaf 184 = .ok (.if_icmp .ne 7, 3) := by decide +kernel
theorem dX12_isLeaf_187 : decode cX12_isLeaf 187 = .ok (.iconst 1, 1) := by decide +kernel
theorem dX12_isLeaf_188 : decode cX12_isLeaf 188 = .ok (.goto 19, 3) := by decide +kernel
theorem dX12_isLeaf_191 : decode cX12_isLeaf 191 = .ok (.iconst 0, 1) := by decide +kernel
theorem dX12_isLeaf_192 : decode cX12_isLeaf 192 = .ok (.goto 15, 3) := by decide +kernel
theorem dX12_isLeaf_195 : decode cX12_isLeaf 195 = .ok (.iload 5, 2) := by decide +kernel
theorem dX12_isLeaf_197 : decode cX12_isLeaf 197 = .ok (.iload 4, 2) := by decide +kernel
theorem dX12_isLeaf_199 : decode cX12_isLeaf 199 = .ok (.if_icmp .le 7, 3) := by decide +kernel
theorem dX12_isLeaf_202 : decode cX12_isLeaf 202 = .ok (.iconst 1, 1) := by decide +kernel
theorem dX12_isLeaf_203 : decode cX12_isLeaf 203 = .ok (.goto 4, 3) := by decide +kernel
theorem dX12_isLeaf_206 : decode cX12_isLeaf 206 = .ok (.iconst 0, 1) := by decide +kernel
theorem dX12_isLeaf_207 : decode cX12_isLeaf 207 = .ok (.ireturn, 1) := by decide +kernel
set_option maxRecDepth 20000 in
theorem ggX12_isSaid_X12_isLeaf : GoodIn wsX12_isSaid wsX12_isLeaf := goodIn_r _ [7, 1, 8, 9, 10, 6, 11, 12, 13, 14, 15, 16, 17, 18, 19, 20, 21, 22, 23, 24, 25, 26, 27, 28, 29, 30, 31, 32, 33, 34, 35, 36, 37, 38, 39, 40, 41, 42, 43, 44, 45, 46, 47, 48, 49, 50, 51, 52, 53, 54, 55, 56, 57, 58, 59, 60, 61, 62, 63, 64, 65, 66, 67, 68, 69, 70, 71, 72, 73, 74, 75] rfl rfl
set_option maxRecDepth 20000 in
theorem gX12_isSaid_X12_isLeaf : GoodIn wsX12_isSaid (wsV RX12 449 RX12 yX12_isLeaf wsX12_isLeaf) := goodIn_app (goodIn_r _ [3, 4, 5, 6] rfl rfl) ggX12_isSaid_X12_isLeaf
theorem dX12_isSaid_0 : decode cX12_isSaid 0 = .ok (.iconst 0, 1) := by decide +kernel
theorem dX12_isSaid_1 : decode cX12_isSaid 1 = .ok (.istore_n 2, 1) := by decide +kernel
theorem dX12_isSaid_2 : decode cX12_isSaid 2 = .ok (.iconst 0, 1) := by decide +kernel
theorem dX12_isSaid_3 : decode cX12_isSaid 3 = .ok (.istore_n 3, 1) := by decide +kernel
theorem dX12_isSaid_4 : decode cX12_isSaid 4 = .ok (.iload_n 3, 1) := by decide +kernel
theorem dX12_isSaid_5 : decode cX12_isSaid 5 = .ok (.aload_n 0, 1) := by decide +kernel
theorem dX12_isSaid_6 : decode cX12_isSaid 6 = .ok (.getfield 33, 3) := by decide +kernel
theorem dX12_isSaid_9 : decode cX12_isSaid 9 = .ok (.bipush 98, 2) := by decide +kernel
theorem dX12_isSaid_11 : decode cX12_isSaid 11 = .ok (.iaload, 1) := by decide +kernel
theorem dX12_isSaid_12 : decode cX12_isSaid 12 = .ok (.if_icmp .ge 198, 3) := by decide +kernel
theorem dX12_isSaid_15 : decode cX12_isSaid 15 = .ok (.bipush 99, 2) := by decide +kernel
theorem dX12_isSaid_17 : decode cX12_isSaid 17 = .ok (.iconst 3, 1) := by decide +kernel
theorem dX12_isSaid_18 : decode cX12_isSaid 18 = .ok (.iload_n 3, 1) := by decide +kernel
theorem dX12_isSaid_19 : decode cX12_isSaid 19 = .ok (.imul, 1) := by decide +kernel
theorem dX12_isSaid_20 : decode cX12_isSaid 20 = .ok (.iadd, 1) := by decide +kernel
theorem dX12_isSaid_21 : decode cX12_isSaid 21 = .ok (.istore 4, 2) := by decide +kernel
theorem dX12_isSaid_23 : decode cX12_isSaid 23 = .ok (.aload_n 0, 1) := by decide +kernel
theorem dX12_isSaid_24 : decode cX12_isSaid 24 = .ok (.getfield 33, 3) := by decide +kernel
theorem dX12_isSaid_27 : decode cX12_isSaid 27 = .ok (.iload 4, 2) := by decide +kernel
theorem dX12_isSaid_29 : decode cX12_isSaid 29 = .ok (.iaload, 1) := by decide +kernel
theorem dX12_isSaid_30 : decode cX12_isSaid 30 = .ok (.bipush 20, 2) := by decide +kernel
theorem dX12_isSaid_32 : decode cX12_isSaid 32 = .ok (.if_icmp .ne 30, 3) := by decide +kernel
theorem dX12_isSaid_35 : decode cX12_isSaid 35 = .ok (.aload_n 0, 1) := by decide +kernel
theorem dX12_isSaid_36 : decode cX12_isSaid 36 = .ok (.getfield 86, 3) := by decide +kernel
theorem dX12_isSaid_39 : decode cX12_isSaid 39 = .ok (.iload_n 2, 1) := by decide +kernel
theorem dX12_isSaid_40 : decode cX12_isSaid 40 = .ok (.iconst 1, 1) := by decide +kernel
theorem dX12_isSaid_41 : decode cX12_isSaid 41 = .ok (.isub, 1) := by decide +kernel
theorem dX12_isSaid_42 : decode cX12_isSaid 42 = .ok (.aload_n 0, 1) := by decide +kernel
theorem dX12_isSaid_43 : decode cX12_isSaid 43 = .ok (.getfield 86, 3) := by decide +kernel
theorem dX12_isSaid_46 : decode cX12_isSaid 46 = .ok (.iload_n 2, 1) := by decide +kernel
theorem dX12_isSaid_47 : decode cX12_isSaid 47 = .ok (.iconst 1, 1) := by decide +kernel
theorem dX12_isSaid_48 : decode cX12_isSaid 48 = .ok (.isub, 1) := by decide +kernel
theorem dX12_isSaid_49 : decode cX12_isSaid 49 = .ok (.baload, 1) := by decide +kernel
theorem dX12_isSaid_50 : decode cX12_isSaid 50 = .ok (.ifCond .ne 7, 3) := by decide +kernel
theorem dX12_isSaid_53 : decode cX12_isSaid 53 = .ok (.iconst 1, 1) := by decide +kernel
theorem dX12_isSaid_54 : decode cX12_isSaid 54 = .ok (.goto 4, 3) := by decide +kernel
theorem dX12_isSaid_57 : decode cX12_isSaid 57 = .ok (.iconst 0, 1) := by decide +kernel
theorem dX12_isSaid_58 : decode cX12_isSaid 58 = .ok (.bastore, 1) := by decide +kernel
theorem dX12_isSaid_59 : decode cX12_isSaid 59 = .ok (.goto 145, 3) := by decide +kernel
theorem dX12_isSaid_62 : decode cX12_isSaid 62 = .ok (.aload_n 0, 1) := by decide +kernel
theorem dX12_isSaid_63 : decode cX12_isSaid 63 = .ok (.getfield 33, 3) := by decide +kernel
theorem dX12_isSaid_66 : decode cX12_isSaid 66 = .ok (.iload 4, 2) := by decide +kernel
theorem dX12_isSaid_68 : decode cX12_isSaid 68 = .ok (.iaload, 1) := by decide +kernel
theorem dX12_isSaid_69 : decode cX12_isSaid 69 = .ok (.bipush 21, 2) := by decide +kernel
theorem dX12_isSaid_71 : decode cX12_isSaid 71 = .ok (.if_icmp .eq 15, 3) := by decide +kernel
theorem dX12_isSaid_74 : decode cX12_isSaid 74 = .ok (.aload_n 0, 1) := by decide +kernel
theorem dX12_isSaid_75 : decode cX12_isSaid 75 = .ok (.getfield 33, 3) := by decide +kernel
theorem dX12_isSaid_78 : decode cX12_isSaid 78 = .ok (.iload 4, 2) := by decide +kernel
theorem dX12_isSaid_80 : decode cX12_isSaid 80 = .ok (.iaload, 1) := by decide +kernel
theorem dX12_isSaid_81 : decode cX12_isSaid 81 = .ok (.bipush 22, 2) := by decide +kernel
theorem dX12_isSaid_83 : decode cX12_isSaid 83 = .ok (.if_icmp .ne 82, 3) := by decide +kernel
theorem dX12_isSaid_86 : decode cX12_isSaid 86 = .ok (.iinc 2 (-1), 3) := by decide +kernel
theorem dX12_isSaid_89 : decode cX12_isSaid 89 = .ok (.aload_n 0, 1) := by decide +kernel
theorem dX12_isSaid_90 : decode cX12_isSaid 90 = .ok (.getfield 86, 3) := by decide +kernel
theorem dX12_isSaid_93 : decode cX12_isSaid 93 = .ok (.iload_n 2, 1) := by decide +kernel
theorem dX12_isSaid_94 : decode cX12_isSaid 94 = .ok (.iconst 1, 1) := by decide +kernel
theorem dX12_isSaid_95 : decode cX12_isSaid 95 = .ok (.isub, 1) := by decide +kernel
theorem dX12_isSaid_96 : decode cX12_isSaid 96 = .ok (.aload_n 0, 1) := by decide +kernel
theorem dX12_isSaid_97 : decode cX12_isSaid 97 = .ok (.getfield 33, 3) := by decide +kernel
theorem dX12_isSaid_100 : decode cX12_isSaid 100 = .ok (.iload 4, 2) := by decide +kernel
theorem dX12_isSaid_102 : decode cX12_isSaid 102 = .ok (.iaload, 1) := by decide +kernel
theorem dX12_isSaid_103 : decode cX12_isSaid 103 = .ok (.bipush 21, 2) := by decide +kernel
theorem dX12_isSaid_105 : decode cX12_isSaid 105 = .ok (.if_icmp .ne 31, 3) := by decide +kernel
theorem dX12_isSaid_108 : decode cX12_isSaid 108 = .ok (.aload_n 0, 1) := by decide +kernel
theorem dX12_isSaid_109 : decode cX12_isSaid 109 = .ok (.getfield 86, 3) := by decide +kernel
theorem dX12_isSaid_112 : decode cX12_isSaid 112 = .ok (.iload_n 2, 1) := by decide +kernel
theorem dX12_isSaid_113 : decode cX12_isSaid 113 = .ok (.iconst 1, 1) := by decide +kernel
theorem dX12_isSaid_114 : decode cX12_isSaid 114 = .ok (.isub, 1) := by decide +kernel
theorem dX12_isSaid_115 : decode cX12_isSaid 115 = .ok (.baload, 1) := by decide +kernel
theorem dX12_isSaid_116 : decode cX12_isSaid 116 = .ok (.ifCond .eq 16, 3) := by decide +kernel
theorem dX12_isSaid_119 : decode cX12_isSaid 119 = .ok (.aload_n 0, 1) := by decide +kernel
theorem dX12_isSaid_120 : decode cX12_isSaid 120 = .ok (.getfield 86, 3) := by decide +kernel
theorem dX12_isSaid_123 : decode cX12_isSaid 123 = .ok (.iload_n 2, 1) := by decide +kernel
theorem dX12_isSaid_124 : decode cX12_isSaid 124 = .ok (.baload, 1) := by decide +kernel
theorem dX12_isSaid_125 : decode cX12_isSaid 125 = .ok (.ifCond .eq 7, 3) := by decide +kernel
theorem dX12_isSaid_128 : decode cX12_isSaid 128 = .ok (.iconst 1, 1) := by decide +kernel
theorem dX12_isSaid_129 : decode cX12_isSaid 129 = .ok (.goto 32, 3) := by decide +kernel
theorem dX12_isSaid_132 : decode cX12_isSaid 132 = .ok (.iconst 0, 1) := by decide +kernel
theorem dX12_isSaid_133 : decode cX12_isSaid 133 = .ok (.goto 28, 3) := by decide +kernel
theorem dX12_isSaid_136 : decode cX12_isSaid 136 = .ok (.aload_n 0, 1) := by decide +kernel
theorem dX12_isSaid_137 : decode cX12_isSaid 137 = .ok (.getfield 86, 3) := by decide +kernel
theorem dX12_isSaid_140 : decode cX12_isSaid 140 = .ok (.iload_n 2, 1) := by decide +kernel
theorem dX12_isSaid_141 : decode cX12_isSaid 141 = .ok (.iconst 1, 1) := by decide +kernel
theorem dX12_isSaid_142 : decode cX12_isSaid 142 = .ok (.isub, 1) := by decide +kernel
theorem dX12_isSaid_143 : decode cX12_isSaid 143 = .ok (.baload, 1) := by decide +kernel
theorem dX12_isSaid_144 : decode cX12_isSaid 144 = .ok (.ifCond .ne 12, 3) := by decide +kernel
theorem dX12_isSaid_147 : decode cX12_isSaid 147 = .ok (.aload_n 0, 1) := by decide +kernel
theorem dX12_isSaid_148 : decode cX12_isSaid 148 = .ok (.getfield 86, 3) := by decide +kernel
theorem dX12_isSaid_151 : decode cX12_isSaid 151 = .ok (.iload_n 2, 1) := by decide +kernel
theorem dX12_isSaid_152 : decode cX12_isSaid 152 = .ok (.baload, 1) := by decide +kernel
theorem dX12_isSaid_153 : decode cX12_isSaid 153 = .ok (.ifCond .eq 7, 3) := by decide +kernel
theorem dX12_isSaid_156 : decode cX12_isSaid 156 = .ok (.iconst 1, 1) := by decide +kernel
theorem dX12_isSaid_157 : decode cX12_isSaid 157 = .ok (.goto 4, 3) := by decide +kernel
theorem dX12_isSaid_160 : decode cX12_isSaid 160 = .ok (.iconst 0, 1) := by decide +kernel
theorem dX12_isSaid_161 : decode cX12_isSaid 161 = .ok (.bastore, 1) := by decide +kernel
theorem dX12_isSaid_162 : decode cX12_isSaid 162 = .ok (.goto 42, 3) := by decide +kernel
theorem dX12_isSaid_165 : decode cX12_isSaid 165 = .ok (.aload_n 0, 1) := by decide +kernel
theorem dX12_isSaid_166 : decode cX12_isSaid 166 = .ok (.getfield 86, 3) := by decide +kernel
theorem dX12_isSaid_169 : decode cX12_isSaid 169 = .ok (.iload_n 2, 1) := by decide +kernel
theorem dX12_isSaid_170 : decode cX12_isSaid 170 = .ok (.aload_n 0, 1) := by decide +kernel
theorem dX12_isSaid_171 : decode cX12_isSaid 171 = .ok (.iload_n 1, 1) := by decide +kernel
theorem dX12_isSaid_172 : decode cX12_isSaid 172 = .ok (.aload_n 0, 1) := by decide +kernel
theorem dX12_isSaid_173 : decode cX12_isSaid 173 = .ok (.getfield 33, 3) := by decide +kernel
theorem dX12_isSaid_176 : decode cX12_isSaid 176 = .ok (.iload 4, 2) := by decide +kernel
theorem dX12_isSaid_178 : decode cX12_isSaid 178 = .ok (.iaload, 1) := by decide +kernel
theorem dX12_isSaid_179 : decode cX12_isSaid 179 = .ok (.aload_n 0, 1) := by decide +kernel
theorem dX12_isSaid_180 : decode cX12_isSaid 180 = .ok (.getfield 33, 3) := by decide +kernel
theorem dX12_isSaid_183 : decode cX12_isSaid 183 = .ok (.iload 4, 2) := by decide +kernel
theorem dX12_isSaid_185 : decode cX12_isSaid 185 = .ok (.iconst 1, 1) := by decide +kernel
theorem dX12_isSaid_186 : decode cX12_isSaid 186 = .ok (.iadd, 1) := by decide +kernel
theorem dX12_isSaid_187 : decode cX12_isSaid 187 = .ok (.iaload, 1) := by decide +kernel
theorem dX12_isSaid_188 : decode cX12_isSaid 188 = .ok (.aload_n 0, 1) := by decide +kernel
theorem dX12_isSaid_189 : decode cX12_isSaid 189 = .ok (.getfield 33, 3) := by decide +kernel
theorem dX12_isSaid_192 : decode cX12_isSaid 192 = .ok (.iload 4, 2) := by decide +kernel
theorem dX12_isSaid_194 : decode cX12_isSaid 194 = .ok (.iconst 2, 1) := by decide +kernel
theorem dX12_isSaid_195 : decode cX12_isSaid 195 = .ok (.iadd, 1) := by decide +kernel
theorem dX12_isSaid_196 : decode cX12_isSaid 196 = .ok (.iaload, 1) := by decide +kernel
theorem dX12_isSaid_197 : decode cX12_isSaid 197 = .ok (.invokevirtual 449, 3) := by decide +kernel
theorem dX12_isSaid_200 : decode cX12_isSaid 200 = .ok (.bastore, 1) := by decide +kernel
theorem dX12_isSaid_201 : decode cX12_isSaid 201 = .ok (.iinc 2 1, 3) := by decide +kernel
theorem dX12_isSaid_204 : decode cX12_isSaid 204 = .ok (.iinc 3 1, 3) := by decide +kernel
theorem dX12_isSaid_207 : decode cX12_isSaid 207 = .ok (.goto (-203), 3) := by decide +kernel
theorem dX12_isSaid_210 : decode cX12_isSaid 210 = .ok (.aload_n 0, 1) := by decide +kernel
theorem dX12_isSaid_211 : decode cX12_isSaid 211 = .ok (.getfield 86, 3) := by decide +kernel
theorem dX12_isSaid_214 : decode cX12_isSaid 214 = .ok (.iconst 0, 1) := by decide +kernel
theorem dX12_isSaid_215 : decode cX12_isSaid 215 = .ok (.baload, 1) := by decide +kernel
theorem dX12_isSaid_216 : decode cX12_isSaid 216 = .ok (.ireturn, 1) := by decide +kernel
set_option maxRecDepth 20000 in
theorem ggX12_said_X12_isSaid : GoodIn wsX12_said wsX12_isSaid := goodIn_r _ [7, 2, 8, 9, 10, 11, 6, 12, 13, 14, 15, 16, 17, 18, 19, 20, 21, 22, 23, 24, 25, 26, 27, 28, 29, 30, 31, 32, 33, 34, 35, 36, 37, 38, 39, 40, 41, 42, 43, 44, 45, 46, 47, 48, 49, 50, 51, 52, 53, 54, 55, 56, 57, 58, 59, 60, 61, 62, 63, 64, 65, 66, 67, 68, 69, 70, 71, 72, 73, 74, 75, 76, 77, 78, 79, 80] rfl rfl
set_option maxRecDepth 20000 in
theorem gX12_said_X12_isSaid : GoodIn wsX12_said (wsV RX12 452 RX12 yX12_isSaid wsX12_isSaid) := goodIn_app (goodIn_r _ [3, 4, 5, 6] rfl rfl) ggX12_said_X12_isSaid
theorem dX12_said_0 : decode cX12_said 0 = .ok (.aload_n 0, 1) := by decide +kernel
theorem dX12_said_1 : decode cX12_said 1 = .ok (.iconst 0, 1) := by decide +kernel
theorem dX12_said_2 : decode cX12_said 2 = .ok (.putfield 1, 3) := by decide +kernel
theorem dX12_said_5 : decode cX12_said 5 = .ok (.aload_n 0, 1) := by decide +kernel
theorem dX12_said_6 : decode cX12_said 6 = .ok (.getfield 33, 3) := by decide +kernel
theorem dX12_said_9 : decode cX12_said 9 = .ok (.bipush 98, 2) := by decide +kernel
theorem dX12_said_11 : decode cX12_said 11 = .ok (.iaload, 1) := by decide +kernel
theorem dX12_said_12 : decode cX12_said 12 = .ok (.ifCond .eq 8, 3) := by decide +kernel
theorem dX12_said_15 : decode cX12_said 15 = .ok (.iload_n 1, 1) := by decide +kernel
theorem dX12_said_16 : decode cX12_said 16 = .ok (.iconst (-1), 1) := by decide +kernel
theorem dX12_said_17 : decode cX12_said 17 = .ok (.if_icmp .ge 5, 3) := by decide +kernel
theorem dX12_said_20 : decode cX12_said 20 = .ok (.iconst (-1), 1) := by decide +kernel
theorem dX12_said_21 : decode cX12_said 21 = .ok (.ireturn, 1) := by decide +kernel
theorem dX12_said_22 : decode cX12_said 22 = .ok (.iconst 0, 1) := by decide +kernel
theorem dX12_said_23 : decode cX12_said 23 = .ok (.istore_n 2, 1) := by decide +kernel
theorem dX12_said_24 : decode cX12_said 24 = .ok (.iconst 0, 1) := by decide +kernel
theorem dX12_said_25 : decode cX12_said 25 = .ok (.istore_n 3, 1) := by decide +kernel
theorem dX12_said_26 : decode cX12_said 26 = .ok (.iload_n 3, 1) := by decide +kernel
theorem dX12_said_27 : decode cX12_said 27 = .ok (.aload_n 0, 1) := by decide +kernel
theorem dX12_said_28 : decode cX12_said 28 = .ok (.getfield 33, 3) := by decide +kernel
theorem dX12_said_31 : decode cX12_said 31 = .ok (.iconst 0, 1) := by decide +kernel
theorem dX12_said_32 : decode cX12_said 32 = .ok (.iaload, 1) := by decide +kernel
theorem dX12_said_33 : decode cX12_said 33 = .ok (.if_icmp .ge 30, 3) := by decide +kernel
theorem dX12_said_36 : decode cX12_said 36 = .ok (.aload_n 0, 1) := by decide +kernel
theorem dX12_said_37 : decode cX12_said 37 = .ok (.iload_n 3, 1) := by decide +kernel
theorem dX12_said_38 : decode cX12_said 38 = .ok (.invokevirtual 452, 3) := by decide +kernel
theorem dX12_said_41 : decode cX12_said 41 = .ok (.ifCond .ne 6, 3) := by decide +kernel
theorem dX12_said_44 : decode cX12_said 44 = .ok (.goto 13, 3) := by decide +kernel
theorem dX12_said_47 : decode cX12_said 47 = .ok (.iload_n 2, 1) := by decide +kernel
theorem dX12_said_48 : decode cX12_said 48 = .ok (.iload_n 1, 1) := by decide +kernel
theorem dX12_said_49 : decode cX12_said 49 = .ok (.if_icmp .ne 5, 3) := by decide +kernel
theorem dX12_said_52 : decode cX12_said 52 = .ok (.iload_n 3, 1) := by decide +kernel
theorem dX12_said_53 : decode cX12_said 53 = .ok (.ireturn, 1) := by decide +kernel
theorem dX12_said_54 : decode cX12_said 54 = .ok (.iinc 2 1, 3) := by decide +kernel
theorem dX12_said_57 : decode cX12_said 57 = .ok (.iinc 3 1, 3) := by decide +kernel
theorem dX12_said_60 : decode cX12_said 60 = .ok (.goto (-34), 3) := by decide +kernel
theorem dX12_said_63 : decode cX12_said 63 = .ok (.iload_n 1, 1) := by decide +kernel
theorem dX12_said_64 : decode cX12_said 64 = .ok (.iconst (-1), 1) := by decide +kernel
theorem dX12_said_65 : decode cX12_said 65 = .ok (.if_icmp .ne 7, 3) := by decide +kernel
theorem dX12_said_68 : decode cX12_said 68 = .ok (.iload_n 2, 1) := by decide +kernel
theorem dX12_said_69 : decode cX12_said 69 = .ok (.goto 4, 3) := by decide +kernel
theorem dX12_said_72 : decode cX12_said 72 = .ok (.iconst (-1), 1) := by decide +kernel
theorem dX12_said_73 : decode cX12_said 73 = .ok (.ireturn, 1) := by decide +kernel
set_option maxRecDepth 20000 in
theorem ggX12_image_X12_isIn : GoodIn wsX12_image wsX12_isIn := goodIn_r _ [10] rfl rfl
set_option maxRecDepth 20000 in
theorem gX12_image_X12_isIn : GoodIn wsX12_image (va_wsS RX12 186 yX12_isIn wsX12_isIn) := goodIn_app (goodIn_r _ [7, 8, 9] rfl rfl) ggX12_image_X12_isIn
theorem dX12_image_0 : decode cX12_image 0 = .ok (.aload_n 0, 1) := by decide +kernel
theorem dX12_image_1 : decode cX12_image 1 = .ok (.iconst 0, 1) := by decide +kernel
theorem dX12_image_2 : decode cX12_image 2 = .ok (.putfield 1, 3) := by decide +kernel
theorem dX12_image_5 : decode cX12_image 5 = .ok (.iload_n 1, 1) := by decide +kernel
theorem dX12_image_6 : decode cX12_image 6 = .ok (.iconst 0, 1) := by decide +kernel
theorem dX12_image_7 : decode cX12_image 7 = .ok (.iconst 1, 1) := by decide +kernel
theorem dX12_image_8 : decode cX12_image 8 = .ok (.invokestatic 186, 3) := by decide +kernel
theorem dX12_image_11 : decode cX12_image 11 = .ok (.ifCond .ne 5, 3) := by decide +kernel
theorem dX12_image_14 : decode cX12_image 14 = .ok (.iconst 0, 1) := by decide +kernel
theorem dX12_image_15 : decode cX12_image 15 = .ok (.ireturn, 1) := by decide +kernel
theorem dX12_image_16 : decode cX12_image 16 = .ok (.iconst 0, 1) := by decide +kernel
theorem dX12_image_17 : decode cX12_image 17 = .ok (.istore_n 2, 1) := by decide +kernel
theorem dX12_image_18 : decode cX12_image 18 = .ok (.iload_n 2, 1) := by decide +kernel
theorem dX12_image_19 : decode cX12_image 19 = .ok (.sipush 279, 3) := by decide +kernel
theorem dX12_image_22 : decode cX12_image 22 = .ok (.if_icmp .ge 27, 3) := by decide +kernel
theorem dX12_image_25 : decode cX12_image 25 = .ok (.aload_n 0, 1) := by decide +kernel
theorem dX12_image_26 : decode cX12_image 26 = .ok (.getfield 90, 3) := by decide +kernel
theorem dX12_image_29 : decode cX12_image 29 = .ok (.sipush 279, 3) := by decide +kernel
theorem dX12_image_32 : decode cX12_image 32 = .ok (.iload_n 1, 1) := by decide +kernel
theorem dX12_image_33 : decode cX12_image 33 = .ok (.imul, 1) := by decide +kernel
theorem dX12_image_34 : decode cX12_image 34 = .ok (.iload_n 2, 1) := by decide +kernel
theorem dX12_image_35 : decode cX12_image 35 = .ok (.iadd, 1) := by decide +kernel
theorem dX12_image_36 : decode cX12_image 36 = .ok (.aload_n 0, 1) := by decide +kernel
theorem dX12_image_37 : decode cX12_image 37 = .ok (.getfield 33, 3) := by decide +kernel
theorem dX12_image_40 : decode cX12_image 40 = .ok (.iload_n 2, 1) := by decide +kernel
theorem dX12_image_41 : decode cX12_image 41 = .ok (.iaload, 1) := by decide +kernel
theorem dX12_image_42 : decode cX12_image 42 = .ok (.iastore, 1) := by decide +kernel
theorem dX12_image_43 : decode cX12_image 43 = .ok (.iinc 2 1, 3) := by decide +kernel
theorem dX12_image_46 : decode cX12_image 46 = .ok (.goto (-28), 3) := by decide +kernel
theorem dX12_image_49 : decode cX12_image 49 = .ok (.iconst 0, 1) := by decide +kernel
theorem dX12_image_50 : decode cX12_image 50 = .ok (.istore_n 2, 1) := by decide +kernel
theorem dX12_image_51 : decode cX12_image 51 = .ok (.iload_n 2, 1) := by decide +kernel
theorem dX12_image_52 : decode cX12_image 52 = .ok (.bipush 14, 2) := by decide +kernel
theorem dX12_image_54 : decode cX12_image 54 = .ok (.if_icmp .ge 26, 3) := by decide +kernel
theorem dX12_image_57 : decode cX12_image 57 = .ok (.aload_n 0, 1) := by decide +kernel
theorem dX12_image_58 : decode cX12_image 58 = .ok (.getfield 93, 3) := by decide +kernel
theorem dX12_image_61 : decode cX12_image 61 = .ok (.bipush 14, 2) := by decide +kernel
theorem dX12_image_63 : decode cX12_image 63 = .ok (.iload_n 1, 1) := by decide +kernel
theorem dX12_image_64 : decode cX12_image 64 = .ok (.imul, 1) := by decide +kernel
theorem dX12_image_65 : decode cX12_image 65 = .ok (.iload_n 2, 1) := by decide +kernel
theorem dX12_image_66 : decode cX12_image 66 = .ok (.iadd, 1) := by decide +kernel
theorem dX12_image_67 : decode cX12_image 67 = .ok (.aload_n 0, 1) := by decide +kernel
theorem dX12_image_68 : decode cX12_image 68 = .ok (.getfield 43, 3) := by decide +kernel
theorem dX12_image_71 : decode cX12_image 71 = .ok (.iload_n 2, 1) := by decide +kernel
theorem dX12_image_72 : decode cX12_image 72 = .ok (.laload, 1) := by decide +kernel
theorem dX12_image_73 : decode cX12_image 73 = .ok (.lastore, 1) := by decide +kernel
theorem dX12_image_74 : decode cX12_image 74 = .ok (.iinc 2 1, 3) := by decide +kernel
theorem dX12_image_77 : decode cX12_image 77 = .ok (.goto (-26), 3) := by decide +kernel
theorem dX12_image_80 : decode cX12_image 80 = .ok (.aload_n 0, 1) := by decide +kernel
theorem dX12_image_81 : decode cX12_image 81 = .ok (.getfield 96, 3) := by decide +kernel
theorem dX12_image_84 : decode cX12_image 84 = .ok (.iload_n 1, 1) := by decide +kernel
theorem dX12_image_85 : decode cX12_image 85 = .ok (.iconst 1, 1) := by decide +kernel
theorem dX12_image_86 : decode cX12_image 86 = .ok (.bastore, 1) := by decide +kernel
theorem dX12_image_87 : decode cX12_image 87 = .ok (.iconst 1, 1) := by decide +kernel
theorem dX12_image_88 : decode cX12_image 88 = .ok (.ireturn, 1) := by decide +kernel
set_option maxRecDepth 20000 in
theorem ggX12_restore_X12_isIn : GoodIn wsX12_restore wsX12_isIn := goodIn_r _ [11] rfl rfl
set_option maxRecDepth 20000 in
theorem gX12_restore_X12_isIn : GoodIn wsX12_restore (va_wsS RX12 186 yX12_isIn wsX12_isIn) := goodIn_app (goodIn_r _ [8, 9, 10] rfl rfl) ggX12_restore_X12_isIn
theorem dX12_restore_0 : decode cX12_restore 0 = .ok (.aload_n 0, 1) := by decide +kernel
theorem dX12_restore_1 : decode cX12_restore 1 = .ok (.iconst 0, 1) := by decide +kernel
theorem dX12_restore_2 : decode cX12_restore 2 = .ok (.putfield 1, 3) := by decide +kernel
theorem dX12_restore_5 : decode cX12_restore 5 = .ok (.iload_n 1, 1) := by decide +kernel
theorem dX12_restore_6 : decode cX12_restore 6 = .ok (.iconst 0, 1) := by decide +kernel
theorem dX12_restore_7 : decode cX12_restore 7 = .ok (.iconst 1, 1) := by decide +kernel
theorem dX12_restore_8 : decode cX12_restore 8 = .ok (.invokestatic 186, 3) := by decide +kernel
theorem dX12_restore_11 : decode cX12_restore 11 = .ok (.ifCond .eq 12, 3) := by decide +kernel
theorem dX12_restore_14 : decode cX12_restore 14 = .ok (.aload_n 0, 1) := by decide +kernel
theorem dX12_restore_15 : decode cX12_restore 15 = .ok (.getfield 96, 3) := by decide +kernel
theorem dX12_restore_18 : decode cX12_restore 18 = .ok (.iload_n 1, 1) := by decide +kernel
theorem dX12_restore_19 : decode cX12_restore 19 = .ok (.baload, 1) := by decide +kernel
theorem dX12_restore_20 : decode cX12_restore 20 = .ok (.ifCond .ne 5, 3) := by decide +kernel
theorem dX12_restore_23 : decode cX12_restore 23 = .ok (.iconst 0, 1) := by decide +kernel
theorem dX12_restore_24 : decode cX12_restore 24 = .ok (.ireturn, 1) := by decide +kernel
theorem dX12_restore_25 : decode cX12_restore 25 = .ok (.iconst 0, 1) := by decide +kernel
theorem dX12_restore_26 : decode cX12_restore 26 = .ok (.istore_n 2, 1) := by decide +kernel
theorem dX12_restore_27 : decode cX12_restore 27 = .ok (.iload_n 2, 1) := by decide +kernel
theorem dX12_restore_28 : decode cX12_restore 28 = .ok (.sipush 279, 3) := by decide +kernel
theorem dX12_restore_31 : decode cX12_restore 31 = .ok (.if_icmp .ge 27, 3) := by decide +kernel
theorem dX12_restore_34 : decode cX12_restore 34 = .ok (.aload_n 0, 1) := by decide +kernel
theorem dX12_restore_35 : decode cX12_restore 35 = .ok (.getfield 33, 3) := by decide +kernel
theorem dX12_restore_38 : decode cX12_restore 38 = .ok (.iload_n 2, 1) := by decide +kernel
theorem dX12_restore_39 : decode cX12_restore 39 = .ok (.aload_n 0, 1) := by decide +kernel
theorem dX12_restore_40 : decode cX12_restore 40 = .ok (.getfield 90, 3) := by decide +kernel
theorem dX12_restore_43 : decode cX12_restore 43 = .ok (.sipush 279, 3) := by decide +kernel
theorem dX12_restore_46 : decode cX12_restore 46 = .ok (.iload_n 1, 1) := by decide +kernel
theorem dX12_restore_47 : decode cX12_restore 47 = .ok (.imul, 1) := by decide +kernel
theorem dX12_restore_48 : decode cX12_restore 48 = .ok (.iload_n 2, 1) := by decide +kernel
theorem dX12_restore_49 : decode cX12_restore 49 = .ok (.iadd, 1) := by decide +kernel
theorem dX12_restore_50 : decode cX12_restore 50 = .ok (.iaload, 1) := by decide +kernel
theorem dX12_restore_51 : decode cX12_restore 51 = .ok (.iastore, 1) := by decide +kernel
theorem dX12_restore_52 : decode cX12_restore 52 = .ok (.iinc 2 1, 3) := by decide +kernel
theorem dX12_restore_55 : decode cX12_restore 55 = .ok (.goto (-28), 3) := by decide +kernel
theorem dX12_restore_58 : decode cX12_restore 58 = .ok (.iconst 0, 1) := by decide +kernel
theorem dX12_restore_59 : decode cX12_restore 59 = .ok (.istore_n 2, 1) := by decide +kernel
theorem dX12_restore_60 : decode cX12_restore 60 = .ok (.iload_n 2, 1) := by decide +kernel
theorem dX12_restore_61 : decode cX12_restore 61 = .ok (.bipush 14, 2) := by decide +kernel
theorem dX12_restore_63 : decode cX12_restore 63 = .ok (.if_icmp .ge 26, 3) := by decide +kernel
theorem dX12_restore_66 : decode cX12_restore 66 = .ok (.aload_n 0, 1) := by decide +kernel
theorem dX12_restore_67 : decode cX12_restore 67 = .ok (.getfield 43, 3) := by decide +kernel
theorem dX12_restore_70 : decode cX12_restore 70 = .ok (.iload_n 2, 1) := by decide +kernel
theorem dX12_restore_71 : decode cX12_restore 71 = .ok (.aload_n 0, 1) := by decide +kernel
theorem dX12_restore_72 : decode cX12_restore 72 = .ok (.getfield 93, 3) := by decide +kernel
theorem dX12_restore_75 : decode cX12_restore 75 = .ok (.bipush 14, 2) := by decide +kernel
theorem dX12_restore_77 : decode cX12_restore 77 = .ok (.iload_n 1, 1) := by decide +kernel
theorem dX12_restore_78 : decode cX12_restore 78 = .ok (.imul, 1) := by decide +kernel
theorem dX12_restore_79 : decode cX12_restore 79 = .ok (.iload_n 2, 1) := by decide +kernel
theorem dX12_restore_80 : decode cX12_restore 80 = .ok (.iadd, 1) := by decide +kernel
theorem dX12_restore_81 : decode cX12_restore 81 = .ok (.laload, 1) := by decide +kernel
theorem dX12_restore_82 : decode cX12_restore 82 = .ok (.lastore, 1) := by decide +kernel
theorem dX12_restore_83 : decode cX12_restore 83 = .ok (.iinc 2 1, 3) := by decide +kernel
theorem dX12_restore_86 : decode cX12_restore 86 = .ok (.goto (-26), 3) := by decide +kernel
theorem dX12_restore_89 : decode cX12_restore 89 = .ok (.aload_n 0, 1) := by decide +kernel
theorem dX12_restore_90 : decode cX12_restore 90 = .ok (.iconst 0, 1) := by decide +kernel
theorem dX12_restore_91 : decode cX12_restore 91 = .ok (.putfield 248, 3) := by decide +kernel
theorem dX12_restore_94 : decode cX12_restore 94 = .ok (.iconst 1, 1) := by decide +kernel
theorem dX12_restore_95 : decode cX12_restore 95 = .ok (.ireturn, 1) := by decide +kernel
set_option maxRecDepth 20000 in
theorem ggX12_count_X12_isIn : GoodIn wsX12_count wsX12_isIn := goodIn_r _ [7] rfl rfl
set_option maxRecDepth 20000 in
theorem gX12_count_X12_isIn : GoodIn wsX12_count (va_wsS RX12 186 yX12_isIn wsX12_isIn) := goodIn_app (goodIn_r _ [4, 5, 6] rfl rfl) ggX12_count_X12_isIn
theorem dX12_count_0 : decode cX12_count 0 = .ok (.aload_n 0, 1) := by decide +kernel
theorem dX12_count_1 : decode cX12_count 1 = .ok (.iconst 0, 1) := by decide +kernel
theorem dX12_count_2 : decode cX12_count 2 = .ok (.putfield 1, 3) := by decide +kernel
theorem dX12_count_5 : decode cX12_count 5 = .ok (.iload_n 1, 1) := by decide +kernel
theorem dX12_count_6 : decode cX12_count 6 = .ok (.iconst 3, 1) := by decide +kernel
theorem dX12_count_7 : decode cX12_count 7 = .ok (.if_icmp .ne 10, 3) := by decide +kernel
theorem dX12_count_10 : decode cX12_count 10 = .ok (.aload_n 0, 1) := by decide +kernel
theorem dX12_count_11 : decode cX12_count 11 = .ok (.getfield 7, 3) := by decide +kernel
theorem dX12_count_14 : decode cX12_count 14 = .ok (.goto 22, 3) := by decide +kernel
theorem dX12_count_17 : decode cX12_count 17 = .ok (.iload_n 1, 1) := by decide +kernel
theorem dX12_count_18 : decode cX12_count 18 = .ok (.iconst 0, 1) := by decide +kernel
theorem dX12_count_19 : decode cX12_count 19 = .ok (.iconst 2, 1) := by decide +kernel
theorem dX12_count_20 : decode cX12_count 20 = .ok (.invokestatic 186, 3) := by decide +kernel
theorem dX12_count_23 : decode cX12_count 23 = .ok (.ifCond .eq 12, 3) := by decide +kernel
theorem dX12_count_26 : decode cX12_count 26 = .ok (.aload_n 0, 1) := by decide +kernel
theorem dX12_count_27 : decode cX12_count 27 = .ok (.getfield 33, 3) := by decide +kernel
theorem dX12_count_30 : decode cX12_count 30 = .ok (.iload_n 1, 1) := by decide +kernel
theorem dX12_count_31 : decode cX12_count 31 = .ok (.iaload, 1) := by decide +kernel
theorem dX12_count_32 : decode cX12_count 32 = .ok (.goto 4, 3) := by decide +kernel
theorem dX12_count_35 : decode cX12_count 35 = .ok (.iconst (-1), 1) := by decide +kernel
theorem dX12_count_36 : decode cX12_count 36 = .ok (.ireturn, 1) := by decide +kernel
set_option maxRecDepth 20000 in
theorem ggJ5_init_d00df_J2_newBytesFor_77867 : GoodIn wsJ5_init_d00df wsJ2_newBytesFor_77867 := goodIn_r _ [11, 5, 12, 13, 10, 14, 15] rfl rfl
set_option maxRecDepth 20000 in
theorem gJ5_init_d00df_J2_newBytesFor_77867 : GoodIn wsJ5_init_d00df (va_wsS RJ5 26 yJ2_newBytesFor_77867 wsJ2_newBytesFor_77867) := goodIn_app (goodIn_r _ [8, 9, 10] rfl rfl) ggJ5_init_d00df_J2_newBytesFor_77867
theorem dJ5_init_d00df_0 : decode cJ5_init_d00df 0 = .ok (.aload_n 0, 1) := by decide +kernel
theorem dJ5_init_d00df_1 : decode cJ5_init_d00df 1 = .ok (.invokespecial 3, 3) := by decide +kernel
theorem dJ5_init_d00df_4 : decode cJ5_init_d00df 4 = .ok (.getstatic 18, 3) := by decide +kernel
theorem dJ5_init_d00df_7 : decode cJ5_init_d00df 7 = .ok (.ifCond .eq 18, 3) := by decide +kernel
theorem dJ5_init_d00df_10 : decode cJ5_init_d00df 10 = .ok (.aload_n 0, 1) := by decide +kernel
theorem dJ5_init_d00df_11 : decode cJ5_init_d00df 11 = .ok (.iload_n 1, 1) := by decide +kernel
theorem dJ5_init_d00df_12 : decode cJ5_init_d00df 12 = .ok (.newarray .byte, 2) := by decide +kernel
theorem dJ5_init_d00df_14 : decode cJ5_init_d00df 14 = .ok (.putfield 15, 3) := by decide +kernel
theorem dJ5_init_d00df_17 : decode cJ5_init_d00df 17 = .ok (.aload_n 0, 1) := by decide +kernel
theorem dJ5_init_d00df_18 : decode cJ5_init_d00df 18 = .ok (.iconst 0, 1) := by decide +kernel
theorem dJ5_init_d00df_19 : decode cJ5_init_d00df 19 = .ok (.putfield 22, 3) := by decide +kernel
theorem dJ5_init_d00df_22 : decode cJ5_init_d00df 22 = .ok (.goto 16, 3) := by decide +kernel
theorem dJ5_init_d00df_25 : decode cJ5_init_d00df 25 = .ok (.aload_n 0, 1) := by decide +kernel
theorem dJ5_init_d00df_26 : decode cJ5_init_d00df 26 = .ok (.iload_n 1, 1) := by decide +kernel
theorem dJ5_init_d00df_27 : decode cJ5_init_d00df 27 = .ok (.invokestatic 26, 3) := by decide +kernel
theorem dJ5_init_d00df_30 : decode cJ5_init_d00df 30 = .ok (.putfield 15, 3) := by decide +kernel
theorem dJ5_init_d00df_33 : decode cJ5_init_d00df 33 = .ok (.aload_n 0, 1) := by decide +kernel
theorem dJ5_init_d00df_34 : decode cJ5_init_d00df 34 = .ok (.iconst 1, 1) := by decide +kernel
theorem dJ5_init_d00df_35 : decode cJ5_init_d00df 35 = .ok (.putfield 22, 3) := by decide +kernel
theorem dJ5_init_d00df_38 : decode cJ5_init_d00df 38 = .ok (.return_, 1) := by decide +kernel
theorem dJ5_length_8abf5_0 : decode cJ5_length_8abf5 0 = .ok (.aload_n 0, 1) := by decide +kernel
theorem dJ5_length_8abf5_1 : decode cJ5_length_8abf5 1 = .ok (.getfield 79, 3) := by decide +kernel
theorem dJ5_length_8abf5_4 : decode cJ5_length_8abf5 4 = .ok (.ireturn, 1) := by decide +kernel
set_option maxRecDepth 20000 in
theorem ggJ5_ensureCapacityInternal_d00df_J5_newCapacity_0f7a4 : GoodIn wsJ5_ensureCapacityInternal_d00df wsJ5_newCapacity_0f7a4 := goodIn_r _ [8, 1, 2, 9, 10, 11, 12, 13, 14, 15, 16, 17, 18, 19, 20, 21, 40, 41, 42, 43] rfl rfl
set_option maxRecDepth 20000 in
theorem gJ5_ensureCapacityInternal_d00df_J5_newCapacity_0f7a4_u104J4 : GoodIn wsJ5_ensureCapacityInternal_d00df (va_wsU RJ5 104 RJ4 "java/lang/AbstractStringBuilder" ⟨"java/lang/AbstractStringBuilder", "newCapacity", "(I)I"⟩ yJ5_newCapacity_0f7a4 wsJ5_newCapacity_0f7a4) := goodIn_app (goodIn_of _ (by decide +kernel)) ggJ5_ensureCapacityInternal_d00df_J5_newCapacity_0f7a4
set_option maxRecDepth 20000 in
theorem ggJ5_ensureCapacityInternal_d00df_J7_copyOf_9075b : GoodIn wsJ5_ensureCapacityInternal_d00df wsJ7_copyOf_9075b := goodIn_r _ [25, 26, 27, 28, 29, 30, 31, 32, 33, 34, 16, 35, 36, 37, 38, 39] rfl rfl
set_option maxRecDepth 20000 in
theorem gJ5_ensureCapacityInternal_d00df_J7_copyOf_9075b : GoodIn wsJ5_ensureCapacityInternal_d00df (va_wsS RJ5 108 yJ7_copyOf_9075b wsJ7_copyOf_9075b) := goodIn_app (goodIn_r _ [22, 23, 24] rfl rfl) ggJ5_ensureCapacityInternal_d00df_J7_copyOf_9075b
theorem dJ5_ensureCapacityInternal_d00df_0 : decode cJ5_ensureCapacityInternal_d00df 0 = .ok (.aload_n 0, 1) := by decide +kernel
theorem dJ5_ensureCapacityInternal_d00df_1 : decode cJ5_ensureCapacityInternal_d00df 1 = .ok (.getfield 15, 3) := by decide +kernel
theorem dJ5_ensureCapacityInternal_d00df_4 : decode cJ5_ensureCapacityInternal_d00df 4 = .ok (.arraylength, 1) := by decide +kernel
theorem dJ5_ensureCapacityInternal_d00df_5 : decode cJ5_ensureCapacityInternal_d00df 5 = .ok (.aload_n 0, 1) := by decide +kernel
theorem dJ5_ensureCapacityInternal_d00df_6 : decode cJ5_ensureCapacityInternal_d00df 6 = .ok (.getfield 22, 3) := by decide +kernel
theorem dJ5_ensureCapacityInternal_d00df_9 : decode cJ5_ensureCapacityInternal_d00df 9 = .ok (.ishr, 1) := by decide +kernel
theorem dJ5_ensureCapacityInternal_d00df_10 : decode cJ5_ensureCapacityInternal_d00df 10 = .ok (.istore_n 2, 1) := by decide +kernel
theorem dJ5_ensureCapacityInternal_d00df_11 : decode cJ5_ensureCapacityInternal_d00df 11 = .ok (.iload_n 1, 1) := by decide +kernel
theorem dJ5_ensureCapacityInternal_d00df_12 : decode cJ5_ensureCapacityInternal_d00df 12 = .ok (.iload_n 2, 1) := by decide +kernel
theorem dJ5_ensureCapacityInternal_d00df_13 : decode cJ5_ensureCapacityInternal_d00df 13 = .ok (.isub, 1) := by decide +kernel
theorem dJ5_ensureCapacityInternal_d00df_14 : decode cJ5_ensureCapacityInternal_d00df 14 = .ok (.ifCond .le 24, 3) := by decide +kernel
theorem dJ5_ensureCapacityInternal_d00df_17 : decode cJ5_ensureCapacityInternal_d00df 17 = .ok (.aload_n 0, 1) := by decide +kernel
theorem dJ5_ensureCapacityInternal_d00df_18 : decode cJ5_ensureCapacityInternal_d00df 18 = .ok (.aload_n 0, 1) := by decide +kernel
theorem dJ5_ensureCapacityInternal_d00df_19 : decode cJ5_ensureCapacityInternal_d00df 19 = .ok (.getfield 15, 3) := by decide +kernel
theorem dJ5_ensureCapacityInternal_d00df_22 : decode cJ5_ensureCapacityInternal_d00df 22 = .ok (.aload_n 0, 1) := by decide +kernel
theorem dJ5_ensureCapacityInternal_d00df_23 : decode cJ5_ensureCapacityInternal_d00df 23 = .ok (.iload_n 1, 1) := by decide +kernel
theorem dJ5_ensureCapacityInternal_d00df_24 : decode cJ5_ensureCapacityInternal_d00df 24 = .ok (.invokevirtual 104, 3) := by decide +kernel
theorem dJ5_ensureCapacityInternal_d00df_27 : decode cJ5_ensureCapacityInternal_d00df 27 = .ok (.aload_n 0, 1) := by decide +kernel
theorem dJ5_ensureCapacityInternal_d00df_28 : decode cJ5_ensureCapacityInternal_d00df 28 = .ok (.getfield 22, 3) := by decide +kernel
theorem dJ5_ensureCapacityInternal_d00df_31 : decode cJ5_ensureCapacityInternal_d00df 31 = .ok (.ishl, 1) := by decide +kernel
theorem dJ5_ensureCapacityInternal_d00df_32 : decode cJ5_ensureCapacityInternal_d00df 32 = .ok (.invokestatic 108, 3) := by decide +kernel
theorem dJ5_ensureCapacityInternal_d00df_35 : decode cJ5_ensureCapacityInternal_d00df 35 = .ok (.putfield 15, 3) := by decide +kernel
theorem dJ5_ensureCapacityInternal_d00df_38 : decode cJ5_ensureCapacityInternal_d00df 38 = .ok (.return_, 1) := by decide +kernel
set_option maxRecDepth 20000 in
theorem ggJ5_newCapacity_0f7a4_J8_newLength_cabcc : GoodIn wsJ5_newCapacity_0f7a4 wsJ8_newLength_cabcc := goodIn_r _ [7, 8, 9, 10, 11, 12, 13, 14, 6, 15] rfl rfl
set_option maxRecDepth 20000 in
theorem gJ5_newCapacity_0f7a4_J8_newLength_cabcc : GoodIn wsJ5_newCapacity_0f7a4 (va_wsS RJ5 114 yJ8_newLength_cabcc wsJ8_newLength_cabcc) := goodIn_app (goodIn_r _ [4, 5, 6] rfl rfl) ggJ5_newCapacity_0f7a4_J8_newLength_cabcc
theorem dJ5_newCapacity_0f7a4_0 : decode cJ5_newCapacity_0f7a4 0 = .ok (.aload_n 0, 1) := by decide +kernel
theorem dJ5_newCapacity_0f7a4_1 : decode cJ5_newCapacity_0f7a4 1 = .ok (.getfield 15, 3) := by decide +kernel
theorem dJ5_newCapacity_0f7a4_4 : decode cJ5_newCapacity_0f7a4 4 = .ok (.arraylength, 1) := by decide +kernel
theorem dJ5_newCapacity_0f7a4_5 : decode cJ5_newCapacity_0f7a4 5 = .ok (.istore_n 2, 1) := by decide +kernel
theorem dJ5_newCapacity_0f7a4_6 : decode cJ5_newCapacity_0f7a4 6 = .ok (.iload_n 1, 1) := by decide +kernel
theorem dJ5_newCapacity_0f7a4_7 : decode cJ5_newCapacity_0f7a4 7 = .ok (.aload_n 0, 1) := by decide +kernel
theorem dJ5_newCapacity_0f7a4_8 : decode cJ5_newCapacity_0f7a4 8 = .ok (.getfield 22, 3) := by decide +kernel
theorem dJ5_newCapacity_0f7a4_11 : decode cJ5_newCapacity_0f7a4 11 = .ok (.ishl, 1) := by decide +kernel
theorem dJ5_newCapacity_0f7a4_12 : decode cJ5_newCapacity_0f7a4 12 = .ok (.istore_n 3, 1) := by decide +kernel
theorem dJ5_newCapacity_0f7a4_13 : decode cJ5_newCapacity_0f7a4 13 = .ok (.iload_n 3, 1) := by decide +kernel
theorem dJ5_newCapacity_0f7a4_14 : decode cJ5_newCapacity_0f7a4 14 = .ok (.iload_n 2, 1) := by decide +kernel
theorem dJ5_newCapacity_0f7a4_15 : decode cJ5_newCapacity_0f7a4 15 = .ok (.isub, 1) := by decide +kernel
theorem dJ5_newCapacity_0f7a4_16 : decode cJ5_newCapacity_0f7a4 16 = .ok (.istore 4, 2) := by decide +kernel
theorem dJ5_newCapacity_0f7a4_18 : decode cJ5_newCapacity_0f7a4 18 = .ok (.iload_n 2, 1) := by decide +kernel
theorem dJ5_newCapacity_0f7a4_19 : decode cJ5_newCapacity_0f7a4 19 = .ok (.iload 4, 2) := by decide +kernel
theorem dJ5_newCapacity_0f7a4_21 : decode cJ5_newCapacity_0f7a4 21 = .ok (.iload_n 2, 1) := by decide +kernel
theorem dJ5_newCapacity_0f7a4_22 : decode cJ5_newCapacity_0f7a4 22 = .ok (.iconst 2, 1) := by decide +kernel
theorem dJ5_newCapacity_0f7a4_23 : decode cJ5_newCapacity_0f7a4 23 = .ok (.aload_n 0, 1) := by decide +kernel
theorem dJ5_newCapacity_0f7a4_24 : decode cJ5_newCapacity_0f7a4 24 = .ok (.getfield 22, 3) := by decide +kernel
theorem dJ5_newCapacity_0f7a4_27 : decode cJ5_newCapacity_0f7a4 27 = .ok (.ishl, 1) := by decide +kernel
theorem dJ5_newCapacity_0f7a4_28 : decode cJ5_newCapacity_0f7a4 28 = .ok (.iadd, 1) := by decide +kernel
theorem dJ5_newCapacity_0f7a4_29 : decode cJ5_newCapacity_0f7a4 29 = .ok (.invokestatic 114, 3) := by decide +kernel
theorem dJ5_newCapacity_0f7a4_32 : decode cJ5_newCapacity_0f7a4 32 = .ok (.istore 5, 2) := by decide +kernel
theorem dJ5_newCapacity_0f7a4_34 : decode cJ5_newCapacity_0f7a4 34 = .ok (.iload 5, 2) := by decide +kernel
theorem dJ5_newCapacity_0f7a4_36 : decode cJ5_newCapacity_0f7a4 36 = .ok (.ldc 39, 2) := by decide +kernel
theorem dJ5_newCapacity_0f7a4_38 : decode cJ5_newCapacity_0f7a4 38 = .ok (.if_icmp .ne 13, 3) := by decide +kernel
theorem dJ5_newCapacity_0f7a4_41 : decode cJ5_newCapacity_0f7a4 41 = .ok (.new 120, 3) := by decide +kernel
theorem dJ5_newCapacity_0f7a4_44 : decode cJ5_newCapacity_0f7a4 44 = .ok (.dup, 1) := by decide +kernel
theorem dJ5_newCapacity_0f7a4_45 : decode cJ5_newCapacity_0f7a4 45 = .ok (.ldc 122, 2) := by decide +kernel
theorem dJ5_newCapacity_0f7a4_47 : decode cJ5_newCapacity_0f7a4 47 = .ok (.invokespecial 124, 3) := by decide +kernel
theorem dJ5_newCapacity_0f7a4_50 : decode cJ5_newCapacity_0f7a4 50 = .ok (.athrow, 1) := by decide +kernel
theorem dJ5_newCapacity_0f7a4_51 : decode cJ5_newCapacity_0f7a4 51 = .ok (.iload 5, 2) := by decide +kernel
theorem dJ5_newCapacity_0f7a4_53 : decode cJ5_newCapacity_0f7a4 53 = .ok (.aload_n 0, 1) := by decide +kernel
theorem dJ5_newCapacity_0f7a4_54 : decode cJ5_newCapacity_0f7a4 54 = .ok (.getfield 22, 3) := by decide +kernel
theorem dJ5_newCapacity_0f7a4_57 : decode cJ5_newCapacity_0f7a4 57 = .ok (.ishr, 1) := by decide +kernel
theorem dJ5_newCapacity_0f7a4_58 : decode cJ5_newCapacity_0f7a4 58 = .ok (.ireturn, 1) := by decide +kernel
set_option maxRecDepth 20000 in
theorem ggJ5_inflate_da8c8_J5_isLatin1_aae02 : GoodIn wsJ5_inflate_da8c8 wsJ5_isLatin1_aae02 := goodIn_r _ [9, 10, 3, 48, 49, 50, 51] rfl rfl
set_option maxRecDepth 20000 in
theorem gJ5_inflate_da8c8_J5_isLatin1_aae02_u83J4 : GoodIn wsJ5_inflate_da8c8 (va_wsU RJ5 83 RJ4 "java/lang/AbstractStringBuilder" ⟨"java/lang/AbstractStringBuilder", "isLatin1", "()Z"⟩ yJ5_isLatin1_aae02 wsJ5_isLatin1_aae02) := goodIn_app (goodIn_of _ (by decide +kernel)) ggJ5_inflate_da8c8_J5_isLatin1_aae02
set_option maxRecDepth 20000 in
theorem ggJ5_inflate_da8c8_J2_newBytesFor_77867 : GoodIn wsJ5_inflate_da8c8 wsJ2_newBytesFor_77867 := goodIn_r _ [14, 15, 16, 17, 13, 18, 19] rfl rfl
set_option maxRecDepth 20000 in
theorem gJ5_inflate_da8c8_J2_newBytesFor_77867 : GoodIn wsJ5_inflate_da8c8 (va_wsS RJ5 26 yJ2_newBytesFor_77867 wsJ2_newBytesFor_77867) := goodIn_app (goodIn_r _ [11, 12, 13] rfl rfl) ggJ5_inflate_da8c8_J2_newBytesFor_77867
set_option maxRecDepth 20000 in
theorem ggJ5_inflate_da8c8_J1_inflate_0e8fd : GoodIn wsJ5_inflate_da8c8 wsJ1_inflate_0e8fd := goodIn_r _ [23, 24, 25, 13, 26, 27, 28, 29, 30, 31, 32, 33, 34, 35, 36, 37, 38, 39, 40, 41, 42, 43, 44, 45, 46, 47] rfl rfl
set_option maxRecDepth 20000 in
theorem gJ5_inflate_da8c8_J1_inflate_0e8fd : GoodIn wsJ5_inflate_da8c8 (va_wsS RJ5 125 yJ1_inflate_0e8fd wsJ1_inflate_0e8fd) := goodIn_app (goodIn_r _ [20, 21, 22] rfl rfl) ggJ5_inflate_da8c8_J1_inflate_0e8fd
theorem dJ5_inflate_da8c8_0 : decode cJ5_inflate_da8c8 0 = .ok (.aload_n 0, 1) := by decide +kernel
theorem dJ5_inflate_da8c8_1 : decode cJ5_inflate_da8c8 1 = .ok (.invokevirtual 83, 3) := by decide +kernel
theorem dJ5_inflate_da8c8_4 : decode cJ5_inflate_da8c8 4 = .ok (.ifCond .ne 4, 3) := by decide +kernel
theorem dJ5_inflate_da8c8_7 : decode cJ5_inflate_da8c8 7 = .ok (.return_, 1) := by decide +kernel
theorem dJ5_inflate_da8c8_8 : decode cJ5_inflate_da8c8 8 = .ok (.aload_n 0, 1) := by decide +kernel
theorem dJ5_inflate_da8c8_9 : decode cJ5_inflate_da8c8 9 = .ok (.getfield 15, 3) := by decide +kernel
theorem dJ5_inflate_da8c8_12 : decode cJ5_inflate_da8c8 12 = .ok (.arraylength, 1) := by decide +kernel
theorem dJ5_inflate_da8c8_13 : decode cJ5_inflate_da8c8 13 = .ok (.invokestatic 26, 3) := by decide +kernel
theorem dJ5_inflate_da8c8_16 : decode cJ5_inflate_da8c8 16 = .ok (.astore_n 1, 1) := by decide +kernel
theorem dJ5_inflate_da8c8_17 : decode cJ5_inflate_da8c8 17 = .ok (.aload_n 0, 1) := by decide +kernel
theorem dJ5_inflate_da8c8_18 : decode cJ5_inflate_da8c8 18 = .ok (.getfield 15, 3) := by decide +kernel
theorem dJ5_inflate_da8c8_21 : decode cJ5_inflate_da8c8 21 = .ok (.iconst 0, 1) := by decide +kernel
theorem dJ5_inflate_da8c8_22 : decode cJ5_inflate_da8c8 22 = .ok (.aload_n 1, 1) := by decide +kernel
theorem dJ5_inflate_da8c8_23 : decode cJ5_inflate_da8c8 23 = .ok (.iconst 0, 1) := by decide +kernel
theorem dJ5_inflate_da8c8_24 : decode cJ5_inflate_da8c8 24 = .ok (.aload_n 0, 1) := by decide +kernel
theorem dJ5_inflate_da8c8_25 : decode cJ5_inflate_da8c8 25 = .ok (.getfield 79, 3) := by decide +kernel
theorem dJ5_inflate_da8c8_28 : decode cJ5_inflate_da8c8 28 = .ok (.invokestatic 125, 3) := by decide +kernel
theorem dJ5_inflate_da8c8_31 : decode cJ5_inflate_da8c8 31 = .ok (.aload_n 0, 1) := by decide +kernel
theorem dJ5_inflate_da8c8_32 : decode cJ5_inflate_da8c8 32 = .ok (.aload_n 1, 1) := by decide +kernel
theorem dJ5_inflate_da8c8_33 : decode cJ5_inflate_da8c8 33 = .ok (.putfield 15, 3) := by decide +kernel
theorem dJ5_inflate_da8c8_36 : decode cJ5_inflate_da8c8 36 = .ok (.aload_n 0, 1) := by decide +kernel
theorem dJ5_inflate_da8c8_37 : decode cJ5_inflate_da8c8 37 = .ok (.iconst 1, 1) := by decide +kernel
theorem dJ5_inflate_da8c8_38 : decode cJ5_inflate_da8c8 38 = .ok (.putfield 22, 3) := by decide +kernel
theorem dJ5_inflate_da8c8_41 : decode cJ5_inflate_da8c8 41 = .ok (.return_, 1) := by decide +kernel
set_option maxRecDepth 20000 in
theorem ggJ5_setLength_d00df_J5_ensureCapacityInternal_d00df : GoodIn wsJ5_setLength_d00df wsJ5_ensureCapacityInternal_d00df := goodIn_r _ [9, 2, 10, 11, 12, 13, 14, 8, 15, 16, 17, 18, 19, 20, 21, 22, 23, 24, 25, 26, 27, 28, 29, 30, 31, 32, 33, 34, 35, 36, 37, 38, 39, 40, 41, 42, 43, 44, 45, 46, 68, 69, 70, 71] rfl rfl
set_option maxRecDepth 20000 in
theorem gJ5_setLength_d00df_J5_ensureCapacityInternal_d00df_u100J4 : GoodIn wsJ5_setLength_d00df (va_wsU RJ5 100 RJ4 "java/lang/AbstractStringBuilder" ⟨"java/lang/AbstractStringBuilder", "ensureCapacityInternal", "(I)V"⟩ yJ5_ensureCapacityInternal_d00df wsJ5_ensureCapacityInternal_d00df) := goodIn_app (goodIn_of _ (by decide +kernel)) ggJ5_setLength_d00df_J5_ensureCapacityInternal_d00df
set_option maxRecDepth 20000 in
theorem ggJ5_setLength_d00df_J5_isLatin1_aae02 : GoodIn wsJ5_setLength_d00df wsJ5_isLatin1_aae02 := goodIn_r _ [51, 52, 10, 68, 69, 70, 71] rfl rfl
set_option maxRecDepth 20000 in
theorem gJ5_setLength_d00df_J5_isLatin1_aae02_u83J4 : GoodIn wsJ5_setLength_d00df (va_wsU RJ5 83 RJ4 "java/lang/AbstractStringBuilder" ⟨"java/lang/AbstractStringBuilder", "isLatin1", "()Z"⟩ yJ5_isLatin1_aae02 wsJ5_isLatin1_aae02) := goodIn_app (goodIn_of _ (by decide +kernel)) ggJ5_setLength_d00df_J5_isLatin1_aae02
set_option maxRecDepth 20000 in
theorem ggJ5_setLength_d00df_J1_fillNull_b72d1 : GoodIn wsJ5_setLength_d00df wsJ1_fillNull_b72d1 := goodIn_r _ [56, 57, 58, 31, 59, 60, 61, 62] rfl rfl
set_option maxRecDepth 20000 in
theorem gJ5_setLength_d00df_J1_fillNull_b72d1 : GoodIn wsJ5_setLength_d00df (va_wsS RJ5 133 yJ1_fillNull_b72d1 wsJ1_fillNull_b72d1) := goodIn_app (goodIn_r _ [53, 54, 55] rfl rfl) ggJ5_setLength_d00df_J1_fillNull_b72d1
set_option maxRecDepth 20000 in
theorem ggJ5_setLength_d00df_J2_fillNull_b72d1 : GoodIn wsJ5_setLength_d00df wsJ2_fillNull_b72d1 := goodIn_r _ [66, 67, 58, 31, 59, 60, 61, 62] rfl rfl
set_option maxRecDepth 20000 in
theorem gJ5_setLength_d00df_J2_fillNull_b72d1 : GoodIn wsJ5_setLength_d00df (va_wsS RJ5 137 yJ2_fillNull_b72d1 wsJ2_fillNull_b72d1) := goodIn_app (goodIn_r _ [63, 64, 65] rfl rfl) ggJ5_setLength_d00df_J2_fillNull_b72d1
theorem dJ5_setLength_d00df_0 : decode cJ5_setLength_d00df 0 = .ok (.iload_n 1, 1) := by decide +kernel
theorem dJ5_setLength_d00df_1 : decode cJ5_setLength_d00df 1 = .ok (.ifCond .ge 12, 3) := by decide +kernel
theorem dJ5_setLength_d00df_4 : decode cJ5_setLength_d00df 4 = .ok (.new 129, 3) := by decide +kernel
theorem dJ5_setLength_d00df_7 : decode cJ5_setLength_d00df 7 = .ok (.dup, 1) := by decide +kernel
theorem dJ5_setLength_d00df_8 : decode cJ5_setLength_d00df 8 = .ok (.iload_n 1, 1) := by decide +kernel
theorem dJ5_setLength_d00df_9 : decode cJ5_setLength_d00df 9 = .ok (.invokespecial 131, 3) := by decide +kernel
theorem dJ5_setLength_d00df_12 : decode cJ5_setLength_d00df 12 = .ok (.athrow, 1) := by decide +kernel
theorem dJ5_setLength_d00df_13 : decode cJ5_setLength_d00df 13 = .ok (.aload_n 0, 1) := by decide +kernel
theorem dJ5_setLength_d00df_14 : decode cJ5_setLength_d00df 14 = .ok (.iload_n 1, 1) := by decide +kernel
theorem dJ5_setLength_d00df_15 : decode cJ5_setLength_d00df 15 = .ok (.invokevirtual 100, 3) := by decide +kernel
theorem dJ5_setLength_d00df_18 : decode cJ5_setLength_d00df 18 = .ok (.aload_n 0, 1) := by decide +kernel
theorem dJ5_setLength_d00df_19 : decode cJ5_setLength_d00df 19 = .ok (.getfield 79, 3) := by decide +kernel
theorem dJ5_setLength_d00df_22 : decode cJ5_setLength_d00df 22 = .ok (.iload_n 1, 1) := by decide +kernel
theorem dJ5_setLength_d00df_23 : decode cJ5_setLength_d00df 23 = .ok (.if_icmp .ge 40, 3) := by decide +kernel
theorem dJ5_setLength_d00df_26 : decode cJ5_setLength_d00df 26 = .ok (.aload_n 0, 1) := by decide +kernel
theorem dJ5_setLength_d00df_27 : decode cJ5_setLength_d00df 27 = .ok (.invokevirtual 83, 3) := by decide +kernel
theorem dJ5_setLength_d00df_30 : decode cJ5_setLength_d00df 30 = .ok (.ifCond .eq 18, 3) := by decide +kernel
theorem dJ5_setLength_d00df_33 : decode cJ5_setLength_d00df 33 = .ok (.aload_n 0, 1) := by decide +kernel
theorem dJ5_setLength_d00df_34 : decode cJ5_setLength_d00df 34 = .ok (.getfield 15, 3) := by decide +kernel
theorem dJ5_setLength_d00df_37 : decode cJ5_setLength_d00df 37 = .ok (.aload_n 0, 1) := by decide +kernel
theorem dJ5_setLength_d00df_38 : decode cJ5_setLength_d00df 38 = .ok (.getfield 79, 3) := by decide +kernel
theorem dJ5_setLength_d00df_41 : decode cJ5_setLength_d00df 41 = .ok (.iload_n 1, 1) := by decide +kernel
theorem dJ5_setLength_d00df_42 : decode cJ5_setLength_d00df 42 = .ok (.invokestatic 133, 3) := by decide +kernel
theorem dJ5_setLength_d00df_45 : decode cJ5_setLength_d00df 45 = .ok (.goto 31, 3) := by decide +kernel
theorem dJ5_setLength_d00df_48 : decode cJ5_setLength_d00df 48 = .ok (.aload_n 0, 1) := by decide +kernel
theorem dJ5_setLength_d00df_49 : decode cJ5_setLength_d00df 49 = .ok (.getfield 15, 3) := by decide +kernel
theorem dJ5_setLength_d00df_52 : decode cJ5_setLength_d00df 52 = .ok (.aload_n 0, 1) := by decide +kernel
theorem dJ5_setLength_d00df_53 : decode cJ5_setLength_d00df 53 = .ok (.getfield 79, 3) := by decide +kernel
theorem dJ5_setLength_d00df_56 : decode cJ5_setLength_d00df 56 = .ok (.iload_n 1, 1) := by decide +kernel
theorem dJ5_setLength_d00df_57 : decode cJ5_setLength_d00df 57 = .ok (.invokestatic 137, 3) := by decide +kernel
theorem dJ5_setLength_d00df_60 : decode cJ5_setLength_d00df 60 = .ok (.goto 16, 3) := by decide +kernel
theorem dJ5_setLength_d00df_63 : decode cJ5_setLength_d00df 63 = .ok (.aload_n 0, 1) := by decide +kernel
theorem dJ5_setLength_d00df_64 : decode cJ5_setLength_d00df 64 = .ok (.getfield 79, 3) := by decide +kernel
theorem dJ5_setLength_d00df_67 : decode cJ5_setLength_d00df 67 = .ok (.iload_n 1, 1) := by decide +kernel
theorem dJ5_setLength_d00df_68 : decode cJ5_setLength_d00df 68 = .ok (.if_icmp .le 8, 3) := by decide +kernel
theorem dJ5_setLength_d00df_71 : decode cJ5_setLength_d00df 71 = .ok (.aload_n 0, 1) := by decide +kernel
theorem dJ5_setLength_d00df_72 : decode cJ5_setLength_d00df 72 = .ok (.iconst 1, 1) := by decide +kernel
theorem dJ5_setLength_d00df_73 : decode cJ5_setLength_d00df 73 = .ok (.putfield 73, 3) := by decide +kernel
theorem dJ5_setLength_d00df_76 : decode cJ5_setLength_d00df 76 = .ok (.aload_n 0, 1) := by decide +kernel
theorem dJ5_setLength_d00df_77 : decode cJ5_setLength_d00df 77 = .ok (.iload_n 1, 1) := by decide +kernel
theorem dJ5_setLength_d00df_78 : decode cJ5_setLength_d00df 78 = .ok (.putfield 79, 3) := by decide +kernel
theorem dJ5_setLength_d00df_81 : decode cJ5_setLength_d00df 81 = .ok (.return_, 1) := by decide +kernel
set_option maxRecDepth 20000 in
theorem ggJ5_charAt_5068e_J0_checkIndex_df160 : GoodIn wsJ5_charAt_5068e wsJ0_checkIndex_df160 := goodIn_r _ [11, 12, 13, 14, 15, 16] rfl rfl
set_option maxRecDepth 20000 in
theorem gJ5_charAt_5068e_J0_checkIndex_df160 : GoodIn wsJ5_charAt_5068e (va_wsS RJ5 144 yJ0_checkIndex_df160 wsJ0_checkIndex_df160) := goodIn_app (goodIn_r _ [8, 9, 10] rfl rfl) ggJ5_charAt_5068e_J0_checkIndex_df160
set_option maxRecDepth 20000 in
theorem ggJ5_charAt_5068e_J2_getChar_3b067 : GoodIn wsJ5_charAt_5068e wsJ2_getChar_3b067 := goodIn_r _ [20, 21, 22, 23, 24, 25, 19, 26] rfl rfl
set_option maxRecDepth 20000 in
theorem gJ5_charAt_5068e_J2_getChar_3b067 : GoodIn wsJ5_charAt_5068e (va_wsS RJ5 148 yJ2_getChar_3b067 wsJ2_getChar_3b067) := goodIn_app (goodIn_r _ [17, 18, 19] rfl rfl) ggJ5_charAt_5068e_J2_getChar_3b067
theorem dJ5_charAt_5068e_0 : decode cJ5_charAt_5068e 0 = .ok (.aload_n 0, 1) := by decide +kernel
theorem dJ5_charAt_5068e_1 : decode cJ5_charAt_5068e 1 = .ok (.getfield 22, 3) := by decide +kernel
theorem dJ5_charAt_5068e_4 : decode cJ5_charAt_5068e 4 = .ok (.istore_n 2, 1) := by decide +kernel
theorem dJ5_charAt_5068e_5 : decode cJ5_charAt_5068e 5 = .ok (.aload_n 0, 1) := by decide +kernel
theorem dJ5_charAt_5068e_6 : decode cJ5_charAt_5068e 6 = .ok (.getfield 15, 3) := by decide +kernel
theorem dJ5_charAt_5068e_9 : decode cJ5_charAt_5068e 9 = .ok (.astore_n 3, 1) := by decide +kernel
theorem dJ5_charAt_5068e_10 : decode cJ5_charAt_5068e 10 = .ok (.aload_n 0, 1) := by decide +kernel
theorem dJ5_charAt_5068e_11 : decode cJ5_charAt_5068e 11 = .ok (.getfield 79, 3) := by decide +kernel
theorem dJ5_charAt_5068e_14 : decode cJ5_charAt_5068e 14 = .ok (.aload_n 3, 1) := by decide +kernel
theorem dJ5_charAt_5068e_15 : decode cJ5_charAt_5068e 15 = .ok (.arraylength, 1) := by decide +kernel
theorem dJ5_charAt_5068e_16 : decode cJ5_charAt_5068e 16 = .ok (.iload_n 2, 1) := by decide +kernel
theorem dJ5_charAt_5068e_17 : decode cJ5_charAt_5068e 17 = .ok (.ishr, 1) := by decide +kernel
theorem dJ5_charAt_5068e_18 : decode cJ5_charAt_5068e 18 = .ok (.invokestatic 138, 3) := by decide +kernel
theorem dJ5_charAt_5068e_21 : decode cJ5_charAt_5068e 21 = .ok (.istore 4, 2) := by decide +kernel
theorem dJ5_charAt_5068e_23 : decode cJ5_charAt_5068e 23 = .ok (.iload_n 1, 1) := by decide +kernel
theorem dJ5_charAt_5068e_24 : decode cJ5_charAt_5068e 24 = .ok (.iload 4, 2) := by decide +kernel
theorem dJ5_charAt_5068e_26 : decode cJ5_charAt_5068e 26 = .ok (.invokestatic 144, 3) := by decide +kernel
theorem dJ5_charAt_5068e_29 : decode cJ5_charAt_5068e 29 = .ok (.iload_n 2, 1) := by decide +kernel
theorem dJ5_charAt_5068e_30 : decode cJ5_charAt_5068e 30 = .ok (.ifCond .ne 12, 3) := by decide +kernel
theorem dJ5_charAt_5068e_33 : decode cJ5_charAt_5068e 33 = .ok (.aload_n 3, 1) := by decide +kernel
theorem dJ5_charAt_5068e_34 : decode cJ5_charAt_5068e 34 = .ok (.iload_n 1, 1) := by decide +kernel
theorem dJ5_charAt_5068e_35 : decode cJ5_charAt_5068e 35 = .ok (.baload, 1) := by decide +kernel
theorem dJ5_charAt_5068e_36 : decode cJ5_charAt_5068e 36 = .ok (.sipush 255, 3) := by decide +kernel
theorem dJ5_charAt_5068e_39 : decode cJ5_charAt_5068e 39 = .ok (.iand, 1) := by decide +kernel
theorem dJ5_charAt_5068e_40 : decode cJ5_charAt_5068e 40 = .ok (.i2c, 1) := by decide +kernel
theorem dJ5_charAt_5068e_41 : decode cJ5_charAt_5068e 41 = .ok (.ireturn, 1) := by decide +kernel
theorem dJ5_charAt_5068e_42 : decode cJ5_charAt_5068e 42 = .ok (.aload_n 3, 1) := by decide +kernel
theorem dJ5_charAt_5068e_43 : decode cJ5_charAt_5068e 43 = .ok (.iload_n 1, 1) := by decide +kernel
theorem dJ5_charAt_5068e_44 : decode cJ5_charAt_5068e 44 = .ok (.invokestatic 148, 3) := by decide +kernel
theorem dJ5_charAt_5068e_47 : decode cJ5_charAt_5068e 47 = .ok (.ireturn, 1) := by decide +kernel
set_option maxRecDepth 20000 in
theorem ggJ5_append_cf1ce_J5_appendNull_278bc : GoodIn wsJ5_append_cf1ce wsJ5_appendNull_278bc := goodIn_r _ [7, 1, 8, 9, 10, 11, 12, 6, 13, 14, 15, 16, 17, 18, 19, 20, 21, 22, 23, 24, 25, 26, 27, 28, 29, 30, 31, 32, 33, 34, 35, 36, 37, 38, 39, 40, 41, 42, 43, 44, 45, 46, 47, 48, 49, 50, 51, 52, 53, 54, 55, 56, 57, 58, 59, 60, 61, 62, 63, 64, 65, 66, 67, 68, 69, 70, 71, 72, 73, 74, 75, 76, 77, 78, 79, 80, 81, 138, 139, 140, 141] rfl rfl
set_option maxRecDepth 20000 in
theorem gJ5_append_cf1ce_J5_appendNull_278bc_u204J4 : GoodIn wsJ5_append_cf1ce (va_wsU RJ5 204 RJ4 "java/lang/AbstractStringBuilder" ⟨"java/lang/AbstractStringBuilder", "appendNull", "()Ljava/lang/AbstractStringBuilder;"⟩ yJ5_appendNull_278bc wsJ5_appendNull_278bc) := goodIn_app (goodIn_of _ (by decide +kernel)) ggJ5_append_cf1ce_J5_appendNull_278bc
set_option maxRecDepth 20000 in
theorem ggJ5_append_cf1ce_J0_length_8abf5 : GoodIn wsJ5_append_cf1ce wsJ0_length_8abf5 := goodIn_r _ [85, 86, 87, 88, 89, 70, 90, 91, 92] rfl rfl
set_option maxRecDepth 20000 in
theorem gJ5_append_cf1ce_J0_length_8abf5 : GoodIn wsJ5_append_cf1ce (wsV RJ5 32 RJ0 yJ0_length_8abf5 wsJ0_length_8abf5) := goodIn_app (goodIn_r _ [82, 83, 84, 70] rfl rfl) ggJ5_append_cf1ce_J0_length_8abf5
set_option maxRecDepth 20000 in
theorem ggJ5_append_cf1ce_J5_ensureCapacityInternal_d00df : GoodIn wsJ5_append_cf1ce wsJ5_ensureCapacityInternal_d00df := goodIn_r _ [13, 8, 14, 15, 16, 17, 18, 6, 19, 20, 21, 22, 23, 24, 25, 26, 27, 28, 29, 30, 31, 32, 33, 34, 35, 36, 37, 38, 39, 40, 41, 42, 43, 44, 45, 46, 47, 48, 49, 50, 138, 139, 140, 141] rfl rfl
set_option maxRecDepth 20000 in
theorem gJ5_append_cf1ce_J5_ensureCapacityInternal_d00df_u100J4 : GoodIn wsJ5_append_cf1ce (va_wsU RJ5 100 RJ4 "java/lang/AbstractStringBuilder" ⟨"java/lang/AbstractStringBuilder", "ensureCapacityInternal", "(I)V"⟩ yJ5_ensureCapacityInternal_d00df wsJ5_ensureCapacityInternal_d00df) := goodIn_app (goodIn_of _ (by decide +kernel)) ggJ5_append_cf1ce_J5_ensureCapacityInternal_d00df
set_option maxRecDepth 20000 in
theorem ggJ5_append_cf1ce_J5_putStringAt_47b60 : GoodIn wsJ5_append_cf1ce wsJ5_putStringAt_47b60 := goodIn_r _ [97, 8, 14, 98, 99, 100, 101, 6, 102, 56, 103, 88, 89, 70, 90, 91, 92, 104, 105, 106, 107, 108, 1, 51, 52, 53, 54, 55, 109, 110, 59, 111, 43, 112, 113, 114, 115, 116, 117, 118, 119, 120, 121, 122, 123, 124, 125, 65, 66, 67, 126, 127, 128, 72, 129, 130, 75, 131, 77, 78, 79, 61, 80, 81, 132, 133, 134, 135, 86, 136, 48, 49, 50, 87, 137, 138, 139, 140, 141] rfl rfl
set_option maxRecDepth 20000 in
theorem gJ5_append_cf1ce_J5_putStringAt_47b60_u208J4 : GoodIn wsJ5_append_cf1ce (va_wsU RJ5 208 RJ4 "java/lang/AbstractStringBuilder" ⟨"java/lang/AbstractStringBuilder", "putStringAt", "(ILjava/lang/String;)V"⟩ yJ5_putStringAt_47b60 wsJ5_putStringAt_47b60) := goodIn_app (goodIn_of _ (by decide +kernel)) ggJ5_append_cf1ce_J5_putStringAt_47b60
theorem dJ5_append_cf1ce_0 : decode cJ5_append_cf1ce 0 = .ok (.aload_n 1, 1) := by decide +kernel
theorem dJ5_append_cf1ce_1 : decode cJ5_append_cf1ce 1 = .ok (.ifnonnull 8, 3) := by decide +kernel
theorem dJ5_append_cf1ce_4 : decode cJ5_append_cf1ce 4 = .ok (.aload_n 0, 1) := by decide +kernel
theorem dJ5_append_cf1ce_5 : decode cJ5_append_cf1ce 5 = .ok (.invokevirtual 204, 3) := by decide +kernel
theorem dJ5_append_cf1ce_8 : decode cJ5_append_cf1ce 8 = .ok (.areturn, 1) := by decide +kernel
theorem dJ5_append_cf1ce_9 : decode cJ5_append_cf1ce 9 = .ok (.aload_n 1, 1) := by decide +kernel
theorem dJ5_append_cf1ce_10 : decode cJ5_append_cf1ce 10 = .ok (.invokevirtual 32, 3) := by decide +kernel
theorem dJ5_append_cf1ce_13 : decode cJ5_append_cf1ce 13 = .ok (.istore_n 2, 1) := by decide +kernel
theorem dJ5_append_cf1ce_14 : decode cJ5_append_cf1ce 14 = .ok (.aload_n 0, 1) := by decide +kernel
theorem dJ5_append_cf1ce_15 : decode cJ5_append_cf1ce 15 = .ok (.aload_n 0, 1) := by decide +kernel
theorem dJ5_append_cf1ce_16 : decode cJ5_append_cf1ce 16 = .ok (.getfield 79, 3) := by decide +kernel
theorem dJ5_append_cf1ce_19 : decode cJ5_append_cf1ce 19 = .ok (.iload_n 2, 1) := by decide +kernel
theorem dJ5_append_cf1ce_20 : decode cJ5_append_cf1ce 20 = .ok (.iadd, 1) := by decide +kernel
theorem dJ5_append_cf1ce_21 : decode cJ5_append_cf1ce 21 = .ok (.invokevirtual 100, 3) := by decide +kernel
theorem dJ5_append_cf1ce_24 : decode cJ5_append_cf1ce 24 = .ok (.aload_n 0, 1) := by decide +kernel
theorem dJ5_append_cf1ce_25 : decode cJ5_append_cf1ce 25 = .ok (.aload_n 0, 1) := by decide +kernel
theorem dJ5_append_cf1ce_26 : decode cJ5_append_cf1ce 26 = .ok (.getfield 79, 3) := by decide +kernel
theorem dJ5_append_cf1ce_29 : decode cJ5_append_cf1ce 29 = .ok (.aload_n 1, 1) := by decide +kernel
theorem dJ5_append_cf1ce_30 : decode cJ5_append_cf1ce 30 = .ok (.invokevirtual 208, 3) := by decide +kernel
theorem dJ5_append_cf1ce_33 : decode cJ5_append_cf1ce 33 = .ok (.aload_n 0, 1) := by decide +kernel
theorem dJ5_append_cf1ce_34 : decode cJ5_append_cf1ce 34 = .ok (.dup, 1) := by decide +kernel
theorem dJ5_append_cf1ce_35 : decode cJ5_append_cf1ce 35 = .ok (.getfield 79, 3) := by decide +kernel
theorem dJ5_append_cf1ce_38 : decode cJ5_append_cf1ce 38 = .ok (.iload_n 2, 1) := by decide +kernel
theorem dJ5_append_cf1ce_39 : decode cJ5_append_cf1ce 39 = .ok (.iadd, 1) := by decide +kernel
theorem dJ5_append_cf1ce_40 : decode cJ5_append_cf1ce 40 = .ok (.putfield 79, 3) := by decide +kernel
theorem dJ5_append_cf1ce_43 : decode cJ5_append_cf1ce 43 = .ok (.aload_n 0, 1) := by decide +kernel
theorem dJ5_append_cf1ce_44 : decode cJ5_append_cf1ce 44 = .ok (.areturn, 1) := by decide +kernel
set_option maxRecDepth 20000 in
theorem ggJ5_appendNull_278bc_J5_ensureCapacityInternal_d00df : GoodIn wsJ5_appendNull_278bc wsJ5_ensureCapacityInternal_d00df := goodIn_r _ [8, 2, 9, 10, 11, 12, 13, 7, 14, 15, 16, 17, 18, 19, 20, 21, 22, 23, 24, 25, 26, 27, 28, 29, 30, 31, 32, 33, 34, 35, 36, 37, 38, 39, 40, 41, 42, 43, 44, 45, 77, 78, 79, 80] rfl rfl
set_option maxRecDepth 20000 in
theorem gJ5_appendNull_278bc_J5_ensureCapacityInternal_d00df_u100J4 : GoodIn wsJ5_appendNull_278bc (va_wsU RJ5 100 RJ4 "java/lang/AbstractStringBuilder" ⟨"java/lang/AbstractStringBuilder", "ensureCapacityInternal", "(I)V"⟩ yJ5_ensureCapacityInternal_d00df wsJ5_ensureCapacityInternal_d00df) := goodIn_app (goodIn_of _ (by decide +kernel)) ggJ5_appendNull_278bc_J5_ensureCapacityInternal_d00df
set_option maxRecDepth 20000 in
theorem ggJ5_appendNull_278bc_J5_isLatin1_aae02 : GoodIn wsJ5_appendNull_278bc wsJ5_isLatin1_aae02 := goodIn_r _ [50, 51, 9, 77, 78, 79, 80] rfl rfl
set_option maxRecDepth 20000 in
theorem gJ5_appendNull_278bc_J5_isLatin1_aae02_u83J4 : GoodIn wsJ5_appendNull_278bc (va_wsU RJ5 83 RJ4 "java/lang/AbstractStringBuilder" ⟨"java/lang/AbstractStringBuilder", "isLatin1", "()Z"⟩ yJ5_isLatin1_aae02 wsJ5_isLatin1_aae02) := goodIn_app (goodIn_of _ (by decide +kernel)) ggJ5_appendNull_278bc_J5_isLatin1_aae02
set_option maxRecDepth 20000 in
theorem ggJ5_appendNull_278bc_J2_putCharsAt_cd4e5 : GoodIn wsJ5_appendNull_278bc wsJ2_putCharsAt_cd4e5 := goodIn_r _ [55, 56, 57, 58, 54, 59, 60, 61, 62, 63, 64, 65, 66, 67, 68, 69, 70, 71, 72, 73, 74, 75, 76] rfl rfl
set_option maxRecDepth 20000 in
theorem gJ5_appendNull_278bc_J2_putCharsAt_cd4e5 : GoodIn wsJ5_appendNull_278bc (va_wsS RJ5 226 yJ2_putCharsAt_cd4e5 wsJ2_putCharsAt_cd4e5) := goodIn_app (goodIn_r _ [52, 53, 54] rfl rfl) ggJ5_appendNull_278bc_J2_putCharsAt_cd4e5
theorem dJ5_appendNull_278bc_0 : decode cJ5_appendNull_278bc 0 = .ok (.aload_n 0, 1) := by decide +kernel
theorem dJ5_appendNull_278bc_1 : decode cJ5_appendNull_278bc 1 = .ok (.aload_n 0, 1) := by decide +kernel
theorem dJ5_appendNull_278bc_2 : decode cJ5_appendNull_278bc 2 = .ok (.getfield 79, 3) := by decide +kernel
theorem dJ5_appendNull_278bc_5 : decode cJ5_appendNull_278bc 5 = .ok (.iconst 4, 1) := by decide +kernel
theorem dJ5_appendNull_278bc_6 : decode cJ5_appendNull_278bc 6 = .ok (.iadd, 1) := by decide +kernel
theorem dJ5_appendNull_278bc_7 : decode cJ5_appendNull_278bc 7 = .ok (.invokevirtual 100, 3) := by decide +kernel
theorem dJ5_appendNull_278bc_10 : decode cJ5_appendNull_278bc 10 = .ok (.aload_n 0, 1) := by decide +kernel
theorem dJ5_appendNull_278bc_11 : decode cJ5_appendNull_278bc 11 = .ok (.getfield 79, 3) := by decide +kernel
theorem dJ5_appendNull_278bc_14 : decode cJ5_appendNull_278bc 14 = .ok (.istore_n 1, 1) := by decide +kernel
theorem dJ5_appendNull_278bc_15 : decode cJ5_appendNull_278bc 15 = .ok (.aload_n 0, 1) := by decide +kernel
theorem dJ5_appendNull_278bc_16 : decode cJ5_appendNull_278bc 16 = .ok (.getfield 15, 3) := by decide +kernel
theorem dJ5_appendNull_278bc_19 : decode cJ5_appendNull_278bc 19 = .ok (.astore_n 2, 1) := by decide +kernel
theorem dJ5_appendNull_278bc_20 : decode cJ5_appendNull_278bc 20 = .ok (.aload_n 0, 1) := by decide +kernel
theorem dJ5_appendNull_278bc_21 : decode cJ5_appendNull_278bc 21 = .ok (.invokevirtual 83, 3) := by decide +kernel
theorem dJ5_appendNull_278bc_24 : decode cJ5_appendNull_278bc 24 = .ok (.ifCond .eq 38, 3) := by decide +kernel
theorem dJ5_appendNull_278bc_27 : decode cJ5_appendNull_278bc 27 = .ok (.aload_n 2, 1) := by decide +kernel
theorem dJ5_appendNull_278bc_28 : decode cJ5_appendNull_278bc 28 = .ok (.iload_n 1, 1) := by decide +kernel
theorem dJ5_appendNull_278bc_29 : decode cJ5_appendNull_278bc 29 = .ok (.iinc 1 1, 3) := by decide +kernel
theorem dJ5_appendNull_278bc_32 : decode cJ5_appendNull_278bc 32 = .ok (.bipush 110, 2) := by decide +kernel
theorem dJ5_appendNull_278bc_34 : decode cJ5_appendNull_278bc 34 = .ok (.bastore, 1) := by decide +kernel
theorem dJ5_appendNull_278bc_35 : decode cJ5_appendNull_278bc 35 = .ok (.aload_n 2, 1) := by decide +kernel
theorem dJ5_appendNull_278bc_36 : decode cJ5_appendNull_278bc 36 = .ok (.iload_n 1, 1) := by decide +kernel
theorem dJ5_appendNull_278bc_37 : decode cJ5_appendNull_278bc 37 = .ok (.iinc 1 1, 3) := by decide +kernel
theorem dJ5_appendNull_278bc_40 : decode cJ5_appendNull_278bc 40 = .ok (.bipush 117, 2) := by decide +kernel
theorem dJ5_appendNull_278bc_42 : decode cJ5_appendNull_278bc 42 = .ok (.bastore, 1) := by decide +kernel
theorem dJ5_appendNull_278bc_43 : decode cJ5_appendNull_278bc 43 = .ok (.aload_n 2, 1) := by decide +kernel
theorem dJ5_appendNull_278bc_44 : decode cJ5_appendNull_278bc 44 = .ok (.iload_n 1, 1) := by decide +kernel
theorem dJ5_appendNull_278bc_45 : decode cJ5_appendNull_278bc 45 = .ok (.iinc 1 1, 3) := by decide +kernel
theorem dJ5_appendNull_278bc_48 : decode cJ5_appendNull_278bc 48 = .ok (.bipush 108, 2) := by decide +kernel
theorem dJ5_appendNull_278bc_50 : decode cJ5_appendNull_278bc 50 = .ok (.bastore, 1) := by decide +kernel
theorem dJ5_appendNull_278bc_51 : decode cJ5_appendNull_278bc 51 = .ok (.aload_n 2, 1) := by decide +kernel
theorem dJ5_appendNull_278bc_52 : decode cJ5_appendNull_278bc 52 = .ok (.iload_n 1, 1) := by decide +kernel
theorem dJ5_appendNull_278bc_53 : decode cJ5_appendNull_278bc 53 = .ok (.iinc 1 1, 3) := by decide +kernel
theorem dJ5_appendNull_278bc_56 : decode cJ5_appendNull_278bc 56 = .ok (.bipush 108, 2) := by decide +kernel
theorem dJ5_appendNull_278bc_58 : decode cJ5_appendNull_278bc 58 = .ok (.bastore, 1) := by decide +kernel
theorem dJ5_appendNull_278bc_59 : decode cJ5_appendNull_278bc 59 = .ok (.goto 17, 3) := by decide +kernel
theorem dJ5_appendNull_278bc_62 : decode cJ5_appendNull_278bc 62 = .ok (.aload_n 2, 1) := by decide +kernel
theorem dJ5_appendNull_278bc_63 : decode cJ5_appendNull_278bc 63 = .ok (.iload_n 1, 1) := by decide +kernel
theorem dJ5_appendNull_278bc_64 : decode cJ5_appendNull_278bc 64 = .ok (.bipush 110, 2) := by decide +kernel
theorem dJ5_appendNull_278bc_66 : decode cJ5_appendNull_278bc 66 = .ok (.bipush 117, 2) := by decide +kernel
theorem dJ5_appendNull_278bc_68 : decode cJ5_appendNull_278bc 68 = .ok (.bipush 108, 2) := by decide +kernel
theorem dJ5_appendNull_278bc_70 : decode cJ5_appendNull_278bc 70 = .ok (.bipush 108, 2) := by decide +kernel
theorem dJ5_appendNull_278bc_72 : decode cJ5_appendNull_278bc 72 = .ok (.invokestatic 226, 3) := by decide +kernel
theorem dJ5_appendNull_278bc_75 : decode cJ5_appendNull_278bc 75 = .ok (.istore_n 1, 1) := by decide +kernel
theorem dJ5_appendNull_278bc_76 : decode cJ5_appendNull_278bc 76 = .ok (.aload_n 0, 1) := by decide +kernel
theorem dJ5_appendNull_278bc_77 : decode cJ5_appendNull_278bc 77 = .ok (.iload_n 1, 1) := by decide +kernel
theorem dJ5_appendNull_278bc_78 : decode cJ5_appendNull_278bc 78 = .ok (.putfield 79, 3) := by decide +kernel
theorem dJ5_appendNull_278bc_81 : decode cJ5_appendNull_278bc 81 = .ok (.aload_n 0, 1) := by decide +kernel
theorem dJ5_appendNull_278bc_82 : decode cJ5_appendNull_278bc 82 = .ok (.areturn, 1) := by decide +kernel
set_option maxRecDepth 20000 in
theorem ggJ5_append_3fe6f_J5_ensureCapacityInternal_d00df : GoodIn wsJ5_append_3fe6f wsJ5_ensureCapacityInternal_d00df := goodIn_r _ [8, 2, 9, 10, 11, 12, 13, 7, 14, 15, 16, 17, 18, 19, 20, 21, 22, 23, 24, 25, 26, 27, 28, 29, 30, 31, 32, 33, 34, 35, 36, 37, 38, 39, 40, 41, 42, 43, 44, 45, 108, 109, 110, 111] rfl rfl
set_option maxRecDepth 20000 in
theorem gJ5_append_3fe6f_J5_ensureCapacityInternal_d00df_u100J4 : GoodIn wsJ5_append_3fe6f (va_wsU RJ5 100 RJ4 "java/lang/AbstractStringBuilder" ⟨"java/lang/AbstractStringBuilder", "ensureCapacityInternal", "(I)V"⟩ yJ5_ensureCapacityInternal_d00df wsJ5_ensureCapacityInternal_d00df) := goodIn_app (goodIn_of _ (by decide +kernel)) ggJ5_append_3fe6f_J5_ensureCapacityInternal_d00df
set_option maxRecDepth 20000 in
theorem ggJ5_append_3fe6f_J5_isLatin1_aae02 : GoodIn wsJ5_append_3fe6f wsJ5_isLatin1_aae02 := goodIn_r _ [50, 51, 9, 108, 109, 110, 111] rfl rfl
set_option maxRecDepth 20000 in
theorem gJ5_append_3fe6f_J5_isLatin1_aae02_u83J4 : GoodIn wsJ5_append_3fe6f (va_wsU RJ5 83 RJ4 "java/lang/AbstractStringBuilder" ⟨"java/lang/AbstractStringBuilder", "isLatin1", "()Z"⟩ yJ5_isLatin1_aae02 wsJ5_isLatin1_aae02) := goodIn_app (goodIn_of _ (by decide +kernel)) ggJ5_append_3fe6f_J5_isLatin1_aae02
set_option maxRecDepth 20000 in
theorem ggJ5_append_3fe6f_J1_canEncode_fc78d : GoodIn wsJ5_append_3fe6f wsJ1_canEncode_fc78d := goodIn_r _ [55] rfl rfl
set_option maxRecDepth 20000 in
theorem gJ5_append_3fe6f_J1_canEncode_fc78d : GoodIn wsJ5_append_3fe6f (va_wsS RJ5 191 yJ1_canEncode_fc78d wsJ1_canEncode_fc78d) := goodIn_app (goodIn_r _ [52, 53, 54] rfl rfl) ggJ5_append_3fe6f_J1_canEncode_fc78d
set_option maxRecDepth 20000 in
theorem ggJ5_append_3fe6f_J5_inflate_da8c8 : GoodIn wsJ5_append_3fe6f wsJ5_inflate_da8c8 := goodIn_r _ [60, 2, 1, 9, 46, 47, 48, 49, 7, 50, 51, 61, 62, 63, 64, 38, 65, 66, 67, 68, 69, 70, 54, 71, 72, 73, 74, 75, 76, 77, 78, 79, 80, 81, 82, 83, 84, 85, 86, 87, 88, 89, 90, 91, 92, 93, 94, 95, 108, 109, 110, 111] rfl rfl
set_option maxRecDepth 20000 in
theorem gJ5_append_3fe6f_J5_inflate_da8c8_u195J4 : GoodIn wsJ5_append_3fe6f (va_wsU RJ5 195 RJ4 "java/lang/AbstractStringBuilder" ⟨"java/lang/AbstractStringBuilder", "inflate", "()V"⟩ yJ5_inflate_da8c8 wsJ5_inflate_da8c8) := goodIn_app (goodIn_of _ (by decide +kernel)) ggJ5_append_3fe6f_J5_inflate_da8c8
set_option maxRecDepth 20000 in
theorem ggJ5_append_3fe6f_J2_putCharSB_b72d1 : GoodIn wsJ5_append_3fe6f wsJ2_putCharSB_b72d1 := goodIn_r _ [98, 99, 100, 63, 101, 78, 79, 80, 102, 103, 83, 104, 85, 105, 106, 88, 107, 90, 91, 92, 93, 94, 95] rfl rfl
set_option maxRecDepth 20000 in
theorem gJ5_append_3fe6f_J2_putCharSB_b72d1 : GoodIn wsJ5_append_3fe6f (va_wsS RJ5 197 yJ2_putCharSB_b72d1 wsJ2_putCharSB_b72d1) := goodIn_app (goodIn_r _ [96, 97, 63] rfl rfl) ggJ5_append_3fe6f_J2_putCharSB_b72d1
theorem dJ5_append_3fe6f_0 : decode cJ5_append_3fe6f 0 = .ok (.aload_n 0, 1) := by decide +kernel
theorem dJ5_append_3fe6f_1 : decode cJ5_append_3fe6f 1 = .ok (.aload_n 0, 1) := by decide +kernel
theorem dJ5_append_3fe6f_2 : decode cJ5_append_3fe6f 2 = .ok (.getfield 79, 3) := by decide +kernel
theorem dJ5_append_3fe6f_5 : decode cJ5_append_3fe6f 5 = .ok (.iconst 1, 1) := by decide +kernel
theorem dJ5_append_3fe6f_6 : decode cJ5_append_3fe6f 6 = .ok (.iadd, 1) := by decide +kernel
theorem dJ5_append_3fe6f_7 : decode cJ5_append_3fe6f 7 = .ok (.invokevirtual 100, 3) := by decide +kernel
theorem dJ5_append_3fe6f_10 : decode cJ5_append_3fe6f 10 = .ok (.aload_n 0, 1) := by decide +kernel
theorem dJ5_append_3fe6f_11 : decode cJ5_append_3fe6f 11 = .ok (.invokevirtual 83, 3) := by decide +kernel
theorem dJ5_append_3fe6f_14 : decode cJ5_append_3fe6f 14 = .ok (.ifCond .eq 31, 3) := by decide +kernel
theorem dJ5_append_3fe6f_17 : decode cJ5_append_3fe6f 17 = .ok (.iload_n 1, 1) := by decide +kernel
theorem dJ5_append_3fe6f_18 : decode cJ5_append_3fe6f 18 = .ok (.invokestatic 191, 3) := by decide +kernel
theorem dJ5_append_3fe6f_21 : decode cJ5_append_3fe6f 21 = .ok (.ifCond .eq 24, 3) := by decide +kernel
theorem dJ5_append_3fe6f_24 : decode cJ5_append_3fe6f 24 = .ok (.aload_n 0, 1) := by decide +kernel
theorem dJ5_append_3fe6f_25 : decode cJ5_append_3fe6f 25 = .ok (.getfield 15, 3) := by decide +kernel
theorem dJ5_append_3fe6f_28 : decode cJ5_append_3fe6f 28 = .ok (.aload_n 0, 1) := by decide +kernel
theorem dJ5_append_3fe6f_29 : decode cJ5_append_3fe6f 29 = .ok (.dup, 1) := by decide +kernel
theorem dJ5_append_3fe6f_30 : decode cJ5_append_3fe6f 30 = .ok (.getfield 79, 3) := by decide +kernel
theorem dJ5_append_3fe6f_33 : decode cJ5_append_3fe6f 33 = .ok (.dup_x1, 1) := by decide +kernel
theorem dJ5_append_3fe6f_34 : decode cJ5_append_3fe6f 34 = .ok (.iconst 1, 1) := by decide +kernel
theorem dJ5_append_3fe6f_35 : decode cJ5_append_3fe6f 35 = .ok (.iadd, 1) := by decide +kernel
theorem dJ5_append_3fe6f_36 : decode cJ5_append_3fe6f 36 = .ok (.putfield 79, 3) := by decide +kernel
theorem dJ5_append_3fe6f_39 : decode cJ5_append_3fe6f 39 = .ok (.iload_n 1, 1) := by decide +kernel
theorem dJ5_append_3fe6f_40 : decode cJ5_append_3fe6f 40 = .ok (.i2b, 1) := by decide +kernel
theorem dJ5_append_3fe6f_41 : decode cJ5_append_3fe6f 41 = .ok (.bastore, 1) := by decide +kernel
theorem dJ5_append_3fe6f_42 : decode cJ5_append_3fe6f 42 = .ok (.goto 33, 3) := by decide +kernel
theorem dJ5_append_3fe6f_45 : decode cJ5_append_3fe6f 45 = .ok (.aload_n 0, 1) := by decide +kernel
theorem dJ5_append_3fe6f_46 : decode cJ5_append_3fe6f 46 = .ok (.invokevirtual 83, 3) := by decide +kernel
theorem dJ5_append_3fe6f_49 : decode cJ5_append_3fe6f 49 = .ok (.ifCond .eq 7, 3) := by decide +kernel
theorem dJ5_append_3fe6f_52 : decode cJ5_append_3fe6f 52 = .ok (.aload_n 0, 1) := by decide +kernel
theorem dJ5_append_3fe6f_53 : decode cJ5_append_3fe6f 53 = .ok (.invokevirtual 195, 3) := by decide +kernel
theorem dJ5_append_3fe6f_56 : decode cJ5_append_3fe6f 56 = .ok (.aload_n 0, 1) := by decide +kernel
theorem dJ5_append_3fe6f_57 : decode cJ5_append_3fe6f 57 = .ok (.getfield 15, 3) := by decide +kernel
theorem dJ5_append_3fe6f_60 : decode cJ5_append_3fe6f 60 = .ok (.aload_n 0, 1) := by decide +kernel
theorem dJ5_append_3fe6f_61 : decode cJ5_append_3fe6f 61 = .ok (.dup, 1) := by decide +kernel
theorem dJ5_append_3fe6f_62 : decode cJ5_append_3fe6f 62 = .ok (.getfield 79, 3) := by decide +kernel
theorem dJ5_append_3fe6f_65 : decode cJ5_append_3fe6f 65 = .ok (.dup_x1, 1) := by decide +kernel
theorem dJ5_append_3fe6f_66 : decode cJ5_append_3fe6f 66 = .ok (.iconst 1, 1) := by decide +kernel
theorem dJ5_append_3fe6f_67 : decode cJ5_append_3fe6f 67 = .ok (.iadd, 1) := by decide +kernel
theorem dJ5_append_3fe6f_68 : decode cJ5_append_3fe6f 68 = .ok (.putfield 79, 3) := by decide +kernel
theorem dJ5_append_3fe6f_71 : decode cJ5_append_3fe6f 71 = .ok (.iload_n 1, 1) := by decide +kernel
theorem dJ5_append_3fe6f_72 : decode cJ5_append_3fe6f 72 = .ok (.invokestatic 197, 3) := by decide +kernel
theorem dJ5_append_3fe6f_75 : decode cJ5_append_3fe6f 75 = .ok (.aload_n 0, 1) := by decide +kernel
theorem dJ5_append_3fe6f_76 : decode cJ5_append_3fe6f 76 = .ok (.areturn, 1) := by decide +kernel
set_option maxRecDepth 20000 in
theorem ggJ5_append_c97b9_J6_stringSize_0f7a4 : GoodIn wsJ5_append_c97b9 wsJ6_stringSize_0f7a4 := goodIn_r _ [6] rfl rfl
set_option maxRecDepth 20000 in
theorem gJ5_append_c97b9_J6_stringSize_0f7a4 : GoodIn wsJ5_append_c97b9 (va_wsS RJ5 245 yJ6_stringSize_0f7a4 wsJ6_stringSize_0f7a4) := goodIn_app (goodIn_r _ [3, 4, 5] rfl rfl) ggJ5_append_c97b9_J6_stringSize_0f7a4
set_option maxRecDepth 20000 in
theorem ggJ5_append_c97b9_J5_ensureCapacityInternal_d00df : GoodIn wsJ5_append_c97b9 wsJ5_ensureCapacityInternal_d00df := goodIn_r _ [12, 2, 13, 14, 15, 16, 17, 11, 18, 19, 20, 21, 22, 23, 24, 25, 26, 27, 28, 29, 30, 31, 32, 33, 34, 35, 36, 37, 38, 39, 40, 41, 42, 43, 44, 45, 46, 47, 48, 49, 91, 92, 93, 94] rfl rfl
set_option maxRecDepth 20000 in
theorem gJ5_append_c97b9_J5_ensureCapacityInternal_d00df_u100J4 : GoodIn wsJ5_append_c97b9 (va_wsU RJ5 100 RJ4 "java/lang/AbstractStringBuilder" ⟨"java/lang/AbstractStringBuilder", "ensureCapacityInternal", "(I)V"⟩ yJ5_ensureCapacityInternal_d00df wsJ5_ensureCapacityInternal_d00df) := goodIn_app (goodIn_of _ (by decide +kernel)) ggJ5_append_c97b9_J5_ensureCapacityInternal_d00df
set_option maxRecDepth 20000 in
theorem ggJ5_append_c97b9_J5_isLatin1_aae02 : GoodIn wsJ5_append_c97b9 wsJ5_isLatin1_aae02 := goodIn_r _ [54, 55, 13, 91, 92, 93, 94] rfl rfl
set_option maxRecDepth 20000 in
theorem gJ5_append_c97b9_J5_isLatin1_aae02_u83J4 : GoodIn wsJ5_append_c97b9 (va_wsU RJ5 83 RJ4 "java/lang/AbstractStringBuilder" ⟨"java/lang/AbstractStringBuilder", "isLatin1", "()Z"⟩ yJ5_isLatin1_aae02 wsJ5_isLatin1_aae02) := goodIn_app (goodIn_of _ (by decide +kernel)) ggJ5_append_c97b9_J5_isLatin1_aae02
set_option maxRecDepth 20000 in
theorem ggJ5_append_c97b9_J6_getChars_ba4f3 : GoodIn wsJ5_append_c97b9 wsJ6_getChars_ba4f3 := goodIn_r _ [58, 59, 60] rfl rfl
set_option maxRecDepth 20000 in
theorem gJ5_append_c97b9_J6_getChars_ba4f3 : GoodIn wsJ5_append_c97b9 (va_wsS RJ5 248 yJ6_getChars_ba4f3 wsJ6_getChars_ba4f3) := goodIn_app (goodIn_r _ [56, 57, 5] rfl rfl) ggJ5_append_c97b9_J6_getChars_ba4f3
set_option maxRecDepth 20000 in
theorem ggJ5_append_c97b9_J2_getChars_46870 : GoodIn wsJ5_append_c97b9 wsJ2_getChars_46870 := goodIn_r _ [64, 65, 66, 67, 63, 68, 69, 70, 71, 72, 73, 74, 75, 76, 77, 78, 79, 80, 81, 82, 83, 84, 85, 86, 87, 88, 89, 90] rfl rfl
set_option maxRecDepth 20000 in
theorem gJ5_append_c97b9_J2_getChars_46870 : GoodIn wsJ5_append_c97b9 (va_wsS RJ5 251 yJ2_getChars_46870 wsJ2_getChars_46870) := goodIn_app (goodIn_r _ [61, 62, 63] rfl rfl) ggJ5_append_c97b9_J2_getChars_46870
theorem dJ5_append_c97b9_0 : decode cJ5_append_c97b9 0 = .ok (.aload_n 0, 1) := by decide +kernel
theorem dJ5_append_c97b9_1 : decode cJ5_append_c97b9 1 = .ok (.getfield 79, 3) := by decide +kernel
theorem dJ5_append_c97b9_4 : decode cJ5_append_c97b9 4 = .ok (.istore_n 2, 1) := by decide +kernel
theorem dJ5_append_c97b9_5 : decode cJ5_append_c97b9 5 = .ok (.iload_n 2, 1) := by decide +kernel
theorem dJ5_append_c97b9_6 : decode cJ5_append_c97b9 6 = .ok (.iload_n 1, 1) := by decide +kernel
theorem dJ5_append_c97b9_7 : decode cJ5_append_c97b9 7 = .ok (.invokestatic 245, 3) := by decide +kernel
theorem dJ5_append_c97b9_10 : decode cJ5_append_c97b9 10 = .ok (.iadd, 1) := by decide +kernel
theorem dJ5_append_c97b9_11 : decode cJ5_append_c97b9 11 = .ok (.istore_n 3, 1) := by decide +kernel
theorem dJ5_append_c97b9_12 : decode cJ5_append_c97b9 12 = .ok (.aload_n 0, 1) := by decide +kernel
theorem dJ5_append_c97b9_13 : decode cJ5_append_c97b9 13 = .ok (.iload_n 3, 1) := by decide +kernel
theorem dJ5_append_c97b9_14 : decode cJ5_append_c97b9 14 = .ok (.invokevirtual 100, 3) := by decide +kernel
theorem dJ5_append_c97b9_17 : decode cJ5_append_c97b9 17 = .ok (.aload_n 0, 1) := by decide +kernel
theorem dJ5_append_c97b9_18 : decode cJ5_append_c97b9 18 = .ok (.invokevirtual 83, 3) := by decide +kernel
theorem dJ5_append_c97b9_21 : decode cJ5_append_c97b9 21 = .ok (.ifCond .eq 16, 3) := by decide +kernel
theorem dJ5_append_c97b9_24 : decode cJ5_append_c97b9 24 = .ok (.iload_n 1, 1) := by decide +kernel
theorem dJ5_append_c97b9_25 : decode cJ5_append_c97b9 25 = .ok (.iload_n 3, 1) := by decide +kernel
theorem dJ5_append_c97b9_26 : decode cJ5_append_c97b9 26 = .ok (.aload_n 0, 1) := by decide +kernel
theorem dJ5_append_c97b9_27 : decode cJ5_append_c97b9 27 = .ok (.getfield 15, 3) := by decide +kernel
theorem dJ5_append_c97b9_30 : decode cJ5_append_c97b9 30 = .ok (.invokestatic 248, 3) := by decide +kernel
theorem dJ5_append_c97b9_33 : decode cJ5_append_c97b9 33 = .ok (.pop, 1) := by decide +kernel
theorem dJ5_append_c97b9_34 : decode cJ5_append_c97b9 34 = .ok (.goto 14, 3) := by decide +kernel
theorem dJ5_append_c97b9_37 : decode cJ5_append_c97b9 37 = .ok (.iload_n 1, 1) := by decide +kernel
theorem dJ5_append_c97b9_38 : decode cJ5_append_c97b9 38 = .ok (.iload_n 2, 1) := by decide +kernel
theorem dJ5_append_c97b9_39 : decode cJ5_append_c97b9 39 = .ok (.iload_n 3, 1) := by decide +kernel
theorem dJ5_append_c97b9_40 : decode cJ5_append_c97b9 40 = .ok (.aload_n 0, 1) := by decide +kernel
theorem dJ5_append_c97b9_41 : decode cJ5_append_c97b9 41 = .ok (.getfield 15, 3) := by decide +kernel
theorem dJ5_append_c97b9_44 : decode cJ5_append_c97b9 44 = .ok (.invokestatic 251, 3) := by decide +kernel
theorem dJ5_append_c97b9_47 : decode cJ5_append_c97b9 47 = .ok (.pop, 1) := by decide +kernel
theorem dJ5_append_c97b9_48 : decode cJ5_append_c97b9 48 = .ok (.aload_n 0, 1) := by decide +kernel
theorem dJ5_append_c97b9_49 : decode cJ5_append_c97b9 49 = .ok (.iload_n 3, 1) := by decide +kernel
theorem dJ5_append_c97b9_50 : decode cJ5_append_c97b9 50 = .ok (.putfield 79, 3) := by decide +kernel
theorem dJ5_append_c97b9_53 : decode cJ5_append_c97b9 53 = .ok (.aload_n 0, 1) := by decide +kernel
theorem dJ5_append_c97b9_54 : decode cJ5_append_c97b9 54 = .ok (.areturn, 1) := by decide +kernel
theorem dJ5_isLatin1_aae02_0 : decode cJ5_isLatin1_aae02 0 = .ok (.getstatic 18, 3) := by decide +kernel
theorem dJ5_isLatin1_aae02_3 : decode cJ5_isLatin1_aae02 3 = .ok (.ifCond .eq 14, 3) := by decide +kernel
theorem dJ5_isLatin1_aae02_6 : decode cJ5_isLatin1_aae02 6 = .ok (.aload_n 0, 1) := by decide +kernel
theorem dJ5_isLatin1_aae02_7 : decode cJ5_isLatin1_aae02 7 = .ok (.getfield 22, 3) := by decide +kernel
theorem dJ5_isLatin1_aae02_10 : decode cJ5_isLatin1_aae02 10 = .ok (.ifCond .ne 7, 3) := by decide +kernel
theorem dJ5_isLatin1_aae02_13 : decode cJ5_isLatin1_aae02 13 = .ok (.iconst 1, 1) := by decide +kernel
theorem dJ5_isLatin1_aae02_14 : decode cJ5_isLatin1_aae02 14 = .ok (.goto 4, 3) := by decide +kernel
theorem dJ5_isLatin1_aae02_17 : decode cJ5_isLatin1_aae02 17 = .ok (.iconst 0, 1) := by decide +kernel
theorem dJ5_isLatin1_aae02_18 : decode cJ5_isLatin1_aae02 18 = .ok (.ireturn, 1) := by decide +kernel
set_option maxRecDepth 20000 in
theorem ggJ5_inflateIfNeededFor_a7421_J0_coder_7d493 : GoodIn wsJ5_inflateIfNeededFor_a7421 wsJ0_coder_7d493 := goodIn_r _ [7, 8, 9] rfl rfl
set_option maxRecDepth 20000 in
theorem gJ5_inflateIfNeededFor_a7421_J0_coder_7d493 : GoodIn wsJ5_inflateIfNeededFor_a7421 (wsV RJ5 40 RJ0 yJ0_coder_7d493 wsJ0_coder_7d493) := goodIn_app (goodIn_r _ [3, 4, 5, 6] rfl rfl) ggJ5_inflateIfNeededFor_a7421_J0_coder_7d493
set_option maxRecDepth 20000 in
theorem ggJ5_inflateIfNeededFor_a7421_J5_inflate_da8c8 : GoodIn wsJ5_inflateIfNeededFor_a7421 wsJ5_inflate_da8c8 := goodIn_r _ [15, 16, 17, 2, 18, 19, 20, 21, 14, 22, 1, 23, 24, 25, 26, 27, 28, 29, 30, 31, 32, 33, 34, 35, 36, 37, 38, 39, 40, 41, 42, 43, 44, 45, 46, 6, 47, 48, 49, 50, 51, 52, 53, 54, 55, 56, 57, 58, 59, 60, 61, 62] rfl rfl
set_option maxRecDepth 20000 in
theorem gJ5_inflateIfNeededFor_a7421_J5_inflate_da8c8_u195J4 : GoodIn wsJ5_inflateIfNeededFor_a7421 (va_wsU RJ5 195 RJ4 "java/lang/AbstractStringBuilder" ⟨"java/lang/AbstractStringBuilder", "inflate", "()V"⟩ yJ5_inflate_da8c8 wsJ5_inflate_da8c8) := goodIn_app (goodIn_of _ (by decide +kernel)) ggJ5_inflateIfNeededFor_a7421_J5_inflate_da8c8
theorem dJ5_inflateIfNeededFor_a7421_0 : decode cJ5_inflateIfNeededFor_a7421 0 = .ok (.getstatic 18, 3) := by decide +kernel
theorem dJ5_inflateIfNeededFor_a7421_3 : decode cJ5_inflateIfNeededFor_a7421 3 = .ok (.ifCond .eq 18, 3) := by decide +kernel
theorem dJ5_inflateIfNeededFor_a7421_6 : decode cJ5_inflateIfNeededFor_a7421 6 = .ok (.aload_n 0, 1) := by decide +kernel
theorem dJ5_inflateIfNeededFor_a7421_7 : decode cJ5_inflateIfNeededFor_a7421 7 = .ok (.getfield 22, 3) := by decide +kernel
theorem dJ5_inflateIfNeededFor_a7421_10 : decode cJ5_inflateIfNeededFor_a7421 10 = .ok (.aload_n 1, 1) := by decide +kernel
theorem dJ5_inflateIfNeededFor_a7421_11 : decode cJ5_inflateIfNeededFor_a7421 11 = .ok (.invokevirtual 40, 3) := by decide +kernel
theorem dJ5_inflateIfNeededFor_a7421_14 : decode cJ5_inflateIfNeededFor_a7421 14 = .ok (.if_icmp .eq 7, 3) := by decide +kernel
theorem dJ5_inflateIfNeededFor_a7421_17 : decode cJ5_inflateIfNeededFor_a7421 17 = .ok (.aload_n 0, 1) := by decide +kernel
theorem dJ5_inflateIfNeededFor_a7421_18 : decode cJ5_inflateIfNeededFor_a7421 18 = .ok (.invokevirtual 195, 3) := by decide +kernel
theorem dJ5_inflateIfNeededFor_a7421_21 : decode cJ5_inflateIfNeededFor_a7421 21 = .ok (.return_, 1) := by decide +kernel
set_option maxRecDepth 20000 in
theorem ggJ5_putStringAt_47b60_J5_inflateIfNeededFor_a7421 : GoodIn wsJ5_putStringAt_47b60 wsJ5_inflateIfNeededFor_a7421 := goodIn_r _ [8, 9, 2, 10, 11, 12, 13, 14, 15, 16, 17, 18, 19, 20, 7, 21, 1, 22, 23, 24, 25, 26, 27, 28, 29, 30, 31, 32, 33, 34, 35, 36, 37, 38, 39, 40, 41, 42, 43, 44, 45, 46, 47, 48, 49, 50, 51, 52, 53, 54, 55, 56, 57, 58, 59, 60, 61, 62, 63, 75, 76, 77, 78] rfl rfl
set_option maxRecDepth 20000 in
theorem gJ5_putStringAt_47b60_J5_inflateIfNeededFor_a7421_u397J4 : GoodIn wsJ5_putStringAt_47b60 (va_wsU RJ5 397 RJ4 "java/lang/AbstractStringBuilder" ⟨"java/lang/AbstractStringBuilder", "inflateIfNeededFor", "(Ljava/lang/String;)V"⟩ yJ5_inflateIfNeededFor_a7421 wsJ5_inflateIfNeededFor_a7421) := goodIn_app (goodIn_of _ (by decide +kernel)) ggJ5_putStringAt_47b60_J5_inflateIfNeededFor_a7421
set_option maxRecDepth 20000 in
theorem ggJ5_putStringAt_47b60_J0_getBytes_840e7 : GoodIn wsJ5_putStringAt_47b60 wsJ0_getBytes_840e7 := goodIn_r _ [67, 68, 69, 70, 71, 72, 73, 11, 12, 13, 14, 15, 16, 74, 38, 39, 40, 41, 42, 30, 43, 44, 45, 46, 47, 48, 49, 50, 51, 52, 53, 54, 55, 56, 57, 58, 59, 60, 61, 62, 63] rfl rfl
set_option maxRecDepth 20000 in
theorem gJ5_putStringAt_47b60_J0_getBytes_840e7 : GoodIn wsJ5_putStringAt_47b60 (wsV RJ5 399 RJ0 yJ0_getBytes_840e7 wsJ0_getBytes_840e7) := goodIn_app (goodIn_r _ [64, 65, 66, 13] rfl rfl) ggJ5_putStringAt_47b60_J0_getBytes_840e7
theorem dJ5_putStringAt_47b60_0 : decode cJ5_putStringAt_47b60 0 = .ok (.aload_n 0, 1) := by decide +kernel
theorem dJ5_putStringAt_47b60_1 : decode cJ5_putStringAt_47b60 1 = .ok (.aload_n 2, 1) := by decide +kernel
theorem dJ5_putStringAt_47b60_2 : decode cJ5_putStringAt_47b60 2 = .ok (.invokevirtual 397, 3) := by decide +kernel
theorem dJ5_putStringAt_47b60_5 : decode cJ5_putStringAt_47b60 5 = .ok (.aload_n 2, 1) := by decide +kernel
theorem dJ5_putStringAt_47b60_6 : decode cJ5_putStringAt_47b60 6 = .ok (.aload_n 0, 1) := by decide +kernel
theorem dJ5_putStringAt_47b60_7 : decode cJ5_putStringAt_47b60 7 = .ok (.getfield 15, 3) := by decide +kernel
theorem dJ5_putStringAt_47b60_10 : decode cJ5_putStringAt_47b60 10 = .ok (.iload_n 1, 1) := by decide +kernel
theorem dJ5_putStringAt_47b60_11 : decode cJ5_putStringAt_47b60 11 = .ok (.aload_n 0, 1) := by decide +kernel
theorem dJ5_putStringAt_47b60_12 : decode cJ5_putStringAt_47b60 12 = .ok (.getfield 22, 3) := by decide +kernel
theorem dJ5_putStringAt_47b60_15 : decode cJ5_putStringAt_47b60 15 = .ok (.invokevirtual 399, 3) := by decide +kernel
theorem dJ5_putStringAt_47b60_18 : decode cJ5_putStringAt_47b60 18 = .ok (.return_, 1) := by decide +kernel
theorem dJ6_getChars_ba4f3_0 : decode cJ6_getChars_ba4f3 0 = .ok (.iload_n 1, 1) := by decide +kernel
theorem dJ6_getChars_ba4f3_1 : decode cJ6_getChars_ba4f3 1 = .ok (.istore 5, 2) := by decide +kernel
theorem dJ6_getChars_ba4f3_3 : decode cJ6_getChars_ba4f3 3 = .ok (.iload_n 0, 1) := by decide +kernel
theorem dJ6_getChars_ba4f3_4 : decode cJ6_getChars_ba4f3 4 = .ok (.ifCond .ge 7, 3) := by decide +kernel
theorem dJ6_getChars_ba4f3_7 : decode cJ6_getChars_ba4f3 7 = .ok (.iconst 1, 1) := by decide +kernel
theorem dJ6_getChars_ba4f3_8 : decode cJ6_getChars_ba4f3 8 = .ok (.goto 4, 3) := by decide +kernel
theorem dJ6_getChars_ba4f3_11 : decode cJ6_getChars_ba4f3 11 = .ok (.iconst 0, 1) := by decide +kernel
theorem dJ6_getChars_ba4f3_12 : decode cJ6_getChars_ba4f3 12 = .ok (.istore 6, 2) := by decide +kernel
theorem dJ6_getChars_ba4f3_14 : decode cJ6_getChars_ba4f3 14 = .ok (.iload 6, 2) := by decide +kernel
theorem dJ6_getChars_ba4f3_16 : decode cJ6_getChars_ba4f3 16 = .ok (.ifCond .ne 6, 3) := by decide +kernel
theorem dJ6_getChars_ba4f3_19 : decode cJ6_getChars_ba4f3 19 = .ok (.iload_n 0, 1) := by decide +kernel
theorem dJ6_getChars_ba4f3_20 : decode cJ6_getChars_ba4f3 20 = .ok (.ineg, 1) := by decide +kernel
theorem dJ6_getChars_ba4f3_21 : decode cJ6_getChars_ba4f3 21 = .ok (.istore_n 0, 1) := by decide +kernel
theorem dJ6_getChars_ba4f3_22 : decode cJ6_getChars_ba4f3 22 = .ok (.iload_n 0, 1) := by decide +kernel
theorem dJ6_getChars_ba4f3_23 : decode cJ6_getChars_ba4f3 23 = .ok (.bipush (-100), 2) := by decide +kernel
theorem dJ6_getChars_ba4f3_25 : decode cJ6_getChars_ba4f3 25 = .ok (.if_icmp .gt 47, 3) := by decide +kernel
theorem dJ6_getChars_ba4f3_28 : decode cJ6_getChars_ba4f3 28 = .ok (.iload_n 0, 1) := by decide +kernel
theorem dJ6_getChars_ba4f3_29 : decode cJ6_getChars_ba4f3 29 = .ok (.bipush 100, 2) := by decide +kernel
theorem dJ6_getChars_ba4f3_31 : decode cJ6_getChars_ba4f3 31 = .ok (.idiv, 1) := by decide +kernel
theorem dJ6_getChars_ba4f3_32 : decode cJ6_getChars_ba4f3 32 = .ok (.istore_n 3, 1) := by decide +kernel
theorem dJ6_getChars_ba4f3_33 : decode cJ6_getChars_ba4f3 33 = .ok (.iload_n 3, 1) := by decide +kernel
theorem dJ6_getChars_ba4f3_34 : decode cJ6_getChars_ba4f3 34 = .ok (.bipush 100, 2) := by decide +kernel
theorem dJ6_getChars_ba4f3_36 : decode cJ6_getChars_ba4f3 36 = .ok (.imul, 1) := by decide +kernel
theorem dJ6_getChars_ba4f3_37 : decode cJ6_getChars_ba4f3 37 = .ok (.iload_n 0, 1) := by decide +kernel
theorem dJ6_getChars_ba4f3_38 : decode cJ6_getChars_ba4f3 38 = .ok (.isub, 1) := by decide +kernel
theorem dJ6_getChars_ba4f3_39 : decode cJ6_getChars_ba4f3 39 = .ok (.istore 4, 2) := by decide +kernel
theorem dJ6_getChars_ba4f3_41 : decode cJ6_getChars_ba4f3 41 = .ok (.iload_n 3, 1) := by decide +kernel
theorem dJ6_getChars_ba4f3_42 : decode cJ6_getChars_ba4f3 42 = .ok (.istore_n 0, 1) := by decide +kernel
theorem dJ6_getChars_ba4f3_43 : decode cJ6_getChars_ba4f3 43 = .ok (.aload_n 2, 1) := by decide +kernel
theorem dJ6_getChars_ba4f3_44 : decode cJ6_getChars_ba4f3 44 = .ok (.iinc 5 (-1), 3) := by decide +kernel
theorem dJ6_getChars_ba4f3_47 : decode cJ6_getChars_ba4f3 47 = .ok (.iload 5, 2) := by decide +kernel
theorem dJ6_getChars_ba4f3_49 : decode cJ6_getChars_ba4f3 49 = .ok (.getstatic 83, 3) := by decide +kernel
theorem dJ6_getChars_ba4f3_52 : decode cJ6_getChars_ba4f3 52 = .ok (.iload 4, 2) := by decide +kernel
theorem dJ6_getChars_ba4f3_54 : decode cJ6_getChars_ba4f3 54 = .ok (.baload, 1) := by decide +kernel
theorem dJ6_getChars_ba4f3_55 : decode cJ6_getChars_ba4f3 55 = .ok (.bastore, 1) := by decide +kernel
theorem dJ6_getChars_ba4f3_56 : decode cJ6_getChars_ba4f3 56 = .ok (.aload_n 2, 1) := by decide +kernel
theorem dJ6_getChars_ba4f3_57 : decode cJ6_getChars_ba4f3 57 = .ok (.iinc 5 (-1), 3) := by decide +kernel
theorem dJ6_getChars_ba4f3_60 : decode cJ6_getChars_ba4f3 60 = .ok (.iload 5, 2) := by decide +kernel
theorem dJ6_getChars_ba4f3_62 : decode cJ6_getChars_ba4f3 62 = .ok (.getstatic 87, 3) := by decide +kernel
theorem dJ6_getChars_ba4f3_65 : decode cJ6_getChars_ba4f3 65 = .ok (.iload 4, 2) := by decide +kernel
theorem dJ6_getChars_ba4f3_67 : decode cJ6_getChars_ba4f3 67 = .ok (.baload, 1) := by decide +kernel
theorem dJ6_getChars_ba4f3_68 : decode cJ6_getChars_ba4f3 68 = .ok (.bastore, 1) := by decide +kernel
theorem dJ6_getChars_ba4f3_69 : decode cJ6_getChars_ba4f3 69 = .ok (.goto (-47), 3) := by decide +kernel
theorem dJ6_getChars_ba4f3_72 : decode cJ6_getChars_ba4f3 72 = .ok (.aload_n 2, 1) := by decide +kernel
theorem dJ6_getChars_ba4f3_73 : decode cJ6_getChars_ba4f3 73 = .ok (.iinc 5 (-1), 3) := by decide +kernel
theorem dJ6_getChars_ba4f3_76 : decode cJ6_getChars_ba4f3 76 = .ok (.iload 5, 2) := by decide +kernel
theorem dJ6_getChars_ba4f3_78 : decode cJ6_getChars_ba4f3 78 = .ok (.getstatic 83, 3) := by decide +kernel
theorem dJ6_getChars_ba4f3_81 : decode cJ6_getChars_ba4f3 81 = .ok (.iload_n 0, 1) := by decide +kernel
theorem dJ6_getChars_ba4f3_82 : decode cJ6_getChars_ba4f3 82 = .ok (.ineg, 1) := by decide +kernel
theorem dJ6_getChars_ba4f3_83 : decode cJ6_getChars_ba4f3 83 = .ok (.baload, 1) := by decide +kernel
theorem dJ6_getChars_ba4f3_84 : decode cJ6_getChars_ba4f3 84 = .ok (.bastore, 1) := by decide +kernel
theorem dJ6_getChars_ba4f3_85 : decode cJ6_getChars_ba4f3 85 = .ok (.iload_n 0, 1) := by decide +kernel
theorem dJ6_getChars_ba4f3_86 : decode cJ6_getChars_ba4f3 86 = .ok (.bipush (-9), 2) := by decide +kernel
theorem dJ6_getChars_ba4f3_88 : decode cJ6_getChars_ba4f3 88 = .ok (.if_icmp .ge 16, 3) := by decide +kernel
theorem dJ6_getChars_ba4f3_91 : decode cJ6_getChars_ba4f3 91 = .ok (.aload_n 2, 1) := by decide +kernel
theorem dJ6_getChars_ba4f3_92 : decode cJ6_getChars_ba4f3 92 = .ok (.iinc 5 (-1), 3) := by decide +kernel
theorem dJ6_getChars_ba4f3_95 : decode cJ6_getChars_ba4f3 95 = .ok (.iload 5, 2) := by decide +kernel
theorem dJ6_getChars_ba4f3_97 : decode cJ6_getChars_ba4f3 97 = .ok (.getstatic 87, 3) := by decide +kernel
theorem dJ6_getChars_ba4f3_100 : decode cJ6_getChars_ba4f3 100 = .ok (.iload_n 0, 1) := by decide +kernel
theorem dJ6_getChars_ba4f3_101 : decode cJ6_getChars_ba4f3 101 = .ok (.ineg, 1) := by decide +kernel
theorem dJ6_getChars_ba4f3_102 : decode cJ6_getChars_ba4f3 102 = .ok (.baload, 1) := by decide +kernel
theorem dJ6_getChars_ba4f3_103 : decode cJ6_getChars_ba4f3 103 = .ok (.bastore, 1) := by decide +kernel
theorem dJ6_getChars_ba4f3_104 : decode cJ6_getChars_ba4f3 104 = .ok (.iload 6, 2) := by decide +kernel
theorem dJ6_getChars_ba4f3_106 : decode cJ6_getChars_ba4f3 106 = .ok (.ifCond .eq 12, 3) := by decide +kernel
theorem dJ6_getChars_ba4f3_109 : decode cJ6_getChars_ba4f3 109 = .ok (.aload_n 2, 1) := by decide +kernel
theorem dJ6_getChars_ba4f3_110 : decode cJ6_getChars_ba4f3 110 = .ok (.iinc 5 (-1), 3) := by decide +kernel
theorem dJ6_getChars_ba4f3_113 : decode cJ6_getChars_ba4f3 113 = .ok (.iload 5, 2) := by decide +kernel
theorem dJ6_getChars_ba4f3_115 : decode cJ6_getChars_ba4f3 115 = .ok (.bipush 45, 2) := by decide +kernel
theorem dJ6_getChars_ba4f3_117 : decode cJ6_getChars_ba4f3 117 = .ok (.bastore, 1) := by decide +kernel
theorem dJ6_getChars_ba4f3_118 : decode cJ6_getChars_ba4f3 118 = .ok (.iload 5, 2) := by decide +kernel
theorem dJ6_getChars_ba4f3_120 : decode cJ6_getChars_ba4f3 120 = .ok (.ireturn, 1) := by decide +kernel
theorem dJ6_stringSize_0f7a4_0 : decode cJ6_stringSize_0f7a4 0 = .ok (.iconst 1, 1) := by decide +kernel
theorem dJ6_stringSize_0f7a4_1 : decode cJ6_stringSize_0f7a4 1 = .ok (.istore_n 1, 1) := by decide +kernel
theorem dJ6_stringSize_0f7a4_2 : decode cJ6_stringSize_0f7a4 2 = .ok (.iload_n 0, 1) := by decide +kernel
theorem dJ6_stringSize_0f7a4_3 : decode cJ6_stringSize_0f7a4 3 = .ok (.ifCond .lt 8, 3) := by decide +kernel
theorem dJ6_stringSize_0f7a4_6 : decode cJ6_stringSize_0f7a4 6 = .ok (.iconst 0, 1) := by decide +kernel
theorem dJ6_stringSize_0f7a4_7 : decode cJ6_stringSize_0f7a4 7 = .ok (.istore_n 1, 1) := by decide +kernel
theorem dJ6_stringSize_0f7a4_8 : decode cJ6_stringSize_0f7a4 8 = .ok (.iload_n 0, 1) := by decide +kernel
theorem dJ6_stringSize_0f7a4_9 : decode cJ6_stringSize_0f7a4 9 = .ok (.ineg, 1) := by decide +kernel
theorem dJ6_stringSize_0f7a4_10 : decode cJ6_stringSize_0f7a4 10 = .ok (.istore_n 0, 1) := by decide +kernel
theorem dJ6_stringSize_0f7a4_11 : decode cJ6_stringSize_0f7a4 11 = .ok (.bipush (-10), 2) := by decide +kernel
theorem dJ6_stringSize_0f7a4_13 : decode cJ6_stringSize_0f7a4 13 = .ok (.istore_n 2, 1) := by decide +kernel
theorem dJ6_stringSize_0f7a4_14 : decode cJ6_stringSize_0f7a4 14 = .ok (.iconst 1, 1) := by decide +kernel
theorem dJ6_stringSize_0f7a4_15 : decode cJ6_stringSize_0f7a4 15 = .ok (.istore_n 3, 1) := by decide +kernel
theorem dJ6_stringSize_0f7a4_16 : decode cJ6_stringSize_0f7a4 16 = .ok (.iload_n 3, 1) := by decide +kernel
theorem dJ6_stringSize_0f7a4_17 : decode cJ6_stringSize_0f7a4 17 = .ok (.bipush 10, 2) := by decide +kernel
theorem dJ6_stringSize_0f7a4_19 : decode cJ6_stringSize_0f7a4 19 = .ok (.if_icmp .ge 23, 3) := by decide +kernel
theorem dJ6_stringSize_0f7a4_22 : decode cJ6_stringSize_0f7a4 22 = .ok (.iload_n 0, 1) := by decide +kernel
theorem dJ6_stringSize_0f7a4_23 : decode cJ6_stringSize_0f7a4 23 = .ok (.iload_n 2, 1) := by decide +kernel
theorem dJ6_stringSize_0f7a4_24 : decode cJ6_stringSize_0f7a4 24 = .ok (.if_icmp .le 7, 3) := by decide +kernel
theorem dJ6_stringSize_0f7a4_27 : decode cJ6_stringSize_0f7a4 27 = .ok (.iload_n 3, 1) := by decide +kernel
theorem dJ6_stringSize_0f7a4_28 : decode cJ6_stringSize_0f7a4 28 = .ok (.iload_n 1, 1) := by decide +kernel
theorem dJ6_stringSize_0f7a4_29 : decode cJ6_stringSize_0f7a4 29 = .ok (.iadd, 1) := by decide +kernel
theorem dJ6_stringSize_0f7a4_30 : decode cJ6_stringSize_0f7a4 30 = .ok (.ireturn, 1) := by decide +kernel
theorem dJ6_stringSize_0f7a4_31 : decode cJ6_stringSize_0f7a4 31 = .ok (.bipush 10, 2) := by decide +kernel
theorem dJ6_stringSize_0f7a4_33 : decode cJ6_stringSize_0f7a4 33 = .ok (.iload_n 2, 1) := by decide +kernel
theorem dJ6_stringSize_0f7a4_34 : decode cJ6_stringSize_0f7a4 34 = .ok (.imul, 1) := by decide +kernel
theorem dJ6_stringSize_0f7a4_35 : decode cJ6_stringSize_0f7a4 35 = .ok (.istore_n 2, 1) := by decide +kernel
theorem dJ6_stringSize_0f7a4_36 : decode cJ6_stringSize_0f7a4 36 = .ok (.iinc 3 1, 3) := by decide +kernel
theorem dJ6_stringSize_0f7a4_39 : decode cJ6_stringSize_0f7a4 39 = .ok (.goto (-23), 3) := by decide +kernel
theorem dJ6_stringSize_0f7a4_42 : decode cJ6_stringSize_0f7a4 42 = .ok (.bipush 10, 2) := by decide +kernel
theorem dJ6_stringSize_0f7a4_44 : decode cJ6_stringSize_0f7a4 44 = .ok (.iload_n 1, 1) := by decide +kernel
theorem dJ6_stringSize_0f7a4_45 : decode cJ6_stringSize_0f7a4 45 = .ok (.iadd, 1) := by decide +kernel
theorem dJ6_stringSize_0f7a4_46 : decode cJ6_stringSize_0f7a4 46 = .ok (.ireturn, 1) := by decide +kernel
theorem dJ6_bitCount_0f7a4_0 : decode cJ6_bitCount_0f7a4 0 = .ok (.iload_n 0, 1) := by decide +kernel
theorem dJ6_bitCount_0f7a4_1 : decode cJ6_bitCount_0f7a4 1 = .ok (.iload_n 0, 1) := by decide +kernel
theorem dJ6_bitCount_0f7a4_2 : decode cJ6_bitCount_0f7a4 2 = .ok (.iconst 1, 1) := by decide +kernel
theorem dJ6_bitCount_0f7a4_3 : decode cJ6_bitCount_0f7a4 3 = .ok (.iushr, 1) := by decide +kernel
theorem dJ6_bitCount_0f7a4_4 : decode cJ6_bitCount_0f7a4 4 = .ok (.ldc_w 265, 3) := by decide +kernel
theorem dJ6_bitCount_0f7a4_7 : decode cJ6_bitCount_0f7a4 7 = .ok (.iand, 1) := by decide +kernel
theorem dJ6_bitCount_0f7a4_8 : decode cJ6_bitCount_0f7a4 8 = .ok (.isub, 1) := by decide +kernel
theorem dJ6_bitCount_0f7a4_9 : decode cJ6_bitCount_0f7a4 9 = .ok (.istore_n 0, 1) := by decide +kernel
theorem dJ6_bitCount_0f7a4_10 : decode cJ6_bitCount_0f7a4 10 = .ok (.iload_n 0, 1) := by decide +kernel
theorem dJ6_bitCount_0f7a4_11 : decode cJ6_bitCount_0f7a4 11 = .ok (.ldc_w 266, 3) := by decide +kernel
theorem dJ6_bitCount_0f7a4_14 : decode cJ6_bitCount_0f7a4 14 = .ok (.iand, 1) := by decide +kernel
theorem dJ6_bitCount_0f7a4_15 : decode cJ6_bitCount_0f7a4 15 = .ok (.iload_n 0, 1) := by decide +kernel
theorem dJ6_bitCount_0f7a4_16 : decode cJ6_bitCount_0f7a4 16 = .ok (.iconst 2, 1) := by decide +kernel
theorem dJ6_bitCount_0f7a4_17 : decode cJ6_bitCount_0f7a4 17 = .ok (.iushr, 1) := by decide +kernel
theorem dJ6_bitCount_0f7a4_18 : decode cJ6_bitCount_0f7a4 18 = .ok (.ldc_w 266, 3) := by decide +kernel
theorem dJ6_bitCount_0f7a4_21 : decode cJ6_bitCount_0f7a4 21 = .ok (.iand, 1) := by decide +kernel
theorem dJ6_bitCount_0f7a4_22 : decode cJ6_bitCount_0f7a4 22 = .ok (.iadd, 1) := by decide +kernel
theorem dJ6_bitCount_0f7a4_23 : decode cJ6_bitCount_0f7a4 23 = .ok (.istore_n 0, 1) := by decide +kernel
theorem dJ6_bitCount_0f7a4_24 : decode cJ6_bitCount_0f7a4 24 = .ok (.iload_n 0, 1) := by decide +kernel
theorem dJ6_bitCount_0f7a4_25 : decode cJ6_bitCount_0f7a4 25 = .ok (.iload_n 0, 1) := by decide +kernel
theorem dJ6_bitCount_0f7a4_26 : decode cJ6_bitCount_0f7a4 26 = .ok (.iconst 4, 1) := by decide +kernel
theorem dJ6_bitCount_0f7a4_27 : decode cJ6_bitCount_0f7a4 27 = .ok (.iushr, 1) := by decide +kernel
theorem dJ6_bitCount_0f7a4_28 : decode cJ6_bitCount_0f7a4 28 = .ok (.iadd, 1) := by decide +kernel
theorem dJ6_bitCount_0f7a4_29 : decode cJ6_bitCount_0f7a4 29 = .ok (.ldc_w 267, 3) := by decide +kernel
theorem dJ6_bitCount_0f7a4_32 : decode cJ6_bitCount_0f7a4 32 = .ok (.iand, 1) := by decide +kernel
theorem dJ6_bitCount_0f7a4_33 : decode cJ6_bitCount_0f7a4 33 = .ok (.istore_n 0, 1) := by decide +kernel
theorem dJ6_bitCount_0f7a4_34 : decode cJ6_bitCount_0f7a4 34 = .ok (.iload_n 0, 1) := by decide +kernel
theorem dJ6_bitCount_0f7a4_35 : decode cJ6_bitCount_0f7a4 35 = .ok (.iload_n 0, 1) := by decide +kernel
theorem dJ6_bitCount_0f7a4_36 : decode cJ6_bitCount_0f7a4 36 = .ok (.bipush 8, 2) := by decide +kernel
theorem dJ6_bitCount_0f7a4_38 : decode cJ6_bitCount_0f7a4 38 = .ok (.iushr, 1) := by decide +kernel
theorem dJ6_bitCount_0f7a4_39 : decode cJ6_bitCount_0f7a4 39 = .ok (.iadd, 1) := by decide +kernel
theorem dJ6_bitCount_0f7a4_40 : decode cJ6_bitCount_0f7a4 40 = .ok (.istore_n 0, 1) := by decide +kernel
theorem dJ6_bitCount_0f7a4_41 : decode cJ6_bitCount_0f7a4 41 = .ok (.iload_n 0, 1) := by decide +kernel
theorem dJ6_bitCount_0f7a4_42 : decode cJ6_bitCount_0f7a4 42 = .ok (.iload_n 0, 1) := by decide +kernel
theorem dJ6_bitCount_0f7a4_43 : decode cJ6_bitCount_0f7a4 43 = .ok (.bipush 16, 2) := by decide +kernel
theorem dJ6_bitCount_0f7a4_45 : decode cJ6_bitCount_0f7a4 45 = .ok (.iushr, 1) := by decide +kernel
theorem dJ6_bitCount_0f7a4_46 : decode cJ6_bitCount_0f7a4 46 = .ok (.iadd, 1) := by decide +kernel
theorem dJ6_bitCount_0f7a4_47 : decode cJ6_bitCount_0f7a4 47 = .ok (.istore_n 0, 1) := by decide +kernel
theorem dJ6_bitCount_0f7a4_48 : decode cJ6_bitCount_0f7a4 48 = .ok (.iload_n 0, 1) := by decide +kernel
theorem dJ6_bitCount_0f7a4_49 : decode cJ6_bitCount_0f7a4 49 = .ok (.bipush 63, 2) := by decide +kernel
theorem dJ6_bitCount_0f7a4_51 : decode cJ6_bitCount_0f7a4 51 = .ok (.iand, 1) := by decide +kernel
theorem dJ6_bitCount_0f7a4_52 : decode cJ6_bitCount_0f7a4 52 = .ok (.ireturn, 1) := by decide +kernel
theorem dJ13_bitCount_95d88_0 : decode cJ13_bitCount_95d88 0 = .ok (.lload_n 0, 1) := by decide +kernel
theorem dJ13_bitCount_95d88_1 : decode cJ13_bitCount_95d88 1 = .ok (.lload_n 0, 1) := by decide +kernel
theorem dJ13_bitCount_95d88_2 : decode cJ13_bitCount_95d88 2 = .ok (.iconst 1, 1) := by decide +kernel
theorem dJ13_bitCount_95d88_3 : decode cJ13_bitCount_95d88 3 = .ok (.lushr, 1) := by decide +kernel
theorem dJ13_bitCount_95d88_4 : decode cJ13_bitCount_95d88 4 = .ok (.ldc2_w 314, 3) := by decide +kernel
theorem dJ13_bitCount_95d88_7 : decode cJ13_bitCount_95d88 7 = .ok (.land, 1) := by decide +kernel
theorem dJ13_bitCount_95d88_8 : decode cJ13_bitCount_95d88 8 = .ok (.lsub, 1) := by decide +kernel
theorem dJ13_bitCount_95d88_9 : decode cJ13_bitCount_95d88 9 = .ok (.lstore_n 0, 1) := by decide +kernel
theorem dJ13_bitCount_95d88_10 : decode cJ13_bitCount_95d88 10 = .ok (.lload_n 0, 1) := by decide +kernel
theorem dJ13_bitCount_95d88_11 : decode cJ13_bitCount_95d88 11 = .ok (.ldc2_w 316, 3) := by decide +kernel
theorem dJ13_bitCount_95d88_14 : decode cJ13_bitCount_95d88 14 = .ok (.land, 1) := by decide +kernel
theorem dJ13_bitCount_95d88_15 : decode cJ13_bitCount_95d88 15 = .ok (.lload_n 0, 1) := by decide +kernel
theorem dJ13_bitCount_95d88_16 : decode cJ13_bitCount_95d88 16 = .ok (.iconst 2, 1) := by decide +kernel
theorem dJ13_bitCount_95d88_17 : decode cJ13_bitCount_95d88 17 = .ok (.lushr, 1) := by decide +kernel
theorem dJ13_bitCount_95d88_18 : decode cJ13_bitCount_95d88 18 = .ok (.ldc2_w 316, 3) := by decide +kernel
theorem dJ13_bitCount_95d88_21 : decode cJ13_bitCount_95d88 21 = .ok (.land, 1) := by decide +kernel
theorem dJ13_bitCount_95d88_22 : decode cJ13_bitCount_95d88 22 = .ok (.ladd, 1) := by decide +kernel
theorem dJ13_bitCount_95d88_23 : decode cJ13_bitCount_95d88 23 = .ok (.lstore_n 0, 1) := by decide +kernel
theorem dJ13_bitCount_95d88_24 : decode cJ13_bitCount_95d88 24 = .ok (.lload_n 0, 1) := by decide +kernel
theorem dJ13_bitCount_95d88_25 : decode cJ13_bitCount_95d88 25 = .ok (.lload_n 0, 1) := by decide +kernel
theorem dJ13_bitCount_95d88_26 : decode cJ13_bitCount_95d88 26 = .ok (.iconst 4, 1) := by decide +kernel
theorem dJ13_bitCount_95d88_27 : decode cJ13_bitCount_95d88 27 = .ok (.lushr, 1) := by decide +kernel
theorem dJ13_bitCount_95d88_28 : decode cJ13_bitCount_95d88 28 = .ok (.ladd, 1) := by decide +kernel
theorem dJ13_bitCount_95d88_29 : decode cJ13_bitCount_95d88 29 = .ok (.ldc2_w 318, 3) := by decide +kernel
theorem dJ13_bitCount_95d88_32 : decode cJ13_bitCount_95d88 32 = .ok (.land, 1) := by decide +kernel
theorem dJ13_bitCount_95d88_33 : decode cJ13_bitCount_95d88 33 = .ok (.lstore_n 0, 1) := by decide +kernel
theorem dJ13_bitCount_95d88_34 : decode cJ13_bitCount_95d88 34 = .ok (.lload_n 0, 1) := by decide +kernel
theorem dJ13_bitCount_95d88_35 : decode cJ13_bitCount_95d88 35 = .ok (.lload_n 0, 1) := by decide +kernel
theorem dJ13_bitCount_95d88_36 : decode cJ13_bitCount_95d88 36 = .ok (.bipush 8, 2) := by decide +kernel
theorem dJ13_bitCount_95d88_38 : decode cJ13_bitCount_95d88 38 = .ok (.lushr, 1) := by decide +kernel
theorem dJ13_bitCount_95d88_39 : decode cJ13_bitCount_95d88 39 = .ok (.ladd, 1) := by decide +kernel
theorem dJ13_bitCount_95d88_40 : decode cJ13_bitCount_95d88 40 = .ok (.lstore_n 0, 1) := by decide +kernel
theorem dJ13_bitCount_95d88_41 : decode cJ13_bitCount_95d88 41 = .ok (.lload_n 0, 1) := by decide +kernel
theorem dJ13_bitCount_95d88_42 : decode cJ13_bitCount_95d88 42 = .ok (.lload_n 0, 1) := by decide +kernel
theorem dJ13_bitCount_95d88_43 : decode cJ13_bitCount_95d88 43 = .ok (.bipush 16, 2) := by decide +kernel
theorem dJ13_bitCount_95d88_45 : decode cJ13_bitCount_95d88 45 = .ok (.lushr, 1) := by decide +kernel
theorem dJ13_bitCount_95d88_46 : decode cJ13_bitCount_95d88 46 = .ok (.ladd, 1) := by decide +kernel
theorem dJ13_bitCount_95d88_47 : decode cJ13_bitCount_95d88 47 = .ok (.lstore_n 0, 1) := by decide +kernel
theorem dJ13_bitCount_95d88_48 : decode cJ13_bitCount_95d88 48 = .ok (.lload_n 0, 1) := by decide +kernel
theorem dJ13_bitCount_95d88_49 : decode cJ13_bitCount_95d88 49 = .ok (.lload_n 0, 1) := by decide +kernel
theorem dJ13_bitCount_95d88_50 : decode cJ13_bitCount_95d88 50 = .ok (.bipush 32, 2) := by decide +kernel
theorem dJ13_bitCount_95d88_52 : decode cJ13_bitCount_95d88 52 = .ok (.lushr, 1) := by decide +kernel
theorem dJ13_bitCount_95d88_53 : decode cJ13_bitCount_95d88 53 = .ok (.ladd, 1) := by decide +kernel
theorem dJ13_bitCount_95d88_54 : decode cJ13_bitCount_95d88 54 = .ok (.lstore_n 0, 1) := by decide +kernel
theorem dJ13_bitCount_95d88_55 : decode cJ13_bitCount_95d88 55 = .ok (.lload_n 0, 1) := by decide +kernel
theorem dJ13_bitCount_95d88_56 : decode cJ13_bitCount_95d88 56 = .ok (.l2i, 1) := by decide +kernel
theorem dJ13_bitCount_95d88_57 : decode cJ13_bitCount_95d88 57 = .ok (.bipush 127, 2) := by decide +kernel
theorem dJ13_bitCount_95d88_59 : decode cJ13_bitCount_95d88 59 = .ok (.iand, 1) := by decide +kernel
theorem dJ13_bitCount_95d88_60 : decode cJ13_bitCount_95d88 60 = .ok (.ireturn, 1) := by decide +kernel
theorem dJ9_max_7cf53_0 : decode cJ9_max_7cf53 0 = .ok (.iload_n 0, 1) := by decide +kernel
theorem dJ9_max_7cf53_1 : decode cJ9_max_7cf53 1 = .ok (.iload_n 1, 1) := by decide +kernel
theorem dJ9_max_7cf53_2 : decode cJ9_max_7cf53 2 = .ok (.if_icmp .lt 7, 3) := by decide +kernel
theorem dJ9_max_7cf53_5 : decode cJ9_max_7cf53 5 = .ok (.iload_n 0, 1) := by decide +kernel
theorem dJ9_max_7cf53_6 : decode cJ9_max_7cf53 6 = .ok (.goto 4, 3) := by decide +kernel
theorem dJ9_max_7cf53_9 : decode cJ9_max_7cf53 9 = .ok (.iload_n 1, 1) := by decide +kernel
theorem dJ9_max_7cf53_10 : decode cJ9_max_7cf53 10 = .ok (.ireturn, 1) := by decide +kernel
theorem dJ9_min_7cf53_0 : decode cJ9_min_7cf53 0 = .ok (.iload_n 0, 1) := by decide +kernel
theorem dJ9_min_7cf53_1 : decode cJ9_min_7cf53 1 = .ok (.iload_n 1, 1) := by decide +kernel
theorem dJ9_min_7cf53_2 : decode cJ9_min_7cf53 2 = .ok (.if_icmp .gt 7, 3) := by decide +kernel
theorem dJ9_min_7cf53_5 : decode cJ9_min_7cf53 5 = .ok (.iload_n 0, 1) := by decide +kernel
theorem dJ9_min_7cf53_6 : decode cJ9_min_7cf53 6 = .ok (.goto 4, 3) := by decide +kernel
theorem dJ9_min_7cf53_9 : decode cJ9_min_7cf53 9 = .ok (.iload_n 1, 1) := by decide +kernel
theorem dJ9_min_7cf53_10 : decode cJ9_min_7cf53 10 = .ok (.ireturn, 1) := by decide +kernel
