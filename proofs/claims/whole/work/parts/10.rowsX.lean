theorem dX0_init_0 : decode cX0_init 0 = .ok (.aload_n 0, 1) := by decide +kernel
theorem dX0_init_1 : decode cX0_init 1 = .ok (.invokespecial 3, 3) := by decide +kernel
theorem dX0_init_4 : decode cX0_init 4 = .ok (.aload_n 0, 1) := by decide +kernel
theorem dX0_init_5 : decode cX0_init 5 = .ok (.bipush 40, 2) := by decide +kernel
theorem dX0_init_7 : decode cX0_init 7 = .ok (.newarray .int, 2) := by decide +kernel
theorem dX0_init_9 : decode cX0_init 9 = .ok (.putfield 11, 3) := by decide +kernel
theorem dX0_init_12 : decode cX0_init 12 = .ok (.aload_n 0, 1) := by decide +kernel
theorem dX0_init_13 : decode cX0_init 13 = .ok (.bipush 40, 2) := by decide +kernel
theorem dX0_init_15 : decode cX0_init 15 = .ok (.newarray .int, 2) := by decide +kernel
theorem dX0_init_17 : decode cX0_init 17 = .ok (.putfield 15, 3) := by decide +kernel
theorem dX0_init_20 : decode cX0_init 20 = .ok (.aload_n 0, 1) := by decide +kernel
theorem dX0_init_21 : decode cX0_init 21 = .ok (.bipush 40, 2) := by decide +kernel
theorem dX0_init_23 : decode cX0_init 23 = .ok (.newarray .int, 2) := by decide +kernel
theorem dX0_init_25 : decode cX0_init 25 = .ok (.putfield 18, 3) := by decide +kernel
theorem dX0_init_28 : decode cX0_init 28 = .ok (.return_, 1) := by decide +kernel
set_option maxRecDepth 20000 in
theorem ggX0_read_X4_seesEnd : GoodIn wsX0_read wsX4_seesEnd := goodIn_r _ [5, 6, 155, 156, 157, 158, 159, 160, 161, 162, 163, 164, 165] rfl rfl
set_option maxRecDepth 20000 in
theorem gX0_read_X4_seesEnd_n25 : GoodIn wsX0_read (wsX4_seesEnd) := ggX0_read_X4_seesEnd
set_option maxRecDepth 20000 in
theorem ggX0_read_X0_readLine : GoodIn wsX0_read wsX0_readLine := goodIn_r _ [11, 12, 13, 1, 14, 15, 16, 3, 17, 18, 6, 19, 20, 21, 22, 23, 24, 25, 26, 27, 28, 29, 30, 31, 32, 33, 34, 35, 36, 37, 38, 39, 40, 41, 42, 43, 44, 45, 46, 47, 48, 49, 50, 51, 52, 53, 54, 55, 56, 57, 58, 59, 60, 61, 62, 63, 64, 65, 66, 67, 68, 69, 70, 71, 72, 73, 74, 75, 76, 77, 78, 79, 80, 81, 82, 83, 84, 85, 86, 87, 88, 89, 90, 91, 92, 93, 94, 95, 96, 97, 98, 99, 100, 101, 102, 103, 104, 105, 106, 107, 108, 109, 110, 111, 10, 112, 113, 114, 115, 116, 117, 118, 119, 120, 121, 122, 123, 124, 125, 126, 127, 128, 129, 130, 131, 132, 133, 134, 135, 136, 166, 167, 168, 169, 170, 171, 172, 173, 174, 175, 176, 149, 150, 151, 152, 153, 154, 155, 156, 157, 158, 159, 160, 161, 162, 163, 164, 165] rfl rfl
set_option maxRecDepth 20000 in
theorem gX0_read_X0_readLine : GoodIn wsX0_read (wsV RX0 31 RX0 yX0_readLine wsX0_readLine) := goodIn_app (goodIn_r _ [7, 8, 9, 10] rfl rfl) ggX0_read_X0_readLine
set_option maxRecDepth 20000 in
theorem ggX0_read_X4_passSign : GoodIn wsX0_read wsX4_passSign := goodIn_r _ [139, 140, 141, 142, 3, 143, 6, 47, 26, 27, 28, 29, 30, 31, 32, 144, 36, 37, 38, 39, 40, 41, 42, 43, 44, 45, 46, 23, 19, 48, 49, 50, 51, 24, 52, 53, 54, 55, 56, 57, 58, 59, 60, 61, 62, 63, 64, 65, 66, 67, 68, 69, 70, 71, 72, 73, 74, 75, 76, 77, 78, 79, 80, 81, 82, 83, 84, 85, 86, 87, 88, 89, 90, 91, 92, 93, 94, 95, 96, 97, 98, 99, 100, 101, 102, 103, 104, 105, 106, 107, 108, 155, 156, 157, 158, 159, 160, 161, 162, 163, 164, 165] rfl rfl
set_option maxRecDepth 20000 in
theorem gX0_read_X4_passSign_n35 : GoodIn wsX0_read (wsX4_passSign) := ggX0_read_X4_passSign
set_option maxRecDepth 20000 in
theorem ggX0_read_X4_needsEnd : GoodIn wsX0_read wsX4_needsEnd := goodIn_r _ [147, 148, 2, 4, 3, 5, 6, 26, 27, 28, 29, 30, 31, 32, 155, 156, 157, 158, 159, 160, 161, 162, 163, 164, 165] rfl rfl
set_option maxRecDepth 20000 in
theorem gX0_read_X4_needsEnd_n39 : GoodIn wsX0_read (wsX4_needsEnd) := ggX0_read_X4_needsEnd
theorem dX0_read_0 : decode cX0_read 0 = .ok (.aload_n 0, 1) := by decide +kernel
theorem dX0_read_1 : decode cX0_read 1 = .ok (.iconst 0, 1) := by decide +kernel
theorem dX0_read_2 : decode cX0_read 2 = .ok (.putfield 21, 3) := by decide +kernel
theorem dX0_read_5 : decode cX0_read 5 = .ok (.iconst 0, 1) := by decide +kernel
theorem dX0_read_6 : decode cX0_read 6 = .ok (.istore_n 3, 1) := by decide +kernel
theorem dX0_read_7 : decode cX0_read 7 = .ok (.iload_n 3, 1) := by decide +kernel
theorem dX0_read_8 : decode cX0_read 8 = .ok (.bipush 40, 2) := by decide +kernel
theorem dX0_read_10 : decode cX0_read 10 = .ok (.if_icmp .gt 36, 3) := by decide +kernel
theorem dX0_read_13 : decode cX0_read 13 = .ok (.aload_n 1, 1) := by decide +kernel
theorem dX0_read_14 : decode cX0_read 14 = .ok (.invokevirtual 25, 3) := by decide +kernel
theorem dX0_read_17 : decode cX0_read 17 = .ok (.ifCond .ne 29, 3) := by decide +kernel
theorem dX0_read_20 : decode cX0_read 20 = .ok (.aload_n 0, 1) := by decide +kernel
theorem dX0_read_21 : decode cX0_read 21 = .ok (.aload_n 1, 1) := by decide +kernel
theorem dX0_read_22 : decode cX0_read 22 = .ok (.aload_n 2, 1) := by decide +kernel
theorem dX0_read_23 : decode cX0_read 23 = .ok (.invokevirtual 31, 3) := by decide +kernel
theorem dX0_read_26 : decode cX0_read 26 = .ok (.ifCond .eq 12, 3) := by decide +kernel
theorem dX0_read_29 : decode cX0_read 29 = .ok (.aload_n 1, 1) := by decide +kernel
theorem dX0_read_30 : decode cX0_read 30 = .ok (.bipush 59, 2) := by decide +kernel
theorem dX0_read_32 : decode cX0_read 32 = .ok (.invokevirtual 35, 3) := by decide +kernel
theorem dX0_read_35 : decode cX0_read 35 = .ok (.ifCond .ne 5, 3) := by decide +kernel
theorem dX0_read_38 : decode cX0_read 38 = .ok (.iconst 0, 1) := by decide +kernel
theorem dX0_read_39 : decode cX0_read 39 = .ok (.ireturn, 1) := by decide +kernel
theorem dX0_read_40 : decode cX0_read 40 = .ok (.iinc 3 1, 3) := by decide +kernel
theorem dX0_read_43 : decode cX0_read 43 = .ok (.goto (-36), 3) := by decide +kernel
theorem dX0_read_46 : decode cX0_read 46 = .ok (.aload_n 1, 1) := by decide +kernel
theorem dX0_read_47 : decode cX0_read 47 = .ok (.invokevirtual 39, 3) := by decide +kernel
theorem dX0_read_50 : decode cX0_read 50 = .ok (.ireturn, 1) := by decide +kernel
set_option maxRecDepth 20000 in
theorem ggX0_readLine_X4_seesWord : GoodIn wsX0_readLine wsX4_seesWord := goodIn_r _ [9, 10, 11, 147, 148, 149, 150, 151, 152, 153, 154, 155, 156, 157] rfl rfl
set_option maxRecDepth 20000 in
theorem gX0_readLine_X4_seesWord_n48 : GoodIn wsX0_readLine (wsX4_seesWord) := ggX0_readLine_X4_seesWord
set_option maxRecDepth 20000 in
theorem ggX0_readLine_X4_neededOf : GoodIn wsX0_readLine wsX4_neededOf := goodIn_r _ [14, 15, 16, 17, 6, 8, 7, 9, 10, 11, 18, 19, 20, 21, 22, 23, 24, 25, 26, 27, 147, 148, 149, 150, 151, 152, 153, 154, 155, 156, 157] rfl rfl
set_option maxRecDepth 20000 in
theorem gX0_readLine_X4_neededOf_n63 : GoodIn wsX0_readLine (wsX4_neededOf) := ggX0_readLine_X4_neededOf
set_option maxRecDepth 20000 in
theorem ggX0_readLine_X4_refuse : GoodIn wsX0_readLine wsX4_refuse := goodIn_r _ [21, 22, 23, 24, 147, 148, 149, 150, 151, 152, 153, 154, 155, 156, 157] rfl rfl
set_option maxRecDepth 20000 in
theorem gX0_readLine_X4_refuse_n67 : GoodIn wsX0_readLine (wsX4_refuse) := ggX0_readLine_X4_refuse
set_option maxRecDepth 20000 in
theorem ggX0_readLine_X4_advance : GoodIn wsX0_readLine wsX4_advance := goodIn_r _ [30, 31, 32, 33, 34, 35, 36, 37, 38, 15, 11, 23, 10, 39, 40, 41, 42, 7, 43, 16, 44, 45, 46, 47, 48, 49, 50, 51, 52, 53, 54, 55, 56, 57, 58, 59, 60, 61, 62, 63, 64, 65, 66, 67, 68, 69, 70, 71, 72, 73, 74, 75, 76, 77, 78, 79, 80, 81, 82, 83, 84, 85, 86, 87, 88, 89, 90, 91, 92, 93, 94, 95, 96, 97, 98, 99, 100, 147, 148, 149, 150, 151, 152, 153, 154, 155, 156, 157] rfl rfl
set_option maxRecDepth 20000 in
theorem gX0_readLine_X4_advance_n70 : GoodIn wsX0_readLine (wsX4_advance) := ggX0_readLine_X4_advance
set_option maxRecDepth 20000 in
theorem ggX0_readLine_X0_readMachineAct : GoodIn wsX0_readLine wsX0_readMachineAct := goodIn_r _ [105, 106, 107, 108, 109, 6, 7, 8, 9, 10, 11, 110, 111, 112, 104, 113, 3, 114, 28, 29, 30, 31, 32, 33, 34, 35, 36, 37, 38, 15, 23, 39, 40, 41, 42, 43, 16, 44, 45, 46, 47, 48, 49, 50, 51, 52, 53, 54, 55, 56, 57, 58, 59, 60, 61, 62, 63, 64, 65, 66, 67, 68, 69, 70, 71, 72, 73, 74, 75, 76, 77, 78, 79, 80, 81, 82, 83, 84, 85, 86, 87, 88, 89, 90, 91, 92, 93, 94, 95, 96, 97, 98, 99, 100, 115, 116, 117, 118, 12, 13, 14, 17, 18, 19, 20, 21, 22, 24, 25, 26, 27, 119, 120, 121, 122, 5, 123, 124, 125, 126, 127, 128, 129, 147, 148, 149, 150, 151, 152, 153, 154, 155, 156, 157, 141, 142, 143, 144, 145, 146, 130, 131, 132, 133, 134, 135, 136, 137, 138, 139, 140] rfl rfl
set_option maxRecDepth 20000 in
theorem gX0_readLine_X0_readMachineAct : GoodIn wsX0_readLine (wsV RX0 73 RX0 yX0_readMachineAct wsX0_readMachineAct) := goodIn_app (goodIn_r _ [101, 102, 103, 104] rfl rfl) ggX0_readLine_X0_readMachineAct
set_option maxRecDepth 20000 in
theorem ggX0_readLine_X0_passAct : GoodIn wsX0_readLine wsX0_passAct := goodIn_r _ [113, 3, 114, 28, 7, 29, 30, 31, 32, 33, 34, 35, 36, 37, 38, 15, 11, 23, 10, 39, 40, 41, 42, 43, 16, 44, 45, 46, 47, 48, 49, 50, 51, 52, 53, 54, 55, 56, 57, 58, 59, 60, 61, 62, 63, 64, 65, 66, 67, 68, 69, 70, 71, 72, 73, 74, 75, 76, 77, 78, 79, 80, 81, 82, 83, 84, 85, 86, 87, 88, 89, 90, 91, 92, 93, 94, 95, 96, 97, 98, 99, 100, 141, 142, 143, 144, 145, 146, 147, 148, 149, 150, 151, 152, 153, 154, 155, 156, 157] rfl rfl
set_option maxRecDepth 20000 in
theorem gX0_readLine_X0_passAct : GoodIn wsX0_readLine (wsV RX0 76 RX0 yX0_passAct wsX0_passAct) := goodIn_app (goodIn_r _ [110, 111, 112, 104] rfl rfl) ggX0_readLine_X0_passAct
set_option maxRecDepth 20000 in
theorem ggX0_readLine_X0_passNumber : GoodIn wsX0_readLine wsX0_passNumber := goodIn_r _ [126, 127, 7, 128, 129, 10, 39, 18, 19, 20, 21, 22, 23, 24, 119, 120, 121, 104, 122, 3, 5, 28, 29, 30, 31, 32, 33, 34, 35, 36, 37, 38, 15, 11, 40, 41, 42, 43, 16, 44, 45, 46, 47, 48, 49, 50, 51, 52, 53, 54, 55, 56, 57, 58, 59, 60, 61, 62, 63, 64, 65, 66, 67, 68, 69, 70, 71, 72, 73, 74, 75, 76, 77, 78, 79, 80, 81, 82, 83, 84, 85, 86, 87, 88, 89, 90, 91, 92, 93, 94, 95, 96, 97, 98, 99, 100, 147, 148, 149, 150, 151, 152, 153, 154, 155, 156, 157, 141, 142, 143, 144, 145, 146] rfl rfl
set_option maxRecDepth 20000 in
theorem gX0_readLine_X0_passNumber : GoodIn wsX0_readLine (wsV RX0 80 RX0 yX0_passNumber wsX0_passNumber) := goodIn_app (goodIn_r _ [123, 124, 125, 104] rfl rfl) ggX0_readLine_X0_passNumber
theorem dX0_readLine_0 : decode cX0_readLine 0 = .ok (.aload_n 1, 1) := by decide +kernel
theorem dX0_readLine_1 : decode cX0_readLine 1 = .ok (.getstatic 42, 3) := by decide +kernel
theorem dX0_readLine_4 : decode cX0_readLine 4 = .ok (.invokevirtual 48, 3) := by decide +kernel
theorem dX0_readLine_7 : decode cX0_readLine 7 = .ok (.ifCond .ne 17, 3) := by decide +kernel
theorem dX0_readLine_10 : decode cX0_readLine 10 = .ok (.aload_n 1, 1) := by decide +kernel
theorem dX0_readLine_11 : decode cX0_readLine 11 = .ok (.getstatic 52, 3) := by decide +kernel
theorem dX0_readLine_14 : decode cX0_readLine 14 = .ok (.invokevirtual 48, 3) := by decide +kernel
theorem dX0_readLine_17 : decode cX0_readLine 17 = .ok (.ifCond .ne 7, 3) := by decide +kernel
theorem dX0_readLine_20 : decode cX0_readLine 20 = .ok (.iconst 1, 1) := by decide +kernel
theorem dX0_readLine_21 : decode cX0_readLine 21 = .ok (.goto 4, 3) := by decide +kernel
theorem dX0_readLine_24 : decode cX0_readLine 24 = .ok (.iconst 0, 1) := by decide +kernel
theorem dX0_readLine_25 : decode cX0_readLine 25 = .ok (.istore_n 3, 1) := by decide +kernel
theorem dX0_readLine_26 : decode cX0_readLine 26 = .ok (.iload_n 3, 1) := by decide +kernel
theorem dX0_readLine_27 : decode cX0_readLine 27 = .ok (.ifCond .eq 18, 3) := by decide +kernel
theorem dX0_readLine_30 : decode cX0_readLine 30 = .ok (.aload_n 1, 1) := by decide +kernel
theorem dX0_readLine_31 : decode cX0_readLine 31 = .ok (.aload_n 2, 1) := by decide +kernel
theorem dX0_readLine_32 : decode cX0_readLine 32 = .ok (.getfield 55, 3) := by decide +kernel
theorem dX0_readLine_35 : decode cX0_readLine 35 = .ok (.aload_n 2, 1) := by decide +kernel
theorem dX0_readLine_36 : decode cX0_readLine 36 = .ok (.getfield 61, 3) := by decide +kernel
theorem dX0_readLine_39 : decode cX0_readLine 39 = .ok (.invokevirtual 63, 3) := by decide +kernel
theorem dX0_readLine_42 : decode cX0_readLine 42 = .ok (.goto 4, 3) := by decide +kernel
theorem dX0_readLine_45 : decode cX0_readLine 45 = .ok (.iconst (-1), 1) := by decide +kernel
theorem dX0_readLine_46 : decode cX0_readLine 46 = .ok (.istore 4, 2) := by decide +kernel
theorem dX0_readLine_48 : decode cX0_readLine 48 = .ok (.iload_n 3, 1) := by decide +kernel
theorem dX0_readLine_49 : decode cX0_readLine 49 = .ok (.ifCond .eq 11, 3) := by decide +kernel
theorem dX0_readLine_52 : decode cX0_readLine 52 = .ok (.iload 4, 2) := by decide +kernel
theorem dX0_readLine_54 : decode cX0_readLine 54 = .ok (.iconst (-1), 1) := by decide +kernel
theorem dX0_readLine_55 : decode cX0_readLine 55 = .ok (.if_icmp .ne 5, 3) := by decide +kernel
theorem dX0_readLine_58 : decode cX0_readLine 58 = .ok (.iconst 0, 1) := by decide +kernel
theorem dX0_readLine_59 : decode cX0_readLine 59 = .ok (.ireturn, 1) := by decide +kernel
theorem dX0_readLine_60 : decode cX0_readLine 60 = .ok (.aload_n 0, 1) := by decide +kernel
theorem dX0_readLine_61 : decode cX0_readLine 61 = .ok (.getfield 21, 3) := by decide +kernel
theorem dX0_readLine_64 : decode cX0_readLine 64 = .ok (.bipush 40, 2) := by decide +kernel
theorem dX0_readLine_66 : decode cX0_readLine 66 = .ok (.if_icmp .lt 9, 3) := by decide +kernel
theorem dX0_readLine_69 : decode cX0_readLine 69 = .ok (.aload_n 1, 1) := by decide +kernel
theorem dX0_readLine_70 : decode cX0_readLine 70 = .ok (.iconst 4, 1) := by decide +kernel
theorem dX0_readLine_71 : decode cX0_readLine 71 = .ok (.invokevirtual 67, 3) := by decide +kernel
theorem dX0_readLine_74 : decode cX0_readLine 74 = .ok (.ireturn, 1) := by decide +kernel
theorem dX0_readLine_75 : decode cX0_readLine 75 = .ok (.aload_n 0, 1) := by decide +kernel
theorem dX0_readLine_76 : decode cX0_readLine 76 = .ok (.getfield 15, 3) := by decide +kernel
theorem dX0_readLine_79 : decode cX0_readLine 79 = .ok (.aload_n 0, 1) := by decide +kernel
theorem dX0_readLine_80 : decode cX0_readLine 80 = .ok (.getfield 21, 3) := by decide +kernel
theorem dX0_readLine_83 : decode cX0_readLine 83 = .ok (.iload 4, 2) := by decide +kernel
theorem dX0_readLine_85 : decode cX0_readLine 85 = .ok (.iastore, 1) := by decide +kernel
theorem dX0_readLine_86 : decode cX0_readLine 86 = .ok (.aload_n 0, 1) := by decide +kernel
theorem dX0_readLine_87 : decode cX0_readLine 87 = .ok (.getfield 18, 3) := by decide +kernel
theorem dX0_readLine_90 : decode cX0_readLine 90 = .ok (.aload_n 0, 1) := by decide +kernel
theorem dX0_readLine_91 : decode cX0_readLine 91 = .ok (.getfield 21, 3) := by decide +kernel
theorem dX0_readLine_94 : decode cX0_readLine 94 = .ok (.iconst 0, 1) := by decide +kernel
theorem dX0_readLine_95 : decode cX0_readLine 95 = .ok (.iastore, 1) := by decide +kernel
theorem dX0_readLine_96 : decode cX0_readLine 96 = .ok (.aload_n 0, 1) := by decide +kernel
theorem dX0_readLine_97 : decode cX0_readLine 97 = .ok (.dup, 1) := by decide +kernel
theorem dX0_readLine_98 : decode cX0_readLine 98 = .ok (.getfield 21, 3) := by decide +kernel
theorem dX0_readLine_101 : decode cX0_readLine 101 = .ok (.iconst 1, 1) := by decide +kernel
theorem dX0_readLine_102 : decode cX0_readLine 102 = .ok (.iadd, 1) := by decide +kernel
theorem dX0_readLine_103 : decode cX0_readLine 103 = .ok (.putfield 21, 3) := by decide +kernel
theorem dX0_readLine_106 : decode cX0_readLine 106 = .ok (.iload_n 3, 1) := by decide +kernel
theorem dX0_readLine_107 : decode cX0_readLine 107 = .ok (.ifCond .eq 14, 3) := by decide +kernel
theorem dX0_readLine_110 : decode cX0_readLine 110 = .ok (.aload_n 1, 1) := by decide +kernel
theorem dX0_readLine_111 : decode cX0_readLine 111 = .ok (.invokevirtual 70, 3) := by decide +kernel
theorem dX0_readLine_114 : decode cX0_readLine 114 = .ok (.aload_n 0, 1) := by decide +kernel
theorem dX0_readLine_115 : decode cX0_readLine 115 = .ok (.aload_n 1, 1) := by decide +kernel
theorem dX0_readLine_116 : decode cX0_readLine 116 = .ok (.aload_n 2, 1) := by decide +kernel
theorem dX0_readLine_117 : decode cX0_readLine 117 = .ok (.invokevirtual 73, 3) := by decide +kernel
theorem dX0_readLine_120 : decode cX0_readLine 120 = .ok (.ireturn, 1) := by decide +kernel
theorem dX0_readLine_121 : decode cX0_readLine 121 = .ok (.aload_n 1, 1) := by decide +kernel
theorem dX0_readLine_122 : decode cX0_readLine 122 = .ok (.getstatic 42, 3) := by decide +kernel
theorem dX0_readLine_125 : decode cX0_readLine 125 = .ok (.invokevirtual 48, 3) := by decide +kernel
theorem dX0_readLine_128 : decode cX0_readLine 128 = .ok (.ifCond .eq 11, 3) := by decide +kernel
theorem dX0_readLine_131 : decode cX0_readLine 131 = .ok (.aload_n 0, 1) := by decide +kernel
theorem dX0_readLine_132 : decode cX0_readLine 132 = .ok (.aload_n 1, 1) := by decide +kernel
theorem dX0_readLine_133 : decode cX0_readLine 133 = .ok (.bipush 40, 2) := by decide +kernel
theorem dX0_readLine_135 : decode cX0_readLine 135 = .ok (.invokevirtual 76, 3) := by decide +kernel
theorem dX0_readLine_138 : decode cX0_readLine 138 = .ok (.ireturn, 1) := by decide +kernel
theorem dX0_readLine_139 : decode cX0_readLine 139 = .ok (.aload_n 0, 1) := by decide +kernel
theorem dX0_readLine_140 : decode cX0_readLine 140 = .ok (.aload_n 1, 1) := by decide +kernel
theorem dX0_readLine_141 : decode cX0_readLine 141 = .ok (.bipush 50, 2) := by decide +kernel
theorem dX0_readLine_143 : decode cX0_readLine 143 = .ok (.invokevirtual 76, 3) := by decide +kernel
theorem dX0_readLine_146 : decode cX0_readLine 146 = .ok (.ifCond .eq 17, 3) := by decide +kernel
theorem dX0_readLine_149 : decode cX0_readLine 149 = .ok (.aload_n 0, 1) := by decide +kernel
theorem dX0_readLine_150 : decode cX0_readLine 150 = .ok (.aload_n 1, 1) := by decide +kernel
theorem dX0_readLine_151 : decode cX0_readLine 151 = .ok (.bipush 60, 2) := by decide +kernel
theorem dX0_readLine_153 : decode cX0_readLine 153 = .ok (.invokevirtual 80, 3) := by decide +kernel
theorem dX0_readLine_156 : decode cX0_readLine 156 = .ok (.ifCond .eq 7, 3) := by decide +kernel
theorem dX0_readLine_159 : decode cX0_readLine 159 = .ok (.iconst 1, 1) := by decide +kernel
theorem dX0_readLine_160 : decode cX0_readLine 160 = .ok (.goto 4, 3) := by decide +kernel
theorem dX0_readLine_163 : decode cX0_readLine 163 = .ok (.iconst 0, 1) := by decide +kernel
theorem dX0_readLine_164 : decode cX0_readLine 164 = .ok (.ireturn, 1) := by decide +kernel
set_option maxRecDepth 20000 in
theorem ggX0_readMachineAct_X4_seesWord : GoodIn wsX0_readMachineAct wsX4_seesWord := goodIn_r _ [8, 9, 10, 123, 124, 125, 126, 127, 128, 129, 130, 131, 132, 133] rfl rfl
set_option maxRecDepth 20000 in
theorem gX0_readMachineAct_X4_seesWord_n48 : GoodIn wsX0_readMachineAct (wsX4_seesWord) := ggX0_readMachineAct_X4_seesWord
set_option maxRecDepth 20000 in
theorem ggX0_readMachineAct_X0_passAct : GoodIn wsX0_readMachineAct wsX0_passAct := goodIn_r _ [15, 16, 17, 18, 6, 19, 20, 21, 22, 23, 24, 25, 26, 27, 28, 29, 10, 30, 9, 31, 32, 33, 34, 35, 36, 37, 38, 39, 40, 41, 42, 43, 44, 45, 46, 47, 48, 49, 50, 51, 52, 53, 54, 55, 56, 57, 58, 59, 60, 61, 62, 63, 64, 65, 66, 67, 68, 69, 70, 71, 72, 73, 74, 75, 76, 77, 78, 79, 80, 81, 82, 83, 84, 85, 86, 87, 88, 89, 90, 91, 92, 93, 134, 135, 136, 137, 138, 139, 123, 124, 125, 126, 127, 128, 129, 130, 131, 132, 133] rfl rfl
set_option maxRecDepth 20000 in
theorem gX0_readMachineAct_X0_passAct : GoodIn wsX0_readMachineAct (wsV RX0 76 RX0 yX0_passAct wsX0_passAct) := goodIn_app (goodIn_r _ [11, 12, 13, 14] rfl rfl) ggX0_readMachineAct_X0_passAct
set_option maxRecDepth 20000 in
theorem ggX0_readMachineAct_X0_passPhrase : GoodIn wsX0_readMachineAct wsX0_passPhrase := goodIn_r _ [97, 98, 6, 99, 100, 29, 36, 101, 5, 7, 8, 9, 10, 102, 103, 104, 105, 106, 30, 107, 108, 109, 110, 111, 112, 113, 14, 114, 16, 115, 18, 19, 20, 21, 22, 23, 24, 25, 26, 27, 28, 31, 32, 33, 34, 35, 37, 38, 39, 40, 41, 42, 43, 44, 45, 46, 47, 48, 49, 50, 51, 52, 53, 54, 55, 56, 57, 58, 59, 60, 61, 62, 63, 64, 65, 66, 67, 68, 69, 70, 71, 72, 73, 74, 75, 76, 77, 78, 79, 80, 81, 82, 83, 84, 85, 86, 87, 88, 89, 90, 91, 92, 93, 140, 141, 142, 143, 144, 145, 146, 147, 148, 149, 150, 123, 124, 125, 126, 127, 128, 129, 130, 131, 132, 133, 134, 135, 136, 137, 138, 139] rfl rfl
set_option maxRecDepth 20000 in
theorem gX0_readMachineAct_X0_passPhrase : GoodIn wsX0_readMachineAct (wsV RX0 86 RX0 yX0_passPhrase wsX0_passPhrase) := goodIn_app (goodIn_r _ [94, 95, 96, 14] rfl rfl) ggX0_readMachineAct_X0_passPhrase
set_option maxRecDepth 20000 in
theorem ggX0_readMachineAct_X0_passNumber : GoodIn wsX0_readMachineAct wsX0_passNumber := goodIn_r _ [119, 120, 6, 121, 122, 9, 31, 102, 103, 104, 105, 106, 30, 107, 111, 112, 113, 14, 114, 16, 115, 18, 19, 20, 21, 22, 23, 24, 25, 26, 27, 28, 29, 10, 32, 33, 34, 35, 36, 37, 38, 39, 40, 41, 42, 43, 44, 45, 46, 47, 48, 49, 50, 51, 52, 53, 54, 55, 56, 57, 58, 59, 60, 61, 62, 63, 64, 65, 66, 67, 68, 69, 70, 71, 72, 73, 74, 75, 76, 77, 78, 79, 80, 81, 82, 83, 84, 85, 86, 87, 88, 89, 90, 91, 92, 93, 123, 124, 125, 126, 127, 128, 129, 130, 131, 132, 133, 134, 135, 136, 137, 138, 139] rfl rfl
set_option maxRecDepth 20000 in
theorem gX0_readMachineAct_X0_passNumber : GoodIn wsX0_readMachineAct (wsV RX0 80 RX0 yX0_passNumber wsX0_passNumber) := goodIn_app (goodIn_r _ [116, 117, 118, 14] rfl rfl) ggX0_readMachineAct_X0_passNumber
set_option maxRecDepth 20000 in
theorem ggX0_readMachineAct_X4_refuse : GoodIn wsX0_readMachineAct wsX4_refuse := goodIn_r _ [105, 106, 30, 107, 123, 124, 125, 126, 127, 128, 129, 130, 131, 132, 133] rfl rfl
set_option maxRecDepth 20000 in
theorem gX0_readMachineAct_X4_refuse_n67 : GoodIn wsX0_readMachineAct (wsX4_refuse) := ggX0_readMachineAct_X4_refuse
theorem dX0_readMachineAct_0 : decode cX0_readMachineAct 0 = .ok (.aload_n 1, 1) := by decide +kernel
theorem dX0_readMachineAct_1 : decode cX0_readMachineAct 1 = .ok (.getstatic 83, 3) := by decide +kernel
theorem dX0_readMachineAct_4 : decode cX0_readMachineAct 4 = .ok (.invokevirtual 48, 3) := by decide +kernel
theorem dX0_readMachineAct_7 : decode cX0_readMachineAct 7 = .ok (.ifCond .eq 27, 3) := by decide +kernel
theorem dX0_readMachineAct_10 : decode cX0_readMachineAct 10 = .ok (.aload_n 0, 1) := by decide +kernel
theorem dX0_readMachineAct_11 : decode cX0_readMachineAct 11 = .ok (.aload_n 1, 1) := by decide +kernel
theorem dX0_readMachineAct_12 : decode cX0_readMachineAct 12 = .ok (.iconst 0, 1) := by decide +kernel
theorem dX0_readMachineAct_13 : decode cX0_readMachineAct 13 = .ok (.invokevirtual 76, 3) := by decide +kernel
theorem dX0_readMachineAct_16 : decode cX0_readMachineAct 16 = .ok (.ifCond .eq 16, 3) := by decide +kernel
theorem dX0_readMachineAct_19 : decode cX0_readMachineAct 19 = .ok (.aload_n 0, 1) := by decide +kernel
theorem dX0_readMachineAct_20 : decode cX0_readMachineAct 20 = .ok (.aload_n 1, 1) := by decide +kernel
theorem dX0_readMachineAct_21 : decode cX0_readMachineAct 21 = .ok (.aload_n 2, 1) := by decide +kernel
theorem dX0_readMachineAct_22 : decode cX0_readMachineAct 22 = .ok (.invokevirtual 86, 3) := by decide +kernel
theorem dX0_readMachineAct_25 : decode cX0_readMachineAct 25 = .ok (.ifCond .eq 7, 3) := by decide +kernel
theorem dX0_readMachineAct_28 : decode cX0_readMachineAct 28 = .ok (.iconst 1, 1) := by decide +kernel
theorem dX0_readMachineAct_29 : decode cX0_readMachineAct 29 = .ok (.goto 4, 3) := by decide +kernel
theorem dX0_readMachineAct_32 : decode cX0_readMachineAct 32 = .ok (.iconst 0, 1) := by decide +kernel
theorem dX0_readMachineAct_33 : decode cX0_readMachineAct 33 = .ok (.ireturn, 1) := by decide +kernel
theorem dX0_readMachineAct_34 : decode cX0_readMachineAct 34 = .ok (.aload_n 1, 1) := by decide +kernel
theorem dX0_readMachineAct_35 : decode cX0_readMachineAct 35 = .ok (.getstatic 89, 3) := by decide +kernel
theorem dX0_readMachineAct_38 : decode cX0_readMachineAct 38 = .ok (.invokevirtual 48, 3) := by decide +kernel
theorem dX0_readMachineAct_41 : decode cX0_readMachineAct 41 = .ok (.ifCond .eq 11, 3) := by decide +kernel
theorem dX0_readMachineAct_44 : decode cX0_readMachineAct 44 = .ok (.aload_n 0, 1) := by decide +kernel
theorem dX0_readMachineAct_45 : decode cX0_readMachineAct 45 = .ok (.aload_n 1, 1) := by decide +kernel
theorem dX0_readMachineAct_46 : decode cX0_readMachineAct 46 = .ok (.bipush 10, 2) := by decide +kernel
theorem dX0_readMachineAct_48 : decode cX0_readMachineAct 48 = .ok (.invokevirtual 76, 3) := by decide +kernel
theorem dX0_readMachineAct_51 : decode cX0_readMachineAct 51 = .ok (.ireturn, 1) := by decide +kernel
theorem dX0_readMachineAct_52 : decode cX0_readMachineAct 52 = .ok (.aload_n 1, 1) := by decide +kernel
theorem dX0_readMachineAct_53 : decode cX0_readMachineAct 53 = .ok (.getstatic 92, 3) := by decide +kernel
theorem dX0_readMachineAct_56 : decode cX0_readMachineAct 56 = .ok (.invokevirtual 48, 3) := by decide +kernel
theorem dX0_readMachineAct_59 : decode cX0_readMachineAct 59 = .ok (.ifCond .eq 11, 3) := by decide +kernel
theorem dX0_readMachineAct_62 : decode cX0_readMachineAct 62 = .ok (.aload_n 0, 1) := by decide +kernel
theorem dX0_readMachineAct_63 : decode cX0_readMachineAct 63 = .ok (.aload_n 1, 1) := by decide +kernel
theorem dX0_readMachineAct_64 : decode cX0_readMachineAct 64 = .ok (.bipush 20, 2) := by decide +kernel
theorem dX0_readMachineAct_66 : decode cX0_readMachineAct 66 = .ok (.invokevirtual 76, 3) := by decide +kernel
theorem dX0_readMachineAct_69 : decode cX0_readMachineAct 69 = .ok (.ireturn, 1) := by decide +kernel
theorem dX0_readMachineAct_70 : decode cX0_readMachineAct 70 = .ok (.aload_n 1, 1) := by decide +kernel
theorem dX0_readMachineAct_71 : decode cX0_readMachineAct 71 = .ok (.getstatic 95, 3) := by decide +kernel
theorem dX0_readMachineAct_74 : decode cX0_readMachineAct 74 = .ok (.invokevirtual 48, 3) := by decide +kernel
theorem dX0_readMachineAct_77 : decode cX0_readMachineAct 77 = .ok (.ifCond .eq 30, 3) := by decide +kernel
theorem dX0_readMachineAct_80 : decode cX0_readMachineAct 80 = .ok (.aload_n 0, 1) := by decide +kernel
theorem dX0_readMachineAct_81 : decode cX0_readMachineAct 81 = .ok (.aload_n 1, 1) := by decide +kernel
theorem dX0_readMachineAct_82 : decode cX0_readMachineAct 82 = .ok (.bipush 30, 2) := by decide +kernel
theorem dX0_readMachineAct_84 : decode cX0_readMachineAct 84 = .ok (.invokevirtual 76, 3) := by decide +kernel
theorem dX0_readMachineAct_87 : decode cX0_readMachineAct 87 = .ok (.ifCond .eq 18, 3) := by decide +kernel
theorem dX0_readMachineAct_90 : decode cX0_readMachineAct 90 = .ok (.aload_n 0, 1) := by decide +kernel
theorem dX0_readMachineAct_91 : decode cX0_readMachineAct 91 = .ok (.aload_n 1, 1) := by decide +kernel
theorem dX0_readMachineAct_92 : decode cX0_readMachineAct 92 = .ok (.sipush 999, 3) := by decide +kernel
theorem dX0_readMachineAct_95 : decode cX0_readMachineAct 95 = .ok (.invokevirtual 80, 3) := by decide +kernel
theorem dX0_readMachineAct_98 : decode cX0_readMachineAct 98 = .ok (.ifCond .eq 7, 3) := by decide +kernel
theorem dX0_readMachineAct_101 : decode cX0_readMachineAct 101 = .ok (.iconst 1, 1) := by decide +kernel
theorem dX0_readMachineAct_102 : decode cX0_readMachineAct 102 = .ok (.goto 4, 3) := by decide +kernel
theorem dX0_readMachineAct_105 : decode cX0_readMachineAct 105 = .ok (.iconst 0, 1) := by decide +kernel
theorem dX0_readMachineAct_106 : decode cX0_readMachineAct 106 = .ok (.ireturn, 1) := by decide +kernel
theorem dX0_readMachineAct_107 : decode cX0_readMachineAct 107 = .ok (.aload_n 1, 1) := by decide +kernel
theorem dX0_readMachineAct_108 : decode cX0_readMachineAct 108 = .ok (.iconst 1, 1) := by decide +kernel
theorem dX0_readMachineAct_109 : decode cX0_readMachineAct 109 = .ok (.invokevirtual 67, 3) := by decide +kernel
theorem dX0_readMachineAct_112 : decode cX0_readMachineAct 112 = .ok (.ireturn, 1) := by decide +kernel
set_option maxRecDepth 20000 in
theorem ggX0_passAct_X4_advance : GoodIn wsX0_passAct wsX4_advance := goodIn_r _ [6, 7, 8, 9, 10, 11, 12, 13, 14, 15, 16, 17, 18, 19, 20, 21, 22, 4, 23, 24, 25, 26, 27, 28, 29, 30, 31, 32, 33, 34, 35, 36, 37, 38, 39, 40, 41, 42, 43, 44, 45, 46, 47, 48, 49, 50, 51, 52, 53, 54, 55, 56, 57, 58, 59, 60, 61, 62, 63, 64, 65, 66, 67, 68, 69, 70, 71, 72, 73, 74, 75, 76, 77, 78, 79, 80, 81, 88, 89, 90, 91, 92, 93, 94, 95, 96, 97, 98] rfl rfl
set_option maxRecDepth 20000 in
theorem gX0_passAct_X4_advance_n70 : GoodIn wsX0_passAct (wsX4_advance) := ggX0_passAct_X4_advance
theorem dX0_passAct_0 : decode cX0_passAct 0 = .ok (.aload_n 0, 1) := by decide +kernel
theorem dX0_passAct_1 : decode cX0_passAct 1 = .ok (.getfield 21, 3) := by decide +kernel
theorem dX0_passAct_4 : decode cX0_passAct 4 = .ok (.iconst 1, 1) := by decide +kernel
theorem dX0_passAct_5 : decode cX0_passAct 5 = .ok (.if_icmp .lt 24, 3) := by decide +kernel
theorem dX0_passAct_8 : decode cX0_passAct 8 = .ok (.aload_n 0, 1) := by decide +kernel
theorem dX0_passAct_9 : decode cX0_passAct 9 = .ok (.getfield 21, 3) := by decide +kernel
theorem dX0_passAct_12 : decode cX0_passAct 12 = .ok (.bipush 40, 2) := by decide +kernel
theorem dX0_passAct_14 : decode cX0_passAct 14 = .ok (.if_icmp .gt 15, 3) := by decide +kernel
theorem dX0_passAct_17 : decode cX0_passAct 17 = .ok (.aload_n 0, 1) := by decide +kernel
theorem dX0_passAct_18 : decode cX0_passAct 18 = .ok (.getfield 11, 3) := by decide +kernel
theorem dX0_passAct_21 : decode cX0_passAct 21 = .ok (.aload_n 0, 1) := by decide +kernel
theorem dX0_passAct_22 : decode cX0_passAct 22 = .ok (.getfield 21, 3) := by decide +kernel
theorem dX0_passAct_25 : decode cX0_passAct 25 = .ok (.iconst 1, 1) := by decide +kernel
theorem dX0_passAct_26 : decode cX0_passAct 26 = .ok (.isub, 1) := by decide +kernel
theorem dX0_passAct_27 : decode cX0_passAct 27 = .ok (.iload_n 2, 1) := by decide +kernel
theorem dX0_passAct_28 : decode cX0_passAct 28 = .ok (.iastore, 1) := by decide +kernel
theorem dX0_passAct_29 : decode cX0_passAct 29 = .ok (.aload_n 1, 1) := by decide +kernel
theorem dX0_passAct_30 : decode cX0_passAct 30 = .ok (.invokevirtual 70, 3) := by decide +kernel
theorem dX0_passAct_33 : decode cX0_passAct 33 = .ok (.iconst 1, 1) := by decide +kernel
theorem dX0_passAct_34 : decode cX0_passAct 34 = .ok (.ireturn, 1) := by decide +kernel
set_option maxRecDepth 20000 in
theorem ggX0_passPhrase_X4_neededOf : GoodIn wsX0_passPhrase wsX4_neededOf := goodIn_r _ [4, 5, 6, 7, 8, 9, 2, 10, 11, 12, 13, 14, 15, 16, 17, 18, 19, 20, 21, 22, 114, 115, 116, 117, 118, 119, 120, 121, 122, 123, 124] rfl rfl
set_option maxRecDepth 20000 in
theorem gX0_passPhrase_X4_neededOf_n63 : GoodIn wsX0_passPhrase (wsX4_neededOf) := ggX0_passPhrase_X4_neededOf
set_option maxRecDepth 20000 in
theorem ggX0_passPhrase_X0_keepNumber : GoodIn wsX0_passPhrase wsX0_keepNumber := goodIn_r _ [27, 28, 29, 125, 126, 127, 128, 129, 130] rfl rfl
set_option maxRecDepth 20000 in
theorem gX0_passPhrase_X0_keepNumber : GoodIn wsX0_passPhrase (wsV RX0 104 RX0 yX0_keepNumber wsX0_keepNumber) := goodIn_app (goodIn_r _ [23, 24, 25, 26] rfl rfl) ggX0_passPhrase_X0_keepNumber
set_option maxRecDepth 20000 in
theorem ggX0_passPhrase_X4_advance : GoodIn wsX0_passPhrase wsX4_advance := goodIn_r _ [32, 33, 34, 35, 36, 37, 38, 39, 40, 5, 12, 18, 11, 41, 42, 43, 44, 2, 45, 6, 46, 47, 48, 49, 50, 51, 52, 53, 54, 55, 56, 57, 58, 59, 60, 61, 62, 63, 64, 65, 66, 67, 68, 69, 70, 71, 72, 73, 74, 75, 76, 77, 78, 79, 80, 81, 82, 83, 84, 85, 86, 87, 88, 89, 90, 91, 92, 93, 94, 95, 96, 97, 98, 99, 100, 101, 102, 114, 115, 116, 117, 118, 119, 120, 121, 122, 123, 124] rfl rfl
set_option maxRecDepth 20000 in
theorem gX0_passPhrase_X4_advance_n70 : GoodIn wsX0_passPhrase (wsX4_advance) := ggX0_passPhrase_X4_advance
theorem dX0_passPhrase_0 : decode cX0_passPhrase 0 = .ok (.aload_n 1, 1) := by decide +kernel
theorem dX0_passPhrase_1 : decode cX0_passPhrase 1 = .ok (.aload_n 2, 1) := by decide +kernel
theorem dX0_passPhrase_2 : decode cX0_passPhrase 2 = .ok (.getfield 98, 3) := by decide +kernel
theorem dX0_passPhrase_5 : decode cX0_passPhrase 5 = .ok (.aload_n 2, 1) := by decide +kernel
theorem dX0_passPhrase_6 : decode cX0_passPhrase 6 = .ok (.getfield 101, 3) := by decide +kernel
theorem dX0_passPhrase_9 : decode cX0_passPhrase 9 = .ok (.invokevirtual 63, 3) := by decide +kernel
theorem dX0_passPhrase_12 : decode cX0_passPhrase 12 = .ok (.istore_n 3, 1) := by decide +kernel
theorem dX0_passPhrase_13 : decode cX0_passPhrase 13 = .ok (.iload_n 3, 1) := by decide +kernel
theorem dX0_passPhrase_14 : decode cX0_passPhrase 14 = .ok (.iconst (-1), 1) := by decide +kernel
theorem dX0_passPhrase_15 : decode cX0_passPhrase 15 = .ok (.if_icmp .ne 5, 3) := by decide +kernel
theorem dX0_passPhrase_18 : decode cX0_passPhrase 18 = .ok (.iconst 0, 1) := by decide +kernel
theorem dX0_passPhrase_19 : decode cX0_passPhrase 19 = .ok (.ireturn, 1) := by decide +kernel
theorem dX0_passPhrase_20 : decode cX0_passPhrase 20 = .ok (.aload_n 0, 1) := by decide +kernel
theorem dX0_passPhrase_21 : decode cX0_passPhrase 21 = .ok (.iload_n 3, 1) := by decide +kernel
theorem dX0_passPhrase_22 : decode cX0_passPhrase 22 = .ok (.invokevirtual 104, 3) := by decide +kernel
theorem dX0_passPhrase_25 : decode cX0_passPhrase 25 = .ok (.aload_n 1, 1) := by decide +kernel
theorem dX0_passPhrase_26 : decode cX0_passPhrase 26 = .ok (.invokevirtual 70, 3) := by decide +kernel
theorem dX0_passPhrase_29 : decode cX0_passPhrase 29 = .ok (.iconst 1, 1) := by decide +kernel
theorem dX0_passPhrase_30 : decode cX0_passPhrase 30 = .ok (.ireturn, 1) := by decide +kernel
set_option maxRecDepth 20000 in
theorem ggX0_passNumber_X4_needsNumber : GoodIn wsX0_passNumber wsX4_needsNumber := goodIn_r _ [4, 5, 6, 7, 8, 9, 2, 10, 11, 12, 13, 96, 97, 98, 99, 100, 101, 102, 103, 104, 105, 106] rfl rfl
set_option maxRecDepth 20000 in
theorem gX0_passNumber_X4_needsNumber_n108 : GoodIn wsX0_passNumber (wsX4_needsNumber) := ggX0_passNumber_X4_needsNumber
set_option maxRecDepth 20000 in
theorem ggX0_passNumber_X0_keepNumber : GoodIn wsX0_passNumber wsX0_keepNumber := goodIn_r _ [18, 19, 20, 107, 108, 109, 110, 111, 112] rfl rfl
set_option maxRecDepth 20000 in
theorem gX0_passNumber_X0_keepNumber : GoodIn wsX0_passNumber (wsV RX0 104 RX0 yX0_keepNumber wsX0_keepNumber) := goodIn_app (goodIn_r _ [14, 15, 16, 17] rfl rfl) ggX0_passNumber_X0_keepNumber
set_option maxRecDepth 20000 in
theorem ggX0_passNumber_X4_advance : GoodIn wsX0_passNumber wsX4_advance := goodIn_r _ [23, 24, 25, 26, 27, 28, 29, 30, 31, 32, 33, 12, 5, 6, 34, 35, 36, 2, 37, 38, 39, 40, 41, 42, 43, 44, 45, 46, 47, 48, 49, 50, 51, 52, 53, 54, 55, 56, 57, 58, 59, 60, 61, 62, 63, 64, 65, 66, 67, 68, 69, 70, 71, 72, 73, 74, 75, 76, 77, 78, 79, 80, 81, 82, 83, 84, 85, 86, 87, 88, 89, 90, 91, 92, 93, 94, 95, 96, 97, 98, 99, 100, 101, 102, 103, 104, 105, 106] rfl rfl
set_option maxRecDepth 20000 in
theorem gX0_passNumber_X4_advance_n70 : GoodIn wsX0_passNumber (wsX4_advance) := ggX0_passNumber_X4_advance
theorem dX0_passNumber_0 : decode cX0_passNumber 0 = .ok (.aload_n 1, 1) := by decide +kernel
theorem dX0_passNumber_1 : decode cX0_passNumber 1 = .ok (.iconst 1, 1) := by decide +kernel
theorem dX0_passNumber_2 : decode cX0_passNumber 2 = .ok (.iload_n 2, 1) := by decide +kernel
theorem dX0_passNumber_3 : decode cX0_passNumber 3 = .ok (.invokevirtual 108, 3) := by decide +kernel
theorem dX0_passNumber_6 : decode cX0_passNumber 6 = .ok (.ifCond .ne 5, 3) := by decide +kernel
theorem dX0_passNumber_9 : decode cX0_passNumber 9 = .ok (.iconst 0, 1) := by decide +kernel
theorem dX0_passNumber_10 : decode cX0_passNumber 10 = .ok (.ireturn, 1) := by decide +kernel
theorem dX0_passNumber_11 : decode cX0_passNumber 11 = .ok (.aload_n 0, 1) := by decide +kernel
theorem dX0_passNumber_12 : decode cX0_passNumber 12 = .ok (.aload_n 1, 1) := by decide +kernel
theorem dX0_passNumber_13 : decode cX0_passNumber 13 = .ok (.getfield 112, 3) := by decide +kernel
theorem dX0_passNumber_16 : decode cX0_passNumber 16 = .ok (.invokevirtual 104, 3) := by decide +kernel
theorem dX0_passNumber_19 : decode cX0_passNumber 19 = .ok (.aload_n 1, 1) := by decide +kernel
theorem dX0_passNumber_20 : decode cX0_passNumber 20 = .ok (.invokevirtual 70, 3) := by decide +kernel
theorem dX0_passNumber_23 : decode cX0_passNumber 23 = .ok (.iconst 1, 1) := by decide +kernel
theorem dX0_passNumber_24 : decode cX0_passNumber 24 = .ok (.ireturn, 1) := by decide +kernel
theorem dX0_keepNumber_0 : decode cX0_keepNumber 0 = .ok (.aload_n 0, 1) := by decide +kernel
theorem dX0_keepNumber_1 : decode cX0_keepNumber 1 = .ok (.getfield 21, 3) := by decide +kernel
theorem dX0_keepNumber_4 : decode cX0_keepNumber 4 = .ok (.iconst 1, 1) := by decide +kernel
theorem dX0_keepNumber_5 : decode cX0_keepNumber 5 = .ok (.if_icmp .lt 24, 3) := by decide +kernel
theorem dX0_keepNumber_8 : decode cX0_keepNumber 8 = .ok (.aload_n 0, 1) := by decide +kernel
theorem dX0_keepNumber_9 : decode cX0_keepNumber 9 = .ok (.getfield 21, 3) := by decide +kernel
theorem dX0_keepNumber_12 : decode cX0_keepNumber 12 = .ok (.bipush 40, 2) := by decide +kernel
theorem dX0_keepNumber_14 : decode cX0_keepNumber 14 = .ok (.if_icmp .gt 15, 3) := by decide +kernel
theorem dX0_keepNumber_17 : decode cX0_keepNumber 17 = .ok (.aload_n 0, 1) := by decide +kernel
theorem dX0_keepNumber_18 : decode cX0_keepNumber 18 = .ok (.getfield 18, 3) := by decide +kernel
theorem dX0_keepNumber_21 : decode cX0_keepNumber 21 = .ok (.aload_n 0, 1) := by decide +kernel
theorem dX0_keepNumber_22 : decode cX0_keepNumber 22 = .ok (.getfield 21, 3) := by decide +kernel
theorem dX0_keepNumber_25 : decode cX0_keepNumber 25 = .ok (.iconst 1, 1) := by decide +kernel
theorem dX0_keepNumber_26 : decode cX0_keepNumber 26 = .ok (.isub, 1) := by decide +kernel
theorem dX0_keepNumber_27 : decode cX0_keepNumber 27 = .ok (.iload_n 1, 1) := by decide +kernel
theorem dX0_keepNumber_28 : decode cX0_keepNumber 28 = .ok (.iastore, 1) := by decide +kernel
theorem dX0_keepNumber_29 : decode cX0_keepNumber 29 = .ok (.return_, 1) := by decide +kernel
set_option maxRecDepth 20000 in
theorem ggX0_live_X9_whyNot : GoodIn wsX0_live wsX9_whyNot := goodIn_r _ [10, 11, 12, 13, 14, 8, 15, 16, 17, 18, 19, 20, 21, 22, 23, 24, 25, 26, 27, 28, 29, 30, 31, 32, 33, 34, 35, 36, 37, 38, 39, 40, 41, 42, 43, 44, 45, 46, 47, 48, 49, 50, 51, 52, 53, 54, 55, 56, 57, 58, 98, 99, 100, 101, 102, 103, 104, 105, 106, 107, 108, 109, 110, 111, 112, 113, 114, 115, 116, 117] rfl rfl
set_option maxRecDepth 20000 in
theorem gX0_live_X9_whyNot_n121 : GoodIn wsX0_live (wsX9_whyNot) := ggX0_live_X9_whyNot
set_option maxRecDepth 20000 in
theorem ggX0_live_X9_passDays : GoodIn wsX0_live wsX9_passDays := goodIn_r _ [61, 62, 63, 64, 8, 65, 35, 36, 66, 25, 67, 68, 69, 70, 31, 32, 33, 34, 11, 26, 27, 28, 29, 30, 37, 38, 39, 40, 41, 42, 43, 44, 45, 46, 47, 48, 49, 50, 51, 52, 53, 54, 55, 56, 57, 58, 71, 72, 73, 74, 75, 76, 77, 78, 79, 80, 16, 17, 18, 19, 20, 81, 82, 83, 84, 98, 99, 100, 101, 102, 103, 104, 105, 106, 107, 108, 109, 110, 111, 112, 113, 114, 115, 116, 117] rfl rfl
set_option maxRecDepth 20000 in
theorem gX0_live_X9_passDays_n127 : GoodIn wsX0_live (wsX9_passDays) := ggX0_live_X9_passDays
set_option maxRecDepth 20000 in
theorem ggX0_live_X9_perform : GoodIn wsX0_live wsX9_perform := goodIn_r _ [87, 11, 45, 88, 89, 90, 8, 91, 77, 78, 79, 80, 16, 17, 18, 19, 20, 81, 82, 83, 84, 71, 72, 73, 74, 75, 76, 35, 36, 26, 27, 28, 29, 30, 37, 38, 39, 40, 98, 99, 100, 101, 102, 103, 104, 105, 106, 107, 108, 109, 110, 111, 112, 113, 114, 115, 116, 117] rfl rfl
set_option maxRecDepth 20000 in
theorem gX0_live_X9_perform_n131 : GoodIn wsX0_live (wsX9_perform) := ggX0_live_X9_perform
theorem dX0_live_0 : decode cX0_live 0 = .ok (.aload_n 0, 1) := by decide +kernel
theorem dX0_live_1 : decode cX0_live 1 = .ok (.iconst 0, 1) := by decide +kernel
theorem dX0_live_2 : decode cX0_live 2 = .ok (.putfield 115, 3) := by decide +kernel
theorem dX0_live_5 : decode cX0_live 5 = .ok (.aload_n 0, 1) := by decide +kernel
theorem dX0_live_6 : decode cX0_live 6 = .ok (.iconst 0, 1) := by decide +kernel
theorem dX0_live_7 : decode cX0_live 7 = .ok (.putfield 118, 3) := by decide +kernel
theorem dX0_live_10 : decode cX0_live 10 = .ok (.iconst 0, 1) := by decide +kernel
theorem dX0_live_11 : decode cX0_live 11 = .ok (.istore_n 3, 1) := by decide +kernel
theorem dX0_live_12 : decode cX0_live 12 = .ok (.iload_n 3, 1) := by decide +kernel
theorem dX0_live_13 : decode cX0_live 13 = .ok (.aload_n 0, 1) := by decide +kernel
theorem dX0_live_14 : decode cX0_live 14 = .ok (.getfield 21, 3) := by decide +kernel
theorem dX0_live_17 : decode cX0_live 17 = .ok (.if_icmp .ge 117, 3) := by decide +kernel
theorem dX0_live_20 : decode cX0_live 20 = .ok (.iload_n 3, 1) := by decide +kernel
theorem dX0_live_21 : decode cX0_live 21 = .ok (.bipush 40, 2) := by decide +kernel
theorem dX0_live_23 : decode cX0_live 23 = .ok (.if_icmp .ge 111, 3) := by decide +kernel
theorem dX0_live_26 : decode cX0_live 26 = .ok (.aload_n 2, 1) := by decide +kernel
theorem dX0_live_27 : decode cX0_live 27 = .ok (.aload_n 1, 1) := by decide +kernel
theorem dX0_live_28 : decode cX0_live 28 = .ok (.aload_n 0, 1) := by decide +kernel
theorem dX0_live_29 : decode cX0_live 29 = .ok (.getfield 11, 3) := by decide +kernel
theorem dX0_live_32 : decode cX0_live 32 = .ok (.iload_n 3, 1) := by decide +kernel
theorem dX0_live_33 : decode cX0_live 33 = .ok (.iaload, 1) := by decide +kernel
theorem dX0_live_34 : decode cX0_live 34 = .ok (.aload_n 0, 1) := by decide +kernel
theorem dX0_live_35 : decode cX0_live 35 = .ok (.getfield 15, 3) := by decide +kernel
theorem dX0_live_38 : decode cX0_live 38 = .ok (.iload_n 3, 1) := by decide +kernel
theorem dX0_live_39 : decode cX0_live 39 = .ok (.iaload, 1) := by decide +kernel
theorem dX0_live_40 : decode cX0_live 40 = .ok (.aload_n 0, 1) := by decide +kernel
theorem dX0_live_41 : decode cX0_live 41 = .ok (.getfield 18, 3) := by decide +kernel
theorem dX0_live_44 : decode cX0_live 44 = .ok (.iload_n 3, 1) := by decide +kernel
theorem dX0_live_45 : decode cX0_live 45 = .ok (.iaload, 1) := by decide +kernel
theorem dX0_live_46 : decode cX0_live 46 = .ok (.invokevirtual 121, 3) := by decide +kernel
theorem dX0_live_49 : decode cX0_live 49 = .ok (.istore 4, 2) := by decide +kernel
theorem dX0_live_51 : decode cX0_live 51 = .ok (.iload 4, 2) := by decide +kernel
theorem dX0_live_53 : decode cX0_live 53 = .ok (.ifCond .eq 17, 3) := by decide +kernel
theorem dX0_live_56 : decode cX0_live 56 = .ok (.aload_n 0, 1) := by decide +kernel
theorem dX0_live_57 : decode cX0_live 57 = .ok (.aload_n 0, 1) := by decide +kernel
theorem dX0_live_58 : decode cX0_live 58 = .ok (.getfield 11, 3) := by decide +kernel
theorem dX0_live_61 : decode cX0_live 61 = .ok (.iload_n 3, 1) := by decide +kernel
theorem dX0_live_62 : decode cX0_live 62 = .ok (.iaload, 1) := by decide +kernel
theorem dX0_live_63 : decode cX0_live 63 = .ok (.iload 4, 2) := by decide +kernel
theorem dX0_live_65 : decode cX0_live 65 = .ok (.iadd, 1) := by decide +kernel
theorem dX0_live_66 : decode cX0_live 66 = .ok (.putfield 118, 3) := by decide +kernel
theorem dX0_live_69 : decode cX0_live 69 = .ok (.return_, 1) := by decide +kernel
theorem dX0_live_70 : decode cX0_live 70 = .ok (.aload_n 0, 1) := by decide +kernel
theorem dX0_live_71 : decode cX0_live 71 = .ok (.getfield 11, 3) := by decide +kernel
theorem dX0_live_74 : decode cX0_live 74 = .ok (.iload_n 3, 1) := by decide +kernel
theorem dX0_live_75 : decode cX0_live 75 = .ok (.iaload, 1) := by decide +kernel
theorem dX0_live_76 : decode cX0_live 76 = .ok (.bipush 50, 2) := by decide +kernel
theorem dX0_live_78 : decode cX0_live 78 = .ok (.if_icmp .ne 17, 3) := by decide +kernel
theorem dX0_live_81 : decode cX0_live 81 = .ok (.aload_n 2, 1) := by decide +kernel
theorem dX0_live_82 : decode cX0_live 82 = .ok (.aload_n 1, 1) := by decide +kernel
theorem dX0_live_83 : decode cX0_live 83 = .ok (.aload_n 0, 1) := by decide +kernel
theorem dX0_live_84 : decode cX0_live 84 = .ok (.getfield 18, 3) := by decide +kernel
theorem dX0_live_87 : decode cX0_live 87 = .ok (.iload_n 3, 1) := by decide +kernel
theorem dX0_live_88 : decode cX0_live 88 = .ok (.iaload, 1) := by decide +kernel
theorem dX0_live_89 : decode cX0_live 89 = .ok (.invokevirtual 127, 3) := by decide +kernel
theorem dX0_live_92 : decode cX0_live 92 = .ok (.goto 26, 3) := by decide +kernel
theorem dX0_live_95 : decode cX0_live 95 = .ok (.aload_n 2, 1) := by decide +kernel
theorem dX0_live_96 : decode cX0_live 96 = .ok (.aload_n 1, 1) := by decide +kernel
theorem dX0_live_97 : decode cX0_live 97 = .ok (.aload_n 0, 1) := by decide +kernel
theorem dX0_live_98 : decode cX0_live 98 = .ok (.getfield 11, 3) := by decide +kernel
theorem dX0_live_101 : decode cX0_live 101 = .ok (.iload_n 3, 1) := by decide +kernel
theorem dX0_live_102 : decode cX0_live 102 = .ok (.iaload, 1) := by decide +kernel
theorem dX0_live_103 : decode cX0_live 103 = .ok (.aload_n 0, 1) := by decide +kernel
theorem dX0_live_104 : decode cX0_live 104 = .ok (.getfield 15, 3) := by decide +kernel
theorem dX0_live_107 : decode cX0_live 107 = .ok (.iload_n 3, 1) := by decide +kernel
theorem dX0_live_108 : decode cX0_live 108 = .ok (.iaload, 1) := by decide +kernel
theorem dX0_live_109 : decode cX0_live 109 = .ok (.aload_n 0, 1) := by decide +kernel
theorem dX0_live_110 : decode cX0_live 110 = .ok (.getfield 18, 3) := by decide +kernel
theorem dX0_live_113 : decode cX0_live 113 = .ok (.iload_n 3, 1) := by decide +kernel
theorem dX0_live_114 : decode cX0_live 114 = .ok (.iaload, 1) := by decide +kernel
theorem dX0_live_115 : decode cX0_live 115 = .ok (.invokevirtual 131, 3) := by decide +kernel
theorem dX0_live_118 : decode cX0_live 118 = .ok (.aload_n 0, 1) := by decide +kernel
theorem dX0_live_119 : decode cX0_live 119 = .ok (.dup, 1) := by decide +kernel
theorem dX0_live_120 : decode cX0_live 120 = .ok (.getfield 115, 3) := by decide +kernel
theorem dX0_live_123 : decode cX0_live 123 = .ok (.iconst 1, 1) := by decide +kernel
theorem dX0_live_124 : decode cX0_live 124 = .ok (.iadd, 1) := by decide +kernel
theorem dX0_live_125 : decode cX0_live 125 = .ok (.putfield 115, 3) := by decide +kernel
theorem dX0_live_128 : decode cX0_live 128 = .ok (.iinc 3 1, 3) := by decide +kernel
theorem dX0_live_131 : decode cX0_live 131 = .ok (.goto (-119), 3) := by decide +kernel
theorem dX0_live_134 : decode cX0_live 134 = .ok (.return_, 1) := by decide +kernel
theorem dX1_init_0 : decode cX1_init 0 = .ok (.aload_n 0, 1) := by decide +kernel
theorem dX1_init_1 : decode cX1_init 1 = .ok (.invokespecial 1, 3) := by decide +kernel
theorem dX1_init_4 : decode cX1_init 4 = .ok (.return_, 1) := by decide +kernel
theorem dX1_draw_0 : decode cX1_draw 0 = .ok (.aload_n 0, 1) := by decide +kernel
theorem dX1_draw_1 : decode cX1_draw 1 = .ok (.aload_n 0, 1) := by decide +kernel
theorem dX1_draw_2 : decode cX1_draw 2 = .ok (.getfield 7, 3) := by decide +kernel
theorem dX1_draw_5 : decode cX1_draw 5 = .ok (.ldc 13, 2) := by decide +kernel
theorem dX1_draw_7 : decode cX1_draw 7 = .ok (.imul, 1) := by decide +kernel
theorem dX1_draw_8 : decode cX1_draw 8 = .ok (.sipush 12345, 3) := by decide +kernel
theorem dX1_draw_11 : decode cX1_draw 11 = .ok (.iadd, 1) := by decide +kernel
theorem dX1_draw_12 : decode cX1_draw 12 = .ok (.putfield 7, 3) := by decide +kernel
theorem dX1_draw_15 : decode cX1_draw 15 = .ok (.iload_n 1, 1) := by decide +kernel
theorem dX1_draw_16 : decode cX1_draw 16 = .ok (.ifCond .le 15, 3) := by decide +kernel
theorem dX1_draw_19 : decode cX1_draw 19 = .ok (.aload_n 0, 1) := by decide +kernel
theorem dX1_draw_20 : decode cX1_draw 20 = .ok (.getfield 7, 3) := by decide +kernel
theorem dX1_draw_23 : decode cX1_draw 23 = .ok (.bipush 8, 2) := by decide +kernel
theorem dX1_draw_25 : decode cX1_draw 25 = .ok (.iushr, 1) := by decide +kernel
theorem dX1_draw_26 : decode cX1_draw 26 = .ok (.iload_n 1, 1) := by decide +kernel
theorem dX1_draw_27 : decode cX1_draw 27 = .ok (.irem, 1) := by decide +kernel
theorem dX1_draw_28 : decode cX1_draw 28 = .ok (.goto 4, 3) := by decide +kernel
theorem dX1_draw_31 : decode cX1_draw 31 = .ok (.iconst 0, 1) := by decide +kernel
theorem dX1_draw_32 : decode cX1_draw 32 = .ok (.ireturn, 1) := by decide +kernel
set_option maxRecDepth 20000 in
theorem ggX2_init_X9_init : GoodIn wsX2_init wsX9_init := goodIn_r _ [9, 10, 2, 3, 11, 12, 13, 14, 15, 16, 17, 21, 22, 23, 24, 25, 26, 27, 28, 29] rfl rfl
set_option maxRecDepth 20000 in
theorem gX2_init_X9_init_n15 : GoodIn wsX2_init (wsX9_init) := ggX2_init_X9_init
theorem dX2_init_0 : decode cX2_init 0 = .ok (.aload_n 0, 1) := by decide +kernel
theorem dX2_init_1 : decode cX2_init 1 = .ok (.invokespecial 1, 3) := by decide +kernel
theorem dX2_init_4 : decode cX2_init 4 = .ok (.aload_n 0, 1) := by decide +kernel
theorem dX2_init_5 : decode cX2_init 5 = .ok (.bipush 8, 2) := by decide +kernel
theorem dX2_init_7 : decode cX2_init 7 = .ok (.anewarray 9, 3) := by decide +kernel
theorem dX2_init_10 : decode cX2_init 10 = .ok (.putfield 11, 3) := by decide +kernel
theorem dX2_init_13 : decode cX2_init 13 = .ok (.iconst 0, 1) := by decide +kernel
theorem dX2_init_14 : decode cX2_init 14 = .ok (.istore_n 1, 1) := by decide +kernel
theorem dX2_init_15 : decode cX2_init 15 = .ok (.iload_n 1, 1) := by decide +kernel
theorem dX2_init_16 : decode cX2_init 16 = .ok (.bipush 8, 2) := by decide +kernel
theorem dX2_init_18 : decode cX2_init 18 = .ok (.if_icmp .ge 22, 3) := by decide +kernel
theorem dX2_init_21 : decode cX2_init 21 = .ok (.aload_n 0, 1) := by decide +kernel
theorem dX2_init_22 : decode cX2_init 22 = .ok (.getfield 11, 3) := by decide +kernel
theorem dX2_init_25 : decode cX2_init 25 = .ok (.iload_n 1, 1) := by decide +kernel
theorem dX2_init_26 : decode cX2_init 26 = .ok (.new 9, 3) := by decide +kernel
theorem dX2_init_29 : decode cX2_init 29 = .ok (.dup, 1) := by decide +kernel
theorem dX2_init_30 : decode cX2_init 30 = .ok (.invokespecial 15, 3) := by decide +kernel
theorem dX2_init_33 : decode cX2_init 33 = .ok (.aastore, 1) := by decide +kernel
theorem dX2_init_34 : decode cX2_init 34 = .ok (.iinc 1 1, 3) := by decide +kernel
theorem dX2_init_37 : decode cX2_init 37 = .ok (.goto (-22), 3) := by decide +kernel
theorem dX2_init_40 : decode cX2_init 40 = .ok (.return_, 1) := by decide +kernel
theorem dX2_forget_0 : decode cX2_forget 0 = .ok (.aload_n 0, 1) := by decide +kernel
theorem dX2_forget_1 : decode cX2_forget 1 = .ok (.iconst 0, 1) := by decide +kernel
theorem dX2_forget_2 : decode cX2_forget 2 = .ok (.putfield 16, 3) := by decide +kernel
theorem dX2_forget_5 : decode cX2_forget 5 = .ok (.return_, 1) := by decide +kernel
set_option maxRecDepth 20000 in
theorem ggX2_keep_X9_copyFrom : GoodIn wsX2_keep wsX9_copyFrom := goodIn_r _ [7, 8, 9, 10, 11, 12, 13, 14, 15, 16, 17, 18, 19, 20, 24, 25, 26, 27, 28, 29, 30, 31, 32] rfl rfl
set_option maxRecDepth 20000 in
theorem gX2_keep_X9_copyFrom_n23 : GoodIn wsX2_keep (wsX9_copyFrom) := ggX2_keep_X9_copyFrom
theorem dX2_keep_0 : decode cX2_keep 0 = .ok (.aload_n 0, 1) := by decide +kernel
theorem dX2_keep_1 : decode cX2_keep 1 = .ok (.getfield 16, 3) := by decide +kernel
theorem dX2_keep_4 : decode cX2_keep 4 = .ok (.bipush 8, 2) := by decide +kernel
theorem dX2_keep_6 : decode cX2_keep 6 = .ok (.if_icmp .ne 26, 3) := by decide +kernel
theorem dX2_keep_9 : decode cX2_keep 9 = .ok (.aload_n 0, 1) := by decide +kernel
theorem dX2_keep_10 : decode cX2_keep 10 = .ok (.aload_n 0, 1) := by decide +kernel
theorem dX2_keep_11 : decode cX2_keep 11 = .ok (.getfield 20, 3) := by decide +kernel
theorem dX2_keep_14 : decode cX2_keep 14 = .ok (.iconst 1, 1) := by decide +kernel
theorem dX2_keep_15 : decode cX2_keep 15 = .ok (.iadd, 1) := by decide +kernel
theorem dX2_keep_16 : decode cX2_keep 16 = .ok (.bipush 8, 2) := by decide +kernel
theorem dX2_keep_18 : decode cX2_keep 18 = .ok (.irem, 1) := by decide +kernel
theorem dX2_keep_19 : decode cX2_keep 19 = .ok (.putfield 20, 3) := by decide +kernel
theorem dX2_keep_22 : decode cX2_keep 22 = .ok (.aload_n 0, 1) := by decide +kernel
theorem dX2_keep_23 : decode cX2_keep 23 = .ok (.dup, 1) := by decide +kernel
theorem dX2_keep_24 : decode cX2_keep 24 = .ok (.getfield 16, 3) := by decide +kernel
theorem dX2_keep_27 : decode cX2_keep 27 = .ok (.iconst 1, 1) := by decide +kernel
theorem dX2_keep_28 : decode cX2_keep 28 = .ok (.isub, 1) := by decide +kernel
theorem dX2_keep_29 : decode cX2_keep 29 = .ok (.putfield 16, 3) := by decide +kernel
theorem dX2_keep_32 : decode cX2_keep 32 = .ok (.aload_n 0, 1) := by decide +kernel
theorem dX2_keep_33 : decode cX2_keep 33 = .ok (.getfield 11, 3) := by decide +kernel
theorem dX2_keep_36 : decode cX2_keep 36 = .ok (.aload_n 0, 1) := by decide +kernel
theorem dX2_keep_37 : decode cX2_keep 37 = .ok (.getfield 20, 3) := by decide +kernel
theorem dX2_keep_40 : decode cX2_keep 40 = .ok (.aload_n 0, 1) := by decide +kernel
theorem dX2_keep_41 : decode cX2_keep 41 = .ok (.getfield 16, 3) := by decide +kernel
theorem dX2_keep_44 : decode cX2_keep 44 = .ok (.iadd, 1) := by decide +kernel
theorem dX2_keep_45 : decode cX2_keep 45 = .ok (.bipush 8, 2) := by decide +kernel
theorem dX2_keep_47 : decode cX2_keep 47 = .ok (.irem, 1) := by decide +kernel
theorem dX2_keep_48 : decode cX2_keep 48 = .ok (.aaload, 1) := by decide +kernel
theorem dX2_keep_49 : decode cX2_keep 49 = .ok (.aload_n 1, 1) := by decide +kernel
theorem dX2_keep_50 : decode cX2_keep 50 = .ok (.invokevirtual 23, 3) := by decide +kernel
theorem dX2_keep_53 : decode cX2_keep 53 = .ok (.aload_n 0, 1) := by decide +kernel
theorem dX2_keep_54 : decode cX2_keep 54 = .ok (.dup, 1) := by decide +kernel
theorem dX2_keep_55 : decode cX2_keep 55 = .ok (.getfield 16, 3) := by decide +kernel
theorem dX2_keep_58 : decode cX2_keep 58 = .ok (.iconst 1, 1) := by decide +kernel
theorem dX2_keep_59 : decode cX2_keep 59 = .ok (.iadd, 1) := by decide +kernel
theorem dX2_keep_60 : decode cX2_keep 60 = .ok (.putfield 16, 3) := by decide +kernel
theorem dX2_keep_63 : decode cX2_keep 63 = .ok (.return_, 1) := by decide +kernel
set_option maxRecDepth 20000 in
theorem ggX2_takeBack_X9_copyFrom : GoodIn wsX2_takeBack wsX9_copyFrom := goodIn_r _ [7, 8, 9, 10, 11, 12, 13, 14, 15, 16, 17, 18, 19, 20, 24, 25, 26, 27, 28, 29, 30, 31, 32] rfl rfl
set_option maxRecDepth 20000 in
theorem gX2_takeBack_X9_copyFrom_n23 : GoodIn wsX2_takeBack (wsX9_copyFrom) := ggX2_takeBack_X9_copyFrom
theorem dX2_takeBack_0 : decode cX2_takeBack 0 = .ok (.aload_n 0, 1) := by decide +kernel
theorem dX2_takeBack_1 : decode cX2_takeBack 1 = .ok (.getfield 16, 3) := by decide +kernel
theorem dX2_takeBack_4 : decode cX2_takeBack 4 = .ok (.ifCond .ne 5, 3) := by decide +kernel
theorem dX2_takeBack_7 : decode cX2_takeBack 7 = .ok (.iconst 0, 1) := by decide +kernel
theorem dX2_takeBack_8 : decode cX2_takeBack 8 = .ok (.ireturn, 1) := by decide +kernel
theorem dX2_takeBack_9 : decode cX2_takeBack 9 = .ok (.aload_n 0, 1) := by decide +kernel
theorem dX2_takeBack_10 : decode cX2_takeBack 10 = .ok (.dup, 1) := by decide +kernel
theorem dX2_takeBack_11 : decode cX2_takeBack 11 = .ok (.getfield 16, 3) := by decide +kernel
theorem dX2_takeBack_14 : decode cX2_takeBack 14 = .ok (.iconst 1, 1) := by decide +kernel
theorem dX2_takeBack_15 : decode cX2_takeBack 15 = .ok (.isub, 1) := by decide +kernel
theorem dX2_takeBack_16 : decode cX2_takeBack 16 = .ok (.putfield 16, 3) := by decide +kernel
theorem dX2_takeBack_19 : decode cX2_takeBack 19 = .ok (.aload_n 1, 1) := by decide +kernel
theorem dX2_takeBack_20 : decode cX2_takeBack 20 = .ok (.aload_n 0, 1) := by decide +kernel
theorem dX2_takeBack_21 : decode cX2_takeBack 21 = .ok (.getfield 11, 3) := by decide +kernel
theorem dX2_takeBack_24 : decode cX2_takeBack 24 = .ok (.aload_n 0, 1) := by decide +kernel
theorem dX2_takeBack_25 : decode cX2_takeBack 25 = .ok (.getfield 20, 3) := by decide +kernel
theorem dX2_takeBack_28 : decode cX2_takeBack 28 = .ok (.aload_n 0, 1) := by decide +kernel
theorem dX2_takeBack_29 : decode cX2_takeBack 29 = .ok (.getfield 16, 3) := by decide +kernel
theorem dX2_takeBack_32 : decode cX2_takeBack 32 = .ok (.iadd, 1) := by decide +kernel
theorem dX2_takeBack_33 : decode cX2_takeBack 33 = .ok (.bipush 8, 2) := by decide +kernel
theorem dX2_takeBack_35 : decode cX2_takeBack 35 = .ok (.irem, 1) := by decide +kernel
theorem dX2_takeBack_36 : decode cX2_takeBack 36 = .ok (.aaload, 1) := by decide +kernel
theorem dX2_takeBack_37 : decode cX2_takeBack 37 = .ok (.invokevirtual 23, 3) := by decide +kernel
theorem dX2_takeBack_40 : decode cX2_takeBack 40 = .ok (.iconst 1, 1) := by decide +kernel
theorem dX2_takeBack_41 : decode cX2_takeBack 41 = .ok (.ireturn, 1) := by decide +kernel
theorem dX3_init_0 : decode cX3_init 0 = .ok (.aload_n 0, 1) := by decide +kernel
theorem dX3_init_1 : decode cX3_init 1 = .ok (.invokespecial 3, 3) := by decide +kernel
theorem dX3_init_4 : decode cX3_init 4 = .ok (.aload_n 0, 1) := by decide +kernel
theorem dX3_init_5 : decode cX3_init 5 = .ok (.bipush 6, 2) := by decide +kernel
theorem dX3_init_7 : decode cX3_init 7 = .ok (.newarray .long, 2) := by decide +kernel
theorem dX3_init_9 : decode cX3_init 9 = .ok (.putfield 9, 3) := by decide +kernel
theorem dX3_init_12 : decode cX3_init 12 = .ok (.aload_n 0, 1) := by decide +kernel
theorem dX3_init_13 : decode cX3_init 13 = .ok (.bipush 6, 2) := by decide +kernel
theorem dX3_init_15 : decode cX3_init 15 = .ok (.newarray .int, 2) := by decide +kernel
theorem dX3_init_17 : decode cX3_init 17 = .ok (.putfield 15, 3) := by decide +kernel
theorem dX3_init_20 : decode cX3_init 20 = .ok (.aload_n 0, 1) := by decide +kernel
theorem dX3_init_21 : decode cX3_init 21 = .ok (.bipush 6, 2) := by decide +kernel
theorem dX3_init_23 : decode cX3_init 23 = .ok (.newarray .int, 2) := by decide +kernel
theorem dX3_init_25 : decode cX3_init 25 = .ok (.putfield 19, 3) := by decide +kernel
theorem dX3_init_28 : decode cX3_init 28 = .ok (.aload_n 0, 1) := by decide +kernel
theorem dX3_init_29 : decode cX3_init 29 = .ok (.bipush 8, 2) := by decide +kernel
theorem dX3_init_31 : decode cX3_init 31 = .ok (.newarray .long, 2) := by decide +kernel
theorem dX3_init_33 : decode cX3_init 33 = .ok (.putfield 22, 3) := by decide +kernel
theorem dX3_init_36 : decode cX3_init 36 = .ok (.aload_n 0, 1) := by decide +kernel
theorem dX3_init_37 : decode cX3_init 37 = .ok (.bipush 8, 2) := by decide +kernel
theorem dX3_init_39 : decode cX3_init 39 = .ok (.newarray .int, 2) := by decide +kernel
theorem dX3_init_41 : decode cX3_init 41 = .ok (.putfield 25, 3) := by decide +kernel
theorem dX3_init_44 : decode cX3_init 44 = .ok (.aload_n 0, 1) := by decide +kernel
theorem dX3_init_45 : decode cX3_init 45 = .ok (.bipush 8, 2) := by decide +kernel
theorem dX3_init_47 : decode cX3_init 47 = .ok (.newarray .int, 2) := by decide +kernel
theorem dX3_init_49 : decode cX3_init 49 = .ok (.putfield 28, 3) := by decide +kernel
theorem dX3_init_52 : decode cX3_init 52 = .ok (.aload_n 0, 1) := by decide +kernel
theorem dX3_init_53 : decode cX3_init 53 = .ok (.bipush 8, 2) := by decide +kernel
theorem dX3_init_55 : decode cX3_init 55 = .ok (.newarray .int, 2) := by decide +kernel
theorem dX3_init_57 : decode cX3_init 57 = .ok (.putfield 31, 3) := by decide +kernel
theorem dX3_init_60 : decode cX3_init 60 = .ok (.return_, 1) := by decide +kernel
theorem dX3_copyFrom_0 : decode cX3_copyFrom 0 = .ok (.aload_n 0, 1) := by decide +kernel
theorem dX3_copyFrom_1 : decode cX3_copyFrom 1 = .ok (.aload_n 1, 1) := by decide +kernel
theorem dX3_copyFrom_2 : decode cX3_copyFrom 2 = .ok (.getfield 34, 3) := by decide +kernel
theorem dX3_copyFrom_5 : decode cX3_copyFrom 5 = .ok (.putfield 34, 3) := by decide +kernel
theorem dX3_copyFrom_8 : decode cX3_copyFrom 8 = .ok (.aload_n 0, 1) := by decide +kernel
theorem dX3_copyFrom_9 : decode cX3_copyFrom 9 = .ok (.aload_n 1, 1) := by decide +kernel
theorem dX3_copyFrom_10 : decode cX3_copyFrom 10 = .ok (.getfield 38, 3) := by decide +kernel
theorem dX3_copyFrom_13 : decode cX3_copyFrom 13 = .ok (.putfield 38, 3) := by decide +kernel
theorem dX3_copyFrom_16 : decode cX3_copyFrom 16 = .ok (.aload_n 0, 1) := by decide +kernel
theorem dX3_copyFrom_17 : decode cX3_copyFrom 17 = .ok (.aload_n 1, 1) := by decide +kernel
theorem dX3_copyFrom_18 : decode cX3_copyFrom 18 = .ok (.getfield 41, 3) := by decide +kernel
theorem dX3_copyFrom_21 : decode cX3_copyFrom 21 = .ok (.putfield 41, 3) := by decide +kernel
theorem dX3_copyFrom_24 : decode cX3_copyFrom 24 = .ok (.aload_n 0, 1) := by decide +kernel
theorem dX3_copyFrom_25 : decode cX3_copyFrom 25 = .ok (.aload_n 1, 1) := by decide +kernel
theorem dX3_copyFrom_26 : decode cX3_copyFrom 26 = .ok (.getfield 44, 3) := by decide +kernel
theorem dX3_copyFrom_29 : decode cX3_copyFrom 29 = .ok (.putfield 44, 3) := by decide +kernel
theorem dX3_copyFrom_32 : decode cX3_copyFrom 32 = .ok (.aload_n 1, 1) := by decide +kernel
theorem dX3_copyFrom_33 : decode cX3_copyFrom 33 = .ok (.getfield 9, 3) := by decide +kernel
theorem dX3_copyFrom_36 : decode cX3_copyFrom 36 = .ok (.iconst 0, 1) := by decide +kernel
theorem dX3_copyFrom_37 : decode cX3_copyFrom 37 = .ok (.aload_n 0, 1) := by decide +kernel
theorem dX3_copyFrom_38 : decode cX3_copyFrom 38 = .ok (.getfield 9, 3) := by decide +kernel
theorem dX3_copyFrom_41 : decode cX3_copyFrom 41 = .ok (.iconst 0, 1) := by decide +kernel
theorem dX3_copyFrom_42 : decode cX3_copyFrom 42 = .ok (.bipush 6, 2) := by decide +kernel
theorem dX3_copyFrom_44 : decode cX3_copyFrom 44 = .ok (.invokestatic 47, 3) := by decide +kernel
theorem dX3_copyFrom_47 : decode cX3_copyFrom 47 = .ok (.aload_n 1, 1) := by decide +kernel
theorem dX3_copyFrom_48 : decode cX3_copyFrom 48 = .ok (.getfield 15, 3) := by decide +kernel
theorem dX3_copyFrom_51 : decode cX3_copyFrom 51 = .ok (.iconst 0, 1) := by decide +kernel
theorem dX3_copyFrom_52 : decode cX3_copyFrom 52 = .ok (.aload_n 0, 1) := by decide +kernel
theorem dX3_copyFrom_53 : decode cX3_copyFrom 53 = .ok (.getfield 15, 3) := by decide +kernel
theorem dX3_copyFrom_56 : decode cX3_copyFrom 56 = .ok (.iconst 0, 1) := by decide +kernel
theorem dX3_copyFrom_57 : decode cX3_copyFrom 57 = .ok (.bipush 6, 2) := by decide +kernel
theorem dX3_copyFrom_59 : decode cX3_copyFrom 59 = .ok (.invokestatic 47, 3) := by decide +kernel
theorem dX3_copyFrom_62 : decode cX3_copyFrom 62 = .ok (.aload_n 1, 1) := by decide +kernel
theorem dX3_copyFrom_63 : decode cX3_copyFrom 63 = .ok (.getfield 19, 3) := by decide +kernel
theorem dX3_copyFrom_66 : decode cX3_copyFrom 66 = .ok (.iconst 0, 1) := by decide +kernel
theorem dX3_copyFrom_67 : decode cX3_copyFrom 67 = .ok (.aload_n 0, 1) := by decide +kernel
theorem dX3_copyFrom_68 : decode cX3_copyFrom 68 = .ok (.getfield 19, 3) := by decide +kernel
theorem dX3_copyFrom_71 : decode cX3_copyFrom 71 = .ok (.iconst 0, 1) := by decide +kernel
theorem dX3_copyFrom_72 : decode cX3_copyFrom 72 = .ok (.bipush 6, 2) := by decide +kernel
theorem dX3_copyFrom_74 : decode cX3_copyFrom 74 = .ok (.invokestatic 47, 3) := by decide +kernel
theorem dX3_copyFrom_77 : decode cX3_copyFrom 77 = .ok (.aload_n 1, 1) := by decide +kernel
theorem dX3_copyFrom_78 : decode cX3_copyFrom 78 = .ok (.getfield 22, 3) := by decide +kernel
theorem dX3_copyFrom_81 : decode cX3_copyFrom 81 = .ok (.iconst 0, 1) := by decide +kernel
theorem dX3_copyFrom_82 : decode cX3_copyFrom 82 = .ok (.aload_n 0, 1) := by decide +kernel
theorem dX3_copyFrom_83 : decode cX3_copyFrom 83 = .ok (.getfield 22, 3) := by decide +kernel
theorem dX3_copyFrom_86 : decode cX3_copyFrom 86 = .ok (.iconst 0, 1) := by decide +kernel
theorem dX3_copyFrom_87 : decode cX3_copyFrom 87 = .ok (.bipush 8, 2) := by decide +kernel
theorem dX3_copyFrom_89 : decode cX3_copyFrom 89 = .ok (.invokestatic 47, 3) := by decide +kernel
theorem dX3_copyFrom_92 : decode cX3_copyFrom 92 = .ok (.aload_n 1, 1) := by decide +kernel
theorem dX3_copyFrom_93 : decode cX3_copyFrom 93 = .ok (.getfield 25, 3) := by decide +kernel
theorem dX3_copyFrom_96 : decode cX3_copyFrom 96 = .ok (.iconst 0, 1) := by decide +kernel
theorem dX3_copyFrom_97 : decode cX3_copyFrom 97 = .ok (.aload_n 0, 1) := by decide +kernel
theorem dX3_copyFrom_98 : decode cX3_copyFrom 98 = .ok (.getfield 25, 3) := by decide +kernel
theorem dX3_copyFrom_101 : decode cX3_copyFrom 101 = .ok (.iconst 0, 1) := by decide +kernel
theorem dX3_copyFrom_102 : decode cX3_copyFrom 102 = .ok (.bipush 8, 2) := by decide +kernel
theorem dX3_copyFrom_104 : decode cX3_copyFrom 104 = .ok (.invokestatic 47, 3) := by decide +kernel
theorem dX3_copyFrom_107 : decode cX3_copyFrom 107 = .ok (.aload_n 1, 1) := by decide +kernel
theorem dX3_copyFrom_108 : decode cX3_copyFrom 108 = .ok (.getfield 28, 3) := by decide +kernel
theorem dX3_copyFrom_111 : decode cX3_copyFrom 111 = .ok (.iconst 0, 1) := by decide +kernel
theorem dX3_copyFrom_112 : decode cX3_copyFrom 112 = .ok (.aload_n 0, 1) := by decide +kernel
theorem dX3_copyFrom_113 : decode cX3_copyFrom 113 = .ok (.getfield 28, 3) := by decide +kernel
theorem dX3_copyFrom_116 : decode cX3_copyFrom 116 = .ok (.iconst 0, 1) := by decide +kernel
theorem dX3_copyFrom_117 : decode cX3_copyFrom 117 = .ok (.bipush 8, 2) := by decide +kernel
theorem dX3_copyFrom_119 : decode cX3_copyFrom 119 = .ok (.invokestatic 47, 3) := by decide +kernel
theorem dX3_copyFrom_122 : decode cX3_copyFrom 122 = .ok (.aload_n 1, 1) := by decide +kernel
theorem dX3_copyFrom_123 : decode cX3_copyFrom 123 = .ok (.getfield 31, 3) := by decide +kernel
theorem dX3_copyFrom_126 : decode cX3_copyFrom 126 = .ok (.iconst 0, 1) := by decide +kernel
theorem dX3_copyFrom_127 : decode cX3_copyFrom 127 = .ok (.aload_n 0, 1) := by decide +kernel
theorem dX3_copyFrom_128 : decode cX3_copyFrom 128 = .ok (.getfield 31, 3) := by decide +kernel
theorem dX3_copyFrom_131 : decode cX3_copyFrom 131 = .ok (.iconst 0, 1) := by decide +kernel
theorem dX3_copyFrom_132 : decode cX3_copyFrom 132 = .ok (.bipush 8, 2) := by decide +kernel
theorem dX3_copyFrom_134 : decode cX3_copyFrom 134 = .ok (.invokestatic 47, 3) := by decide +kernel
theorem dX3_copyFrom_137 : decode cX3_copyFrom 137 = .ok (.return_, 1) := by decide +kernel
theorem dX3_hasMachine_0 : decode cX3_hasMachine 0 = .ok (.iload_n 1, 1) := by decide +kernel
theorem dX3_hasMachine_1 : decode cX3_hasMachine 1 = .ok (.ifCond .lt 15, 3) := by decide +kernel
theorem dX3_hasMachine_4 : decode cX3_hasMachine 4 = .ok (.iload_n 1, 1) := by decide +kernel
theorem dX3_hasMachine_5 : decode cX3_hasMachine 5 = .ok (.aload_n 0, 1) := by decide +kernel
theorem dX3_hasMachine_6 : decode cX3_hasMachine 6 = .ok (.getfield 38, 3) := by decide +kernel
theorem dX3_hasMachine_9 : decode cX3_hasMachine 9 = .ok (.if_icmp .ge 7, 3) := by decide +kernel
theorem dX3_hasMachine_12 : decode cX3_hasMachine 12 = .ok (.iconst 1, 1) := by decide +kernel
theorem dX3_hasMachine_13 : decode cX3_hasMachine 13 = .ok (.goto 4, 3) := by decide +kernel
theorem dX3_hasMachine_16 : decode cX3_hasMachine 16 = .ok (.iconst 0, 1) := by decide +kernel
theorem dX3_hasMachine_17 : decode cX3_hasMachine 17 = .ok (.ireturn, 1) := by decide +kernel
theorem dX3_hasPhrase_0 : decode cX3_hasPhrase 0 = .ok (.iload_n 1, 1) := by decide +kernel
theorem dX3_hasPhrase_1 : decode cX3_hasPhrase 1 = .ok (.ifCond .lt 15, 3) := by decide +kernel
theorem dX3_hasPhrase_4 : decode cX3_hasPhrase 4 = .ok (.iload_n 1, 1) := by decide +kernel
theorem dX3_hasPhrase_5 : decode cX3_hasPhrase 5 = .ok (.aload_n 0, 1) := by decide +kernel
theorem dX3_hasPhrase_6 : decode cX3_hasPhrase 6 = .ok (.getfield 41, 3) := by decide +kernel
theorem dX3_hasPhrase_9 : decode cX3_hasPhrase 9 = .ok (.if_icmp .ge 7, 3) := by decide +kernel
theorem dX3_hasPhrase_12 : decode cX3_hasPhrase 12 = .ok (.iconst 1, 1) := by decide +kernel
theorem dX3_hasPhrase_13 : decode cX3_hasPhrase 13 = .ok (.goto 4, 3) := by decide +kernel
theorem dX3_hasPhrase_16 : decode cX3_hasPhrase 16 = .ok (.iconst 0, 1) := by decide +kernel
theorem dX3_hasPhrase_17 : decode cX3_hasPhrase 17 = .ok (.ireturn, 1) := by decide +kernel
set_option maxRecDepth 20000 in
theorem ggX3_knowsOf_X3_hasMachine : GoodIn wsX3_knowsOf wsX3_hasMachine := goodIn_r _ [6, 7, 16, 17, 18, 19, 20, 21, 22, 23, 24, 25, 26] rfl rfl
set_option maxRecDepth 20000 in
theorem gX3_knowsOf_X3_hasMachine : GoodIn wsX3_knowsOf (wsV RX3 53 RX3 yX3_hasMachine wsX3_hasMachine) := goodIn_app (goodIn_r _ [2, 3, 4, 5] rfl rfl) ggX3_knowsOf_X3_hasMachine
set_option maxRecDepth 20000 in
theorem ggX3_knowsOf_X3_hasPhrase : GoodIn wsX3_knowsOf wsX3_hasPhrase := goodIn_r _ [11, 12, 16, 17, 18, 19, 20, 21, 22, 23, 24, 25, 26] rfl rfl
set_option maxRecDepth 20000 in
theorem gX3_knowsOf_X3_hasPhrase : GoodIn wsX3_knowsOf (wsV RX3 57 RX3 yX3_hasPhrase wsX3_hasPhrase) := goodIn_app (goodIn_r _ [8, 9, 10, 5] rfl rfl) ggX3_knowsOf_X3_hasPhrase
set_option maxRecDepth 20000 in
theorem ggX3_knowsOf_X11_hasBit : GoodIn wsX3_knowsOf wsX11_hasBit := goodIn_r _ [15] rfl rfl
set_option maxRecDepth 20000 in
theorem gX3_knowsOf_X11_hasBit_n60 : GoodIn wsX3_knowsOf (wsX11_hasBit) := ggX3_knowsOf_X11_hasBit
theorem dX3_knowsOf_0 : decode cX3_knowsOf 0 = .ok (.aload_n 0, 1) := by decide +kernel
theorem dX3_knowsOf_1 : decode cX3_knowsOf 1 = .ok (.iload_n 1, 1) := by decide +kernel
theorem dX3_knowsOf_2 : decode cX3_knowsOf 2 = .ok (.invokevirtual 53, 3) := by decide +kernel
theorem dX3_knowsOf_5 : decode cX3_knowsOf 5 = .ok (.ifCond .eq 28, 3) := by decide +kernel
theorem dX3_knowsOf_8 : decode cX3_knowsOf 8 = .ok (.aload_n 0, 1) := by decide +kernel
theorem dX3_knowsOf_9 : decode cX3_knowsOf 9 = .ok (.iload_n 2, 1) := by decide +kernel
theorem dX3_knowsOf_10 : decode cX3_knowsOf 10 = .ok (.invokevirtual 57, 3) := by decide +kernel
theorem dX3_knowsOf_13 : decode cX3_knowsOf 13 = .ok (.ifCond .eq 20, 3) := by decide +kernel
theorem dX3_knowsOf_16 : decode cX3_knowsOf 16 = .ok (.aload_n 0, 1) := by decide +kernel
theorem dX3_knowsOf_17 : decode cX3_knowsOf 17 = .ok (.getfield 19, 3) := by decide +kernel
theorem dX3_knowsOf_20 : decode cX3_knowsOf 20 = .ok (.iload_n 1, 1) := by decide +kernel
theorem dX3_knowsOf_21 : decode cX3_knowsOf 21 = .ok (.iaload, 1) := by decide +kernel
theorem dX3_knowsOf_22 : decode cX3_knowsOf 22 = .ok (.iload_n 2, 1) := by decide +kernel
theorem dX3_knowsOf_23 : decode cX3_knowsOf 23 = .ok (.invokestatic 60, 3) := by decide +kernel
theorem dX3_knowsOf_26 : decode cX3_knowsOf 26 = .ok (.ifCond .eq 7, 3) := by decide +kernel
theorem dX3_knowsOf_29 : decode cX3_knowsOf 29 = .ok (.iconst 1, 1) := by decide +kernel
theorem dX3_knowsOf_30 : decode cX3_knowsOf 30 = .ok (.goto 4, 3) := by decide +kernel
theorem dX3_knowsOf_33 : decode cX3_knowsOf 33 = .ok (.iconst 0, 1) := by decide +kernel
theorem dX3_knowsOf_34 : decode cX3_knowsOf 34 = .ok (.ireturn, 1) := by decide +kernel
set_option maxRecDepth 20000 in
theorem ggX3_isAnswer_X3_hasPhrase : GoodIn wsX3_isAnswer wsX3_hasPhrase := goodIn_r _ [6, 7, 11, 12, 13, 14, 15, 16, 17, 18, 19, 20, 21] rfl rfl
set_option maxRecDepth 20000 in
theorem gX3_isAnswer_X3_hasPhrase : GoodIn wsX3_isAnswer (wsV RX3 57 RX3 yX3_hasPhrase wsX3_hasPhrase) := goodIn_app (goodIn_r _ [2, 3, 4, 5] rfl rfl) ggX3_isAnswer_X3_hasPhrase
set_option maxRecDepth 20000 in
theorem ggX3_isAnswer_X11_hasBit : GoodIn wsX3_isAnswer wsX11_hasBit := goodIn_r _ [10] rfl rfl
set_option maxRecDepth 20000 in
theorem gX3_isAnswer_X11_hasBit_n60 : GoodIn wsX3_isAnswer (wsX11_hasBit) := ggX3_isAnswer_X11_hasBit
theorem dX3_isAnswer_0 : decode cX3_isAnswer 0 = .ok (.aload_n 0, 1) := by decide +kernel
theorem dX3_isAnswer_1 : decode cX3_isAnswer 1 = .ok (.iload_n 1, 1) := by decide +kernel
theorem dX3_isAnswer_2 : decode cX3_isAnswer 2 = .ok (.invokevirtual 57, 3) := by decide +kernel
theorem dX3_isAnswer_5 : decode cX3_isAnswer 5 = .ok (.ifCond .eq 28, 3) := by decide +kernel
theorem dX3_isAnswer_8 : decode cX3_isAnswer 8 = .ok (.aload_n 0, 1) := by decide +kernel
theorem dX3_isAnswer_9 : decode cX3_isAnswer 9 = .ok (.iload_n 2, 1) := by decide +kernel
theorem dX3_isAnswer_10 : decode cX3_isAnswer 10 = .ok (.invokevirtual 57, 3) := by decide +kernel
theorem dX3_isAnswer_13 : decode cX3_isAnswer 13 = .ok (.ifCond .eq 20, 3) := by decide +kernel
theorem dX3_isAnswer_16 : decode cX3_isAnswer 16 = .ok (.aload_n 0, 1) := by decide +kernel
theorem dX3_isAnswer_17 : decode cX3_isAnswer 17 = .ok (.getfield 31, 3) := by decide +kernel
theorem dX3_isAnswer_20 : decode cX3_isAnswer 20 = .ok (.iload_n 2, 1) := by decide +kernel
theorem dX3_isAnswer_21 : decode cX3_isAnswer 21 = .ok (.iaload, 1) := by decide +kernel
theorem dX3_isAnswer_22 : decode cX3_isAnswer 22 = .ok (.iload_n 1, 1) := by decide +kernel
theorem dX3_isAnswer_23 : decode cX3_isAnswer 23 = .ok (.invokestatic 60, 3) := by decide +kernel
theorem dX3_isAnswer_26 : decode cX3_isAnswer 26 = .ok (.ifCond .eq 7, 3) := by decide +kernel
theorem dX3_isAnswer_29 : decode cX3_isAnswer 29 = .ok (.iconst 1, 1) := by decide +kernel
theorem dX3_isAnswer_30 : decode cX3_isAnswer 30 = .ok (.goto 4, 3) := by decide +kernel
theorem dX3_isAnswer_33 : decode cX3_isAnswer 33 = .ok (.iconst 0, 1) := by decide +kernel
theorem dX3_isAnswer_34 : decode cX3_isAnswer 34 = .ok (.ireturn, 1) := by decide +kernel
set_option maxRecDepth 20000 in
theorem ggX3_answeredBy_X3_isAnswer : GoodIn wsX3_answeredBy wsX3_isAnswer := goodIn_r _ [6, 7, 8, 9, 10, 5, 11, 1, 12, 13, 14, 15, 16, 17, 18, 19, 20, 21, 22, 23, 24, 25] rfl rfl
set_option maxRecDepth 20000 in
theorem gX3_answeredBy_X3_isAnswer : GoodIn wsX3_answeredBy (wsV RX3 64 RX3 yX3_isAnswer wsX3_isAnswer) := goodIn_app (goodIn_r _ [2, 3, 4, 5] rfl rfl) ggX3_answeredBy_X3_isAnswer
theorem dX3_answeredBy_0 : decode cX3_answeredBy 0 = .ok (.iconst 0, 1) := by decide +kernel
theorem dX3_answeredBy_1 : decode cX3_answeredBy 1 = .ok (.istore_n 2, 1) := by decide +kernel
theorem dX3_answeredBy_2 : decode cX3_answeredBy 2 = .ok (.iconst 0, 1) := by decide +kernel
theorem dX3_answeredBy_3 : decode cX3_answeredBy 3 = .ok (.istore_n 3, 1) := by decide +kernel
theorem dX3_answeredBy_4 : decode cX3_answeredBy 4 = .ok (.iload_n 3, 1) := by decide +kernel
theorem dX3_answeredBy_5 : decode cX3_answeredBy 5 = .ok (.aload_n 0, 1) := by decide +kernel
theorem dX3_answeredBy_6 : decode cX3_answeredBy 6 = .ok (.getfield 41, 3) := by decide +kernel
theorem dX3_answeredBy_9 : decode cX3_answeredBy 9 = .ok (.if_icmp .ge 24, 3) := by decide +kernel
theorem dX3_answeredBy_12 : decode cX3_answeredBy 12 = .ok (.aload_n 0, 1) := by decide +kernel
theorem dX3_answeredBy_13 : decode cX3_answeredBy 13 = .ok (.iload_n 1, 1) := by decide +kernel
theorem dX3_answeredBy_14 : decode cX3_answeredBy 14 = .ok (.iload_n 3, 1) := by decide +kernel
theorem dX3_answeredBy_15 : decode cX3_answeredBy 15 = .ok (.invokevirtual 64, 3) := by decide +kernel
theorem dX3_answeredBy_18 : decode cX3_answeredBy 18 = .ok (.ifCond .eq 9, 3) := by decide +kernel
theorem dX3_answeredBy_21 : decode cX3_answeredBy 21 = .ok (.iload_n 2, 1) := by decide +kernel
theorem dX3_answeredBy_22 : decode cX3_answeredBy 22 = .ok (.iconst 1, 1) := by decide +kernel
theorem dX3_answeredBy_23 : decode cX3_answeredBy 23 = .ok (.iload_n 3, 1) := by decide +kernel
theorem dX3_answeredBy_24 : decode cX3_answeredBy 24 = .ok (.ishl, 1) := by decide +kernel
theorem dX3_answeredBy_25 : decode cX3_answeredBy 25 = .ok (.ior, 1) := by decide +kernel
theorem dX3_answeredBy_26 : decode cX3_answeredBy 26 = .ok (.istore_n 2, 1) := by decide +kernel
theorem dX3_answeredBy_27 : decode cX3_answeredBy 27 = .ok (.iinc 3 1, 3) := by decide +kernel
theorem dX3_answeredBy_30 : decode cX3_answeredBy 30 = .ok (.goto (-26), 3) := by decide +kernel
theorem dX3_answeredBy_33 : decode cX3_answeredBy 33 = .ok (.iload_n 2, 1) := by decide +kernel
theorem dX3_answeredBy_34 : decode cX3_answeredBy 34 = .ok (.ireturn, 1) := by decide +kernel
set_option maxRecDepth 20000 in
theorem ggX3_machinesKnowing_X3_knowsOf : GoodIn wsX3_machinesKnowing wsX3_knowsOf := goodIn_r _ [6, 7, 8, 9, 10, 5, 11, 1, 12, 13, 14, 15, 16, 17, 18, 19, 20, 21, 22, 23, 24, 25, 26, 27, 28, 29, 30] rfl rfl
set_option maxRecDepth 20000 in
theorem gX3_machinesKnowing_X3_knowsOf : GoodIn wsX3_machinesKnowing (wsV RX3 67 RX3 yX3_knowsOf wsX3_knowsOf) := goodIn_app (goodIn_r _ [2, 3, 4, 5] rfl rfl) ggX3_machinesKnowing_X3_knowsOf
theorem dX3_machinesKnowing_0 : decode cX3_machinesKnowing 0 = .ok (.iconst 0, 1) := by decide +kernel
theorem dX3_machinesKnowing_1 : decode cX3_machinesKnowing 1 = .ok (.istore_n 2, 1) := by decide +kernel
theorem dX3_machinesKnowing_2 : decode cX3_machinesKnowing 2 = .ok (.iconst 0, 1) := by decide +kernel
theorem dX3_machinesKnowing_3 : decode cX3_machinesKnowing 3 = .ok (.istore_n 3, 1) := by decide +kernel
theorem dX3_machinesKnowing_4 : decode cX3_machinesKnowing 4 = .ok (.iload_n 3, 1) := by decide +kernel
theorem dX3_machinesKnowing_5 : decode cX3_machinesKnowing 5 = .ok (.aload_n 0, 1) := by decide +kernel
theorem dX3_machinesKnowing_6 : decode cX3_machinesKnowing 6 = .ok (.getfield 38, 3) := by decide +kernel
theorem dX3_machinesKnowing_9 : decode cX3_machinesKnowing 9 = .ok (.if_icmp .ge 24, 3) := by decide +kernel
theorem dX3_machinesKnowing_12 : decode cX3_machinesKnowing 12 = .ok (.aload_n 0, 1) := by decide +kernel
theorem dX3_machinesKnowing_13 : decode cX3_machinesKnowing 13 = .ok (.iload_n 3, 1) := by decide +kernel
theorem dX3_machinesKnowing_14 : decode cX3_machinesKnowing 14 = .ok (.iload_n 1, 1) := by decide +kernel
theorem dX3_machinesKnowing_15 : decode cX3_machinesKnowing 15 = .ok (.invokevirtual 67, 3) := by decide +kernel
theorem dX3_machinesKnowing_18 : decode cX3_machinesKnowing 18 = .ok (.ifCond .eq 9, 3) := by decide +kernel
theorem dX3_machinesKnowing_21 : decode cX3_machinesKnowing 21 = .ok (.iload_n 2, 1) := by decide +kernel
theorem dX3_machinesKnowing_22 : decode cX3_machinesKnowing 22 = .ok (.iconst 1, 1) := by decide +kernel
theorem dX3_machinesKnowing_23 : decode cX3_machinesKnowing 23 = .ok (.iload_n 3, 1) := by decide +kernel
theorem dX3_machinesKnowing_24 : decode cX3_machinesKnowing 24 = .ok (.ishl, 1) := by decide +kernel
theorem dX3_machinesKnowing_25 : decode cX3_machinesKnowing 25 = .ok (.ior, 1) := by decide +kernel
theorem dX3_machinesKnowing_26 : decode cX3_machinesKnowing 26 = .ok (.istore_n 2, 1) := by decide +kernel
theorem dX3_machinesKnowing_27 : decode cX3_machinesKnowing 27 = .ok (.iinc 3 1, 3) := by decide +kernel
theorem dX3_machinesKnowing_30 : decode cX3_machinesKnowing 30 = .ok (.goto (-26), 3) := by decide +kernel
theorem dX3_machinesKnowing_33 : decode cX3_machinesKnowing 33 = .ok (.iload_n 2, 1) := by decide +kernel
theorem dX3_machinesKnowing_34 : decode cX3_machinesKnowing 34 = .ok (.ireturn, 1) := by decide +kernel
set_option maxRecDepth 20000 in
theorem ggX3_read_X4_seesEnd : GoodIn wsX3_read wsX4_seesEnd := goodIn_r _ [8, 9, 186, 187, 188, 189, 190, 191, 192, 193, 194, 195, 196] rfl rfl
set_option maxRecDepth 20000 in
theorem gX3_read_X4_seesEnd_n70 : GoodIn wsX3_read (wsX4_seesEnd) := ggX3_read_X4_seesEnd
set_option maxRecDepth 20000 in
theorem ggX3_read_X3_readLine : GoodIn wsX3_read wsX3_readLine := goodIn_r _ [14, 15, 16, 17, 18, 19, 6, 20, 21, 9, 22, 23, 24, 25, 13, 26, 2, 27, 28, 29, 30, 31, 32, 33, 34, 35, 36, 37, 38, 39, 40, 41, 42, 43, 44, 45, 46, 47, 48, 49, 50, 51, 52, 53, 54, 55, 56, 57, 58, 59, 60, 61, 62, 63, 64, 65, 66, 67, 68, 69, 70, 71, 72, 73, 74, 75, 76, 77, 78, 79, 80, 81, 82, 83, 84, 85, 86, 87, 88, 89, 90, 91, 92, 93, 94, 95, 96, 97, 98, 99, 100, 101, 102, 103, 104, 105, 106, 107, 108, 109, 110, 111, 112, 113, 114, 115, 3, 116, 117, 118, 119, 120, 121, 122, 123, 124, 125, 126, 127, 128, 129, 130, 131, 132, 133, 134, 135, 136, 137, 138, 139, 140, 141, 142, 143, 144, 145, 146, 147, 148, 149, 150, 151, 152, 153, 154, 155, 156, 157, 158, 4, 159, 160, 161, 162, 186, 187, 188, 189, 190, 191, 192, 193, 194, 195, 196, 175, 176, 177, 178, 179, 180, 181, 182, 183, 184, 185] rfl rfl
set_option maxRecDepth 20000 in
theorem gX3_read_X3_readLine : GoodIn wsX3_read (wsV RX3 76 RX3 yX3_readLine wsX3_readLine) := goodIn_app (goodIn_r _ [10, 11, 12, 13] rfl rfl) ggX3_read_X3_readLine
set_option maxRecDepth 20000 in
theorem ggX3_read_X4_passSign : GoodIn wsX3_read wsX4_passSign := goodIn_r _ [165, 166, 167, 168, 6, 169, 9, 48, 120, 30, 31, 32, 33, 34, 35, 170, 36, 37, 38, 39, 40, 41, 42, 43, 44, 45, 46, 47, 22, 49, 50, 51, 52, 53, 54, 55, 56, 57, 58, 59, 60, 61, 62, 63, 64, 65, 66, 67, 68, 69, 70, 71, 72, 73, 74, 75, 76, 77, 78, 79, 80, 81, 82, 83, 84, 85, 86, 87, 88, 89, 90, 91, 92, 93, 94, 95, 96, 97, 98, 99, 100, 101, 102, 103, 104, 105, 106, 107, 108, 109, 110, 186, 187, 188, 189, 190, 191, 192, 193, 194, 195, 196] rfl rfl
set_option maxRecDepth 20000 in
theorem gX3_read_X4_passSign_n80 : GoodIn wsX3_read (wsX4_passSign) := ggX3_read_X4_passSign
set_option maxRecDepth 20000 in
theorem ggX3_read_X4_needsEnd : GoodIn wsX3_read wsX4_needsEnd := goodIn_r _ [173, 174, 5, 7, 6, 8, 9, 120, 30, 31, 32, 33, 34, 35, 186, 187, 188, 189, 190, 191, 192, 193, 194, 195, 196] rfl rfl
set_option maxRecDepth 20000 in
theorem gX3_read_X4_needsEnd_n83 : GoodIn wsX3_read (wsX4_needsEnd) := ggX3_read_X4_needsEnd
theorem dX3_read_0 : decode cX3_read 0 = .ok (.aload_n 0, 1) := by decide +kernel
theorem dX3_read_1 : decode cX3_read 1 = .ok (.iconst 0, 1) := by decide +kernel
theorem dX3_read_2 : decode cX3_read 2 = .ok (.putfield 34, 3) := by decide +kernel
theorem dX3_read_5 : decode cX3_read 5 = .ok (.aload_n 0, 1) := by decide +kernel
theorem dX3_read_6 : decode cX3_read 6 = .ok (.iconst 0, 1) := by decide +kernel
theorem dX3_read_7 : decode cX3_read 7 = .ok (.putfield 38, 3) := by decide +kernel
theorem dX3_read_10 : decode cX3_read 10 = .ok (.aload_n 0, 1) := by decide +kernel
theorem dX3_read_11 : decode cX3_read 11 = .ok (.iconst 0, 1) := by decide +kernel
theorem dX3_read_12 : decode cX3_read 12 = .ok (.putfield 41, 3) := by decide +kernel
theorem dX3_read_15 : decode cX3_read 15 = .ok (.aload_n 0, 1) := by decide +kernel
theorem dX3_read_16 : decode cX3_read 16 = .ok (.iconst 0, 1) := by decide +kernel
theorem dX3_read_17 : decode cX3_read 17 = .ok (.putfield 44, 3) := by decide +kernel
theorem dX3_read_20 : decode cX3_read 20 = .ok (.aload_n 0, 1) := by decide +kernel
theorem dX3_read_21 : decode cX3_read 21 = .ok (.getfield 34, 3) := by decide +kernel
theorem dX3_read_24 : decode cX3_read 24 = .ok (.sipush 900, 3) := by decide +kernel
theorem dX3_read_27 : decode cX3_read 27 = .ok (.if_icmp .ge 42, 3) := by decide +kernel
theorem dX3_read_30 : decode cX3_read 30 = .ok (.aload_n 1, 1) := by decide +kernel
theorem dX3_read_31 : decode cX3_read 31 = .ok (.invokevirtual 70, 3) := by decide +kernel
theorem dX3_read_34 : decode cX3_read 34 = .ok (.ifCond .ne 35, 3) := by decide +kernel
theorem dX3_read_37 : decode cX3_read 37 = .ok (.aload_n 0, 1) := by decide +kernel
theorem dX3_read_38 : decode cX3_read 38 = .ok (.aload_n 1, 1) := by decide +kernel
theorem dX3_read_39 : decode cX3_read 39 = .ok (.invokevirtual 76, 3) := by decide +kernel
theorem dX3_read_42 : decode cX3_read 42 = .ok (.ifCond .eq 12, 3) := by decide +kernel
theorem dX3_read_45 : decode cX3_read 45 = .ok (.aload_n 1, 1) := by decide +kernel
theorem dX3_read_46 : decode cX3_read 46 = .ok (.bipush 59, 2) := by decide +kernel
theorem dX3_read_48 : decode cX3_read 48 = .ok (.invokevirtual 80, 3) := by decide +kernel
theorem dX3_read_51 : decode cX3_read 51 = .ok (.ifCond .ne 5, 3) := by decide +kernel
theorem dX3_read_54 : decode cX3_read 54 = .ok (.iconst 0, 1) := by decide +kernel
theorem dX3_read_55 : decode cX3_read 55 = .ok (.ireturn, 1) := by decide +kernel
theorem dX3_read_56 : decode cX3_read 56 = .ok (.aload_n 0, 1) := by decide +kernel
theorem dX3_read_57 : decode cX3_read 57 = .ok (.dup, 1) := by decide +kernel
theorem dX3_read_58 : decode cX3_read 58 = .ok (.getfield 34, 3) := by decide +kernel
theorem dX3_read_61 : decode cX3_read 61 = .ok (.iconst 1, 1) := by decide +kernel
theorem dX3_read_62 : decode cX3_read 62 = .ok (.iadd, 1) := by decide +kernel
theorem dX3_read_63 : decode cX3_read 63 = .ok (.putfield 34, 3) := by decide +kernel
theorem dX3_read_66 : decode cX3_read 66 = .ok (.goto (-46), 3) := by decide +kernel
theorem dX3_read_69 : decode cX3_read 69 = .ok (.aload_n 1, 1) := by decide +kernel
theorem dX3_read_70 : decode cX3_read 70 = .ok (.invokevirtual 83, 3) := by decide +kernel
theorem dX3_read_73 : decode cX3_read 73 = .ok (.ireturn, 1) := by decide +kernel
set_option maxRecDepth 20000 in
theorem ggX3_readLine_X4_seesWord : GoodIn wsX3_readLine wsX4_seesWord := goodIn_r _ [8, 9, 10, 155, 156, 157, 158, 159, 160, 161, 162, 163, 164, 165] rfl rfl
set_option maxRecDepth 20000 in
theorem gX3_readLine_X4_seesWord_n92 : GoodIn wsX3_readLine (wsX4_seesWord) := ggX3_readLine_X4_seesWord
set_option maxRecDepth 20000 in
theorem ggX3_readLine_X3_readMachine : GoodIn wsX3_readLine wsX3_readMachine := goodIn_r _ [15, 16, 17, 18, 19, 20, 6, 21, 22, 23, 24, 25, 26, 27, 28, 29, 30, 31, 32, 33, 34, 35, 36, 37, 10, 9, 38, 39, 40, 41, 42, 43, 44, 45, 46, 47, 48, 49, 50, 51, 52, 53, 54, 55, 56, 57, 58, 59, 60, 61, 62, 63, 64, 65, 66, 67, 68, 69, 70, 71, 72, 73, 74, 75, 76, 77, 78, 79, 80, 81, 82, 83, 84, 85, 86, 87, 88, 89, 90, 91, 92, 93, 94, 95, 96, 97, 98, 99, 100, 101, 102, 103, 14, 104, 105, 106, 107, 108, 109, 110, 5, 7, 8, 111, 112, 113, 114, 115, 116, 117, 166, 167, 168, 169, 170, 171, 172, 173, 174, 175, 176, 155, 156, 157, 158, 159, 160, 161, 162, 163, 164, 165] rfl rfl
set_option maxRecDepth 20000 in
theorem gX3_readLine_X3_readMachine : GoodIn wsX3_readLine (wsV RX3 96 RX3 yX3_readMachine wsX3_readMachine) := goodIn_app (goodIn_r _ [11, 12, 13, 14] rfl rfl) ggX3_readLine_X3_readMachine
set_option maxRecDepth 20000 in
theorem ggX3_readLine_X3_readPhrase : GoodIn wsX3_readLine wsX3_readPhrase := goodIn_r _ [121, 106, 105, 122, 123, 124, 20, 6, 21, 22, 23, 24, 25, 26, 27, 28, 29, 30, 31, 32, 33, 34, 35, 36, 37, 10, 9, 38, 39, 40, 41, 42, 43, 44, 45, 46, 47, 48, 49, 50, 51, 52, 53, 54, 55, 56, 57, 58, 59, 60, 61, 62, 63, 64, 65, 66, 67, 68, 69, 70, 71, 72, 73, 74, 75, 76, 77, 78, 79, 80, 81, 82, 83, 84, 85, 86, 87, 88, 89, 90, 91, 92, 93, 94, 95, 96, 97, 98, 99, 100, 101, 102, 103, 14, 104, 17, 16, 107, 108, 109, 110, 5, 7, 8, 111, 112, 113, 114, 115, 116, 117, 166, 167, 168, 169, 170, 171, 172, 173, 174, 175, 176, 155, 156, 157, 158, 159, 160, 161, 162, 163, 164, 165] rfl rfl
set_option maxRecDepth 20000 in
theorem gX3_readLine_X3_readPhrase : GoodIn wsX3_readLine (wsV RX3 102 RX3 yX3_readPhrase wsX3_readPhrase) := goodIn_app (goodIn_r _ [118, 119, 120, 14] rfl rfl) ggX3_readLine_X3_readPhrase
set_option maxRecDepth 20000 in
theorem ggX3_readLine_X3_readKnows : GoodIn wsX3_readLine wsX3_readKnows := goodIn_r _ [128, 17, 16, 105, 106, 19, 26, 6, 27, 28, 29, 30, 31, 32, 33, 34, 35, 36, 37, 10, 24, 9, 38, 39, 40, 41, 42, 43, 44, 45, 46, 47, 48, 49, 50, 51, 52, 53, 54, 55, 56, 57, 58, 59, 60, 61, 62, 63, 64, 65, 66, 67, 68, 69, 70, 71, 72, 73, 74, 75, 76, 77, 78, 79, 80, 81, 82, 83, 84, 85, 86, 87, 88, 89, 90, 91, 92, 93, 94, 95, 96, 97, 98, 99, 100, 129, 130, 131, 110, 5, 7, 8, 111, 20, 21, 22, 23, 25, 112, 113, 114, 132, 133, 134, 14, 135, 136, 137, 138, 139, 140, 141, 142, 143, 144, 145, 166, 167, 168, 169, 170, 171, 172, 173, 174, 175, 176, 155, 156, 157, 158, 159, 160, 161, 162, 163, 164, 165] rfl rfl
set_option maxRecDepth 20000 in
theorem gX3_readLine_X3_readKnows : GoodIn wsX3_readLine (wsV RX3 108 RX3 yX3_readKnows wsX3_readKnows) := goodIn_app (goodIn_r _ [125, 126, 127, 14] rfl rfl) ggX3_readLine_X3_readKnows
set_option maxRecDepth 20000 in
theorem ggX3_readLine_X3_readAnswers : GoodIn wsX3_readLine wsX3_readAnswers := goodIn_r _ [149, 105, 106, 124, 150, 26, 6, 27, 28, 29, 30, 31, 32, 33, 34, 35, 36, 37, 10, 24, 9, 38, 39, 40, 41, 42, 43, 44, 45, 46, 47, 48, 49, 50, 51, 52, 53, 54, 55, 56, 57, 58, 59, 60, 61, 62, 63, 64, 65, 66, 67, 68, 69, 70, 71, 72, 73, 74, 75, 76, 77, 78, 79, 80, 81, 82, 83, 84, 85, 86, 87, 88, 89, 90, 91, 92, 93, 94, 95, 96, 97, 98, 99, 100, 129, 130, 131, 110, 5, 7, 8, 111, 20, 21, 22, 23, 25, 112, 113, 114, 151, 152, 153, 14, 154, 140, 141, 142, 143, 144, 145, 166, 167, 168, 169, 170, 171, 172, 173, 174, 175, 176, 155, 156, 157, 158, 159, 160, 161, 162, 163, 164, 165] rfl rfl
set_option maxRecDepth 20000 in
theorem gX3_readLine_X3_readAnswers : GoodIn wsX3_readLine (wsV RX3 114 RX3 yX3_readAnswers wsX3_readAnswers) := goodIn_app (goodIn_r _ [146, 147, 148, 14] rfl rfl) ggX3_readLine_X3_readAnswers
set_option maxRecDepth 20000 in
theorem ggX3_readLine_X4_refuse : GoodIn wsX3_readLine wsX4_refuse := goodIn_r _ [22, 23, 24, 25, 155, 156, 157, 158, 159, 160, 161, 162, 163, 164, 165] rfl rfl
set_option maxRecDepth 20000 in
theorem gX3_readLine_X4_refuse_n117 : GoodIn wsX3_readLine (wsX4_refuse) := ggX3_readLine_X4_refuse
theorem dX3_readLine_0 : decode cX3_readLine 0 = .ok (.aload_n 1, 1) := by decide +kernel
theorem dX3_readLine_1 : decode cX3_readLine 1 = .ok (.getstatic 86, 3) := by decide +kernel
theorem dX3_readLine_4 : decode cX3_readLine 4 = .ok (.invokevirtual 92, 3) := by decide +kernel
theorem dX3_readLine_7 : decode cX3_readLine 7 = .ok (.ifCond .eq 9, 3) := by decide +kernel
theorem dX3_readLine_10 : decode cX3_readLine 10 = .ok (.aload_n 0, 1) := by decide +kernel
theorem dX3_readLine_11 : decode cX3_readLine 11 = .ok (.aload_n 1, 1) := by decide +kernel
theorem dX3_readLine_12 : decode cX3_readLine 12 = .ok (.invokevirtual 96, 3) := by decide +kernel
theorem dX3_readLine_15 : decode cX3_readLine 15 = .ok (.ireturn, 1) := by decide +kernel
theorem dX3_readLine_16 : decode cX3_readLine 16 = .ok (.aload_n 1, 1) := by decide +kernel
theorem dX3_readLine_17 : decode cX3_readLine 17 = .ok (.getstatic 99, 3) := by decide +kernel
theorem dX3_readLine_20 : decode cX3_readLine 20 = .ok (.invokevirtual 92, 3) := by decide +kernel
theorem dX3_readLine_23 : decode cX3_readLine 23 = .ok (.ifCond .eq 9, 3) := by decide +kernel
theorem dX3_readLine_26 : decode cX3_readLine 26 = .ok (.aload_n 0, 1) := by decide +kernel
theorem dX3_readLine_27 : decode cX3_readLine 27 = .ok (.aload_n 1, 1) := by decide +kernel
theorem dX3_readLine_28 : decode cX3_readLine 28 = .ok (.invokevirtual 102, 3) := by decide +kernel
theorem dX3_readLine_31 : decode cX3_readLine 31 = .ok (.ireturn, 1) := by decide +kernel
theorem dX3_readLine_32 : decode cX3_readLine 32 = .ok (.aload_n 1, 1) := by decide +kernel
theorem dX3_readLine_33 : decode cX3_readLine 33 = .ok (.getstatic 105, 3) := by decide +kernel
theorem dX3_readLine_36 : decode cX3_readLine 36 = .ok (.invokevirtual 92, 3) := by decide +kernel
theorem dX3_readLine_39 : decode cX3_readLine 39 = .ok (.ifCond .eq 9, 3) := by decide +kernel
theorem dX3_readLine_42 : decode cX3_readLine 42 = .ok (.aload_n 0, 1) := by decide +kernel
theorem dX3_readLine_43 : decode cX3_readLine 43 = .ok (.aload_n 1, 1) := by decide +kernel
theorem dX3_readLine_44 : decode cX3_readLine 44 = .ok (.invokevirtual 108, 3) := by decide +kernel
theorem dX3_readLine_47 : decode cX3_readLine 47 = .ok (.ireturn, 1) := by decide +kernel
theorem dX3_readLine_48 : decode cX3_readLine 48 = .ok (.aload_n 1, 1) := by decide +kernel
theorem dX3_readLine_49 : decode cX3_readLine 49 = .ok (.getstatic 111, 3) := by decide +kernel
theorem dX3_readLine_52 : decode cX3_readLine 52 = .ok (.invokevirtual 92, 3) := by decide +kernel
theorem dX3_readLine_55 : decode cX3_readLine 55 = .ok (.ifCond .eq 9, 3) := by decide +kernel
theorem dX3_readLine_58 : decode cX3_readLine 58 = .ok (.aload_n 0, 1) := by decide +kernel
theorem dX3_readLine_59 : decode cX3_readLine 59 = .ok (.aload_n 1, 1) := by decide +kernel
theorem dX3_readLine_60 : decode cX3_readLine 60 = .ok (.invokevirtual 114, 3) := by decide +kernel
theorem dX3_readLine_63 : decode cX3_readLine 63 = .ok (.ireturn, 1) := by decide +kernel
theorem dX3_readLine_64 : decode cX3_readLine 64 = .ok (.aload_n 1, 1) := by decide +kernel
theorem dX3_readLine_65 : decode cX3_readLine 65 = .ok (.iconst 1, 1) := by decide +kernel
theorem dX3_readLine_66 : decode cX3_readLine 66 = .ok (.invokevirtual 117, 3) := by decide +kernel
theorem dX3_readLine_69 : decode cX3_readLine 69 = .ok (.ireturn, 1) := by decide +kernel
set_option maxRecDepth 20000 in
theorem ggX3_readMachine_X4_refuse : GoodIn wsX3_readMachine wsX4_refuse := goodIn_r _ [8, 9, 10, 11, 121, 122, 123, 124, 125, 126, 127, 128, 129, 130, 131] rfl rfl
set_option maxRecDepth 20000 in
theorem gX3_readMachine_X4_refuse_n117 : GoodIn wsX3_readMachine (wsX4_refuse) := ggX3_readMachine_X4_refuse
set_option maxRecDepth 20000 in
theorem ggX3_readMachine_X4_advance : GoodIn wsX3_readMachine wsX4_advance := goodIn_r _ [14, 15, 16, 17, 18, 19, 20, 21, 22, 23, 24, 10, 25, 26, 27, 28, 29, 6, 30, 31, 32, 33, 34, 35, 36, 37, 38, 39, 40, 41, 42, 43, 44, 45, 46, 47, 48, 49, 50, 51, 52, 53, 54, 55, 56, 57, 58, 59, 60, 61, 62, 63, 64, 65, 66, 67, 68, 69, 70, 71, 72, 73, 74, 75, 76, 77, 78, 79, 80, 81, 82, 83, 84, 85, 86, 87, 88, 121, 122, 123, 124, 125, 126, 127, 128, 129, 130, 131] rfl rfl
set_option maxRecDepth 20000 in
theorem gX3_readMachine_X4_advance_n120 : GoodIn wsX3_readMachine (wsX4_advance) := ggX3_readMachine_X4_advance
set_option maxRecDepth 20000 in
theorem ggX3_readMachine_X3_needsNewName : GoodIn wsX3_readMachine wsX3_needsNewName := goodIn_r _ [93, 2, 1, 94, 95, 96, 6, 97, 98, 23, 99, 100, 101, 102, 25, 24, 103, 5, 7, 8, 9, 10, 11, 104, 105, 106, 121, 122, 123, 124, 125, 126, 127, 128, 129, 130, 131, 110, 111, 112, 113, 114, 115, 116, 117, 118, 119, 120] rfl rfl
set_option maxRecDepth 20000 in
theorem gX3_readMachine_X3_needsNewName : GoodIn wsX3_readMachine (wsV RX3 123 RX3 yX3_needsNewName wsX3_needsNewName) := goodIn_app (goodIn_r _ [89, 90, 91, 92] rfl rfl) ggX3_readMachine_X3_needsNewName
set_option maxRecDepth 20000 in
theorem ggX3_readMachine_X4_needsNumber : GoodIn wsX3_readMachine wsX4_needsNumber := goodIn_r _ [109, 25, 26, 103, 5, 7, 6, 8, 9, 10, 11, 121, 122, 123, 124, 125, 126, 127, 128, 129, 130, 131] rfl rfl
set_option maxRecDepth 20000 in
theorem gX3_readMachine_X4_needsNumber_n130 : GoodIn wsX3_readMachine (wsX4_needsNumber) := ggX3_readMachine_X4_needsNumber
theorem dX3_readMachine_0 : decode cX3_readMachine 0 = .ok (.aload_n 0, 1) := by decide +kernel
theorem dX3_readMachine_1 : decode cX3_readMachine 1 = .ok (.getfield 38, 3) := by decide +kernel
theorem dX3_readMachine_4 : decode cX3_readMachine 4 = .ok (.bipush 6, 2) := by decide +kernel
theorem dX3_readMachine_6 : decode cX3_readMachine 6 = .ok (.if_icmp .lt 9, 3) := by decide +kernel
theorem dX3_readMachine_9 : decode cX3_readMachine 9 = .ok (.aload_n 1, 1) := by decide +kernel
theorem dX3_readMachine_10 : decode cX3_readMachine 10 = .ok (.iconst 4, 1) := by decide +kernel
theorem dX3_readMachine_11 : decode cX3_readMachine 11 = .ok (.invokevirtual 117, 3) := by decide +kernel
theorem dX3_readMachine_14 : decode cX3_readMachine 14 = .ok (.ireturn, 1) := by decide +kernel
theorem dX3_readMachine_15 : decode cX3_readMachine 15 = .ok (.aload_n 1, 1) := by decide +kernel
theorem dX3_readMachine_16 : decode cX3_readMachine 16 = .ok (.invokevirtual 120, 3) := by decide +kernel
theorem dX3_readMachine_19 : decode cX3_readMachine 19 = .ok (.aload_n 0, 1) := by decide +kernel
theorem dX3_readMachine_20 : decode cX3_readMachine 20 = .ok (.aload_n 1, 1) := by decide +kernel
theorem dX3_readMachine_21 : decode cX3_readMachine 21 = .ok (.invokevirtual 123, 3) := by decide +kernel
theorem dX3_readMachine_24 : decode cX3_readMachine 24 = .ok (.ifCond .ne 5, 3) := by decide +kernel
theorem dX3_readMachine_27 : decode cX3_readMachine 27 = .ok (.iconst 0, 1) := by decide +kernel
theorem dX3_readMachine_28 : decode cX3_readMachine 28 = .ok (.ireturn, 1) := by decide +kernel
theorem dX3_readMachine_29 : decode cX3_readMachine 29 = .ok (.aload_n 0, 1) := by decide +kernel
theorem dX3_readMachine_30 : decode cX3_readMachine 30 = .ok (.getfield 9, 3) := by decide +kernel
theorem dX3_readMachine_33 : decode cX3_readMachine 33 = .ok (.aload_n 0, 1) := by decide +kernel
theorem dX3_readMachine_34 : decode cX3_readMachine 34 = .ok (.getfield 38, 3) := by decide +kernel
theorem dX3_readMachine_37 : decode cX3_readMachine 37 = .ok (.aload_n 1, 1) := by decide +kernel
theorem dX3_readMachine_38 : decode cX3_readMachine 38 = .ok (.getfield 126, 3) := by decide +kernel
theorem dX3_readMachine_41 : decode cX3_readMachine 41 = .ok (.lastore, 1) := by decide +kernel
theorem dX3_readMachine_42 : decode cX3_readMachine 42 = .ok (.aload_n 1, 1) := by decide +kernel
theorem dX3_readMachine_43 : decode cX3_readMachine 43 = .ok (.invokevirtual 120, 3) := by decide +kernel
theorem dX3_readMachine_46 : decode cX3_readMachine 46 = .ok (.aload_n 1, 1) := by decide +kernel
theorem dX3_readMachine_47 : decode cX3_readMachine 47 = .ok (.iconst 0, 1) := by decide +kernel
theorem dX3_readMachine_48 : decode cX3_readMachine 48 = .ok (.sipush 999, 3) := by decide +kernel
theorem dX3_readMachine_51 : decode cX3_readMachine 51 = .ok (.invokevirtual 130, 3) := by decide +kernel
theorem dX3_readMachine_54 : decode cX3_readMachine 54 = .ok (.ifCond .ne 5, 3) := by decide +kernel
theorem dX3_readMachine_57 : decode cX3_readMachine 57 = .ok (.iconst 0, 1) := by decide +kernel
theorem dX3_readMachine_58 : decode cX3_readMachine 58 = .ok (.ireturn, 1) := by decide +kernel
theorem dX3_readMachine_59 : decode cX3_readMachine 59 = .ok (.aload_n 0, 1) := by decide +kernel
theorem dX3_readMachine_60 : decode cX3_readMachine 60 = .ok (.getfield 15, 3) := by decide +kernel
theorem dX3_readMachine_63 : decode cX3_readMachine 63 = .ok (.aload_n 0, 1) := by decide +kernel
theorem dX3_readMachine_64 : decode cX3_readMachine 64 = .ok (.getfield 38, 3) := by decide +kernel
theorem dX3_readMachine_67 : decode cX3_readMachine 67 = .ok (.aload_n 1, 1) := by decide +kernel
theorem dX3_readMachine_68 : decode cX3_readMachine 68 = .ok (.getfield 133, 3) := by decide +kernel
theorem dX3_readMachine_71 : decode cX3_readMachine 71 = .ok (.iastore, 1) := by decide +kernel
theorem dX3_readMachine_72 : decode cX3_readMachine 72 = .ok (.aload_n 0, 1) := by decide +kernel
theorem dX3_readMachine_73 : decode cX3_readMachine 73 = .ok (.getfield 19, 3) := by decide +kernel
theorem dX3_readMachine_76 : decode cX3_readMachine 76 = .ok (.aload_n 0, 1) := by decide +kernel
theorem dX3_readMachine_77 : decode cX3_readMachine 77 = .ok (.getfield 38, 3) := by decide +kernel
theorem dX3_readMachine_80 : decode cX3_readMachine 80 = .ok (.iconst 0, 1) := by decide +kernel
theorem dX3_readMachine_81 : decode cX3_readMachine 81 = .ok (.iastore, 1) := by decide +kernel
theorem dX3_readMachine_82 : decode cX3_readMachine 82 = .ok (.aload_n 0, 1) := by decide +kernel
theorem dX3_readMachine_83 : decode cX3_readMachine 83 = .ok (.dup, 1) := by decide +kernel
theorem dX3_readMachine_84 : decode cX3_readMachine 84 = .ok (.getfield 38, 3) := by decide +kernel
theorem dX3_readMachine_87 : decode cX3_readMachine 87 = .ok (.iconst 1, 1) := by decide +kernel
theorem dX3_readMachine_88 : decode cX3_readMachine 88 = .ok (.iadd, 1) := by decide +kernel
theorem dX3_readMachine_89 : decode cX3_readMachine 89 = .ok (.putfield 38, 3) := by decide +kernel
theorem dX3_readMachine_92 : decode cX3_readMachine 92 = .ok (.aload_n 1, 1) := by decide +kernel
theorem dX3_readMachine_93 : decode cX3_readMachine 93 = .ok (.invokevirtual 120, 3) := by decide +kernel
theorem dX3_readMachine_96 : decode cX3_readMachine 96 = .ok (.iconst 1, 1) := by decide +kernel
theorem dX3_readMachine_97 : decode cX3_readMachine 97 = .ok (.ireturn, 1) := by decide +kernel
set_option maxRecDepth 20000 in
theorem ggX3_readPhrase_X4_refuse : GoodIn wsX3_readPhrase wsX4_refuse := goodIn_r _ [9, 10, 11, 12, 122, 123, 124, 125, 126, 127, 128, 129, 130, 131, 132] rfl rfl
set_option maxRecDepth 20000 in
theorem gX3_readPhrase_X4_refuse_n117 : GoodIn wsX3_readPhrase (wsX4_refuse) := ggX3_readPhrase_X4_refuse
set_option maxRecDepth 20000 in
theorem ggX3_readPhrase_X4_advance : GoodIn wsX3_readPhrase wsX4_advance := goodIn_r _ [15, 16, 17, 18, 19, 20, 21, 22, 23, 24, 25, 11, 26, 27, 28, 29, 30, 7, 31, 32, 33, 34, 35, 36, 37, 38, 39, 40, 41, 42, 43, 44, 45, 46, 47, 48, 49, 50, 51, 52, 53, 54, 55, 56, 57, 58, 59, 60, 61, 62, 63, 64, 65, 66, 67, 68, 69, 70, 71, 72, 73, 74, 75, 76, 77, 78, 79, 80, 81, 82, 83, 84, 85, 86, 87, 88, 89, 122, 123, 124, 125, 126, 127, 128, 129, 130, 131, 132] rfl rfl
set_option maxRecDepth 20000 in
theorem gX3_readPhrase_X4_advance_n120 : GoodIn wsX3_readPhrase (wsX4_advance) := ggX3_readPhrase_X4_advance
set_option maxRecDepth 20000 in
theorem ggX3_readPhrase_X3_needsNewName : GoodIn wsX3_readPhrase wsX3_needsNewName := goodIn_r _ [94, 95, 96, 2, 1, 97, 7, 98, 99, 24, 100, 101, 102, 103, 26, 25, 104, 6, 8, 9, 10, 11, 12, 105, 106, 107, 122, 123, 124, 125, 126, 127, 128, 129, 130, 131, 132, 111, 112, 113, 114, 115, 116, 117, 118, 119, 120, 121] rfl rfl
set_option maxRecDepth 20000 in
theorem gX3_readPhrase_X3_needsNewName : GoodIn wsX3_readPhrase (wsV RX3 123 RX3 yX3_needsNewName wsX3_needsNewName) := goodIn_app (goodIn_r _ [90, 91, 92, 93] rfl rfl) ggX3_readPhrase_X3_needsNewName
set_option maxRecDepth 20000 in
theorem ggX3_readPhrase_X4_needsNumber : GoodIn wsX3_readPhrase wsX4_needsNumber := goodIn_r _ [110, 26, 27, 104, 6, 8, 7, 9, 10, 11, 12, 122, 123, 124, 125, 126, 127, 128, 129, 130, 131, 132] rfl rfl
set_option maxRecDepth 20000 in
theorem gX3_readPhrase_X4_needsNumber_n130 : GoodIn wsX3_readPhrase (wsX4_needsNumber) := ggX3_readPhrase_X4_needsNumber
theorem dX3_readPhrase_0 : decode cX3_readPhrase 0 = .ok (.aload_n 0, 1) := by decide +kernel
theorem dX3_readPhrase_1 : decode cX3_readPhrase 1 = .ok (.getfield 41, 3) := by decide +kernel
theorem dX3_readPhrase_4 : decode cX3_readPhrase 4 = .ok (.bipush 8, 2) := by decide +kernel
theorem dX3_readPhrase_6 : decode cX3_readPhrase 6 = .ok (.if_icmp .lt 9, 3) := by decide +kernel
theorem dX3_readPhrase_9 : decode cX3_readPhrase 9 = .ok (.aload_n 1, 1) := by decide +kernel
theorem dX3_readPhrase_10 : decode cX3_readPhrase 10 = .ok (.iconst 4, 1) := by decide +kernel
theorem dX3_readPhrase_11 : decode cX3_readPhrase 11 = .ok (.invokevirtual 117, 3) := by decide +kernel
theorem dX3_readPhrase_14 : decode cX3_readPhrase 14 = .ok (.ireturn, 1) := by decide +kernel
theorem dX3_readPhrase_15 : decode cX3_readPhrase 15 = .ok (.aload_n 1, 1) := by decide +kernel
theorem dX3_readPhrase_16 : decode cX3_readPhrase 16 = .ok (.invokevirtual 120, 3) := by decide +kernel
theorem dX3_readPhrase_19 : decode cX3_readPhrase 19 = .ok (.aload_n 0, 1) := by decide +kernel
theorem dX3_readPhrase_20 : decode cX3_readPhrase 20 = .ok (.aload_n 1, 1) := by decide +kernel
theorem dX3_readPhrase_21 : decode cX3_readPhrase 21 = .ok (.invokevirtual 123, 3) := by decide +kernel
theorem dX3_readPhrase_24 : decode cX3_readPhrase 24 = .ok (.ifCond .ne 5, 3) := by decide +kernel
theorem dX3_readPhrase_27 : decode cX3_readPhrase 27 = .ok (.iconst 0, 1) := by decide +kernel
theorem dX3_readPhrase_28 : decode cX3_readPhrase 28 = .ok (.ireturn, 1) := by decide +kernel
theorem dX3_readPhrase_29 : decode cX3_readPhrase 29 = .ok (.aload_n 0, 1) := by decide +kernel
theorem dX3_readPhrase_30 : decode cX3_readPhrase 30 = .ok (.getfield 22, 3) := by decide +kernel
theorem dX3_readPhrase_33 : decode cX3_readPhrase 33 = .ok (.aload_n 0, 1) := by decide +kernel
theorem dX3_readPhrase_34 : decode cX3_readPhrase 34 = .ok (.getfield 41, 3) := by decide +kernel
theorem dX3_readPhrase_37 : decode cX3_readPhrase 37 = .ok (.aload_n 1, 1) := by decide +kernel
theorem dX3_readPhrase_38 : decode cX3_readPhrase 38 = .ok (.getfield 126, 3) := by decide +kernel
theorem dX3_readPhrase_41 : decode cX3_readPhrase 41 = .ok (.lastore, 1) := by decide +kernel
theorem dX3_readPhrase_42 : decode cX3_readPhrase 42 = .ok (.aload_n 1, 1) := by decide +kernel
theorem dX3_readPhrase_43 : decode cX3_readPhrase 43 = .ok (.invokevirtual 120, 3) := by decide +kernel
theorem dX3_readPhrase_46 : decode cX3_readPhrase 46 = .ok (.aload_n 1, 1) := by decide +kernel
theorem dX3_readPhrase_47 : decode cX3_readPhrase 47 = .ok (.iconst 1, 1) := by decide +kernel
theorem dX3_readPhrase_48 : decode cX3_readPhrase 48 = .ok (.bipush 40, 2) := by decide +kernel
theorem dX3_readPhrase_50 : decode cX3_readPhrase 50 = .ok (.invokevirtual 130, 3) := by decide +kernel
theorem dX3_readPhrase_53 : decode cX3_readPhrase 53 = .ok (.ifCond .ne 5, 3) := by decide +kernel
theorem dX3_readPhrase_56 : decode cX3_readPhrase 56 = .ok (.iconst 0, 1) := by decide +kernel
theorem dX3_readPhrase_57 : decode cX3_readPhrase 57 = .ok (.ireturn, 1) := by decide +kernel
theorem dX3_readPhrase_58 : decode cX3_readPhrase 58 = .ok (.aload_n 0, 1) := by decide +kernel
theorem dX3_readPhrase_59 : decode cX3_readPhrase 59 = .ok (.getfield 25, 3) := by decide +kernel
theorem dX3_readPhrase_62 : decode cX3_readPhrase 62 = .ok (.aload_n 0, 1) := by decide +kernel
theorem dX3_readPhrase_63 : decode cX3_readPhrase 63 = .ok (.getfield 41, 3) := by decide +kernel
theorem dX3_readPhrase_66 : decode cX3_readPhrase 66 = .ok (.aload_n 1, 1) := by decide +kernel
theorem dX3_readPhrase_67 : decode cX3_readPhrase 67 = .ok (.getfield 133, 3) := by decide +kernel
theorem dX3_readPhrase_70 : decode cX3_readPhrase 70 = .ok (.iastore, 1) := by decide +kernel
theorem dX3_readPhrase_71 : decode cX3_readPhrase 71 = .ok (.aload_n 1, 1) := by decide +kernel
theorem dX3_readPhrase_72 : decode cX3_readPhrase 72 = .ok (.invokevirtual 120, 3) := by decide +kernel
theorem dX3_readPhrase_75 : decode cX3_readPhrase 75 = .ok (.aload_n 1, 1) := by decide +kernel
theorem dX3_readPhrase_76 : decode cX3_readPhrase 76 = .ok (.iconst 0, 1) := by decide +kernel
theorem dX3_readPhrase_77 : decode cX3_readPhrase 77 = .ok (.bipush 99, 2) := by decide +kernel
theorem dX3_readPhrase_79 : decode cX3_readPhrase 79 = .ok (.invokevirtual 130, 3) := by decide +kernel
theorem dX3_readPhrase_82 : decode cX3_readPhrase 82 = .ok (.ifCond .ne 5, 3) := by decide +kernel
theorem dX3_readPhrase_85 : decode cX3_readPhrase 85 = .ok (.iconst 0, 1) := by decide +kernel
theorem dX3_readPhrase_86 : decode cX3_readPhrase 86 = .ok (.ireturn, 1) := by decide +kernel
theorem dX3_readPhrase_87 : decode cX3_readPhrase 87 = .ok (.aload_n 0, 1) := by decide +kernel
theorem dX3_readPhrase_88 : decode cX3_readPhrase 88 = .ok (.getfield 28, 3) := by decide +kernel
theorem dX3_readPhrase_91 : decode cX3_readPhrase 91 = .ok (.aload_n 0, 1) := by decide +kernel
theorem dX3_readPhrase_92 : decode cX3_readPhrase 92 = .ok (.getfield 41, 3) := by decide +kernel
theorem dX3_readPhrase_95 : decode cX3_readPhrase 95 = .ok (.aload_n 1, 1) := by decide +kernel
theorem dX3_readPhrase_96 : decode cX3_readPhrase 96 = .ok (.getfield 133, 3) := by decide +kernel
theorem dX3_readPhrase_99 : decode cX3_readPhrase 99 = .ok (.iastore, 1) := by decide +kernel
theorem dX3_readPhrase_100 : decode cX3_readPhrase 100 = .ok (.aload_n 0, 1) := by decide +kernel
theorem dX3_readPhrase_101 : decode cX3_readPhrase 101 = .ok (.getfield 31, 3) := by decide +kernel
theorem dX3_readPhrase_104 : decode cX3_readPhrase 104 = .ok (.aload_n 0, 1) := by decide +kernel
theorem dX3_readPhrase_105 : decode cX3_readPhrase 105 = .ok (.getfield 41, 3) := by decide +kernel
theorem dX3_readPhrase_108 : decode cX3_readPhrase 108 = .ok (.iconst 0, 1) := by decide +kernel
theorem dX3_readPhrase_109 : decode cX3_readPhrase 109 = .ok (.iastore, 1) := by decide +kernel
theorem dX3_readPhrase_110 : decode cX3_readPhrase 110 = .ok (.aload_n 0, 1) := by decide +kernel
theorem dX3_readPhrase_111 : decode cX3_readPhrase 111 = .ok (.dup, 1) := by decide +kernel
theorem dX3_readPhrase_112 : decode cX3_readPhrase 112 = .ok (.getfield 41, 3) := by decide +kernel
theorem dX3_readPhrase_115 : decode cX3_readPhrase 115 = .ok (.iconst 1, 1) := by decide +kernel
theorem dX3_readPhrase_116 : decode cX3_readPhrase 116 = .ok (.iadd, 1) := by decide +kernel
theorem dX3_readPhrase_117 : decode cX3_readPhrase 117 = .ok (.putfield 41, 3) := by decide +kernel
theorem dX3_readPhrase_120 : decode cX3_readPhrase 120 = .ok (.aload_n 1, 1) := by decide +kernel
theorem dX3_readPhrase_121 : decode cX3_readPhrase 121 = .ok (.invokevirtual 120, 3) := by decide +kernel
theorem dX3_readPhrase_124 : decode cX3_readPhrase 124 = .ok (.iconst 1, 1) := by decide +kernel
theorem dX3_readPhrase_125 : decode cX3_readPhrase 125 = .ok (.ireturn, 1) := by decide +kernel
set_option maxRecDepth 20000 in
theorem ggX3_readKnows_X4_advance : GoodIn wsX3_readKnows wsX4_advance := goodIn_r _ [9, 10, 11, 12, 13, 14, 15, 16, 17, 18, 19, 20, 21, 22, 23, 24, 25, 7, 26, 27, 28, 29, 30, 31, 32, 33, 34, 35, 36, 37, 38, 39, 40, 41, 42, 43, 44, 45, 46, 47, 48, 49, 50, 51, 52, 53, 54, 55, 56, 57, 58, 59, 60, 61, 62, 63, 64, 65, 66, 67, 68, 69, 70, 71, 72, 73, 74, 75, 76, 77, 78, 79, 80, 81, 82, 83, 84, 127, 128, 129, 130, 131, 132, 133, 134, 135, 136, 137] rfl rfl
set_option maxRecDepth 20000 in
theorem gX3_readKnows_X4_advance_n120 : GoodIn wsX3_readKnows (wsX4_advance) := ggX3_readKnows_X4_advance
set_option maxRecDepth 20000 in
theorem ggX3_readKnows_X4_neededOf : GoodIn wsX3_readKnows wsX4_neededOf := goodIn_r _ [87, 18, 27, 88, 89, 90, 7, 91, 21, 19, 92, 93, 94, 95, 96, 20, 97, 98, 99, 100, 127, 128, 129, 130, 131, 132, 133, 134, 135, 136, 137] rfl rfl
set_option maxRecDepth 20000 in
theorem gX3_readKnows_X4_neededOf_n136 : GoodIn wsX3_readKnows (wsX4_neededOf) := ggX3_readKnows_X4_neededOf
set_option maxRecDepth 20000 in
theorem ggX3_readKnows_X3_knowsOf : GoodIn wsX3_readKnows wsX3_knowsOf := goodIn_r _ [105, 5, 106, 107, 108, 104, 109, 2, 110, 111, 112, 113, 4, 114, 99, 115, 116, 117, 118, 119, 120, 121, 122, 123, 124, 125, 126] rfl rfl
set_option maxRecDepth 20000 in
theorem gX3_readKnows_X3_knowsOf : GoodIn wsX3_readKnows (wsV RX3 67 RX3 yX3_knowsOf wsX3_knowsOf) := goodIn_app (goodIn_r _ [101, 102, 103, 104] rfl rfl) ggX3_readKnows_X3_knowsOf
set_option maxRecDepth 20000 in
theorem ggX3_readKnows_X4_refuse : GoodIn wsX3_readKnows wsX4_refuse := goodIn_r _ [95, 96, 20, 97, 127, 128, 129, 130, 131, 132, 133, 134, 135, 136, 137] rfl rfl
set_option maxRecDepth 20000 in
theorem gX3_readKnows_X4_refuse_n117 : GoodIn wsX3_readKnows (wsX4_refuse) := ggX3_readKnows_X4_refuse
theorem dX3_readKnows_0 : decode cX3_readKnows 0 = .ok (.aload_n 1, 1) := by decide +kernel
theorem dX3_readKnows_1 : decode cX3_readKnows 1 = .ok (.invokevirtual 120, 3) := by decide +kernel
theorem dX3_readKnows_4 : decode cX3_readKnows 4 = .ok (.aload_n 1, 1) := by decide +kernel
theorem dX3_readKnows_5 : decode cX3_readKnows 5 = .ok (.aload_n 0, 1) := by decide +kernel
theorem dX3_readKnows_6 : decode cX3_readKnows 6 = .ok (.getfield 9, 3) := by decide +kernel
theorem dX3_readKnows_9 : decode cX3_readKnows 9 = .ok (.aload_n 0, 1) := by decide +kernel
theorem dX3_readKnows_10 : decode cX3_readKnows 10 = .ok (.getfield 38, 3) := by decide +kernel
theorem dX3_readKnows_13 : decode cX3_readKnows 13 = .ok (.invokevirtual 136, 3) := by decide +kernel
theorem dX3_readKnows_16 : decode cX3_readKnows 16 = .ok (.istore_n 2, 1) := by decide +kernel
theorem dX3_readKnows_17 : decode cX3_readKnows 17 = .ok (.iload_n 2, 1) := by decide +kernel
theorem dX3_readKnows_18 : decode cX3_readKnows 18 = .ok (.iconst (-1), 1) := by decide +kernel
theorem dX3_readKnows_19 : decode cX3_readKnows 19 = .ok (.if_icmp .ne 5, 3) := by decide +kernel
theorem dX3_readKnows_22 : decode cX3_readKnows 22 = .ok (.iconst 0, 1) := by decide +kernel
theorem dX3_readKnows_23 : decode cX3_readKnows 23 = .ok (.ireturn, 1) := by decide +kernel
theorem dX3_readKnows_24 : decode cX3_readKnows 24 = .ok (.aload_n 1, 1) := by decide +kernel
theorem dX3_readKnows_25 : decode cX3_readKnows 25 = .ok (.invokevirtual 120, 3) := by decide +kernel
theorem dX3_readKnows_28 : decode cX3_readKnows 28 = .ok (.aload_n 1, 1) := by decide +kernel
theorem dX3_readKnows_29 : decode cX3_readKnows 29 = .ok (.aload_n 0, 1) := by decide +kernel
theorem dX3_readKnows_30 : decode cX3_readKnows 30 = .ok (.getfield 22, 3) := by decide +kernel
theorem dX3_readKnows_33 : decode cX3_readKnows 33 = .ok (.aload_n 0, 1) := by decide +kernel
theorem dX3_readKnows_34 : decode cX3_readKnows 34 = .ok (.getfield 41, 3) := by decide +kernel
theorem dX3_readKnows_37 : decode cX3_readKnows 37 = .ok (.invokevirtual 136, 3) := by decide +kernel
theorem dX3_readKnows_40 : decode cX3_readKnows 40 = .ok (.istore_n 3, 1) := by decide +kernel
theorem dX3_readKnows_41 : decode cX3_readKnows 41 = .ok (.iload_n 3, 1) := by decide +kernel
theorem dX3_readKnows_42 : decode cX3_readKnows 42 = .ok (.iconst (-1), 1) := by decide +kernel
theorem dX3_readKnows_43 : decode cX3_readKnows 43 = .ok (.if_icmp .ne 5, 3) := by decide +kernel
theorem dX3_readKnows_46 : decode cX3_readKnows 46 = .ok (.iconst 0, 1) := by decide +kernel
theorem dX3_readKnows_47 : decode cX3_readKnows 47 = .ok (.ireturn, 1) := by decide +kernel
theorem dX3_readKnows_48 : decode cX3_readKnows 48 = .ok (.aload_n 0, 1) := by decide +kernel
theorem dX3_readKnows_49 : decode cX3_readKnows 49 = .ok (.iload_n 2, 1) := by decide +kernel
theorem dX3_readKnows_50 : decode cX3_readKnows 50 = .ok (.iload_n 3, 1) := by decide +kernel
theorem dX3_readKnows_51 : decode cX3_readKnows 51 = .ok (.invokevirtual 67, 3) := by decide +kernel
theorem dX3_readKnows_54 : decode cX3_readKnows 54 = .ok (.ifCond .eq 9, 3) := by decide +kernel
theorem dX3_readKnows_57 : decode cX3_readKnows 57 = .ok (.aload_n 1, 1) := by decide +kernel
theorem dX3_readKnows_58 : decode cX3_readKnows 58 = .ok (.iconst 3, 1) := by decide +kernel
theorem dX3_readKnows_59 : decode cX3_readKnows 59 = .ok (.invokevirtual 117, 3) := by decide +kernel
theorem dX3_readKnows_62 : decode cX3_readKnows 62 = .ok (.ireturn, 1) := by decide +kernel
theorem dX3_readKnows_63 : decode cX3_readKnows 63 = .ok (.aload_n 0, 1) := by decide +kernel
theorem dX3_readKnows_64 : decode cX3_readKnows 64 = .ok (.getfield 19, 3) := by decide +kernel
theorem dX3_readKnows_67 : decode cX3_readKnows 67 = .ok (.iload_n 2, 1) := by decide +kernel
theorem dX3_readKnows_68 : decode cX3_readKnows 68 = .ok (.dup2, 1) := by decide +kernel
theorem dX3_readKnows_69 : decode cX3_readKnows 69 = .ok (.iaload, 1) := by decide +kernel
theorem dX3_readKnows_70 : decode cX3_readKnows 70 = .ok (.iconst 1, 1) := by decide +kernel
theorem dX3_readKnows_71 : decode cX3_readKnows 71 = .ok (.iload_n 3, 1) := by decide +kernel
theorem dX3_readKnows_72 : decode cX3_readKnows 72 = .ok (.ishl, 1) := by decide +kernel
theorem dX3_readKnows_73 : decode cX3_readKnows 73 = .ok (.ior, 1) := by decide +kernel
theorem dX3_readKnows_74 : decode cX3_readKnows 74 = .ok (.iastore, 1) := by decide +kernel
theorem dX3_readKnows_75 : decode cX3_readKnows 75 = .ok (.aload_n 1, 1) := by decide +kernel
theorem dX3_readKnows_76 : decode cX3_readKnows 76 = .ok (.invokevirtual 120, 3) := by decide +kernel
theorem dX3_readKnows_79 : decode cX3_readKnows 79 = .ok (.iconst 1, 1) := by decide +kernel
theorem dX3_readKnows_80 : decode cX3_readKnows 80 = .ok (.ireturn, 1) := by decide +kernel
set_option maxRecDepth 20000 in
theorem ggX3_readAnswers_X4_advance : GoodIn wsX3_readAnswers wsX4_advance := goodIn_r _ [8, 9, 10, 11, 12, 13, 14, 15, 16, 17, 18, 19, 20, 21, 22, 23, 24, 6, 25, 26, 27, 28, 29, 30, 31, 32, 33, 34, 35, 36, 37, 38, 39, 40, 41, 42, 43, 44, 45, 46, 47, 48, 49, 50, 51, 52, 53, 54, 55, 56, 57, 58, 59, 60, 61, 62, 63, 64, 65, 66, 67, 68, 69, 70, 71, 72, 73, 74, 75, 76, 77, 78, 79, 80, 81, 82, 83, 122, 123, 124, 125, 126, 127, 128, 129, 130, 131, 132] rfl rfl
set_option maxRecDepth 20000 in
theorem gX3_readAnswers_X4_advance_n120 : GoodIn wsX3_readAnswers (wsX4_advance) := ggX3_readAnswers_X4_advance
set_option maxRecDepth 20000 in
theorem ggX3_readAnswers_X4_neededOf : GoodIn wsX3_readAnswers wsX4_neededOf := goodIn_r _ [86, 17, 26, 87, 88, 89, 6, 90, 20, 18, 91, 92, 93, 94, 95, 19, 96, 97, 98, 99, 122, 123, 124, 125, 126, 127, 128, 129, 130, 131, 132] rfl rfl
set_option maxRecDepth 20000 in
theorem gX3_readAnswers_X4_neededOf_n136 : GoodIn wsX3_readAnswers (wsX4_neededOf) := ggX3_readAnswers_X4_neededOf
set_option maxRecDepth 20000 in
theorem ggX3_readAnswers_X3_isAnswer : GoodIn wsX3_readAnswers wsX3_isAnswer := goodIn_r _ [104, 3, 105, 106, 107, 103, 108, 2, 109, 98, 110, 111, 112, 113, 114, 115, 116, 117, 118, 119, 120, 121] rfl rfl
set_option maxRecDepth 20000 in
theorem gX3_readAnswers_X3_isAnswer : GoodIn wsX3_readAnswers (wsV RX3 64 RX3 yX3_isAnswer wsX3_isAnswer) := goodIn_app (goodIn_r _ [100, 101, 102, 103] rfl rfl) ggX3_readAnswers_X3_isAnswer
set_option maxRecDepth 20000 in
theorem ggX3_readAnswers_X4_refuse : GoodIn wsX3_readAnswers wsX4_refuse := goodIn_r _ [94, 95, 19, 96, 122, 123, 124, 125, 126, 127, 128, 129, 130, 131, 132] rfl rfl
set_option maxRecDepth 20000 in
theorem gX3_readAnswers_X4_refuse_n117 : GoodIn wsX3_readAnswers (wsX4_refuse) := ggX3_readAnswers_X4_refuse
theorem dX3_readAnswers_0 : decode cX3_readAnswers 0 = .ok (.aload_n 1, 1) := by decide +kernel
theorem dX3_readAnswers_1 : decode cX3_readAnswers 1 = .ok (.invokevirtual 120, 3) := by decide +kernel
theorem dX3_readAnswers_4 : decode cX3_readAnswers 4 = .ok (.aload_n 1, 1) := by decide +kernel
theorem dX3_readAnswers_5 : decode cX3_readAnswers 5 = .ok (.aload_n 0, 1) := by decide +kernel
theorem dX3_readAnswers_6 : decode cX3_readAnswers 6 = .ok (.getfield 22, 3) := by decide +kernel
theorem dX3_readAnswers_9 : decode cX3_readAnswers 9 = .ok (.aload_n 0, 1) := by decide +kernel
theorem dX3_readAnswers_10 : decode cX3_readAnswers 10 = .ok (.getfield 41, 3) := by decide +kernel
theorem dX3_readAnswers_13 : decode cX3_readAnswers 13 = .ok (.invokevirtual 136, 3) := by decide +kernel
theorem dX3_readAnswers_16 : decode cX3_readAnswers 16 = .ok (.istore_n 2, 1) := by decide +kernel
theorem dX3_readAnswers_17 : decode cX3_readAnswers 17 = .ok (.iload_n 2, 1) := by decide +kernel
theorem dX3_readAnswers_18 : decode cX3_readAnswers 18 = .ok (.iconst (-1), 1) := by decide +kernel
theorem dX3_readAnswers_19 : decode cX3_readAnswers 19 = .ok (.if_icmp .ne 5, 3) := by decide +kernel
theorem dX3_readAnswers_22 : decode cX3_readAnswers 22 = .ok (.iconst 0, 1) := by decide +kernel
theorem dX3_readAnswers_23 : decode cX3_readAnswers 23 = .ok (.ireturn, 1) := by decide +kernel
theorem dX3_readAnswers_24 : decode cX3_readAnswers 24 = .ok (.aload_n 1, 1) := by decide +kernel
theorem dX3_readAnswers_25 : decode cX3_readAnswers 25 = .ok (.invokevirtual 120, 3) := by decide +kernel
theorem dX3_readAnswers_28 : decode cX3_readAnswers 28 = .ok (.aload_n 1, 1) := by decide +kernel
theorem dX3_readAnswers_29 : decode cX3_readAnswers 29 = .ok (.aload_n 0, 1) := by decide +kernel
theorem dX3_readAnswers_30 : decode cX3_readAnswers 30 = .ok (.getfield 22, 3) := by decide +kernel
theorem dX3_readAnswers_33 : decode cX3_readAnswers 33 = .ok (.aload_n 0, 1) := by decide +kernel
theorem dX3_readAnswers_34 : decode cX3_readAnswers 34 = .ok (.getfield 41, 3) := by decide +kernel
theorem dX3_readAnswers_37 : decode cX3_readAnswers 37 = .ok (.invokevirtual 136, 3) := by decide +kernel
theorem dX3_readAnswers_40 : decode cX3_readAnswers 40 = .ok (.istore_n 3, 1) := by decide +kernel
theorem dX3_readAnswers_41 : decode cX3_readAnswers 41 = .ok (.iload_n 3, 1) := by decide +kernel
theorem dX3_readAnswers_42 : decode cX3_readAnswers 42 = .ok (.iconst (-1), 1) := by decide +kernel
theorem dX3_readAnswers_43 : decode cX3_readAnswers 43 = .ok (.if_icmp .ne 5, 3) := by decide +kernel
theorem dX3_readAnswers_46 : decode cX3_readAnswers 46 = .ok (.iconst 0, 1) := by decide +kernel
theorem dX3_readAnswers_47 : decode cX3_readAnswers 47 = .ok (.ireturn, 1) := by decide +kernel
theorem dX3_readAnswers_48 : decode cX3_readAnswers 48 = .ok (.aload_n 0, 1) := by decide +kernel
theorem dX3_readAnswers_49 : decode cX3_readAnswers 49 = .ok (.iload_n 2, 1) := by decide +kernel
theorem dX3_readAnswers_50 : decode cX3_readAnswers 50 = .ok (.iload_n 3, 1) := by decide +kernel
theorem dX3_readAnswers_51 : decode cX3_readAnswers 51 = .ok (.invokevirtual 64, 3) := by decide +kernel
theorem dX3_readAnswers_54 : decode cX3_readAnswers 54 = .ok (.ifCond .eq 9, 3) := by decide +kernel
theorem dX3_readAnswers_57 : decode cX3_readAnswers 57 = .ok (.aload_n 1, 1) := by decide +kernel
theorem dX3_readAnswers_58 : decode cX3_readAnswers 58 = .ok (.iconst 3, 1) := by decide +kernel
theorem dX3_readAnswers_59 : decode cX3_readAnswers 59 = .ok (.invokevirtual 117, 3) := by decide +kernel
theorem dX3_readAnswers_62 : decode cX3_readAnswers 62 = .ok (.ireturn, 1) := by decide +kernel
theorem dX3_readAnswers_63 : decode cX3_readAnswers 63 = .ok (.aload_n 0, 1) := by decide +kernel
theorem dX3_readAnswers_64 : decode cX3_readAnswers 64 = .ok (.getfield 31, 3) := by decide +kernel
theorem dX3_readAnswers_67 : decode cX3_readAnswers 67 = .ok (.iload_n 3, 1) := by decide +kernel
theorem dX3_readAnswers_68 : decode cX3_readAnswers 68 = .ok (.dup2, 1) := by decide +kernel
theorem dX3_readAnswers_69 : decode cX3_readAnswers 69 = .ok (.iaload, 1) := by decide +kernel
theorem dX3_readAnswers_70 : decode cX3_readAnswers 70 = .ok (.iconst 1, 1) := by decide +kernel
theorem dX3_readAnswers_71 : decode cX3_readAnswers 71 = .ok (.iload_n 2, 1) := by decide +kernel
theorem dX3_readAnswers_72 : decode cX3_readAnswers 72 = .ok (.ishl, 1) := by decide +kernel
theorem dX3_readAnswers_73 : decode cX3_readAnswers 73 = .ok (.ior, 1) := by decide +kernel
theorem dX3_readAnswers_74 : decode cX3_readAnswers 74 = .ok (.iastore, 1) := by decide +kernel
theorem dX3_readAnswers_75 : decode cX3_readAnswers 75 = .ok (.aload_n 0, 1) := by decide +kernel
theorem dX3_readAnswers_76 : decode cX3_readAnswers 76 = .ok (.dup, 1) := by decide +kernel
theorem dX3_readAnswers_77 : decode cX3_readAnswers 77 = .ok (.getfield 44, 3) := by decide +kernel
theorem dX3_readAnswers_80 : decode cX3_readAnswers 80 = .ok (.iconst 1, 1) := by decide +kernel
theorem dX3_readAnswers_81 : decode cX3_readAnswers 81 = .ok (.iadd, 1) := by decide +kernel
theorem dX3_readAnswers_82 : decode cX3_readAnswers 82 = .ok (.putfield 44, 3) := by decide +kernel
theorem dX3_readAnswers_85 : decode cX3_readAnswers 85 = .ok (.aload_n 1, 1) := by decide +kernel
theorem dX3_readAnswers_86 : decode cX3_readAnswers 86 = .ok (.invokevirtual 120, 3) := by decide +kernel
theorem dX3_readAnswers_89 : decode cX3_readAnswers 89 = .ok (.iconst 1, 1) := by decide +kernel
theorem dX3_readAnswers_90 : decode cX3_readAnswers 90 = .ok (.ireturn, 1) := by decide +kernel
set_option maxRecDepth 20000 in
theorem ggX3_needsNewName_X4_needsName : GoodIn wsX3_needsNewName wsX4_needsName := goodIn_r _ [8, 9, 10, 11, 12, 6, 13, 14, 15, 16, 17, 18, 19, 20, 21, 22, 26, 27, 28, 29, 30, 31, 32, 33, 34, 35, 36] rfl rfl
set_option maxRecDepth 20000 in
theorem gX3_needsNewName_X4_needsName_n140 : GoodIn wsX3_needsNewName (wsX4_needsName) := ggX3_needsNewName_X4_needsName
set_option maxRecDepth 20000 in
theorem ggX3_needsNewName_X11_placeOf : GoodIn wsX3_needsNewName wsX11_placeOf := goodIn_r _ [25] rfl rfl
set_option maxRecDepth 20000 in
theorem gX3_needsNewName_X11_placeOf_n143 : GoodIn wsX3_needsNewName (wsX11_placeOf) := ggX3_needsNewName_X11_placeOf
set_option maxRecDepth 20000 in
theorem ggX3_needsNewName_X4_refuse : GoodIn wsX3_needsNewName wsX4_refuse := goodIn_r _ [19, 20, 21, 22, 26, 27, 28, 29, 30, 31, 32, 33, 34, 35, 36] rfl rfl
set_option maxRecDepth 20000 in
theorem gX3_needsNewName_X4_refuse_n117 : GoodIn wsX3_needsNewName (wsX4_refuse) := ggX3_needsNewName_X4_refuse
theorem dX3_needsNewName_0 : decode cX3_needsNewName 0 = .ok (.aload_n 1, 1) := by decide +kernel
theorem dX3_needsNewName_1 : decode cX3_needsNewName 1 = .ok (.invokevirtual 140, 3) := by decide +kernel
theorem dX3_needsNewName_4 : decode cX3_needsNewName 4 = .ok (.ifCond .ne 5, 3) := by decide +kernel
theorem dX3_needsNewName_7 : decode cX3_needsNewName 7 = .ok (.iconst 0, 1) := by decide +kernel
theorem dX3_needsNewName_8 : decode cX3_needsNewName 8 = .ok (.ireturn, 1) := by decide +kernel
theorem dX3_needsNewName_9 : decode cX3_needsNewName 9 = .ok (.aload_n 1, 1) := by decide +kernel
theorem dX3_needsNewName_10 : decode cX3_needsNewName 10 = .ok (.getfield 126, 3) := by decide +kernel
theorem dX3_needsNewName_13 : decode cX3_needsNewName 13 = .ok (.aload_n 0, 1) := by decide +kernel
theorem dX3_needsNewName_14 : decode cX3_needsNewName 14 = .ok (.getfield 9, 3) := by decide +kernel
theorem dX3_needsNewName_17 : decode cX3_needsNewName 17 = .ok (.aload_n 0, 1) := by decide +kernel
theorem dX3_needsNewName_18 : decode cX3_needsNewName 18 = .ok (.getfield 38, 3) := by decide +kernel
theorem dX3_needsNewName_21 : decode cX3_needsNewName 21 = .ok (.invokestatic 143, 3) := by decide +kernel
theorem dX3_needsNewName_24 : decode cX3_needsNewName 24 = .ok (.iconst (-1), 1) := by decide +kernel
theorem dX3_needsNewName_25 : decode cX3_needsNewName 25 = .ok (.if_icmp .ne 26, 3) := by decide +kernel
theorem dX3_needsNewName_28 : decode cX3_needsNewName 28 = .ok (.aload_n 1, 1) := by decide +kernel
theorem dX3_needsNewName_29 : decode cX3_needsNewName 29 = .ok (.getfield 126, 3) := by decide +kernel
theorem dX3_needsNewName_32 : decode cX3_needsNewName 32 = .ok (.aload_n 0, 1) := by decide +kernel
theorem dX3_needsNewName_33 : decode cX3_needsNewName 33 = .ok (.getfield 22, 3) := by decide +kernel
theorem dX3_needsNewName_36 : decode cX3_needsNewName 36 = .ok (.aload_n 0, 1) := by decide +kernel
theorem dX3_needsNewName_37 : decode cX3_needsNewName 37 = .ok (.getfield 41, 3) := by decide +kernel
theorem dX3_needsNewName_40 : decode cX3_needsNewName 40 = .ok (.invokestatic 143, 3) := by decide +kernel
theorem dX3_needsNewName_43 : decode cX3_needsNewName 43 = .ok (.iconst (-1), 1) := by decide +kernel
theorem dX3_needsNewName_44 : decode cX3_needsNewName 44 = .ok (.if_icmp .ne 7, 3) := by decide +kernel
theorem dX3_needsNewName_47 : decode cX3_needsNewName 47 = .ok (.iconst 1, 1) := by decide +kernel
theorem dX3_needsNewName_48 : decode cX3_needsNewName 48 = .ok (.goto 4, 3) := by decide +kernel
theorem dX3_needsNewName_51 : decode cX3_needsNewName 51 = .ok (.iconst 0, 1) := by decide +kernel
theorem dX3_needsNewName_52 : decode cX3_needsNewName 52 = .ok (.istore_n 2, 1) := by decide +kernel
theorem dX3_needsNewName_53 : decode cX3_needsNewName 53 = .ok (.iload_n 2, 1) := by decide +kernel
theorem dX3_needsNewName_54 : decode cX3_needsNewName 54 = .ok (.ifCond .ne 11, 3) := by decide +kernel
theorem dX3_needsNewName_57 : decode cX3_needsNewName 57 = .ok (.aload_n 1, 1) := by decide +kernel
theorem dX3_needsNewName_58 : decode cX3_needsNewName 58 = .ok (.iconst 3, 1) := by decide +kernel
theorem dX3_needsNewName_59 : decode cX3_needsNewName 59 = .ok (.invokevirtual 117, 3) := by decide +kernel
theorem dX3_needsNewName_62 : decode cX3_needsNewName 62 = .ok (.ifCond .eq 7, 3) := by decide +kernel
theorem dX3_needsNewName_65 : decode cX3_needsNewName 65 = .ok (.iconst 1, 1) := by decide +kernel
theorem dX3_needsNewName_66 : decode cX3_needsNewName 66 = .ok (.goto 4, 3) := by decide +kernel
theorem dX3_needsNewName_69 : decode cX3_needsNewName 69 = .ok (.iconst 0, 1) := by decide +kernel
theorem dX3_needsNewName_70 : decode cX3_needsNewName 70 = .ok (.ireturn, 1) := by decide +kernel
theorem dX4_init_0 : decode cX4_init 0 = .ok (.aload_n 0, 1) := by decide +kernel
theorem dX4_init_1 : decode cX4_init 1 = .ok (.invokespecial 3, 3) := by decide +kernel
theorem dX4_init_4 : decode cX4_init 4 = .ok (.aload_n 0, 1) := by decide +kernel
theorem dX4_init_5 : decode cX4_init 5 = .ok (.iconst 0, 1) := by decide +kernel
theorem dX4_init_6 : decode cX4_init 6 = .ok (.newarray .int, 2) := by decide +kernel
theorem dX4_init_8 : decode cX4_init 8 = .ok (.putfield 9, 3) := by decide +kernel
theorem dX4_init_11 : decode cX4_init 11 = .ok (.aload_n 0, 1) := by decide +kernel
theorem dX4_init_12 : decode cX4_init 12 = .ok (.getstatic 15, 3) := by decide +kernel
theorem dX4_init_15 : decode cX4_init 15 = .ok (.putfield 21, 3) := by decide +kernel
theorem dX4_init_18 : decode cX4_init 18 = .ok (.return_, 1) := by decide +kernel
set_option maxRecDepth 20000 in
theorem ggX4_open_X4_advance : GoodIn wsX4_open wsX4_advance := goodIn_r _ [15, 6, 7, 2, 3, 4, 5, 8, 1, 16, 17, 18, 19, 20, 21, 22, 23, 14, 24, 25, 26, 27, 28, 29, 30, 31, 32, 33, 34, 35, 36, 37, 38, 39, 40, 41, 42, 43, 44, 45, 46, 47, 48, 49, 50, 51, 52, 53, 54, 55, 56, 57, 58, 59, 60, 61, 62, 63, 64, 65, 66, 67, 68, 69, 70, 71, 72, 73, 74, 75, 76, 77, 78, 79, 80, 81, 82, 83, 84, 85, 86, 87, 88, 89, 90, 91, 92, 93] rfl rfl
set_option maxRecDepth 20000 in
theorem gX4_open_X4_advance : GoodIn wsX4_open (wsV RX4 46 RX4 yX4_advance wsX4_advance) := goodIn_app (goodIn_r _ [11, 12, 13, 14] rfl rfl) ggX4_open_X4_advance
theorem dX4_open_0 : decode cX4_open 0 = .ok (.aload_n 0, 1) := by decide +kernel
theorem dX4_open_1 : decode cX4_open 1 = .ok (.aload_n 1, 1) := by decide +kernel
theorem dX4_open_2 : decode cX4_open 2 = .ok (.putfield 9, 3) := by decide +kernel
theorem dX4_open_5 : decode cX4_open 5 = .ok (.aload_n 0, 1) := by decide +kernel
theorem dX4_open_6 : decode cX4_open 6 = .ok (.iload_n 2, 1) := by decide +kernel
theorem dX4_open_7 : decode cX4_open 7 = .ok (.aload_n 1, 1) := by decide +kernel
theorem dX4_open_8 : decode cX4_open 8 = .ok (.arraylength, 1) := by decide +kernel
theorem dX4_open_9 : decode cX4_open 9 = .ok (.invokestatic 24, 3) := by decide +kernel
theorem dX4_open_12 : decode cX4_open 12 = .ok (.putfield 30, 3) := by decide +kernel
theorem dX4_open_15 : decode cX4_open 15 = .ok (.aload_n 0, 1) := by decide +kernel
theorem dX4_open_16 : decode cX4_open 16 = .ok (.iload_n 3, 1) := by decide +kernel
theorem dX4_open_17 : decode cX4_open 17 = .ok (.putfield 34, 3) := by decide +kernel
theorem dX4_open_20 : decode cX4_open 20 = .ok (.aload_n 0, 1) := by decide +kernel
theorem dX4_open_21 : decode cX4_open 21 = .ok (.iconst 0, 1) := by decide +kernel
theorem dX4_open_22 : decode cX4_open 22 = .ok (.putfield 37, 3) := by decide +kernel
theorem dX4_open_25 : decode cX4_open 25 = .ok (.aload_n 0, 1) := by decide +kernel
theorem dX4_open_26 : decode cX4_open 26 = .ok (.iconst 0, 1) := by decide +kernel
theorem dX4_open_27 : decode cX4_open 27 = .ok (.putfield 40, 3) := by decide +kernel
theorem dX4_open_30 : decode cX4_open 30 = .ok (.aload_n 0, 1) := by decide +kernel
theorem dX4_open_31 : decode cX4_open 31 = .ok (.iconst 0, 1) := by decide +kernel
theorem dX4_open_32 : decode cX4_open 32 = .ok (.putfield 43, 3) := by decide +kernel
theorem dX4_open_35 : decode cX4_open 35 = .ok (.aload_n 0, 1) := by decide +kernel
theorem dX4_open_36 : decode cX4_open 36 = .ok (.invokevirtual 46, 3) := by decide +kernel
theorem dX4_open_39 : decode cX4_open 39 = .ok (.return_, 1) := by decide +kernel
set_option maxRecDepth 20000 in
theorem ggX4_advance_X4_readRun : GoodIn wsX4_advance wsX4_readRun := goodIn_r _ [18, 19, 13, 7, 1, 8, 12, 77, 78, 79, 80, 81, 82, 83, 84, 85, 86, 87] rfl rfl
set_option maxRecDepth 20000 in
theorem gX4_advance_X4_readRun : GoodIn wsX4_advance (wsV RX4 55 RX4 yX4_readRun wsX4_readRun) := goodIn_app (goodIn_r _ [14, 15, 16, 17] rfl rfl) ggX4_advance_X4_readRun
set_option maxRecDepth 20000 in
theorem ggX4_advance_X4_isSignByte : GoodIn wsX4_advance wsX4_isSignByte := goodIn_r _ [22] rfl rfl
set_option maxRecDepth 20000 in
theorem gX4_advance_X4_isSignByte : GoodIn wsX4_advance (va_wsS RX4 61 yX4_isSignByte wsX4_isSignByte) := goodIn_app (goodIn_r _ [20, 21, 17] rfl rfl) ggX4_advance_X4_isSignByte
set_option maxRecDepth 20000 in
theorem ggX4_advance_X4_wordOf : GoodIn wsX4_advance wsX4_wordOf := goodIn_r _ [26, 27, 11, 1, 8, 9, 28, 29, 30, 31, 32, 33, 34, 35, 36, 37, 38, 39, 40, 41, 42, 43, 44, 45, 46, 47, 48, 49, 50, 51, 52, 53, 54, 55, 56, 57, 58, 59, 60, 61, 62, 63, 64, 65, 66, 67, 68, 69, 70, 71, 72, 73, 74, 75, 76, 77, 78, 79, 80, 81, 82, 83, 84, 85, 86, 87] rfl rfl
set_option maxRecDepth 20000 in
theorem gX4_advance_X4_wordOf : GoodIn wsX4_advance (wsV RX4 65 RX4 yX4_wordOf wsX4_wordOf) := goodIn_app (goodIn_r _ [23, 24, 25, 17] rfl rfl) ggX4_advance_X4_wordOf
theorem dX4_advance_0 : decode cX4_advance 0 = .ok (.aload_n 0, 1) := by decide +kernel
theorem dX4_advance_1 : decode cX4_advance 1 = .ok (.getfield 30, 3) := by decide +kernel
theorem dX4_advance_4 : decode cX4_advance 4 = .ok (.aload_n 0, 1) := by decide +kernel
theorem dX4_advance_5 : decode cX4_advance 5 = .ok (.getfield 34, 3) := by decide +kernel
theorem dX4_advance_8 : decode cX4_advance 8 = .ok (.invokestatic 24, 3) := by decide +kernel
theorem dX4_advance_11 : decode cX4_advance 11 = .ok (.istore_n 1, 1) := by decide +kernel
theorem dX4_advance_12 : decode cX4_advance 12 = .ok (.aload_n 0, 1) := by decide +kernel
theorem dX4_advance_13 : decode cX4_advance 13 = .ok (.getfield 37, 3) := by decide +kernel
theorem dX4_advance_16 : decode cX4_advance 16 = .ok (.iload_n 1, 1) := by decide +kernel
theorem dX4_advance_17 : decode cX4_advance 17 = .ok (.if_icmp .ge 44, 3) := by decide +kernel
theorem dX4_advance_20 : decode cX4_advance 20 = .ok (.aload_n 0, 1) := by decide +kernel
theorem dX4_advance_21 : decode cX4_advance 21 = .ok (.getfield 9, 3) := by decide +kernel
theorem dX4_advance_24 : decode cX4_advance 24 = .ok (.aload_n 0, 1) := by decide +kernel
theorem dX4_advance_25 : decode cX4_advance 25 = .ok (.getfield 37, 3) := by decide +kernel
theorem dX4_advance_28 : decode cX4_advance 28 = .ok (.iaload, 1) := by decide +kernel
theorem dX4_advance_29 : decode cX4_advance 29 = .ok (.bipush 32, 2) := by decide +kernel
theorem dX4_advance_31 : decode cX4_advance 31 = .ok (.if_icmp .eq 17, 3) := by decide +kernel
theorem dX4_advance_34 : decode cX4_advance 34 = .ok (.aload_n 0, 1) := by decide +kernel
theorem dX4_advance_35 : decode cX4_advance 35 = .ok (.getfield 9, 3) := by decide +kernel
theorem dX4_advance_38 : decode cX4_advance 38 = .ok (.aload_n 0, 1) := by decide +kernel
theorem dX4_advance_39 : decode cX4_advance 39 = .ok (.getfield 37, 3) := by decide +kernel
theorem dX4_advance_42 : decode cX4_advance 42 = .ok (.iaload, 1) := by decide +kernel
theorem dX4_advance_43 : decode cX4_advance 43 = .ok (.bipush 10, 2) := by decide +kernel
theorem dX4_advance_45 : decode cX4_advance 45 = .ok (.if_icmp .ne 16, 3) := by decide +kernel
theorem dX4_advance_48 : decode cX4_advance 48 = .ok (.aload_n 0, 1) := by decide +kernel
theorem dX4_advance_49 : decode cX4_advance 49 = .ok (.dup, 1) := by decide +kernel
theorem dX4_advance_50 : decode cX4_advance 50 = .ok (.getfield 37, 3) := by decide +kernel
theorem dX4_advance_53 : decode cX4_advance 53 = .ok (.iconst 1, 1) := by decide +kernel
theorem dX4_advance_54 : decode cX4_advance 54 = .ok (.iadd, 1) := by decide +kernel
theorem dX4_advance_55 : decode cX4_advance 55 = .ok (.putfield 37, 3) := by decide +kernel
theorem dX4_advance_58 : decode cX4_advance 58 = .ok (.goto (-46), 3) := by decide +kernel
theorem dX4_advance_61 : decode cX4_advance 61 = .ok (.aload_n 0, 1) := by decide +kernel
theorem dX4_advance_62 : decode cX4_advance 62 = .ok (.getstatic 15, 3) := by decide +kernel
theorem dX4_advance_65 : decode cX4_advance 65 = .ok (.putfield 21, 3) := by decide +kernel
theorem dX4_advance_68 : decode cX4_advance 68 = .ok (.aload_n 0, 1) := by decide +kernel
theorem dX4_advance_69 : decode cX4_advance 69 = .ok (.getfield 37, 3) := by decide +kernel
theorem dX4_advance_72 : decode cX4_advance 72 = .ok (.iload_n 1, 1) := by decide +kernel
theorem dX4_advance_73 : decode cX4_advance 73 = .ok (.if_icmp .lt 29, 3) := by decide +kernel
theorem dX4_advance_76 : decode cX4_advance 76 = .ok (.aload_n 0, 1) := by decide +kernel
theorem dX4_advance_77 : decode cX4_advance 77 = .ok (.iload_n 1, 1) := by decide +kernel
theorem dX4_advance_78 : decode cX4_advance 78 = .ok (.putfield 49, 3) := by decide +kernel
theorem dX4_advance_81 : decode cX4_advance 81 = .ok (.aload_n 0, 1) := by decide +kernel
theorem dX4_advance_82 : decode cX4_advance 82 = .ok (.aload_n 0, 1) := by decide +kernel
theorem dX4_advance_83 : decode cX4_advance 83 = .ok (.getfield 30, 3) := by decide +kernel
theorem dX4_advance_86 : decode cX4_advance 86 = .ok (.aload_n 0, 1) := by decide +kernel
theorem dX4_advance_87 : decode cX4_advance 87 = .ok (.getfield 34, 3) := by decide +kernel
theorem dX4_advance_90 : decode cX4_advance 90 = .ok (.if_icmp .le 7, 3) := by decide +kernel
theorem dX4_advance_93 : decode cX4_advance 93 = .ok (.iconst 0, 1) := by decide +kernel
theorem dX4_advance_94 : decode cX4_advance 94 = .ok (.goto 4, 3) := by decide +kernel
theorem dX4_advance_97 : decode cX4_advance 97 = .ok (.iconst 1, 1) := by decide +kernel
theorem dX4_advance_98 : decode cX4_advance 98 = .ok (.putfield 52, 3) := by decide +kernel
theorem dX4_advance_101 : decode cX4_advance 101 = .ok (.return_, 1) := by decide +kernel
theorem dX4_advance_102 : decode cX4_advance 102 = .ok (.aload_n 0, 1) := by decide +kernel
theorem dX4_advance_103 : decode cX4_advance 103 = .ok (.aload_n 0, 1) := by decide +kernel
theorem dX4_advance_104 : decode cX4_advance 104 = .ok (.getfield 37, 3) := by decide +kernel
theorem dX4_advance_107 : decode cX4_advance 107 = .ok (.putfield 49, 3) := by decide +kernel
theorem dX4_advance_110 : decode cX4_advance 110 = .ok (.aload_n 0, 1) := by decide +kernel
theorem dX4_advance_111 : decode cX4_advance 111 = .ok (.invokevirtual 55, 3) := by decide +kernel
theorem dX4_advance_114 : decode cX4_advance 114 = .ok (.aload_n 0, 1) := by decide +kernel
theorem dX4_advance_115 : decode cX4_advance 115 = .ok (.getfield 37, 3) := by decide +kernel
theorem dX4_advance_118 : decode cX4_advance 118 = .ok (.aload_n 0, 1) := by decide +kernel
theorem dX4_advance_119 : decode cX4_advance 119 = .ok (.getfield 49, 3) := by decide +kernel
theorem dX4_advance_122 : decode cX4_advance 122 = .ok (.if_icmp .ne 48, 3) := by decide +kernel
theorem dX4_advance_125 : decode cX4_advance 125 = .ok (.aload_n 0, 1) := by decide +kernel
theorem dX4_advance_126 : decode cX4_advance 126 = .ok (.aload_n 0, 1) := by decide +kernel
theorem dX4_advance_127 : decode cX4_advance 127 = .ok (.getfield 9, 3) := by decide +kernel
theorem dX4_advance_130 : decode cX4_advance 130 = .ok (.aload_n 0, 1) := by decide +kernel
theorem dX4_advance_131 : decode cX4_advance 131 = .ok (.getfield 49, 3) := by decide +kernel
theorem dX4_advance_134 : decode cX4_advance 134 = .ok (.iaload, 1) := by decide +kernel
theorem dX4_advance_135 : decode cX4_advance 135 = .ok (.putfield 58, 3) := by decide +kernel
theorem dX4_advance_138 : decode cX4_advance 138 = .ok (.aload_n 0, 1) := by decide +kernel
theorem dX4_advance_139 : decode cX4_advance 139 = .ok (.aload_n 0, 1) := by decide +kernel
theorem dX4_advance_140 : decode cX4_advance 140 = .ok (.getfield 58, 3) := by decide +kernel
theorem dX4_advance_143 : decode cX4_advance 143 = .ok (.invokestatic 61, 3) := by decide +kernel
theorem dX4_advance_146 : decode cX4_advance 146 = .ok (.ifCond .eq 7, 3) := by decide +kernel
theorem dX4_advance_149 : decode cX4_advance 149 = .ok (.iconst 4, 1) := by decide +kernel
theorem dX4_advance_150 : decode cX4_advance 150 = .ok (.goto 4, 3) := by decide +kernel
theorem dX4_advance_153 : decode cX4_advance 153 = .ok (.iconst 0, 1) := by decide +kernel
theorem dX4_advance_154 : decode cX4_advance 154 = .ok (.putfield 52, 3) := by decide +kernel
theorem dX4_advance_157 : decode cX4_advance 157 = .ok (.aload_n 0, 1) := by decide +kernel
theorem dX4_advance_158 : decode cX4_advance 158 = .ok (.dup, 1) := by decide +kernel
theorem dX4_advance_159 : decode cX4_advance 159 = .ok (.getfield 37, 3) := by decide +kernel
theorem dX4_advance_162 : decode cX4_advance 162 = .ok (.iconst 1, 1) := by decide +kernel
theorem dX4_advance_163 : decode cX4_advance 163 = .ok (.iadd, 1) := by decide +kernel
theorem dX4_advance_164 : decode cX4_advance 164 = .ok (.putfield 37, 3) := by decide +kernel
theorem dX4_advance_167 : decode cX4_advance 167 = .ok (.goto 28, 3) := by decide +kernel
theorem dX4_advance_170 : decode cX4_advance 170 = .ok (.aload_n 0, 1) := by decide +kernel
theorem dX4_advance_171 : decode cX4_advance 171 = .ok (.getfield 52, 3) := by decide +kernel
theorem dX4_advance_174 : decode cX4_advance 174 = .ok (.iconst 2, 1) := by decide +kernel
theorem dX4_advance_175 : decode cX4_advance 175 = .ok (.if_icmp .ne 20, 3) := by decide +kernel
theorem dX4_advance_178 : decode cX4_advance 178 = .ok (.aload_n 0, 1) := by decide +kernel
theorem dX4_advance_179 : decode cX4_advance 179 = .ok (.aload_n 0, 1) := by decide +kernel
theorem dX4_advance_180 : decode cX4_advance 180 = .ok (.aload_n 0, 1) := by decide +kernel
theorem dX4_advance_181 : decode cX4_advance 181 = .ok (.getfield 37, 3) := by decide +kernel
theorem dX4_advance_184 : decode cX4_advance 184 = .ok (.aload_n 0, 1) := by decide +kernel
theorem dX4_advance_185 : decode cX4_advance 185 = .ok (.getfield 49, 3) := by decide +kernel
theorem dX4_advance_188 : decode cX4_advance 188 = .ok (.isub, 1) := by decide +kernel
theorem dX4_advance_189 : decode cX4_advance 189 = .ok (.invokevirtual 65, 3) := by decide +kernel
theorem dX4_advance_192 : decode cX4_advance 192 = .ok (.putfield 21, 3) := by decide +kernel
theorem dX4_advance_195 : decode cX4_advance 195 = .ok (.return_, 1) := by decide +kernel
theorem dX4_readRun_0 : decode cX4_readRun 0 = .ok (.iconst 0, 1) := by decide +kernel
theorem dX4_readRun_1 : decode cX4_readRun 1 = .ok (.istore_n 1, 1) := by decide +kernel
theorem dX4_readRun_2 : decode cX4_readRun 2 = .ok (.iconst 0, 1) := by decide +kernel
theorem dX4_readRun_3 : decode cX4_readRun 3 = .ok (.istore_n 2, 1) := by decide +kernel
theorem dX4_readRun_4 : decode cX4_readRun 4 = .ok (.aload_n 0, 1) := by decide +kernel
theorem dX4_readRun_5 : decode cX4_readRun 5 = .ok (.lconst 0, 1) := by decide +kernel
theorem dX4_readRun_6 : decode cX4_readRun 6 = .ok (.putfield 69, 3) := by decide +kernel
theorem dX4_readRun_9 : decode cX4_readRun 9 = .ok (.aload_n 0, 1) := by decide +kernel
theorem dX4_readRun_10 : decode cX4_readRun 10 = .ok (.iconst 0, 1) := by decide +kernel
theorem dX4_readRun_11 : decode cX4_readRun 11 = .ok (.putfield 58, 3) := by decide +kernel
theorem dX4_readRun_14 : decode cX4_readRun 14 = .ok (.aload_n 0, 1) := by decide +kernel
theorem dX4_readRun_15 : decode cX4_readRun 15 = .ok (.getfield 37, 3) := by decide +kernel
theorem dX4_readRun_18 : decode cX4_readRun 18 = .ok (.aload_n 0, 1) := by decide +kernel
theorem dX4_readRun_19 : decode cX4_readRun 19 = .ok (.getfield 30, 3) := by decide +kernel
theorem dX4_readRun_22 : decode cX4_readRun 22 = .ok (.if_icmp .ge 164, 3) := by decide +kernel
theorem dX4_readRun_25 : decode cX4_readRun 25 = .ok (.aload_n 0, 1) := by decide +kernel
theorem dX4_readRun_26 : decode cX4_readRun 26 = .ok (.getfield 9, 3) := by decide +kernel
theorem dX4_readRun_29 : decode cX4_readRun 29 = .ok (.aload_n 0, 1) := by decide +kernel
theorem dX4_readRun_30 : decode cX4_readRun 30 = .ok (.getfield 37, 3) := by decide +kernel
theorem dX4_readRun_33 : decode cX4_readRun 33 = .ok (.iaload, 1) := by decide +kernel
theorem dX4_readRun_34 : decode cX4_readRun 34 = .ok (.bipush 97, 2) := by decide +kernel
theorem dX4_readRun_36 : decode cX4_readRun 36 = .ok (.if_icmp .lt 17, 3) := by decide +kernel
theorem dX4_readRun_39 : decode cX4_readRun 39 = .ok (.aload_n 0, 1) := by decide +kernel
theorem dX4_readRun_40 : decode cX4_readRun 40 = .ok (.getfield 9, 3) := by decide +kernel
theorem dX4_readRun_43 : decode cX4_readRun 43 = .ok (.aload_n 0, 1) := by decide +kernel
theorem dX4_readRun_44 : decode cX4_readRun 44 = .ok (.getfield 37, 3) := by decide +kernel
theorem dX4_readRun_47 : decode cX4_readRun 47 = .ok (.iaload, 1) := by decide +kernel
theorem dX4_readRun_48 : decode cX4_readRun 48 = .ok (.bipush 122, 2) := by decide +kernel
theorem dX4_readRun_50 : decode cX4_readRun 50 = .ok (.if_icmp .le 31, 3) := by decide +kernel
theorem dX4_readRun_53 : decode cX4_readRun 53 = .ok (.aload_n 0, 1) := by decide +kernel
theorem dX4_readRun_54 : decode cX4_readRun 54 = .ok (.getfield 9, 3) := by decide +kernel
theorem dX4_readRun_57 : decode cX4_readRun 57 = .ok (.aload_n 0, 1) := by decide +kernel
theorem dX4_readRun_58 : decode cX4_readRun 58 = .ok (.getfield 37, 3) := by decide +kernel
theorem dX4_readRun_61 : decode cX4_readRun 61 = .ok (.iaload, 1) := by decide +kernel
theorem dX4_readRun_62 : decode cX4_readRun 62 = .ok (.bipush 48, 2) := by decide +kernel
theorem dX4_readRun_64 : decode cX4_readRun 64 = .ok (.if_icmp .lt 122, 3) := by decide +kernel
theorem dX4_readRun_67 : decode cX4_readRun 67 = .ok (.aload_n 0, 1) := by decide +kernel
theorem dX4_readRun_68 : decode cX4_readRun 68 = .ok (.getfield 9, 3) := by decide +kernel
theorem dX4_readRun_71 : decode cX4_readRun 71 = .ok (.aload_n 0, 1) := by decide +kernel
theorem dX4_readRun_72 : decode cX4_readRun 72 = .ok (.getfield 37, 3) := by decide +kernel
theorem dX4_readRun_75 : decode cX4_readRun 75 = .ok (.iaload, 1) := by decide +kernel
theorem dX4_readRun_76 : decode cX4_readRun 76 = .ok (.bipush 57, 2) := by decide +kernel
theorem dX4_readRun_78 : decode cX4_readRun 78 = .ok (.if_icmp .gt 108, 3) := by decide +kernel
theorem dX4_readRun_81 : decode cX4_readRun 81 = .ok (.aload_n 0, 1) := by decide +kernel
theorem dX4_readRun_82 : decode cX4_readRun 82 = .ok (.getfield 9, 3) := by decide +kernel
theorem dX4_readRun_85 : decode cX4_readRun 85 = .ok (.aload_n 0, 1) := by decide +kernel
theorem dX4_readRun_86 : decode cX4_readRun 86 = .ok (.getfield 37, 3) := by decide +kernel
theorem dX4_readRun_89 : decode cX4_readRun 89 = .ok (.iaload, 1) := by decide +kernel
theorem dX4_readRun_90 : decode cX4_readRun 90 = .ok (.bipush 97, 2) := by decide +kernel
theorem dX4_readRun_92 : decode cX4_readRun 92 = .ok (.if_icmp .lt 42, 3) := by decide +kernel
theorem dX4_readRun_95 : decode cX4_readRun 95 = .ok (.iload_n 1, 1) := by decide +kernel
theorem dX4_readRun_96 : decode cX4_readRun 96 = .ok (.bipush 7, 2) := by decide +kernel
theorem dX4_readRun_98 : decode cX4_readRun 98 = .ok (.if_icmp .ge 30, 3) := by decide +kernel
theorem dX4_readRun_101 : decode cX4_readRun 101 = .ok (.aload_n 0, 1) := by decide +kernel
theorem dX4_readRun_102 : decode cX4_readRun 102 = .ok (.dup, 1) := by decide +kernel
theorem dX4_readRun_103 : decode cX4_readRun 103 = .ok (.getfield 69, 3) := by decide +kernel
theorem dX4_readRun_106 : decode cX4_readRun 106 = .ok (.aload_n 0, 1) := by decide +kernel
theorem dX4_readRun_107 : decode cX4_readRun 107 = .ok (.getfield 9, 3) := by decide +kernel
theorem dX4_readRun_110 : decode cX4_readRun 110 = .ok (.aload_n 0, 1) := by decide +kernel
theorem dX4_readRun_111 : decode cX4_readRun 111 = .ok (.getfield 37, 3) := by decide +kernel
theorem dX4_readRun_114 : decode cX4_readRun 114 = .ok (.iaload, 1) := by decide +kernel
theorem dX4_readRun_115 : decode cX4_readRun 115 = .ok (.i2l, 1) := by decide +kernel
theorem dX4_readRun_116 : decode cX4_readRun 116 = .ok (.bipush 8, 2) := by decide +kernel
theorem dX4_readRun_118 : decode cX4_readRun 118 = .ok (.bipush 6, 2) := by decide +kernel
theorem dX4_readRun_120 : decode cX4_readRun 120 = .ok (.iload_n 1, 1) := by decide +kernel
theorem dX4_readRun_121 : decode cX4_readRun 121 = .ok (.isub, 1) := by decide +kernel
theorem dX4_readRun_122 : decode cX4_readRun 122 = .ok (.imul, 1) := by decide +kernel
theorem dX4_readRun_123 : decode cX4_readRun 123 = .ok (.lshl, 1) := by decide +kernel
theorem dX4_readRun_124 : decode cX4_readRun 124 = .ok (.lor, 1) := by decide +kernel
theorem dX4_readRun_125 : decode cX4_readRun 125 = .ok (.putfield 69, 3) := by decide +kernel
theorem dX4_readRun_128 : decode cX4_readRun 128 = .ok (.iinc 1 1, 3) := by decide +kernel
theorem dX4_readRun_131 : decode cX4_readRun 131 = .ok (.goto 42, 3) := by decide +kernel
theorem dX4_readRun_134 : decode cX4_readRun 134 = .ok (.aload_n 0, 1) := by decide +kernel
theorem dX4_readRun_135 : decode cX4_readRun 135 = .ok (.iload_n 2, 1) := by decide +kernel
theorem dX4_readRun_136 : decode cX4_readRun 136 = .ok (.iconst 3, 1) := by decide +kernel
theorem dX4_readRun_137 : decode cX4_readRun 137 = .ok (.if_icmp .ge 26, 3) := by decide +kernel
theorem dX4_readRun_140 : decode cX4_readRun 140 = .ok (.aload_n 0, 1) := by decide +kernel
theorem dX4_readRun_141 : decode cX4_readRun 141 = .ok (.getfield 58, 3) := by decide +kernel
theorem dX4_readRun_144 : decode cX4_readRun 144 = .ok (.bipush 10, 2) := by decide +kernel
theorem dX4_readRun_146 : decode cX4_readRun 146 = .ok (.imul, 1) := by decide +kernel
theorem dX4_readRun_147 : decode cX4_readRun 147 = .ok (.aload_n 0, 1) := by decide +kernel
theorem dX4_readRun_148 : decode cX4_readRun 148 = .ok (.getfield 9, 3) := by decide +kernel
theorem dX4_readRun_151 : decode cX4_readRun 151 = .ok (.aload_n 0, 1) := by decide +kernel
theorem dX4_readRun_152 : decode cX4_readRun 152 = .ok (.getfield 37, 3) := by decide +kernel
theorem dX4_readRun_155 : decode cX4_readRun 155 = .ok (.iaload, 1) := by decide +kernel
theorem dX4_readRun_156 : decode cX4_readRun 156 = .ok (.iadd, 1) := by decide +kernel
theorem dX4_readRun_157 : decode cX4_readRun 157 = .ok (.bipush 48, 2) := by decide +kernel
theorem dX4_readRun_159 : decode cX4_readRun 159 = .ok (.isub, 1) := by decide +kernel
theorem dX4_readRun_160 : decode cX4_readRun 160 = .ok (.goto 7, 3) := by decide +kernel
theorem dX4_readRun_163 : decode cX4_readRun 163 = .ok (.aload_n 0, 1) := by decide +kernel
theorem dX4_readRun_164 : decode cX4_readRun 164 = .ok (.getfield 58, 3) := by decide +kernel
theorem dX4_readRun_167 : decode cX4_readRun 167 = .ok (.putfield 58, 3) := by decide +kernel
theorem dX4_readRun_170 : decode cX4_readRun 170 = .ok (.iinc 2 1, 3) := by decide +kernel
theorem dX4_readRun_173 : decode cX4_readRun 173 = .ok (.aload_n 0, 1) := by decide +kernel
theorem dX4_readRun_174 : decode cX4_readRun 174 = .ok (.dup, 1) := by decide +kernel
theorem dX4_readRun_175 : decode cX4_readRun 175 = .ok (.getfield 37, 3) := by decide +kernel
theorem dX4_readRun_178 : decode cX4_readRun 178 = .ok (.iconst 1, 1) := by decide +kernel
theorem dX4_readRun_179 : decode cX4_readRun 179 = .ok (.iadd, 1) := by decide +kernel
theorem dX4_readRun_180 : decode cX4_readRun 180 = .ok (.putfield 37, 3) := by decide +kernel
theorem dX4_readRun_183 : decode cX4_readRun 183 = .ok (.goto (-169), 3) := by decide +kernel
theorem dX4_readRun_186 : decode cX4_readRun 186 = .ok (.iload_n 2, 1) := by decide +kernel
theorem dX4_readRun_187 : decode cX4_readRun 187 = .ok (.ifCond .ne 17, 3) := by decide +kernel
theorem dX4_readRun_190 : decode cX4_readRun 190 = .ok (.iload_n 1, 1) := by decide +kernel
theorem dX4_readRun_191 : decode cX4_readRun 191 = .ok (.bipush 7, 2) := by decide +kernel
theorem dX4_readRun_193 : decode cX4_readRun 193 = .ok (.if_icmp .gt 11, 3) := by decide +kernel
theorem dX4_readRun_196 : decode cX4_readRun 196 = .ok (.aload_n 0, 1) := by decide +kernel
theorem dX4_readRun_197 : decode cX4_readRun 197 = .ok (.iconst 2, 1) := by decide +kernel
theorem dX4_readRun_198 : decode cX4_readRun 198 = .ok (.putfield 52, 3) := by decide +kernel
theorem dX4_readRun_201 : decode cX4_readRun 201 = .ok (.goto 21, 3) := by decide +kernel
theorem dX4_readRun_204 : decode cX4_readRun 204 = .ok (.aload_n 0, 1) := by decide +kernel
theorem dX4_readRun_205 : decode cX4_readRun 205 = .ok (.iload_n 1, 1) := by decide +kernel
theorem dX4_readRun_206 : decode cX4_readRun 206 = .ok (.ifCond .ne 12, 3) := by decide +kernel
theorem dX4_readRun_209 : decode cX4_readRun 209 = .ok (.iload_n 2, 1) := by decide +kernel
theorem dX4_readRun_210 : decode cX4_readRun 210 = .ok (.iconst 3, 1) := by decide +kernel
theorem dX4_readRun_211 : decode cX4_readRun 211 = .ok (.if_icmp .gt 7, 3) := by decide +kernel
theorem dX4_readRun_214 : decode cX4_readRun 214 = .ok (.iconst 3, 1) := by decide +kernel
theorem dX4_readRun_215 : decode cX4_readRun 215 = .ok (.goto 4, 3) := by decide +kernel
theorem dX4_readRun_218 : decode cX4_readRun 218 = .ok (.iconst 0, 1) := by decide +kernel
theorem dX4_readRun_219 : decode cX4_readRun 219 = .ok (.putfield 52, 3) := by decide +kernel
theorem dX4_readRun_222 : decode cX4_readRun 222 = .ok (.return_, 1) := by decide +kernel
set_option maxRecDepth 20000 in
theorem ggX4_wordOf_J0_length_8abf5 : GoodIn wsX4_wordOf wsJ0_length_8abf5 := goodIn_r _ [10, 11, 12, 13, 14, 9, 15, 16, 17] rfl rfl
set_option maxRecDepth 20000 in
theorem gX4_wordOf_J0_length_8abf5 : GoodIn wsX4_wordOf (wsV RX4 80 RJ0 yJ0_length_8abf5 wsJ0_length_8abf5) := goodIn_app (goodIn_r _ [6, 7, 8, 9] rfl rfl) ggX4_wordOf_J0_length_8abf5
set_option maxRecDepth 20000 in
theorem ggX4_wordOf_J0_charAt_5068e : GoodIn wsX4_wordOf wsJ0_charAt_5068e := goodIn_r _ [21, 11, 22, 23, 24, 9, 25, 16, 17, 26, 27, 28, 29, 30, 31, 32, 33, 34, 35, 36, 37, 38, 39, 40, 41, 42, 43, 44, 45, 46, 47, 48, 49, 50, 51, 52, 53, 54] rfl rfl
set_option maxRecDepth 20000 in
theorem gX4_wordOf_J0_charAt_5068e : GoodIn wsX4_wordOf (wsV RX4 86 RJ0 yJ0_charAt_5068e wsJ0_charAt_5068e) := goodIn_app (goodIn_r _ [18, 19, 20, 9] rfl rfl) ggX4_wordOf_J0_charAt_5068e
theorem dX4_wordOf_0 : decode cX4_wordOf 0 = .ok (.iconst 0, 1) := by decide +kernel
theorem dX4_wordOf_1 : decode cX4_wordOf 1 = .ok (.istore_n 2, 1) := by decide +kernel
theorem dX4_wordOf_2 : decode cX4_wordOf 2 = .ok (.iload_n 2, 1) := by decide +kernel
theorem dX4_wordOf_3 : decode cX4_wordOf 3 = .ok (.getstatic 73, 3) := by decide +kernel
theorem dX4_wordOf_6 : decode cX4_wordOf 6 = .ok (.arraylength, 1) := by decide +kernel
theorem dX4_wordOf_7 : decode cX4_wordOf 7 = .ok (.if_icmp .ge 109, 3) := by decide +kernel
theorem dX4_wordOf_10 : decode cX4_wordOf 10 = .ok (.getstatic 73, 3) := by decide +kernel
theorem dX4_wordOf_13 : decode cX4_wordOf 13 = .ok (.iload_n 2, 1) := by decide +kernel
theorem dX4_wordOf_14 : decode cX4_wordOf 14 = .ok (.aaload, 1) := by decide +kernel
theorem dX4_wordOf_15 : decode cX4_wordOf 15 = .ok (.getfield 77, 3) := by decide +kernel
theorem dX4_wordOf_18 : decode cX4_wordOf 18 = .ok (.astore_n 3, 1) := by decide +kernel
theorem dX4_wordOf_19 : decode cX4_wordOf 19 = .ok (.aload_n 3, 1) := by decide +kernel
theorem dX4_wordOf_20 : decode cX4_wordOf 20 = .ok (.invokevirtual 80, 3) := by decide +kernel
theorem dX4_wordOf_23 : decode cX4_wordOf 23 = .ok (.iload_n 1, 1) := by decide +kernel
theorem dX4_wordOf_24 : decode cX4_wordOf 24 = .ok (.if_icmp .ne 7, 3) := by decide +kernel
theorem dX4_wordOf_27 : decode cX4_wordOf 27 = .ok (.iconst 1, 1) := by decide +kernel
theorem dX4_wordOf_28 : decode cX4_wordOf 28 = .ok (.goto 4, 3) := by decide +kernel
theorem dX4_wordOf_31 : decode cX4_wordOf 31 = .ok (.iconst 0, 1) := by decide +kernel
theorem dX4_wordOf_32 : decode cX4_wordOf 32 = .ok (.istore 4, 2) := by decide +kernel
theorem dX4_wordOf_34 : decode cX4_wordOf 34 = .ok (.iconst 0, 1) := by decide +kernel
theorem dX4_wordOf_35 : decode cX4_wordOf 35 = .ok (.istore 5, 2) := by decide +kernel
theorem dX4_wordOf_37 : decode cX4_wordOf 37 = .ok (.iload 4, 2) := by decide +kernel
theorem dX4_wordOf_39 : decode cX4_wordOf 39 = .ok (.ifCond .eq 60, 3) := by decide +kernel
theorem dX4_wordOf_42 : decode cX4_wordOf 42 = .ok (.iload 5, 2) := by decide +kernel
theorem dX4_wordOf_44 : decode cX4_wordOf 44 = .ok (.aload_n 3, 1) := by decide +kernel
theorem dX4_wordOf_45 : decode cX4_wordOf 45 = .ok (.invokevirtual 80, 3) := by decide +kernel
theorem dX4_wordOf_48 : decode cX4_wordOf 48 = .ok (.if_icmp .ge 51, 3) := by decide +kernel
theorem dX4_wordOf_51 : decode cX4_wordOf 51 = .ok (.aload_n 0, 1) := by decide +kernel
theorem dX4_wordOf_52 : decode cX4_wordOf 52 = .ok (.getfield 49, 3) := by decide +kernel
theorem dX4_wordOf_55 : decode cX4_wordOf 55 = .ok (.iload 5, 2) := by decide +kernel
theorem dX4_wordOf_57 : decode cX4_wordOf 57 = .ok (.iadd, 1) := by decide +kernel
theorem dX4_wordOf_58 : decode cX4_wordOf 58 = .ok (.aload_n 0, 1) := by decide +kernel
theorem dX4_wordOf_59 : decode cX4_wordOf 59 = .ok (.getfield 30, 3) := by decide +kernel
theorem dX4_wordOf_62 : decode cX4_wordOf 62 = .ok (.if_icmp .ge 37, 3) := by decide +kernel
theorem dX4_wordOf_65 : decode cX4_wordOf 65 = .ok (.aload_n 3, 1) := by decide +kernel
theorem dX4_wordOf_66 : decode cX4_wordOf 66 = .ok (.iload 5, 2) := by decide +kernel
theorem dX4_wordOf_68 : decode cX4_wordOf 68 = .ok (.invokevirtual 86, 3) := by decide +kernel
theorem dX4_wordOf_71 : decode cX4_wordOf 71 = .ok (.aload_n 0, 1) := by decide +kernel
theorem dX4_wordOf_72 : decode cX4_wordOf 72 = .ok (.getfield 9, 3) := by decide +kernel
theorem dX4_wordOf_75 : decode cX4_wordOf 75 = .ok (.aload_n 0, 1) := by decide +kernel
theorem dX4_wordOf_76 : decode cX4_wordOf 76 = .ok (.getfield 49, 3) := by decide +kernel
theorem dX4_wordOf_79 : decode cX4_wordOf 79 = .ok (.iload 5, 2) := by decide +kernel
theorem dX4_wordOf_81 : decode cX4_wordOf 81 = .ok (.iadd, 1) := by decide +kernel
theorem dX4_wordOf_82 : decode cX4_wordOf 82 = .ok (.iaload, 1) := by decide +kernel
theorem dX4_wordOf_83 : decode cX4_wordOf 83 = .ok (.if_icmp .ne 7, 3) := by decide +kernel
theorem dX4_wordOf_86 : decode cX4_wordOf 86 = .ok (.iconst 1, 1) := by decide +kernel
theorem dX4_wordOf_87 : decode cX4_wordOf 87 = .ok (.goto 4, 3) := by decide +kernel
theorem dX4_wordOf_90 : decode cX4_wordOf 90 = .ok (.iconst 0, 1) := by decide +kernel
theorem dX4_wordOf_91 : decode cX4_wordOf 91 = .ok (.istore 4, 2) := by decide +kernel
theorem dX4_wordOf_93 : decode cX4_wordOf 93 = .ok (.iinc 5 1, 3) := by decide +kernel
theorem dX4_wordOf_96 : decode cX4_wordOf 96 = .ok (.goto (-59), 3) := by decide +kernel
theorem dX4_wordOf_99 : decode cX4_wordOf 99 = .ok (.iload 4, 2) := by decide +kernel
theorem dX4_wordOf_101 : decode cX4_wordOf 101 = .ok (.ifCond .eq 9, 3) := by decide +kernel
theorem dX4_wordOf_104 : decode cX4_wordOf 104 = .ok (.getstatic 73, 3) := by decide +kernel
theorem dX4_wordOf_107 : decode cX4_wordOf 107 = .ok (.iload_n 2, 1) := by decide +kernel
theorem dX4_wordOf_108 : decode cX4_wordOf 108 = .ok (.aaload, 1) := by decide +kernel
theorem dX4_wordOf_109 : decode cX4_wordOf 109 = .ok (.areturn, 1) := by decide +kernel
theorem dX4_wordOf_110 : decode cX4_wordOf 110 = .ok (.iinc 2 1, 3) := by decide +kernel
theorem dX4_wordOf_113 : decode cX4_wordOf 113 = .ok (.goto (-111), 3) := by decide +kernel
theorem dX4_wordOf_116 : decode cX4_wordOf 116 = .ok (.getstatic 15, 3) := by decide +kernel
theorem dX4_wordOf_119 : decode cX4_wordOf 119 = .ok (.areturn, 1) := by decide +kernel
theorem dX4_isSignByte_0 : decode cX4_isSignByte 0 = .ok (.iload_n 0, 1) := by decide +kernel
theorem dX4_isSignByte_1 : decode cX4_isSignByte 1 = .ok (.bipush 59, 2) := by decide +kernel
theorem dX4_isSignByte_3 : decode cX4_isSignByte 3 = .ok (.if_icmp .eq 39, 3) := by decide +kernel
theorem dX4_isSignByte_6 : decode cX4_isSignByte 6 = .ok (.iload_n 0, 1) := by decide +kernel
theorem dX4_isSignByte_7 : decode cX4_isSignByte 7 = .ok (.bipush 60, 2) := by decide +kernel
theorem dX4_isSignByte_9 : decode cX4_isSignByte 9 = .ok (.if_icmp .eq 33, 3) := by decide +kernel
theorem dX4_isSignByte_12 : decode cX4_isSignByte 12 = .ok (.iload_n 0, 1) := by decide +kernel
theorem dX4_isSignByte_13 : decode cX4_isSignByte 13 = .ok (.bipush 61, 2) := by decide +kernel
theorem dX4_isSignByte_15 : decode cX4_isSignByte 15 = .ok (.if_icmp .eq 27, 3) := by decide +kernel
theorem dX4_isSignByte_18 : decode cX4_isSignByte 18 = .ok (.iload_n 0, 1) := by decide +kernel
theorem dX4_isSignByte_19 : decode cX4_isSignByte 19 = .ok (.bipush 62, 2) := by decide +kernel
theorem dX4_isSignByte_21 : decode cX4_isSignByte 21 = .ok (.if_icmp .eq 21, 3) := by decide +kernel
theorem dX4_isSignByte_24 : decode cX4_isSignByte 24 = .ok (.iload_n 0, 1) := by decide +kernel
theorem dX4_isSignByte_25 : decode cX4_isSignByte 25 = .ok (.bipush 40, 2) := by decide +kernel
theorem dX4_isSignByte_27 : decode cX4_isSignByte 27 = .ok (.if_icmp .eq 15, 3) := by decide +kernel
theorem dX4_isSignByte_30 : decode cX4_isSignByte 30 = .ok (.iload_n 0, 1) := by decide +kernel
theorem dX4_isSignByte_31 : decode cX4_isSignByte 31 = .ok (.bipush 41, 2) := by decide +kernel
theorem dX4_isSignByte_33 : decode cX4_isSignByte 33 = .ok (.if_icmp .eq 9, 3) := by decide +kernel
theorem dX4_isSignByte_36 : decode cX4_isSignByte 36 = .ok (.iload_n 0, 1) := by decide +kernel
theorem dX4_isSignByte_37 : decode cX4_isSignByte 37 = .ok (.bipush 46, 2) := by decide +kernel
theorem dX4_isSignByte_39 : decode cX4_isSignByte 39 = .ok (.if_icmp .ne 7, 3) := by decide +kernel
theorem dX4_isSignByte_42 : decode cX4_isSignByte 42 = .ok (.iconst 1, 1) := by decide +kernel
theorem dX4_isSignByte_43 : decode cX4_isSignByte 43 = .ok (.goto 4, 3) := by decide +kernel
theorem dX4_isSignByte_46 : decode cX4_isSignByte 46 = .ok (.iconst 0, 1) := by decide +kernel
theorem dX4_isSignByte_47 : decode cX4_isSignByte 47 = .ok (.ireturn, 1) := by decide +kernel
theorem dX4_refuse_0 : decode cX4_refuse 0 = .ok (.aload_n 0, 1) := by decide +kernel
theorem dX4_refuse_1 : decode cX4_refuse 1 = .ok (.iload_n 1, 1) := by decide +kernel
theorem dX4_refuse_2 : decode cX4_refuse 2 = .ok (.putfield 40, 3) := by decide +kernel
theorem dX4_refuse_5 : decode cX4_refuse 5 = .ok (.aload_n 0, 1) := by decide +kernel
theorem dX4_refuse_6 : decode cX4_refuse 6 = .ok (.aload_n 0, 1) := by decide +kernel
theorem dX4_refuse_7 : decode cX4_refuse 7 = .ok (.getfield 49, 3) := by decide +kernel
theorem dX4_refuse_10 : decode cX4_refuse 10 = .ok (.putfield 43, 3) := by decide +kernel
theorem dX4_refuse_13 : decode cX4_refuse 13 = .ok (.iconst 0, 1) := by decide +kernel
theorem dX4_refuse_14 : decode cX4_refuse 14 = .ok (.ireturn, 1) := by decide +kernel
theorem dX4_seesEnd_0 : decode cX4_seesEnd 0 = .ok (.aload_n 0, 1) := by decide +kernel
theorem dX4_seesEnd_1 : decode cX4_seesEnd 1 = .ok (.getfield 52, 3) := by decide +kernel
theorem dX4_seesEnd_4 : decode cX4_seesEnd 4 = .ok (.iconst 1, 1) := by decide +kernel
theorem dX4_seesEnd_5 : decode cX4_seesEnd 5 = .ok (.if_icmp .ne 7, 3) := by decide +kernel
theorem dX4_seesEnd_8 : decode cX4_seesEnd 8 = .ok (.iconst 1, 1) := by decide +kernel
theorem dX4_seesEnd_9 : decode cX4_seesEnd 9 = .ok (.goto 4, 3) := by decide +kernel
theorem dX4_seesEnd_12 : decode cX4_seesEnd 12 = .ok (.iconst 0, 1) := by decide +kernel
theorem dX4_seesEnd_13 : decode cX4_seesEnd 13 = .ok (.ireturn, 1) := by decide +kernel
theorem dX4_seesWord_0 : decode cX4_seesWord 0 = .ok (.aload_n 0, 1) := by decide +kernel
theorem dX4_seesWord_1 : decode cX4_seesWord 1 = .ok (.getfield 52, 3) := by decide +kernel
theorem dX4_seesWord_4 : decode cX4_seesWord 4 = .ok (.iconst 2, 1) := by decide +kernel
theorem dX4_seesWord_5 : decode cX4_seesWord 5 = .ok (.if_icmp .ne 15, 3) := by decide +kernel
theorem dX4_seesWord_8 : decode cX4_seesWord 8 = .ok (.aload_n 0, 1) := by decide +kernel
theorem dX4_seesWord_9 : decode cX4_seesWord 9 = .ok (.getfield 21, 3) := by decide +kernel
theorem dX4_seesWord_12 : decode cX4_seesWord 12 = .ok (.aload_n 1, 1) := by decide +kernel
theorem dX4_seesWord_13 : decode cX4_seesWord 13 = .ok (.if_acmp .ne 7, 3) := by decide +kernel
theorem dX4_seesWord_16 : decode cX4_seesWord 16 = .ok (.iconst 1, 1) := by decide +kernel
theorem dX4_seesWord_17 : decode cX4_seesWord 17 = .ok (.goto 4, 3) := by decide +kernel
theorem dX4_seesWord_20 : decode cX4_seesWord 20 = .ok (.iconst 0, 1) := by decide +kernel
theorem dX4_seesWord_21 : decode cX4_seesWord 21 = .ok (.ireturn, 1) := by decide +kernel
theorem dX4_seesSign_0 : decode cX4_seesSign 0 = .ok (.aload_n 0, 1) := by decide +kernel
theorem dX4_seesSign_1 : decode cX4_seesSign 1 = .ok (.getfield 52, 3) := by decide +kernel
theorem dX4_seesSign_4 : decode cX4_seesSign 4 = .ok (.iconst 4, 1) := by decide +kernel
theorem dX4_seesSign_5 : decode cX4_seesSign 5 = .ok (.if_icmp .ne 15, 3) := by decide +kernel
theorem dX4_seesSign_8 : decode cX4_seesSign 8 = .ok (.aload_n 0, 1) := by decide +kernel
theorem dX4_seesSign_9 : decode cX4_seesSign 9 = .ok (.getfield 58, 3) := by decide +kernel
theorem dX4_seesSign_12 : decode cX4_seesSign 12 = .ok (.iload_n 1, 1) := by decide +kernel
theorem dX4_seesSign_13 : decode cX4_seesSign 13 = .ok (.if_icmp .ne 7, 3) := by decide +kernel
theorem dX4_seesSign_16 : decode cX4_seesSign 16 = .ok (.iconst 1, 1) := by decide +kernel
theorem dX4_seesSign_17 : decode cX4_seesSign 17 = .ok (.goto 4, 3) := by decide +kernel
theorem dX4_seesSign_20 : decode cX4_seesSign 20 = .ok (.iconst 0, 1) := by decide +kernel
theorem dX4_seesSign_21 : decode cX4_seesSign 21 = .ok (.ireturn, 1) := by decide +kernel
set_option maxRecDepth 20000 in
theorem ggX4_needsEnd_X4_seesEnd : GoodIn wsX4_needsEnd wsX4_seesEnd := goodIn_r _ [5, 6, 14, 15, 16, 17, 18, 19, 20, 21, 22, 23, 24] rfl rfl
set_option maxRecDepth 20000 in
theorem gX4_needsEnd_X4_seesEnd : GoodIn wsX4_needsEnd (wsV RX4 90 RX4 yX4_seesEnd wsX4_seesEnd) := goodIn_app (goodIn_r _ [1, 2, 3, 4] rfl rfl) ggX4_needsEnd_X4_seesEnd
set_option maxRecDepth 20000 in
theorem ggX4_needsEnd_X4_refuse : GoodIn wsX4_needsEnd wsX4_refuse := goodIn_r _ [10, 11, 12, 13, 14, 15, 16, 17, 18, 19, 20, 21, 22, 23, 24] rfl rfl
set_option maxRecDepth 20000 in
theorem gX4_needsEnd_X4_refuse : GoodIn wsX4_needsEnd (wsV RX4 94 RX4 yX4_refuse wsX4_refuse) := goodIn_app (goodIn_r _ [7, 8, 9, 4] rfl rfl) ggX4_needsEnd_X4_refuse
theorem dX4_needsEnd_0 : decode cX4_needsEnd 0 = .ok (.aload_n 0, 1) := by decide +kernel
theorem dX4_needsEnd_1 : decode cX4_needsEnd 1 = .ok (.invokevirtual 90, 3) := by decide +kernel
theorem dX4_needsEnd_4 : decode cX4_needsEnd 4 = .ok (.ifCond .ne 11, 3) := by decide +kernel
theorem dX4_needsEnd_7 : decode cX4_needsEnd 7 = .ok (.aload_n 0, 1) := by decide +kernel
theorem dX4_needsEnd_8 : decode cX4_needsEnd 8 = .ok (.iconst 1, 1) := by decide +kernel
theorem dX4_needsEnd_9 : decode cX4_needsEnd 9 = .ok (.invokevirtual 94, 3) := by decide +kernel
theorem dX4_needsEnd_12 : decode cX4_needsEnd 12 = .ok (.ifCond .eq 7, 3) := by decide +kernel
theorem dX4_needsEnd_15 : decode cX4_needsEnd 15 = .ok (.iconst 1, 1) := by decide +kernel
theorem dX4_needsEnd_16 : decode cX4_needsEnd 16 = .ok (.goto 4, 3) := by decide +kernel
theorem dX4_needsEnd_19 : decode cX4_needsEnd 19 = .ok (.iconst 0, 1) := by decide +kernel
theorem dX4_needsEnd_20 : decode cX4_needsEnd 20 = .ok (.ireturn, 1) := by decide +kernel
set_option maxRecDepth 20000 in
theorem ggX4_needsName_X4_seesWord : GoodIn wsX4_needsName wsX4_seesWord := goodIn_r _ [6, 7, 8, 16, 17, 18, 19, 20, 21, 22, 23, 24, 25, 26] rfl rfl
set_option maxRecDepth 20000 in
theorem gX4_needsName_X4_seesWord : GoodIn wsX4_needsName (wsV RX4 97 RX4 yX4_seesWord wsX4_seesWord) := goodIn_app (goodIn_r _ [2, 3, 4, 5] rfl rfl) ggX4_needsName_X4_seesWord
set_option maxRecDepth 20000 in
theorem ggX4_needsName_X4_refuse : GoodIn wsX4_needsName wsX4_refuse := goodIn_r _ [12, 13, 14, 15, 16, 17, 18, 19, 20, 21, 22, 23, 24, 25, 26] rfl rfl
set_option maxRecDepth 20000 in
theorem gX4_needsName_X4_refuse : GoodIn wsX4_needsName (wsV RX4 94 RX4 yX4_refuse wsX4_refuse) := goodIn_app (goodIn_r _ [9, 10, 11, 5] rfl rfl) ggX4_needsName_X4_refuse
theorem dX4_needsName_0 : decode cX4_needsName 0 = .ok (.aload_n 0, 1) := by decide +kernel
theorem dX4_needsName_1 : decode cX4_needsName 1 = .ok (.getstatic 15, 3) := by decide +kernel
theorem dX4_needsName_4 : decode cX4_needsName 4 = .ok (.invokevirtual 97, 3) := by decide +kernel
theorem dX4_needsName_7 : decode cX4_needsName 7 = .ok (.ifCond .ne 11, 3) := by decide +kernel
theorem dX4_needsName_10 : decode cX4_needsName 10 = .ok (.aload_n 0, 1) := by decide +kernel
theorem dX4_needsName_11 : decode cX4_needsName 11 = .ok (.iconst 1, 1) := by decide +kernel
theorem dX4_needsName_12 : decode cX4_needsName 12 = .ok (.invokevirtual 94, 3) := by decide +kernel
theorem dX4_needsName_15 : decode cX4_needsName 15 = .ok (.ifCond .eq 7, 3) := by decide +kernel
theorem dX4_needsName_18 : decode cX4_needsName 18 = .ok (.iconst 1, 1) := by decide +kernel
theorem dX4_needsName_19 : decode cX4_needsName 19 = .ok (.goto 4, 3) := by decide +kernel
theorem dX4_needsName_22 : decode cX4_needsName 22 = .ok (.iconst 0, 1) := by decide +kernel
theorem dX4_needsName_23 : decode cX4_needsName 23 = .ok (.ireturn, 1) := by decide +kernel
set_option maxRecDepth 20000 in
theorem ggX4_neededOf_X4_seesWord : GoodIn wsX4_neededOf wsX4_seesWord := goodIn_r _ [7, 8, 9, 20, 21, 22, 23, 24, 25, 26, 27, 28, 29, 30] rfl rfl
set_option maxRecDepth 20000 in
theorem gX4_neededOf_X4_seesWord : GoodIn wsX4_neededOf (wsV RX4 97 RX4 yX4_seesWord wsX4_seesWord) := goodIn_app (goodIn_r _ [3, 4, 5, 6] rfl rfl) ggX4_neededOf_X4_seesWord
set_option maxRecDepth 20000 in
theorem ggX4_neededOf_X4_refuse : GoodIn wsX4_neededOf wsX4_refuse := goodIn_r _ [13, 14, 15, 16, 20, 21, 22, 23, 24, 25, 26, 27, 28, 29, 30] rfl rfl
set_option maxRecDepth 20000 in
theorem gX4_neededOf_X4_refuse : GoodIn wsX4_neededOf (wsV RX4 94 RX4 yX4_refuse wsX4_refuse) := goodIn_app (goodIn_r _ [10, 11, 12, 6] rfl rfl) ggX4_neededOf_X4_refuse
set_option maxRecDepth 20000 in
theorem ggX4_neededOf_X11_placeOf : GoodIn wsX4_neededOf wsX11_placeOf := goodIn_r _ [19] rfl rfl
set_option maxRecDepth 20000 in
theorem gX4_neededOf_X11_placeOf_n101 : GoodIn wsX4_neededOf (wsX11_placeOf) := ggX4_neededOf_X11_placeOf
theorem dX4_neededOf_0 : decode cX4_neededOf 0 = .ok (.aload_n 0, 1) := by decide +kernel
theorem dX4_neededOf_1 : decode cX4_neededOf 1 = .ok (.getstatic 15, 3) := by decide +kernel
theorem dX4_neededOf_4 : decode cX4_neededOf 4 = .ok (.invokevirtual 97, 3) := by decide +kernel
theorem dX4_neededOf_7 : decode cX4_neededOf 7 = .ok (.ifCond .ne 11, 3) := by decide +kernel
theorem dX4_neededOf_10 : decode cX4_neededOf 10 = .ok (.aload_n 0, 1) := by decide +kernel
theorem dX4_neededOf_11 : decode cX4_neededOf 11 = .ok (.iconst 1, 1) := by decide +kernel
theorem dX4_neededOf_12 : decode cX4_neededOf 12 = .ok (.invokevirtual 94, 3) := by decide +kernel
theorem dX4_neededOf_15 : decode cX4_neededOf 15 = .ok (.pop, 1) := by decide +kernel
theorem dX4_neededOf_16 : decode cX4_neededOf 16 = .ok (.iconst (-1), 1) := by decide +kernel
theorem dX4_neededOf_17 : decode cX4_neededOf 17 = .ok (.ireturn, 1) := by decide +kernel
theorem dX4_neededOf_18 : decode cX4_neededOf 18 = .ok (.aload_n 0, 1) := by decide +kernel
theorem dX4_neededOf_19 : decode cX4_neededOf 19 = .ok (.getfield 69, 3) := by decide +kernel
theorem dX4_neededOf_22 : decode cX4_neededOf 22 = .ok (.aload_n 1, 1) := by decide +kernel
theorem dX4_neededOf_23 : decode cX4_neededOf 23 = .ok (.iload_n 2, 1) := by decide +kernel
theorem dX4_neededOf_24 : decode cX4_neededOf 24 = .ok (.invokestatic 101, 3) := by decide +kernel
theorem dX4_neededOf_27 : decode cX4_neededOf 27 = .ok (.istore_n 3, 1) := by decide +kernel
theorem dX4_neededOf_28 : decode cX4_neededOf 28 = .ok (.iload_n 3, 1) := by decide +kernel
theorem dX4_neededOf_29 : decode cX4_neededOf 29 = .ok (.iconst (-1), 1) := by decide +kernel
theorem dX4_neededOf_30 : decode cX4_neededOf 30 = .ok (.if_icmp .ne 9, 3) := by decide +kernel
theorem dX4_neededOf_33 : decode cX4_neededOf 33 = .ok (.aload_n 0, 1) := by decide +kernel
theorem dX4_neededOf_34 : decode cX4_neededOf 34 = .ok (.iconst 3, 1) := by decide +kernel
theorem dX4_neededOf_35 : decode cX4_neededOf 35 = .ok (.invokevirtual 94, 3) := by decide +kernel
theorem dX4_neededOf_38 : decode cX4_neededOf 38 = .ok (.pop, 1) := by decide +kernel
theorem dX4_neededOf_39 : decode cX4_neededOf 39 = .ok (.iload_n 3, 1) := by decide +kernel
theorem dX4_neededOf_40 : decode cX4_neededOf 40 = .ok (.ireturn, 1) := by decide +kernel
set_option maxRecDepth 20000 in
theorem ggX4_needsNumber_X4_refuse : GoodIn wsX4_needsNumber wsX4_refuse := goodIn_r _ [7, 8, 9, 10, 11, 12, 13, 14, 15, 16, 17, 18, 19, 20, 21] rfl rfl
set_option maxRecDepth 20000 in
theorem gX4_needsNumber_X4_refuse : GoodIn wsX4_needsNumber (wsV RX4 94 RX4 yX4_refuse wsX4_refuse) := goodIn_app (goodIn_r _ [3, 4, 5, 6] rfl rfl) ggX4_needsNumber_X4_refuse
theorem dX4_needsNumber_0 : decode cX4_needsNumber 0 = .ok (.aload_n 0, 1) := by decide +kernel
theorem dX4_needsNumber_1 : decode cX4_needsNumber 1 = .ok (.getfield 52, 3) := by decide +kernel
theorem dX4_needsNumber_4 : decode cX4_needsNumber 4 = .ok (.iconst 3, 1) := by decide +kernel
theorem dX4_needsNumber_5 : decode cX4_needsNumber 5 = .ok (.if_icmp .eq 9, 3) := by decide +kernel
theorem dX4_needsNumber_8 : decode cX4_needsNumber 8 = .ok (.aload_n 0, 1) := by decide +kernel
theorem dX4_needsNumber_9 : decode cX4_needsNumber 9 = .ok (.iconst 1, 1) := by decide +kernel
theorem dX4_needsNumber_10 : decode cX4_needsNumber 10 = .ok (.invokevirtual 94, 3) := by decide +kernel
theorem dX4_needsNumber_13 : decode cX4_needsNumber 13 = .ok (.ireturn, 1) := by decide +kernel
theorem dX4_needsNumber_14 : decode cX4_needsNumber 14 = .ok (.aload_n 0, 1) := by decide +kernel
theorem dX4_needsNumber_15 : decode cX4_needsNumber 15 = .ok (.getfield 58, 3) := by decide +kernel
theorem dX4_needsNumber_18 : decode cX4_needsNumber 18 = .ok (.iload_n 1, 1) := by decide +kernel
theorem dX4_needsNumber_19 : decode cX4_needsNumber 19 = .ok (.if_icmp .lt 11, 3) := by decide +kernel
theorem dX4_needsNumber_22 : decode cX4_needsNumber 22 = .ok (.aload_n 0, 1) := by decide +kernel
theorem dX4_needsNumber_23 : decode cX4_needsNumber 23 = .ok (.getfield 58, 3) := by decide +kernel
theorem dX4_needsNumber_26 : decode cX4_needsNumber 26 = .ok (.iload_n 2, 1) := by decide +kernel
theorem dX4_needsNumber_27 : decode cX4_needsNumber 27 = .ok (.if_icmp .le 11, 3) := by decide +kernel
theorem dX4_needsNumber_30 : decode cX4_needsNumber 30 = .ok (.aload_n 0, 1) := by decide +kernel
theorem dX4_needsNumber_31 : decode cX4_needsNumber 31 = .ok (.iconst 2, 1) := by decide +kernel
theorem dX4_needsNumber_32 : decode cX4_needsNumber 32 = .ok (.invokevirtual 94, 3) := by decide +kernel
theorem dX4_needsNumber_35 : decode cX4_needsNumber 35 = .ok (.ifCond .eq 7, 3) := by decide +kernel
theorem dX4_needsNumber_38 : decode cX4_needsNumber 38 = .ok (.iconst 1, 1) := by decide +kernel
theorem dX4_needsNumber_39 : decode cX4_needsNumber 39 = .ok (.goto 4, 3) := by decide +kernel
theorem dX4_needsNumber_42 : decode cX4_needsNumber 42 = .ok (.iconst 0, 1) := by decide +kernel
theorem dX4_needsNumber_43 : decode cX4_needsNumber 43 = .ok (.ireturn, 1) := by decide +kernel
set_option maxRecDepth 20000 in
theorem ggX4_passSign_X4_seesSign : GoodIn wsX4_passSign wsX4_seesSign := goodIn_r _ [5, 6, 7, 91, 92, 93, 94, 95, 96, 97, 98, 99, 100, 101] rfl rfl
set_option maxRecDepth 20000 in
theorem gX4_passSign_X4_seesSign : GoodIn wsX4_passSign (wsV RX4 105 RX4 yX4_seesSign wsX4_seesSign) := goodIn_app (goodIn_r _ [1, 2, 3, 4] rfl rfl) ggX4_passSign_X4_seesSign
set_option maxRecDepth 20000 in
theorem ggX4_passSign_X4_refuse : GoodIn wsX4_passSign wsX4_refuse := goodIn_r _ [11, 12, 13, 14, 91, 92, 93, 94, 95, 96, 97, 98, 99, 100, 101] rfl rfl
set_option maxRecDepth 20000 in
theorem gX4_passSign_X4_refuse : GoodIn wsX4_passSign (wsV RX4 94 RX4 yX4_refuse wsX4_refuse) := goodIn_app (goodIn_r _ [8, 9, 10, 4] rfl rfl) ggX4_passSign_X4_refuse
set_option maxRecDepth 20000 in
theorem ggX4_passSign_X4_advance : GoodIn wsX4_passSign wsX4_advance := goodIn_r _ [18, 19, 20, 21, 22, 23, 24, 25, 26, 27, 28, 13, 6, 7, 29, 30, 31, 4, 32, 33, 34, 35, 36, 37, 38, 39, 40, 41, 42, 43, 44, 45, 46, 47, 48, 49, 50, 51, 52, 53, 54, 55, 56, 57, 58, 59, 60, 61, 62, 63, 64, 65, 66, 67, 68, 69, 70, 71, 72, 73, 74, 75, 76, 77, 78, 79, 80, 81, 82, 83, 84, 85, 86, 87, 88, 89, 90, 91, 92, 93, 94, 95, 96, 97, 98, 99, 100, 101] rfl rfl
set_option maxRecDepth 20000 in
theorem gX4_passSign_X4_advance : GoodIn wsX4_passSign (wsV RX4 46 RX4 yX4_advance wsX4_advance) := goodIn_app (goodIn_r _ [15, 16, 17, 4] rfl rfl) ggX4_passSign_X4_advance
theorem dX4_passSign_0 : decode cX4_passSign 0 = .ok (.aload_n 0, 1) := by decide +kernel
theorem dX4_passSign_1 : decode cX4_passSign 1 = .ok (.iload_n 1, 1) := by decide +kernel
theorem dX4_passSign_2 : decode cX4_passSign 2 = .ok (.invokevirtual 105, 3) := by decide +kernel
theorem dX4_passSign_5 : decode cX4_passSign 5 = .ok (.ifCond .ne 9, 3) := by decide +kernel
theorem dX4_passSign_8 : decode cX4_passSign 8 = .ok (.aload_n 0, 1) := by decide +kernel
theorem dX4_passSign_9 : decode cX4_passSign 9 = .ok (.iconst 1, 1) := by decide +kernel
theorem dX4_passSign_10 : decode cX4_passSign 10 = .ok (.invokevirtual 94, 3) := by decide +kernel
theorem dX4_passSign_13 : decode cX4_passSign 13 = .ok (.ireturn, 1) := by decide +kernel
theorem dX4_passSign_14 : decode cX4_passSign 14 = .ok (.aload_n 0, 1) := by decide +kernel
theorem dX4_passSign_15 : decode cX4_passSign 15 = .ok (.invokevirtual 46, 3) := by decide +kernel
theorem dX4_passSign_18 : decode cX4_passSign 18 = .ok (.iconst 1, 1) := by decide +kernel
theorem dX4_passSign_19 : decode cX4_passSign 19 = .ok (.ireturn, 1) := by decide +kernel
theorem dX5_init_0 : decode cX5_init 0 = .ok (.aload_n 0, 1) := by decide +kernel
theorem dX5_init_1 : decode cX5_init 1 = .ok (.invokespecial 3, 3) := by decide +kernel
theorem dX5_init_4 : decode cX5_init 4 = .ok (.aload_n 0, 1) := by decide +kernel
theorem dX5_init_5 : decode cX5_init 5 = .ok (.bipush 48, 2) := by decide +kernel
theorem dX5_init_7 : decode cX5_init 7 = .ok (.newarray .int, 2) := by decide +kernel
theorem dX5_init_9 : decode cX5_init 9 = .ok (.putfield 11, 3) := by decide +kernel
theorem dX5_init_12 : decode cX5_init 12 = .ok (.aload_n 0, 1) := by decide +kernel
theorem dX5_init_13 : decode cX5_init 13 = .ok (.bipush 48, 2) := by decide +kernel
theorem dX5_init_15 : decode cX5_init 15 = .ok (.newarray .int, 2) := by decide +kernel
theorem dX5_init_17 : decode cX5_init 17 = .ok (.putfield 15, 3) := by decide +kernel
theorem dX5_init_20 : decode cX5_init 20 = .ok (.aload_n 0, 1) := by decide +kernel
theorem dX5_init_21 : decode cX5_init 21 = .ok (.bipush 48, 2) := by decide +kernel
theorem dX5_init_23 : decode cX5_init 23 = .ok (.newarray .int, 2) := by decide +kernel
theorem dX5_init_25 : decode cX5_init 25 = .ok (.putfield 18, 3) := by decide +kernel
theorem dX5_init_28 : decode cX5_init 28 = .ok (.return_, 1) := by decide +kernel
set_option maxRecDepth 20000 in
theorem ggX5_find_X5_measure : GoodIn wsX5_find wsX5_measure := goodIn_r _ [8, 1, 9, 10, 11, 7, 12, 13, 14, 15, 16, 17, 18, 19, 20, 21, 22, 23, 24, 25, 26, 27, 28, 29, 30, 31, 32, 33, 34, 35, 36, 37, 38, 39, 40, 41, 42, 56, 57, 58, 59, 47, 48, 49, 50, 51, 52, 53, 54, 55, 60, 61, 62, 63, 64, 65, 66, 67, 68, 69, 70] rfl rfl
set_option maxRecDepth 20000 in
theorem gX5_find_X5_measure : GoodIn wsX5_find (wsV RX5 21 RX5 yX5_measure wsX5_measure) := goodIn_app (goodIn_r _ [4, 5, 6, 7] rfl rfl) ggX5_find_X5_measure
set_option maxRecDepth 20000 in
theorem ggX5_find_X5_nearest : GoodIn wsX5_find wsX5_nearest := goodIn_r _ [46, 1, 36, 37, 7, 38, 39, 22, 40, 41, 42, 31, 32, 33, 34, 35, 18, 19, 20, 56, 57, 58, 59, 60, 61, 62, 63, 64, 65, 66, 67, 68, 69, 70] rfl rfl
set_option maxRecDepth 20000 in
theorem gX5_find_X5_nearest : GoodIn wsX5_find (wsV RX5 34 RX5 yX5_nearest wsX5_nearest) := goodIn_app (goodIn_r _ [43, 44, 45, 7] rfl rfl) ggX5_find_X5_nearest
theorem dX5_find_0 : decode cX5_find 0 = .ok (.aload_n 0, 1) := by decide +kernel
theorem dX5_find_1 : decode cX5_find 1 = .ok (.aload_n 1, 1) := by decide +kernel
theorem dX5_find_2 : decode cX5_find 2 = .ok (.aload_n 2, 1) := by decide +kernel
theorem dX5_find_3 : decode cX5_find 3 = .ok (.iload_n 3, 1) := by decide +kernel
theorem dX5_find_4 : decode cX5_find 4 = .ok (.invokevirtual 21, 3) := by decide +kernel
theorem dX5_find_7 : decode cX5_find 7 = .ok (.aload_n 0, 1) := by decide +kernel
theorem dX5_find_8 : decode cX5_find 8 = .ok (.aload_n 1, 1) := by decide +kernel
theorem dX5_find_9 : decode cX5_find 9 = .ok (.aload_n 2, 1) := by decide +kernel
theorem dX5_find_10 : decode cX5_find 10 = .ok (.getfield 25, 3) := by decide +kernel
theorem dX5_find_13 : decode cX5_find 13 = .ok (.aload_n 2, 1) := by decide +kernel
theorem dX5_find_14 : decode cX5_find 14 = .ok (.getfield 31, 3) := by decide +kernel
theorem dX5_find_17 : decode cX5_find 17 = .ok (.invokevirtual 34, 3) := by decide +kernel
theorem dX5_find_20 : decode cX5_find 20 = .ok (.istore 4, 2) := by decide +kernel
theorem dX5_find_22 : decode cX5_find 22 = .ok (.iload 4, 2) := by decide +kernel
theorem dX5_find_24 : decode cX5_find 24 = .ok (.iconst (-1), 1) := by decide +kernel
theorem dX5_find_25 : decode cX5_find 25 = .ok (.if_icmp .ne 5, 3) := by decide +kernel
theorem dX5_find_28 : decode cX5_find 28 = .ok (.iconst (-1), 1) := by decide +kernel
theorem dX5_find_29 : decode cX5_find 29 = .ok (.ireturn, 1) := by decide +kernel
theorem dX5_find_30 : decode cX5_find 30 = .ok (.aload_n 0, 1) := by decide +kernel
theorem dX5_find_31 : decode cX5_find 31 = .ok (.aload_n 0, 1) := by decide +kernel
theorem dX5_find_32 : decode cX5_find 32 = .ok (.getfield 11, 3) := by decide +kernel
theorem dX5_find_35 : decode cX5_find 35 = .ok (.iload 4, 2) := by decide +kernel
theorem dX5_find_37 : decode cX5_find 37 = .ok (.iaload, 1) := by decide +kernel
theorem dX5_find_38 : decode cX5_find 38 = .ok (.iconst 1, 1) := by decide +kernel
theorem dX5_find_39 : decode cX5_find 39 = .ok (.iadd, 1) := by decide +kernel
theorem dX5_find_40 : decode cX5_find 40 = .ok (.putfield 38, 3) := by decide +kernel
theorem dX5_find_43 : decode cX5_find 43 = .ok (.aload_n 0, 1) := by decide +kernel
theorem dX5_find_44 : decode cX5_find 44 = .ok (.getfield 18, 3) := by decide +kernel
theorem dX5_find_47 : decode cX5_find 47 = .ok (.iconst 0, 1) := by decide +kernel
theorem dX5_find_48 : decode cX5_find 48 = .ok (.iload 4, 2) := by decide +kernel
theorem dX5_find_50 : decode cX5_find 50 = .ok (.iastore, 1) := by decide +kernel
theorem dX5_find_51 : decode cX5_find 51 = .ok (.iconst 1, 1) := by decide +kernel
theorem dX5_find_52 : decode cX5_find 52 = .ok (.istore 5, 2) := by decide +kernel
theorem dX5_find_54 : decode cX5_find 54 = .ok (.iload 5, 2) := by decide +kernel
theorem dX5_find_56 : decode cX5_find 56 = .ok (.aload_n 0, 1) := by decide +kernel
theorem dX5_find_57 : decode cX5_find 57 = .ok (.getfield 38, 3) := by decide +kernel
theorem dX5_find_60 : decode cX5_find 60 = .ok (.if_icmp .ge 48, 3) := by decide +kernel
theorem dX5_find_63 : decode cX5_find 63 = .ok (.iload 5, 2) := by decide +kernel
theorem dX5_find_65 : decode cX5_find 65 = .ok (.bipush 48, 2) := by decide +kernel
theorem dX5_find_67 : decode cX5_find 67 = .ok (.if_icmp .ge 41, 3) := by decide +kernel
theorem dX5_find_70 : decode cX5_find 70 = .ok (.iload 4, 2) := by decide +kernel
theorem dX5_find_72 : decode cX5_find 72 = .ok (.iconst (-1), 1) := by decide +kernel
theorem dX5_find_73 : decode cX5_find 73 = .ok (.if_icmp .eq 35, 3) := by decide +kernel
theorem dX5_find_76 : decode cX5_find 76 = .ok (.aload_n 0, 1) := by decide +kernel
theorem dX5_find_77 : decode cX5_find 77 = .ok (.aload_n 1, 1) := by decide +kernel
theorem dX5_find_78 : decode cX5_find 78 = .ok (.iload 4, 2) := by decide +kernel
theorem dX5_find_80 : decode cX5_find 80 = .ok (.bipush 8, 2) := by decide +kernel
theorem dX5_find_82 : decode cX5_find 82 = .ok (.idiv, 1) := by decide +kernel
theorem dX5_find_83 : decode cX5_find 83 = .ok (.iload 4, 2) := by decide +kernel
theorem dX5_find_85 : decode cX5_find 85 = .ok (.bipush 8, 2) := by decide +kernel
theorem dX5_find_87 : decode cX5_find 87 = .ok (.irem, 1) := by decide +kernel
theorem dX5_find_88 : decode cX5_find 88 = .ok (.invokevirtual 34, 3) := by decide +kernel
theorem dX5_find_91 : decode cX5_find 91 = .ok (.istore 4, 2) := by decide +kernel
theorem dX5_find_93 : decode cX5_find 93 = .ok (.aload_n 0, 1) := by decide +kernel
theorem dX5_find_94 : decode cX5_find 94 = .ok (.getfield 18, 3) := by decide +kernel
theorem dX5_find_97 : decode cX5_find 97 = .ok (.iload 5, 2) := by decide +kernel
theorem dX5_find_99 : decode cX5_find 99 = .ok (.iload 4, 2) := by decide +kernel
theorem dX5_find_101 : decode cX5_find 101 = .ok (.iastore, 1) := by decide +kernel
theorem dX5_find_102 : decode cX5_find 102 = .ok (.iinc 5 1, 3) := by decide +kernel
theorem dX5_find_105 : decode cX5_find 105 = .ok (.goto (-51), 3) := by decide +kernel
theorem dX5_find_108 : decode cX5_find 108 = .ok (.aload_n 0, 1) := by decide +kernel
theorem dX5_find_109 : decode cX5_find 109 = .ok (.getfield 38, 3) := by decide +kernel
theorem dX5_find_112 : decode cX5_find 112 = .ok (.ireturn, 1) := by decide +kernel
set_option maxRecDepth 20000 in
theorem ggX5_measure_X5_canBe : GoodIn wsX5_measure wsX5_canBe := goodIn_r _ [6, 7, 8, 9, 10, 11, 12, 13, 14, 15, 16, 17, 18, 19, 20, 21, 22, 23, 24, 25, 26, 27, 28, 29, 41, 42, 43, 44, 45, 46, 47, 48, 49, 50, 51, 52, 53, 54, 55, 56, 57, 58, 59, 60] rfl rfl
set_option maxRecDepth 20000 in
theorem gX5_measure_X5_canBe : GoodIn wsX5_measure (va_wsS RX5 41 yX5_canBe wsX5_canBe) := goodIn_app (goodIn_r _ [3, 4, 5] rfl rfl) ggX5_measure_X5_canBe
set_option maxRecDepth 20000 in
theorem ggX5_measure_X5_follows : GoodIn wsX5_measure wsX5_follows := goodIn_r _ [32, 33, 16, 34, 35, 36, 25, 26, 27, 28, 29, 12, 13, 14, 50, 51, 52, 53, 54, 55, 56, 57, 58, 59, 60] rfl rfl
set_option maxRecDepth 20000 in
theorem gX5_measure_X5_follows : GoodIn wsX5_measure (va_wsS RX5 45 yX5_follows wsX5_follows) := goodIn_app (goodIn_r _ [30, 31, 5] rfl rfl) ggX5_measure_X5_follows
theorem dX5_measure_0 : decode cX5_measure 0 = .ok (.iconst 0, 1) := by decide +kernel
theorem dX5_measure_1 : decode cX5_measure 1 = .ok (.istore 4, 2) := by decide +kernel
theorem dX5_measure_3 : decode cX5_measure 3 = .ok (.iconst 0, 1) := by decide +kernel
theorem dX5_measure_4 : decode cX5_measure 4 = .ok (.istore 5, 2) := by decide +kernel
theorem dX5_measure_6 : decode cX5_measure 6 = .ok (.iload 5, 2) := by decide +kernel
theorem dX5_measure_8 : decode cX5_measure 8 = .ok (.bipush 48, 2) := by decide +kernel
theorem dX5_measure_10 : decode cX5_measure 10 = .ok (.if_icmp .ge 56, 3) := by decide +kernel
theorem dX5_measure_13 : decode cX5_measure 13 = .ok (.aload_n 0, 1) := by decide +kernel
theorem dX5_measure_14 : decode cX5_measure 14 = .ok (.getfield 11, 3) := by decide +kernel
theorem dX5_measure_17 : decode cX5_measure 17 = .ok (.iload 5, 2) := by decide +kernel
theorem dX5_measure_19 : decode cX5_measure 19 = .ok (.iconst (-1), 1) := by decide +kernel
theorem dX5_measure_20 : decode cX5_measure 20 = .ok (.iastore, 1) := by decide +kernel
theorem dX5_measure_21 : decode cX5_measure 21 = .ok (.iload 5, 2) := by decide +kernel
theorem dX5_measure_23 : decode cX5_measure 23 = .ok (.bipush 8, 2) := by decide +kernel
theorem dX5_measure_25 : decode cX5_measure 25 = .ok (.irem, 1) := by decide +kernel
theorem dX5_measure_26 : decode cX5_measure 26 = .ok (.iload_n 3, 1) := by decide +kernel
theorem dX5_measure_27 : decode cX5_measure 27 = .ok (.if_icmp .ne 33, 3) := by decide +kernel
theorem dX5_measure_30 : decode cX5_measure 30 = .ok (.aload_n 1, 1) := by decide +kernel
theorem dX5_measure_31 : decode cX5_measure 31 = .ok (.aload_n 2, 1) := by decide +kernel
theorem dX5_measure_32 : decode cX5_measure 32 = .ok (.iload 5, 2) := by decide +kernel
theorem dX5_measure_34 : decode cX5_measure 34 = .ok (.invokestatic 41, 3) := by decide +kernel
theorem dX5_measure_37 : decode cX5_measure 37 = .ok (.ifCond .eq 23, 3) := by decide +kernel
theorem dX5_measure_40 : decode cX5_measure 40 = .ok (.aload_n 0, 1) := by decide +kernel
theorem dX5_measure_41 : decode cX5_measure 41 = .ok (.getfield 11, 3) := by decide +kernel
theorem dX5_measure_44 : decode cX5_measure 44 = .ok (.iload 5, 2) := by decide +kernel
theorem dX5_measure_46 : decode cX5_measure 46 = .ok (.iconst 0, 1) := by decide +kernel
theorem dX5_measure_47 : decode cX5_measure 47 = .ok (.iastore, 1) := by decide +kernel
theorem dX5_measure_48 : decode cX5_measure 48 = .ok (.aload_n 0, 1) := by decide +kernel
theorem dX5_measure_49 : decode cX5_measure 49 = .ok (.getfield 15, 3) := by decide +kernel
theorem dX5_measure_52 : decode cX5_measure 52 = .ok (.iload 4, 2) := by decide +kernel
theorem dX5_measure_54 : decode cX5_measure 54 = .ok (.iload 5, 2) := by decide +kernel
theorem dX5_measure_56 : decode cX5_measure 56 = .ok (.iastore, 1) := by decide +kernel
theorem dX5_measure_57 : decode cX5_measure 57 = .ok (.iinc 4 1, 3) := by decide +kernel
theorem dX5_measure_60 : decode cX5_measure 60 = .ok (.iinc 5 1, 3) := by decide +kernel
theorem dX5_measure_63 : decode cX5_measure 63 = .ok (.goto (-57), 3) := by decide +kernel
theorem dX5_measure_66 : decode cX5_measure 66 = .ok (.iconst 0, 1) := by decide +kernel
theorem dX5_measure_67 : decode cX5_measure 67 = .ok (.istore 5, 2) := by decide +kernel
theorem dX5_measure_69 : decode cX5_measure 69 = .ok (.iload 5, 2) := by decide +kernel
theorem dX5_measure_71 : decode cX5_measure 71 = .ok (.iload 4, 2) := by decide +kernel
theorem dX5_measure_73 : decode cX5_measure 73 = .ok (.if_icmp .ge 116, 3) := by decide +kernel
theorem dX5_measure_76 : decode cX5_measure 76 = .ok (.iload 5, 2) := by decide +kernel
theorem dX5_measure_78 : decode cX5_measure 78 = .ok (.bipush 48, 2) := by decide +kernel
theorem dX5_measure_80 : decode cX5_measure 80 = .ok (.if_icmp .ge 109, 3) := by decide +kernel
theorem dX5_measure_83 : decode cX5_measure 83 = .ok (.aload_n 0, 1) := by decide +kernel
theorem dX5_measure_84 : decode cX5_measure 84 = .ok (.getfield 15, 3) := by decide +kernel
theorem dX5_measure_87 : decode cX5_measure 87 = .ok (.iload 5, 2) := by decide +kernel
theorem dX5_measure_89 : decode cX5_measure 89 = .ok (.iaload, 1) := by decide +kernel
theorem dX5_measure_90 : decode cX5_measure 90 = .ok (.istore 6, 2) := by decide +kernel
theorem dX5_measure_92 : decode cX5_measure 92 = .ok (.iconst 0, 1) := by decide +kernel
theorem dX5_measure_93 : decode cX5_measure 93 = .ok (.istore 7, 2) := by decide +kernel
theorem dX5_measure_95 : decode cX5_measure 95 = .ok (.iload 7, 2) := by decide +kernel
theorem dX5_measure_97 : decode cX5_measure 97 = .ok (.bipush 48, 2) := by decide +kernel
theorem dX5_measure_99 : decode cX5_measure 99 = .ok (.if_icmp .ge 84, 3) := by decide +kernel
theorem dX5_measure_102 : decode cX5_measure 102 = .ok (.iload 4, 2) := by decide +kernel
theorem dX5_measure_104 : decode cX5_measure 104 = .ok (.bipush 48, 2) := by decide +kernel
theorem dX5_measure_106 : decode cX5_measure 106 = .ok (.if_icmp .ge 77, 3) := by decide +kernel
theorem dX5_measure_109 : decode cX5_measure 109 = .ok (.aload_n 0, 1) := by decide +kernel
theorem dX5_measure_110 : decode cX5_measure 110 = .ok (.getfield 11, 3) := by decide +kernel
theorem dX5_measure_113 : decode cX5_measure 113 = .ok (.iload 7, 2) := by decide +kernel
theorem dX5_measure_115 : decode cX5_measure 115 = .ok (.iaload, 1) := by decide +kernel
theorem dX5_measure_116 : decode cX5_measure 116 = .ok (.iconst (-1), 1) := by decide +kernel
theorem dX5_measure_117 : decode cX5_measure 117 = .ok (.if_icmp .ne 60, 3) := by decide +kernel
theorem dX5_measure_120 : decode cX5_measure 120 = .ok (.aload_n 1, 1) := by decide +kernel
theorem dX5_measure_121 : decode cX5_measure 121 = .ok (.aload_n 2, 1) := by decide +kernel
theorem dX5_measure_122 : decode cX5_measure 122 = .ok (.iload 7, 2) := by decide +kernel
theorem dX5_measure_124 : decode cX5_measure 124 = .ok (.invokestatic 41, 3) := by decide +kernel
theorem dX5_measure_127 : decode cX5_measure 127 = .ok (.ifCond .eq 50, 3) := by decide +kernel
theorem dX5_measure_130 : decode cX5_measure 130 = .ok (.aload_n 1, 1) := by decide +kernel
theorem dX5_measure_131 : decode cX5_measure 131 = .ok (.iload 7, 2) := by decide +kernel
theorem dX5_measure_133 : decode cX5_measure 133 = .ok (.bipush 8, 2) := by decide +kernel
theorem dX5_measure_135 : decode cX5_measure 135 = .ok (.idiv, 1) := by decide +kernel
theorem dX5_measure_136 : decode cX5_measure 136 = .ok (.iload 7, 2) := by decide +kernel
theorem dX5_measure_138 : decode cX5_measure 138 = .ok (.bipush 8, 2) := by decide +kernel
theorem dX5_measure_140 : decode cX5_measure 140 = .ok (.irem, 1) := by decide +kernel
theorem dX5_measure_141 : decode cX5_measure 141 = .ok (.iload 6, 2) := by decide +kernel
theorem dX5_measure_143 : decode cX5_measure 143 = .ok (.invokestatic 45, 3) := by decide +kernel
theorem dX5_measure_146 : decode cX5_measure 146 = .ok (.ifCond .eq 31, 3) := by decide +kernel
theorem dX5_measure_149 : decode cX5_measure 149 = .ok (.aload_n 0, 1) := by decide +kernel
theorem dX5_measure_150 : decode cX5_measure 150 = .ok (.getfield 11, 3) := by decide +kernel
theorem dX5_measure_153 : decode cX5_measure 153 = .ok (.iload 7, 2) := by decide +kernel
theorem dX5_measure_155 : decode cX5_measure 155 = .ok (.aload_n 0, 1) := by decide +kernel
theorem dX5_measure_156 : decode cX5_measure 156 = .ok (.getfield 11, 3) := by decide +kernel
theorem dX5_measure_159 : decode cX5_measure 159 = .ok (.iload 6, 2) := by decide +kernel
theorem dX5_measure_161 : decode cX5_measure 161 = .ok (.iaload, 1) := by decide +kernel
theorem dX5_measure_162 : decode cX5_measure 162 = .ok (.iconst 1, 1) := by decide +kernel
theorem dX5_measure_163 : decode cX5_measure 163 = .ok (.iadd, 1) := by decide +kernel
theorem dX5_measure_164 : decode cX5_measure 164 = .ok (.iastore, 1) := by decide +kernel
theorem dX5_measure_165 : decode cX5_measure 165 = .ok (.aload_n 0, 1) := by decide +kernel
theorem dX5_measure_166 : decode cX5_measure 166 = .ok (.getfield 15, 3) := by decide +kernel
theorem dX5_measure_169 : decode cX5_measure 169 = .ok (.iload 4, 2) := by decide +kernel
theorem dX5_measure_171 : decode cX5_measure 171 = .ok (.iload 7, 2) := by decide +kernel
theorem dX5_measure_173 : decode cX5_measure 173 = .ok (.iastore, 1) := by decide +kernel
theorem dX5_measure_174 : decode cX5_measure 174 = .ok (.iinc 4 1, 3) := by decide +kernel
theorem dX5_measure_177 : decode cX5_measure 177 = .ok (.iinc 7 1, 3) := by decide +kernel
theorem dX5_measure_180 : decode cX5_measure 180 = .ok (.goto (-85), 3) := by decide +kernel
theorem dX5_measure_183 : decode cX5_measure 183 = .ok (.iinc 5 1, 3) := by decide +kernel
theorem dX5_measure_186 : decode cX5_measure 186 = .ok (.goto (-117), 3) := by decide +kernel
theorem dX5_measure_189 : decode cX5_measure 189 = .ok (.return_, 1) := by decide +kernel
set_option maxRecDepth 20000 in
theorem ggX5_canBe_X9_isHeld : GoodIn wsX5_canBe wsX9_isHeld := goodIn_r _ [4, 5, 6, 7, 8, 24, 25, 26, 27, 28, 29, 30, 31, 32] rfl rfl
set_option maxRecDepth 20000 in
theorem gX5_canBe_X9_isHeld_n49 : GoodIn wsX5_canBe (wsX9_isHeld) := ggX5_canBe_X9_isHeld
set_option maxRecDepth 20000 in
theorem ggX5_canBe_X3_knowsOf : GoodIn wsX5_canBe wsX3_knowsOf := goodIn_r _ [12, 13, 14, 15, 16, 10, 17, 18, 19, 20, 21, 22, 23, 6, 7, 8, 33, 34, 35, 36, 37, 38, 39, 40, 41, 42, 43] rfl rfl
set_option maxRecDepth 20000 in
theorem gX5_canBe_X3_knowsOf_n53 : GoodIn wsX5_canBe (wsX3_knowsOf) := ggX5_canBe_X3_knowsOf
theorem dX5_canBe_0 : decode cX5_canBe 0 = .ok (.iload_n 2, 1) := by decide +kernel
theorem dX5_canBe_1 : decode cX5_canBe 1 = .ok (.bipush 8, 2) := by decide +kernel
theorem dX5_canBe_3 : decode cX5_canBe 3 = .ok (.idiv, 1) := by decide +kernel
theorem dX5_canBe_4 : decode cX5_canBe 4 = .ok (.istore_n 3, 1) := by decide +kernel
theorem dX5_canBe_5 : decode cX5_canBe 5 = .ok (.aload_n 1, 1) := by decide +kernel
theorem dX5_canBe_6 : decode cX5_canBe 6 = .ok (.iload_n 3, 1) := by decide +kernel
theorem dX5_canBe_7 : decode cX5_canBe 7 = .ok (.invokevirtual 49, 3) := by decide +kernel
theorem dX5_canBe_10 : decode cX5_canBe 10 = .ok (.ifCond .ne 19, 3) := by decide +kernel
theorem dX5_canBe_13 : decode cX5_canBe 13 = .ok (.aload_n 0, 1) := by decide +kernel
theorem dX5_canBe_14 : decode cX5_canBe 14 = .ok (.iload_n 3, 1) := by decide +kernel
theorem dX5_canBe_15 : decode cX5_canBe 15 = .ok (.iload_n 2, 1) := by decide +kernel
theorem dX5_canBe_16 : decode cX5_canBe 16 = .ok (.bipush 8, 2) := by decide +kernel
theorem dX5_canBe_18 : decode cX5_canBe 18 = .ok (.irem, 1) := by decide +kernel
theorem dX5_canBe_19 : decode cX5_canBe 19 = .ok (.invokevirtual 53, 3) := by decide +kernel
theorem dX5_canBe_22 : decode cX5_canBe 22 = .ok (.ifCond .eq 7, 3) := by decide +kernel
theorem dX5_canBe_25 : decode cX5_canBe 25 = .ok (.iconst 1, 1) := by decide +kernel
theorem dX5_canBe_26 : decode cX5_canBe 26 = .ok (.goto 4, 3) := by decide +kernel
theorem dX5_canBe_29 : decode cX5_canBe 29 = .ok (.iconst 0, 1) := by decide +kernel
theorem dX5_canBe_30 : decode cX5_canBe 30 = .ok (.ireturn, 1) := by decide +kernel
set_option maxRecDepth 20000 in
theorem ggX5_follows_X3_isAnswer : GoodIn wsX5_follows wsX3_isAnswer := goodIn_r _ [4, 5, 6, 7, 8, 2, 9, 10, 11, 12, 13, 14, 15, 16, 17, 18, 19, 20, 21, 22, 23, 24] rfl rfl
set_option maxRecDepth 20000 in
theorem gX5_follows_X3_isAnswer_n59 : GoodIn wsX5_follows (wsX3_isAnswer) := ggX5_follows_X3_isAnswer
theorem dX5_follows_0 : decode cX5_follows 0 = .ok (.iload_n 2, 1) := by decide +kernel
theorem dX5_follows_1 : decode cX5_follows 1 = .ok (.iconst (-1), 1) := by decide +kernel
theorem dX5_follows_2 : decode cX5_follows 2 = .ok (.if_icmp .ne 5, 3) := by decide +kernel
theorem dX5_follows_5 : decode cX5_follows 5 = .ok (.iconst 1, 1) := by decide +kernel
theorem dX5_follows_6 : decode cX5_follows 6 = .ok (.ireturn, 1) := by decide +kernel
theorem dX5_follows_7 : decode cX5_follows 7 = .ok (.iload_n 3, 1) := by decide +kernel
theorem dX5_follows_8 : decode cX5_follows 8 = .ok (.bipush 8, 2) := by decide +kernel
theorem dX5_follows_10 : decode cX5_follows 10 = .ok (.idiv, 1) := by decide +kernel
theorem dX5_follows_11 : decode cX5_follows 11 = .ok (.iload_n 1, 1) := by decide +kernel
theorem dX5_follows_12 : decode cX5_follows 12 = .ok (.if_icmp .eq 19, 3) := by decide +kernel
theorem dX5_follows_15 : decode cX5_follows 15 = .ok (.aload_n 0, 1) := by decide +kernel
theorem dX5_follows_16 : decode cX5_follows 16 = .ok (.iload_n 3, 1) := by decide +kernel
theorem dX5_follows_17 : decode cX5_follows 17 = .ok (.bipush 8, 2) := by decide +kernel
theorem dX5_follows_19 : decode cX5_follows 19 = .ok (.irem, 1) := by decide +kernel
theorem dX5_follows_20 : decode cX5_follows 20 = .ok (.iload_n 2, 1) := by decide +kernel
theorem dX5_follows_21 : decode cX5_follows 21 = .ok (.invokevirtual 59, 3) := by decide +kernel
theorem dX5_follows_24 : decode cX5_follows 24 = .ok (.ifCond .eq 7, 3) := by decide +kernel
theorem dX5_follows_27 : decode cX5_follows 27 = .ok (.iconst 1, 1) := by decide +kernel
theorem dX5_follows_28 : decode cX5_follows 28 = .ok (.goto 4, 3) := by decide +kernel
theorem dX5_follows_31 : decode cX5_follows 31 = .ok (.iconst 0, 1) := by decide +kernel
theorem dX5_follows_32 : decode cX5_follows 32 = .ok (.ireturn, 1) := by decide +kernel
set_option maxRecDepth 20000 in
theorem ggX5_nearest_X5_follows : GoodIn wsX5_nearest wsX5_follows := goodIn_r _ [5, 6, 7, 8, 9, 10, 11, 12, 13, 14, 15, 16, 17, 18, 23, 24, 25, 26, 27, 28, 29, 30, 31, 32, 33] rfl rfl
set_option maxRecDepth 20000 in
theorem gX5_nearest_X5_follows : GoodIn wsX5_nearest (va_wsS RX5 45 yX5_follows wsX5_follows) := goodIn_app (goodIn_r _ [2, 3, 4] rfl rfl) ggX5_nearest_X5_follows
theorem dX5_nearest_0 : decode cX5_nearest 0 = .ok (.iconst (-1), 1) := by decide +kernel
theorem dX5_nearest_1 : decode cX5_nearest 1 = .ok (.istore 4, 2) := by decide +kernel
theorem dX5_nearest_3 : decode cX5_nearest 3 = .ok (.iconst 0, 1) := by decide +kernel
theorem dX5_nearest_4 : decode cX5_nearest 4 = .ok (.istore 5, 2) := by decide +kernel
theorem dX5_nearest_6 : decode cX5_nearest 6 = .ok (.iload 5, 2) := by decide +kernel
theorem dX5_nearest_8 : decode cX5_nearest 8 = .ok (.bipush 48, 2) := by decide +kernel
theorem dX5_nearest_10 : decode cX5_nearest 10 = .ok (.if_icmp .ge 58, 3) := by decide +kernel
theorem dX5_nearest_13 : decode cX5_nearest 13 = .ok (.aload_n 0, 1) := by decide +kernel
theorem dX5_nearest_14 : decode cX5_nearest 14 = .ok (.getfield 11, 3) := by decide +kernel
theorem dX5_nearest_17 : decode cX5_nearest 17 = .ok (.iload 5, 2) := by decide +kernel
theorem dX5_nearest_19 : decode cX5_nearest 19 = .ok (.iaload, 1) := by decide +kernel
theorem dX5_nearest_20 : decode cX5_nearest 20 = .ok (.iconst (-1), 1) := by decide +kernel
theorem dX5_nearest_21 : decode cX5_nearest 21 = .ok (.if_icmp .eq 41, 3) := by decide +kernel
theorem dX5_nearest_24 : decode cX5_nearest 24 = .ok (.aload_n 1, 1) := by decide +kernel
theorem dX5_nearest_25 : decode cX5_nearest 25 = .ok (.iload_n 2, 1) := by decide +kernel
theorem dX5_nearest_26 : decode cX5_nearest 26 = .ok (.iload_n 3, 1) := by decide +kernel
theorem dX5_nearest_27 : decode cX5_nearest 27 = .ok (.iload 5, 2) := by decide +kernel
theorem dX5_nearest_29 : decode cX5_nearest 29 = .ok (.invokestatic 45, 3) := by decide +kernel
theorem dX5_nearest_32 : decode cX5_nearest 32 = .ok (.ifCond .eq 30, 3) := by decide +kernel
theorem dX5_nearest_35 : decode cX5_nearest 35 = .ok (.iload 4, 2) := by decide +kernel
theorem dX5_nearest_37 : decode cX5_nearest 37 = .ok (.iconst (-1), 1) := by decide +kernel
theorem dX5_nearest_38 : decode cX5_nearest 38 = .ok (.if_icmp .eq 20, 3) := by decide +kernel
theorem dX5_nearest_41 : decode cX5_nearest 41 = .ok (.aload_n 0, 1) := by decide +kernel
theorem dX5_nearest_42 : decode cX5_nearest 42 = .ok (.getfield 11, 3) := by decide +kernel
theorem dX5_nearest_45 : decode cX5_nearest 45 = .ok (.iload 5, 2) := by decide +kernel
theorem dX5_nearest_47 : decode cX5_nearest 47 = .ok (.iaload, 1) := by decide +kernel
theorem dX5_nearest_48 : decode cX5_nearest 48 = .ok (.aload_n 0, 1) := by decide +kernel
theorem dX5_nearest_49 : decode cX5_nearest 49 = .ok (.getfield 11, 3) := by decide +kernel
theorem dX5_nearest_52 : decode cX5_nearest 52 = .ok (.iload 4, 2) := by decide +kernel
theorem dX5_nearest_54 : decode cX5_nearest 54 = .ok (.iaload, 1) := by decide +kernel
theorem dX5_nearest_55 : decode cX5_nearest 55 = .ok (.if_icmp .ge 7, 3) := by decide +kernel
theorem dX5_nearest_58 : decode cX5_nearest 58 = .ok (.iload 5, 2) := by decide +kernel
theorem dX5_nearest_60 : decode cX5_nearest 60 = .ok (.istore 4, 2) := by decide +kernel
theorem dX5_nearest_62 : decode cX5_nearest 62 = .ok (.iinc 5 1, 3) := by decide +kernel
theorem dX5_nearest_65 : decode cX5_nearest 65 = .ok (.goto (-59), 3) := by decide +kernel
theorem dX5_nearest_68 : decode cX5_nearest 68 = .ok (.iload 4, 2) := by decide +kernel
theorem dX5_nearest_70 : decode cX5_nearest 70 = .ok (.ireturn, 1) := by decide +kernel
theorem dX6_init_0 : decode cX6_init 0 = .ok (.aload_n 0, 1) := by decide +kernel
theorem dX6_init_1 : decode cX6_init 1 = .ok (.invokespecial 3, 3) := by decide +kernel
theorem dX6_init_4 : decode cX6_init 4 = .ok (.aload_n 0, 1) := by decide +kernel
theorem dX6_init_5 : decode cX6_init 5 = .ok (.bipush 9, 2) := by decide +kernel
theorem dX6_init_7 : decode cX6_init 7 = .ok (.bipush 6, 2) := by decide +kernel
theorem dX6_init_9 : decode cX6_init 9 = .ok (.multianewarray 9 2, 4) := by decide +kernel
theorem dX6_init_13 : decode cX6_init 13 = .ok (.putfield 11, 3) := by decide +kernel
theorem dX6_init_16 : decode cX6_init 16 = .ok (.aload_n 0, 1) := by decide +kernel
theorem dX6_init_17 : decode cX6_init 17 = .ok (.bipush 9, 2) := by decide +kernel
theorem dX6_init_19 : decode cX6_init 19 = .ok (.bipush 6, 2) := by decide +kernel
theorem dX6_init_21 : decode cX6_init 21 = .ok (.multianewarray 9 2, 4) := by decide +kernel
theorem dX6_init_25 : decode cX6_init 25 = .ok (.putfield 16, 3) := by decide +kernel
theorem dX6_init_28 : decode cX6_init 28 = .ok (.aload_n 0, 1) := by decide +kernel
theorem dX6_init_29 : decode cX6_init 29 = .ok (.bipush 9, 2) := by decide +kernel
theorem dX6_init_31 : decode cX6_init 31 = .ok (.newarray .int, 2) := by decide +kernel
theorem dX6_init_33 : decode cX6_init 33 = .ok (.putfield 19, 3) := by decide +kernel
theorem dX6_init_36 : decode cX6_init 36 = .ok (.aload_n 0, 1) := by decide +kernel
theorem dX6_init_37 : decode cX6_init 37 = .ok (.iconst (-1), 1) := by decide +kernel
theorem dX6_init_38 : decode cX6_init 38 = .ok (.putfield 23, 3) := by decide +kernel
theorem dX6_init_41 : decode cX6_init 41 = .ok (.return_, 1) := by decide +kernel
set_option maxRecDepth 20000 in
theorem ggX6_measure_X3_knowsOf : GoodIn wsX6_measure wsX3_knowsOf := goodIn_r _ [7, 8, 9, 10, 11, 5, 12, 13, 14, 15, 16, 17, 18, 19, 20, 21, 47, 48, 49, 50, 51, 52, 53, 54, 55, 56, 57] rfl rfl
set_option maxRecDepth 20000 in
theorem gX6_measure_X3_knowsOf_n27 : GoodIn wsX6_measure (wsX3_knowsOf) := ggX6_measure_X3_knowsOf
set_option maxRecDepth 20000 in
theorem ggX6_measure_X6_sumWithout : GoodIn wsX6_measure wsX6_sumWithout := goodIn_r _ [25, 26, 20, 27] rfl rfl
set_option maxRecDepth 20000 in
theorem gX6_measure_X6_sumWithout : GoodIn wsX6_measure (va_wsS RX6 33 yX6_sumWithout wsX6_sumWithout) := goodIn_app (goodIn_r _ [22, 23, 24] rfl rfl) ggX6_measure_X6_sumWithout
set_option maxRecDepth 20000 in
theorem ggX6_measure_X11_sumOf : GoodIn wsX6_measure wsX11_sumOf := goodIn_r _ [27] rfl rfl
set_option maxRecDepth 20000 in
theorem gX6_measure_X11_sumOf_n37 : GoodIn wsX6_measure (wsX11_sumOf) := ggX6_measure_X11_sumOf
set_option maxRecDepth 20000 in
theorem ggX6_measure_X6_keepFirst : GoodIn wsX6_measure wsX6_keepFirst := goodIn_r _ [31, 3, 2, 32, 42, 43, 44, 45, 46] rfl rfl
set_option maxRecDepth 20000 in
theorem gX6_measure_X6_keepFirst : GoodIn wsX6_measure (wsV RX6 44 RX6 yX6_keepFirst wsX6_keepFirst) := goodIn_app (goodIn_r _ [28, 29, 30, 24] rfl rfl) ggX6_measure_X6_keepFirst
set_option maxRecDepth 20000 in
theorem ggX6_measure_X6_keepAskPlace : GoodIn wsX6_measure wsX6_keepAskPlace := goodIn_r _ [36, 3, 1, 2, 37, 38, 39, 40, 41, 42, 43, 44, 45, 46] rfl rfl
set_option maxRecDepth 20000 in
theorem gX6_measure_X6_keepAskPlace : GoodIn wsX6_measure (wsV RX6 47 RX6 yX6_keepAskPlace wsX6_keepAskPlace) := goodIn_app (goodIn_r _ [33, 34, 35, 24] rfl rfl) ggX6_measure_X6_keepAskPlace
theorem dX6_measure_0 : decode cX6_measure 0 = .ok (.iload_n 3, 1) := by decide +kernel
theorem dX6_measure_1 : decode cX6_measure 1 = .ok (.iconst 1, 1) := by decide +kernel
theorem dX6_measure_2 : decode cX6_measure 2 = .ok (.if_icmp .lt 15, 3) := by decide +kernel
theorem dX6_measure_5 : decode cX6_measure 5 = .ok (.iload_n 3, 1) := by decide +kernel
theorem dX6_measure_6 : decode cX6_measure 6 = .ok (.bipush 9, 2) := by decide +kernel
theorem dX6_measure_8 : decode cX6_measure 8 = .ok (.if_icmp .gt 9, 3) := by decide +kernel
theorem dX6_measure_11 : decode cX6_measure 11 = .ok (.iload_n 3, 1) := by decide +kernel
theorem dX6_measure_12 : decode cX6_measure 12 = .ok (.aload_n 2, 1) := by decide +kernel
theorem dX6_measure_13 : decode cX6_measure 13 = .ok (.arraylength, 1) := by decide +kernel
theorem dX6_measure_14 : decode cX6_measure 14 = .ok (.if_icmp .le 5, 3) := by decide +kernel
theorem dX6_measure_17 : decode cX6_measure 17 = .ok (.iconst 0, 1) := by decide +kernel
theorem dX6_measure_18 : decode cX6_measure 18 = .ok (.ireturn, 1) := by decide +kernel
theorem dX6_measure_19 : decode cX6_measure 19 = .ok (.iconst 0, 1) := by decide +kernel
theorem dX6_measure_20 : decode cX6_measure 20 = .ok (.istore 4, 2) := by decide +kernel
theorem dX6_measure_22 : decode cX6_measure 22 = .ok (.iload 4, 2) := by decide +kernel
theorem dX6_measure_24 : decode cX6_measure 24 = .ok (.iload_n 3, 1) := by decide +kernel
theorem dX6_measure_25 : decode cX6_measure 25 = .ok (.if_icmp .ge 75, 3) := by decide +kernel
theorem dX6_measure_28 : decode cX6_measure 28 = .ok (.iconst 0, 1) := by decide +kernel
theorem dX6_measure_29 : decode cX6_measure 29 = .ok (.istore 5, 2) := by decide +kernel
theorem dX6_measure_31 : decode cX6_measure 31 = .ok (.iload 5, 2) := by decide +kernel
theorem dX6_measure_33 : decode cX6_measure 33 = .ok (.bipush 6, 2) := by decide +kernel
theorem dX6_measure_35 : decode cX6_measure 35 = .ok (.if_icmp .ge 59, 3) := by decide +kernel
theorem dX6_measure_38 : decode cX6_measure 38 = .ok (.aload_n 0, 1) := by decide +kernel
theorem dX6_measure_39 : decode cX6_measure 39 = .ok (.getfield 11, 3) := by decide +kernel
theorem dX6_measure_42 : decode cX6_measure 42 = .ok (.iload 4, 2) := by decide +kernel
theorem dX6_measure_44 : decode cX6_measure 44 = .ok (.aaload, 1) := by decide +kernel
theorem dX6_measure_45 : decode cX6_measure 45 = .ok (.iload 5, 2) := by decide +kernel
theorem dX6_measure_47 : decode cX6_measure 47 = .ok (.aload_n 1, 1) := by decide +kernel
theorem dX6_measure_48 : decode cX6_measure 48 = .ok (.iload 5, 2) := by decide +kernel
theorem dX6_measure_50 : decode cX6_measure 50 = .ok (.aload_n 2, 1) := by decide +kernel
theorem dX6_measure_51 : decode cX6_measure 51 = .ok (.iload 4, 2) := by decide +kernel
theorem dX6_measure_53 : decode cX6_measure 53 = .ok (.iaload, 1) := by decide +kernel
theorem dX6_measure_54 : decode cX6_measure 54 = .ok (.invokevirtual 27, 3) := by decide +kernel
theorem dX6_measure_57 : decode cX6_measure 57 = .ok (.ifCond .eq 29, 3) := by decide +kernel
theorem dX6_measure_60 : decode cX6_measure 60 = .ok (.iload 4, 2) := by decide +kernel
theorem dX6_measure_62 : decode cX6_measure 62 = .ok (.ifCond .ne 7, 3) := by decide +kernel
theorem dX6_measure_65 : decode cX6_measure 65 = .ok (.iconst 1, 1) := by decide +kernel
theorem dX6_measure_66 : decode cX6_measure 66 = .ok (.goto 21, 3) := by decide +kernel
theorem dX6_measure_69 : decode cX6_measure 69 = .ok (.aload_n 0, 1) := by decide +kernel
theorem dX6_measure_70 : decode cX6_measure 70 = .ok (.getfield 11, 3) := by decide +kernel
theorem dX6_measure_73 : decode cX6_measure 73 = .ok (.iload 4, 2) := by decide +kernel
theorem dX6_measure_75 : decode cX6_measure 75 = .ok (.iconst 1, 1) := by decide +kernel
theorem dX6_measure_76 : decode cX6_measure 76 = .ok (.isub, 1) := by decide +kernel
theorem dX6_measure_77 : decode cX6_measure 77 = .ok (.aaload, 1) := by decide +kernel
theorem dX6_measure_78 : decode cX6_measure 78 = .ok (.iload 5, 2) := by decide +kernel
theorem dX6_measure_80 : decode cX6_measure 80 = .ok (.invokestatic 33, 3) := by decide +kernel
theorem dX6_measure_83 : decode cX6_measure 83 = .ok (.goto 4, 3) := by decide +kernel
theorem dX6_measure_86 : decode cX6_measure 86 = .ok (.iconst 0, 1) := by decide +kernel
theorem dX6_measure_87 : decode cX6_measure 87 = .ok (.iastore, 1) := by decide +kernel
theorem dX6_measure_88 : decode cX6_measure 88 = .ok (.iinc 5 1, 3) := by decide +kernel
theorem dX6_measure_91 : decode cX6_measure 91 = .ok (.goto (-60), 3) := by decide +kernel
theorem dX6_measure_94 : decode cX6_measure 94 = .ok (.iinc 4 1, 3) := by decide +kernel
theorem dX6_measure_97 : decode cX6_measure 97 = .ok (.goto (-75), 3) := by decide +kernel
theorem dX6_measure_100 : decode cX6_measure 100 = .ok (.iload_n 3, 1) := by decide +kernel
theorem dX6_measure_101 : decode cX6_measure 101 = .ok (.iconst 1, 1) := by decide +kernel
theorem dX6_measure_102 : decode cX6_measure 102 = .ok (.isub, 1) := by decide +kernel
theorem dX6_measure_103 : decode cX6_measure 103 = .ok (.istore 4, 2) := by decide +kernel
theorem dX6_measure_105 : decode cX6_measure 105 = .ok (.iload 4, 2) := by decide +kernel
theorem dX6_measure_107 : decode cX6_measure 107 = .ok (.ifCond .lt 78, 3) := by decide +kernel
theorem dX6_measure_110 : decode cX6_measure 110 = .ok (.iconst 0, 1) := by decide +kernel
theorem dX6_measure_111 : decode cX6_measure 111 = .ok (.istore 5, 2) := by decide +kernel
theorem dX6_measure_113 : decode cX6_measure 113 = .ok (.iload 5, 2) := by decide +kernel
theorem dX6_measure_115 : decode cX6_measure 115 = .ok (.bipush 6, 2) := by decide +kernel
theorem dX6_measure_117 : decode cX6_measure 117 = .ok (.if_icmp .ge 62, 3) := by decide +kernel
theorem dX6_measure_120 : decode cX6_measure 120 = .ok (.aload_n 0, 1) := by decide +kernel
theorem dX6_measure_121 : decode cX6_measure 121 = .ok (.getfield 16, 3) := by decide +kernel
theorem dX6_measure_124 : decode cX6_measure 124 = .ok (.iload 4, 2) := by decide +kernel
theorem dX6_measure_126 : decode cX6_measure 126 = .ok (.aaload, 1) := by decide +kernel
theorem dX6_measure_127 : decode cX6_measure 127 = .ok (.iload 5, 2) := by decide +kernel
theorem dX6_measure_129 : decode cX6_measure 129 = .ok (.aload_n 1, 1) := by decide +kernel
theorem dX6_measure_130 : decode cX6_measure 130 = .ok (.iload 5, 2) := by decide +kernel
theorem dX6_measure_132 : decode cX6_measure 132 = .ok (.aload_n 2, 1) := by decide +kernel
theorem dX6_measure_133 : decode cX6_measure 133 = .ok (.iload 4, 2) := by decide +kernel
theorem dX6_measure_135 : decode cX6_measure 135 = .ok (.iaload, 1) := by decide +kernel
theorem dX6_measure_136 : decode cX6_measure 136 = .ok (.invokevirtual 27, 3) := by decide +kernel
theorem dX6_measure_139 : decode cX6_measure 139 = .ok (.ifCond .eq 32, 3) := by decide +kernel
theorem dX6_measure_142 : decode cX6_measure 142 = .ok (.iload 4, 2) := by decide +kernel
theorem dX6_measure_144 : decode cX6_measure 144 = .ok (.iload_n 3, 1) := by decide +kernel
theorem dX6_measure_145 : decode cX6_measure 145 = .ok (.iconst 1, 1) := by decide +kernel
theorem dX6_measure_146 : decode cX6_measure 146 = .ok (.isub, 1) := by decide +kernel
theorem dX6_measure_147 : decode cX6_measure 147 = .ok (.if_icmp .ne 7, 3) := by decide +kernel
theorem dX6_measure_150 : decode cX6_measure 150 = .ok (.iconst 1, 1) := by decide +kernel
theorem dX6_measure_151 : decode cX6_measure 151 = .ok (.goto 21, 3) := by decide +kernel
theorem dX6_measure_154 : decode cX6_measure 154 = .ok (.aload_n 0, 1) := by decide +kernel
theorem dX6_measure_155 : decode cX6_measure 155 = .ok (.getfield 16, 3) := by decide +kernel
theorem dX6_measure_158 : decode cX6_measure 158 = .ok (.iload 4, 2) := by decide +kernel
theorem dX6_measure_160 : decode cX6_measure 160 = .ok (.iconst 1, 1) := by decide +kernel
theorem dX6_measure_161 : decode cX6_measure 161 = .ok (.iadd, 1) := by decide +kernel
theorem dX6_measure_162 : decode cX6_measure 162 = .ok (.aaload, 1) := by decide +kernel
theorem dX6_measure_163 : decode cX6_measure 163 = .ok (.iload 5, 2) := by decide +kernel
theorem dX6_measure_165 : decode cX6_measure 165 = .ok (.invokestatic 33, 3) := by decide +kernel
theorem dX6_measure_168 : decode cX6_measure 168 = .ok (.goto 4, 3) := by decide +kernel
theorem dX6_measure_171 : decode cX6_measure 171 = .ok (.iconst 0, 1) := by decide +kernel
theorem dX6_measure_172 : decode cX6_measure 172 = .ok (.iastore, 1) := by decide +kernel
theorem dX6_measure_173 : decode cX6_measure 173 = .ok (.iinc 5 1, 3) := by decide +kernel
theorem dX6_measure_176 : decode cX6_measure 176 = .ok (.goto (-63), 3) := by decide +kernel
theorem dX6_measure_179 : decode cX6_measure 179 = .ok (.iinc 4 (-1), 3) := by decide +kernel
theorem dX6_measure_182 : decode cX6_measure 182 = .ok (.goto (-77), 3) := by decide +kernel
theorem dX6_measure_185 : decode cX6_measure 185 = .ok (.aload_n 0, 1) := by decide +kernel
theorem dX6_measure_186 : decode cX6_measure 186 = .ok (.getfield 16, 3) := by decide +kernel
theorem dX6_measure_189 : decode cX6_measure 189 = .ok (.iconst 0, 1) := by decide +kernel
theorem dX6_measure_190 : decode cX6_measure 190 = .ok (.aaload, 1) := by decide +kernel
theorem dX6_measure_191 : decode cX6_measure 191 = .ok (.invokestatic 37, 3) := by decide +kernel
theorem dX6_measure_194 : decode cX6_measure 194 = .ok (.istore 4, 2) := by decide +kernel
theorem dX6_measure_196 : decode cX6_measure 196 = .ok (.iload 4, 2) := by decide +kernel
theorem dX6_measure_198 : decode cX6_measure 198 = .ok (.ifCond .le 16, 3) := by decide +kernel
theorem dX6_measure_201 : decode cX6_measure 201 = .ok (.aload_n 0, 1) := by decide +kernel
theorem dX6_measure_202 : decode cX6_measure 202 = .ok (.iload_n 3, 1) := by decide +kernel
theorem dX6_measure_203 : decode cX6_measure 203 = .ok (.putfield 41, 3) := by decide +kernel
theorem dX6_measure_206 : decode cX6_measure 206 = .ok (.aload_n 0, 1) := by decide +kernel
theorem dX6_measure_207 : decode cX6_measure 207 = .ok (.invokevirtual 44, 3) := by decide +kernel
theorem dX6_measure_210 : decode cX6_measure 210 = .ok (.aload_n 0, 1) := by decide +kernel
theorem dX6_measure_211 : decode cX6_measure 211 = .ok (.invokevirtual 47, 3) := by decide +kernel
theorem dX6_measure_214 : decode cX6_measure 214 = .ok (.iload 4, 2) := by decide +kernel
theorem dX6_measure_216 : decode cX6_measure 216 = .ok (.ireturn, 1) := by decide +kernel
set_option maxRecDepth 20000 in
theorem ggX6_sumWithout_X11_sumOf : GoodIn wsX6_sumWithout wsX11_sumOf := goodIn_r _ [3] rfl rfl
set_option maxRecDepth 20000 in
theorem gX6_sumWithout_X11_sumOf_n37 : GoodIn wsX6_sumWithout (wsX11_sumOf) := ggX6_sumWithout_X11_sumOf
theorem dX6_sumWithout_0 : decode cX6_sumWithout 0 = .ok (.iload_n 1, 1) := by decide +kernel
theorem dX6_sumWithout_1 : decode cX6_sumWithout 1 = .ok (.ifCond .lt 20, 3) := by decide +kernel
theorem dX6_sumWithout_4 : decode cX6_sumWithout 4 = .ok (.iload_n 1, 1) := by decide +kernel
theorem dX6_sumWithout_5 : decode cX6_sumWithout 5 = .ok (.aload_n 0, 1) := by decide +kernel
theorem dX6_sumWithout_6 : decode cX6_sumWithout 6 = .ok (.arraylength, 1) := by decide +kernel
theorem dX6_sumWithout_7 : decode cX6_sumWithout 7 = .ok (.if_icmp .ge 14, 3) := by decide +kernel
theorem dX6_sumWithout_10 : decode cX6_sumWithout 10 = .ok (.aload_n 0, 1) := by decide +kernel
theorem dX6_sumWithout_11 : decode cX6_sumWithout 11 = .ok (.invokestatic 37, 3) := by decide +kernel
theorem dX6_sumWithout_14 : decode cX6_sumWithout 14 = .ok (.aload_n 0, 1) := by decide +kernel
theorem dX6_sumWithout_15 : decode cX6_sumWithout 15 = .ok (.iload_n 1, 1) := by decide +kernel
theorem dX6_sumWithout_16 : decode cX6_sumWithout 16 = .ok (.iaload, 1) := by decide +kernel
theorem dX6_sumWithout_17 : decode cX6_sumWithout 17 = .ok (.isub, 1) := by decide +kernel
theorem dX6_sumWithout_18 : decode cX6_sumWithout 18 = .ok (.goto 4, 3) := by decide +kernel
theorem dX6_sumWithout_21 : decode cX6_sumWithout 21 = .ok (.iconst 0, 1) := by decide +kernel
theorem dX6_sumWithout_22 : decode cX6_sumWithout 22 = .ok (.ireturn, 1) := by decide +kernel
theorem dX6_keepFirst_0 : decode cX6_keepFirst 0 = .ok (.iconst (-1), 1) := by decide +kernel
theorem dX6_keepFirst_1 : decode cX6_keepFirst 1 = .ok (.istore_n 1, 1) := by decide +kernel
theorem dX6_keepFirst_2 : decode cX6_keepFirst 2 = .ok (.iconst 0, 1) := by decide +kernel
theorem dX6_keepFirst_3 : decode cX6_keepFirst 3 = .ok (.istore_n 2, 1) := by decide +kernel
theorem dX6_keepFirst_4 : decode cX6_keepFirst 4 = .ok (.iload_n 2, 1) := by decide +kernel
theorem dX6_keepFirst_5 : decode cX6_keepFirst 5 = .ok (.aload_n 0, 1) := by decide +kernel
theorem dX6_keepFirst_6 : decode cX6_keepFirst 6 = .ok (.getfield 41, 3) := by decide +kernel
theorem dX6_keepFirst_9 : decode cX6_keepFirst 9 = .ok (.if_icmp .ge 53, 3) := by decide +kernel
theorem dX6_keepFirst_12 : decode cX6_keepFirst 12 = .ok (.iload_n 2, 1) := by decide +kernel
theorem dX6_keepFirst_13 : decode cX6_keepFirst 13 = .ok (.bipush 9, 2) := by decide +kernel
theorem dX6_keepFirst_15 : decode cX6_keepFirst 15 = .ok (.if_icmp .ge 47, 3) := by decide +kernel
theorem dX6_keepFirst_18 : decode cX6_keepFirst 18 = .ok (.iconst 0, 1) := by decide +kernel
theorem dX6_keepFirst_19 : decode cX6_keepFirst 19 = .ok (.istore_n 3, 1) := by decide +kernel
theorem dX6_keepFirst_20 : decode cX6_keepFirst 20 = .ok (.iload_n 3, 1) := by decide +kernel
theorem dX6_keepFirst_21 : decode cX6_keepFirst 21 = .ok (.iconst 5, 1) := by decide +kernel
theorem dX6_keepFirst_22 : decode cX6_keepFirst 22 = .ok (.if_icmp .ge 25, 3) := by decide +kernel
theorem dX6_keepFirst_25 : decode cX6_keepFirst 25 = .ok (.iload_n 3, 1) := by decide +kernel
theorem dX6_keepFirst_26 : decode cX6_keepFirst 26 = .ok (.iload_n 1, 1) := by decide +kernel
theorem dX6_keepFirst_27 : decode cX6_keepFirst 27 = .ok (.if_icmp .eq 14, 3) := by decide +kernel
theorem dX6_keepFirst_30 : decode cX6_keepFirst 30 = .ok (.aload_n 0, 1) := by decide +kernel
theorem dX6_keepFirst_31 : decode cX6_keepFirst 31 = .ok (.getfield 16, 3) := by decide +kernel
theorem dX6_keepFirst_34 : decode cX6_keepFirst 34 = .ok (.iload_n 2, 1) := by decide +kernel
theorem dX6_keepFirst_35 : decode cX6_keepFirst 35 = .ok (.aaload, 1) := by decide +kernel
theorem dX6_keepFirst_36 : decode cX6_keepFirst 36 = .ok (.iload_n 3, 1) := by decide +kernel
theorem dX6_keepFirst_37 : decode cX6_keepFirst 37 = .ok (.iaload, 1) := by decide +kernel
theorem dX6_keepFirst_38 : decode cX6_keepFirst 38 = .ok (.ifCond .ne 9, 3) := by decide +kernel
theorem dX6_keepFirst_41 : decode cX6_keepFirst 41 = .ok (.iinc 3 1, 3) := by decide +kernel
theorem dX6_keepFirst_44 : decode cX6_keepFirst 44 = .ok (.goto (-24), 3) := by decide +kernel
theorem dX6_keepFirst_47 : decode cX6_keepFirst 47 = .ok (.aload_n 0, 1) := by decide +kernel
theorem dX6_keepFirst_48 : decode cX6_keepFirst 48 = .ok (.getfield 19, 3) := by decide +kernel
theorem dX6_keepFirst_51 : decode cX6_keepFirst 51 = .ok (.iload_n 2, 1) := by decide +kernel
theorem dX6_keepFirst_52 : decode cX6_keepFirst 52 = .ok (.iload_n 3, 1) := by decide +kernel
theorem dX6_keepFirst_53 : decode cX6_keepFirst 53 = .ok (.iastore, 1) := by decide +kernel
theorem dX6_keepFirst_54 : decode cX6_keepFirst 54 = .ok (.iload_n 3, 1) := by decide +kernel
theorem dX6_keepFirst_55 : decode cX6_keepFirst 55 = .ok (.istore_n 1, 1) := by decide +kernel
theorem dX6_keepFirst_56 : decode cX6_keepFirst 56 = .ok (.iinc 2 1, 3) := by decide +kernel
theorem dX6_keepFirst_59 : decode cX6_keepFirst 59 = .ok (.goto (-55), 3) := by decide +kernel
theorem dX6_keepFirst_62 : decode cX6_keepFirst 62 = .ok (.return_, 1) := by decide +kernel
theorem dX6_keepAskPlace_0 : decode cX6_keepAskPlace 0 = .ok (.iconst 0, 1) := by decide +kernel
theorem dX6_keepAskPlace_1 : decode cX6_keepAskPlace 1 = .ok (.istore_n 1, 1) := by decide +kernel
theorem dX6_keepAskPlace_2 : decode cX6_keepAskPlace 2 = .ok (.iconst 0, 1) := by decide +kernel
theorem dX6_keepAskPlace_3 : decode cX6_keepAskPlace 3 = .ok (.istore_n 2, 1) := by decide +kernel
theorem dX6_keepAskPlace_4 : decode cX6_keepAskPlace 4 = .ok (.iload_n 2, 1) := by decide +kernel
theorem dX6_keepAskPlace_5 : decode cX6_keepAskPlace 5 = .ok (.aload_n 0, 1) := by decide +kernel
theorem dX6_keepAskPlace_6 : decode cX6_keepAskPlace 6 = .ok (.getfield 41, 3) := by decide +kernel
theorem dX6_keepAskPlace_9 : decode cX6_keepAskPlace 9 = .ok (.if_icmp .ge 73, 3) := by decide +kernel
theorem dX6_keepAskPlace_12 : decode cX6_keepAskPlace 12 = .ok (.iload_n 2, 1) := by decide +kernel
theorem dX6_keepAskPlace_13 : decode cX6_keepAskPlace 13 = .ok (.bipush 9, 2) := by decide +kernel
theorem dX6_keepAskPlace_15 : decode cX6_keepAskPlace 15 = .ok (.if_icmp .ge 67, 3) := by decide +kernel
theorem dX6_keepAskPlace_18 : decode cX6_keepAskPlace 18 = .ok (.iconst 0, 1) := by decide +kernel
theorem dX6_keepAskPlace_19 : decode cX6_keepAskPlace 19 = .ok (.istore_n 3, 1) := by decide +kernel
theorem dX6_keepAskPlace_20 : decode cX6_keepAskPlace 20 = .ok (.iconst 0, 1) := by decide +kernel
theorem dX6_keepAskPlace_21 : decode cX6_keepAskPlace 21 = .ok (.istore 4, 2) := by decide +kernel
theorem dX6_keepAskPlace_23 : decode cX6_keepAskPlace 23 = .ok (.iload 4, 2) := by decide +kernel
theorem dX6_keepAskPlace_25 : decode cX6_keepAskPlace 25 = .ok (.bipush 6, 2) := by decide +kernel
theorem dX6_keepAskPlace_27 : decode cX6_keepAskPlace 27 = .ok (.if_icmp .ge 33, 3) := by decide +kernel
theorem dX6_keepAskPlace_30 : decode cX6_keepAskPlace 30 = .ok (.iload_n 3, 1) := by decide +kernel
theorem dX6_keepAskPlace_31 : decode cX6_keepAskPlace 31 = .ok (.aload_n 0, 1) := by decide +kernel
theorem dX6_keepAskPlace_32 : decode cX6_keepAskPlace 32 = .ok (.getfield 11, 3) := by decide +kernel
theorem dX6_keepAskPlace_35 : decode cX6_keepAskPlace 35 = .ok (.iload_n 2, 1) := by decide +kernel
theorem dX6_keepAskPlace_36 : decode cX6_keepAskPlace 36 = .ok (.aaload, 1) := by decide +kernel
theorem dX6_keepAskPlace_37 : decode cX6_keepAskPlace 37 = .ok (.iload 4, 2) := by decide +kernel
theorem dX6_keepAskPlace_39 : decode cX6_keepAskPlace 39 = .ok (.iaload, 1) := by decide +kernel
theorem dX6_keepAskPlace_40 : decode cX6_keepAskPlace 40 = .ok (.aload_n 0, 1) := by decide +kernel
theorem dX6_keepAskPlace_41 : decode cX6_keepAskPlace 41 = .ok (.getfield 16, 3) := by decide +kernel
theorem dX6_keepAskPlace_44 : decode cX6_keepAskPlace 44 = .ok (.iload_n 2, 1) := by decide +kernel
theorem dX6_keepAskPlace_45 : decode cX6_keepAskPlace 45 = .ok (.aaload, 1) := by decide +kernel
theorem dX6_keepAskPlace_46 : decode cX6_keepAskPlace 46 = .ok (.iload 4, 2) := by decide +kernel
theorem dX6_keepAskPlace_48 : decode cX6_keepAskPlace 48 = .ok (.iaload, 1) := by decide +kernel
theorem dX6_keepAskPlace_49 : decode cX6_keepAskPlace 49 = .ok (.imul, 1) := by decide +kernel
theorem dX6_keepAskPlace_50 : decode cX6_keepAskPlace 50 = .ok (.invokestatic 50, 3) := by decide +kernel
theorem dX6_keepAskPlace_53 : decode cX6_keepAskPlace 53 = .ok (.istore_n 3, 1) := by decide +kernel
theorem dX6_keepAskPlace_54 : decode cX6_keepAskPlace 54 = .ok (.iinc 4 1, 3) := by decide +kernel
theorem dX6_keepAskPlace_57 : decode cX6_keepAskPlace 57 = .ok (.goto (-34), 3) := by decide +kernel
theorem dX6_keepAskPlace_60 : decode cX6_keepAskPlace 60 = .ok (.iload_n 2, 1) := by decide +kernel
theorem dX6_keepAskPlace_61 : decode cX6_keepAskPlace 61 = .ok (.ifCond .eq 8, 3) := by decide +kernel
theorem dX6_keepAskPlace_64 : decode cX6_keepAskPlace 64 = .ok (.iload_n 3, 1) := by decide +kernel
theorem dX6_keepAskPlace_65 : decode cX6_keepAskPlace 65 = .ok (.iload_n 1, 1) := by decide +kernel
theorem dX6_keepAskPlace_66 : decode cX6_keepAskPlace 66 = .ok (.if_icmp .ge 10, 3) := by decide +kernel
theorem dX6_keepAskPlace_69 : decode cX6_keepAskPlace 69 = .ok (.iload_n 3, 1) := by decide +kernel
theorem dX6_keepAskPlace_70 : decode cX6_keepAskPlace 70 = .ok (.istore_n 1, 1) := by decide +kernel
theorem dX6_keepAskPlace_71 : decode cX6_keepAskPlace 71 = .ok (.aload_n 0, 1) := by decide +kernel
theorem dX6_keepAskPlace_72 : decode cX6_keepAskPlace 72 = .ok (.iload_n 2, 1) := by decide +kernel
theorem dX6_keepAskPlace_73 : decode cX6_keepAskPlace 73 = .ok (.putfield 23, 3) := by decide +kernel
theorem dX6_keepAskPlace_76 : decode cX6_keepAskPlace 76 = .ok (.iinc 2 1, 3) := by decide +kernel
theorem dX6_keepAskPlace_79 : decode cX6_keepAskPlace 79 = .ok (.goto (-75), 3) := by decide +kernel
theorem dX6_keepAskPlace_82 : decode cX6_keepAskPlace 82 = .ok (.return_, 1) := by decide +kernel
set_option maxRecDepth 20000 in
theorem ggX7_init_X3_init : GoodIn wsX7_init wsX3_init := goodIn_r _ [17, 18, 2, 3, 19, 20, 21, 22, 23, 24, 25, 26, 27, 45, 46, 47, 48, 49, 50, 51, 52, 53, 54, 55] rfl rfl
set_option maxRecDepth 20000 in
theorem gX7_init_X3_init_n9 : GoodIn wsX7_init (wsX3_init) := ggX7_init_X3_init
set_option maxRecDepth 20000 in
theorem ggX7_init_X9_init : GoodIn wsX7_init wsX9_init := goodIn_r _ [29, 30, 2, 3, 21, 31, 32, 33, 34, 35, 36, 59, 60, 61, 62, 63, 64, 65, 66, 67] rfl rfl
set_option maxRecDepth 20000 in
theorem gX7_init_X9_init_n18 : GoodIn wsX7_init (wsX9_init) := ggX7_init_X9_init
set_option maxRecDepth 20000 in
theorem ggX7_init_X8_init : GoodIn wsX7_init wsX8_init := goodIn_r _ [38, 39, 2, 3, 40, 41, 21, 42, 43, 44, 68, 69, 70, 71, 72, 73] rfl rfl
set_option maxRecDepth 20000 in
theorem gX7_init_X8_init_n25 : GoodIn wsX7_init (wsX8_init) := ggX7_init_X8_init
theorem dX7_init_0 : decode cX7_init 0 = .ok (.aload_n 0, 1) := by decide +kernel
theorem dX7_init_1 : decode cX7_init 1 = .ok (.invokespecial 1, 3) := by decide +kernel
theorem dX7_init_4 : decode cX7_init 4 = .ok (.aload_n 0, 1) := by decide +kernel
theorem dX7_init_5 : decode cX7_init 5 = .ok (.new 7, 3) := by decide +kernel
theorem dX7_init_8 : decode cX7_init 8 = .ok (.dup, 1) := by decide +kernel
theorem dX7_init_9 : decode cX7_init 9 = .ok (.invokespecial 9, 3) := by decide +kernel
theorem dX7_init_12 : decode cX7_init 12 = .ok (.putfield 10, 3) := by decide +kernel
theorem dX7_init_15 : decode cX7_init 15 = .ok (.aload_n 0, 1) := by decide +kernel
theorem dX7_init_16 : decode cX7_init 16 = .ok (.new 16, 3) := by decide +kernel
theorem dX7_init_19 : decode cX7_init 19 = .ok (.dup, 1) := by decide +kernel
theorem dX7_init_20 : decode cX7_init 20 = .ok (.invokespecial 18, 3) := by decide +kernel
theorem dX7_init_23 : decode cX7_init 23 = .ok (.putfield 19, 3) := by decide +kernel
theorem dX7_init_26 : decode cX7_init 26 = .ok (.aload_n 0, 1) := by decide +kernel
theorem dX7_init_27 : decode cX7_init 27 = .ok (.new 23, 3) := by decide +kernel
theorem dX7_init_30 : decode cX7_init 30 = .ok (.dup, 1) := by decide +kernel
theorem dX7_init_31 : decode cX7_init 31 = .ok (.invokespecial 25, 3) := by decide +kernel
theorem dX7_init_34 : decode cX7_init 34 = .ok (.putfield 26, 3) := by decide +kernel
theorem dX7_init_37 : decode cX7_init 37 = .ok (.return_, 1) := by decide +kernel
set_option maxRecDepth 20000 in
theorem ggX7_begin_X3_copyFrom : GoodIn wsX7_begin wsX3_copyFrom := goodIn_r _ [7, 8, 9, 10, 11, 12, 13, 14, 15, 16, 17, 18, 19, 20, 21, 22, 45, 46, 47, 48, 49, 50, 51, 52, 53, 54, 55] rfl rfl
set_option maxRecDepth 20000 in
theorem gX7_begin_X3_copyFrom_n30 : GoodIn wsX7_begin (wsX3_copyFrom) := ggX7_begin_X3_copyFrom
set_option maxRecDepth 20000 in
theorem ggX7_begin_X9_begin : GoodIn wsX7_begin wsX9_begin := goodIn_r _ [26, 27, 28, 29, 30, 31, 32, 33, 34, 35, 56, 57, 58, 59, 60, 61, 62, 63, 64, 45, 46, 47, 48, 49, 50, 51, 52, 53, 54, 55] rfl rfl
set_option maxRecDepth 20000 in
theorem gX7_begin_X9_begin_n34 : GoodIn wsX7_begin (wsX9_begin) := ggX7_begin_X9_begin
set_option maxRecDepth 20000 in
theorem ggX7_begin_X8_forget : GoodIn wsX7_begin wsX8_forget := goodIn_r _ [39, 40, 41, 65, 66, 67, 68, 69, 70] rfl rfl
set_option maxRecDepth 20000 in
theorem gX7_begin_X8_forget_n37 : GoodIn wsX7_begin (wsX8_forget) := ggX7_begin_X8_forget
theorem dX7_begin_0 : decode cX7_begin 0 = .ok (.aload_n 0, 1) := by decide +kernel
theorem dX7_begin_1 : decode cX7_begin 1 = .ok (.getfield 10, 3) := by decide +kernel
theorem dX7_begin_4 : decode cX7_begin 4 = .ok (.aload_n 1, 1) := by decide +kernel
theorem dX7_begin_5 : decode cX7_begin 5 = .ok (.invokevirtual 30, 3) := by decide +kernel
theorem dX7_begin_8 : decode cX7_begin 8 = .ok (.aload_n 0, 1) := by decide +kernel
theorem dX7_begin_9 : decode cX7_begin 9 = .ok (.getfield 19, 3) := by decide +kernel
theorem dX7_begin_12 : decode cX7_begin 12 = .ok (.aload_n 1, 1) := by decide +kernel
theorem dX7_begin_13 : decode cX7_begin 13 = .ok (.invokevirtual 34, 3) := by decide +kernel
theorem dX7_begin_16 : decode cX7_begin 16 = .ok (.aload_n 0, 1) := by decide +kernel
theorem dX7_begin_17 : decode cX7_begin 17 = .ok (.getfield 26, 3) := by decide +kernel
theorem dX7_begin_20 : decode cX7_begin 20 = .ok (.invokevirtual 37, 3) := by decide +kernel
theorem dX7_begin_23 : decode cX7_begin 23 = .ok (.return_, 1) := by decide +kernel
set_option maxRecDepth 20000 in
theorem ggX7_copyFrom_X3_copyFrom : GoodIn wsX7_copyFrom wsX3_copyFrom := goodIn_r _ [7, 8, 9, 10, 11, 12, 13, 14, 15, 16, 17, 18, 19, 20, 21, 22, 49, 50, 51, 52, 53, 54, 55, 56, 57, 58, 59] rfl rfl
set_option maxRecDepth 20000 in
theorem gX7_copyFrom_X3_copyFrom_n30 : GoodIn wsX7_copyFrom (wsX3_copyFrom) := ggX7_copyFrom_X3_copyFrom
set_option maxRecDepth 20000 in
theorem ggX7_copyFrom_X9_copyFrom : GoodIn wsX7_copyFrom wsX9_copyFrom := goodIn_r _ [26, 27, 28, 29, 30, 31, 32, 33, 14, 15, 16, 34, 35, 36, 60, 61, 62, 63, 64, 65, 66, 67, 68] rfl rfl
set_option maxRecDepth 20000 in
theorem gX7_copyFrom_X9_copyFrom_n40 : GoodIn wsX7_copyFrom (wsX9_copyFrom) := ggX7_copyFrom_X9_copyFrom
set_option maxRecDepth 20000 in
theorem ggX7_copyFrom_X8_copyFrom : GoodIn wsX7_copyFrom wsX8_copyFrom := goodIn_r _ [40, 41, 42, 43, 44, 45, 69, 70, 71, 72, 73, 74] rfl rfl
set_option maxRecDepth 20000 in
theorem gX7_copyFrom_X8_copyFrom_n43 : GoodIn wsX7_copyFrom (wsX8_copyFrom) := ggX7_copyFrom_X8_copyFrom
theorem dX7_copyFrom_0 : decode cX7_copyFrom 0 = .ok (.aload_n 0, 1) := by decide +kernel
theorem dX7_copyFrom_1 : decode cX7_copyFrom 1 = .ok (.getfield 10, 3) := by decide +kernel
theorem dX7_copyFrom_4 : decode cX7_copyFrom 4 = .ok (.aload_n 1, 1) := by decide +kernel
theorem dX7_copyFrom_5 : decode cX7_copyFrom 5 = .ok (.getfield 10, 3) := by decide +kernel
theorem dX7_copyFrom_8 : decode cX7_copyFrom 8 = .ok (.invokevirtual 30, 3) := by decide +kernel
theorem dX7_copyFrom_11 : decode cX7_copyFrom 11 = .ok (.aload_n 0, 1) := by decide +kernel
theorem dX7_copyFrom_12 : decode cX7_copyFrom 12 = .ok (.getfield 19, 3) := by decide +kernel
theorem dX7_copyFrom_15 : decode cX7_copyFrom 15 = .ok (.aload_n 1, 1) := by decide +kernel
theorem dX7_copyFrom_16 : decode cX7_copyFrom 16 = .ok (.getfield 19, 3) := by decide +kernel
theorem dX7_copyFrom_19 : decode cX7_copyFrom 19 = .ok (.invokevirtual 40, 3) := by decide +kernel
theorem dX7_copyFrom_22 : decode cX7_copyFrom 22 = .ok (.aload_n 0, 1) := by decide +kernel
theorem dX7_copyFrom_23 : decode cX7_copyFrom 23 = .ok (.getfield 26, 3) := by decide +kernel
theorem dX7_copyFrom_26 : decode cX7_copyFrom 26 = .ok (.aload_n 1, 1) := by decide +kernel
theorem dX7_copyFrom_27 : decode cX7_copyFrom 27 = .ok (.getfield 26, 3) := by decide +kernel
theorem dX7_copyFrom_30 : decode cX7_copyFrom 30 = .ok (.invokevirtual 43, 3) := by decide +kernel
theorem dX7_copyFrom_33 : decode cX7_copyFrom 33 = .ok (.return_, 1) := by decide +kernel
theorem dX8_init_0 : decode cX8_init 0 = .ok (.aload_n 0, 1) := by decide +kernel
theorem dX8_init_1 : decode cX8_init 1 = .ok (.invokespecial 3, 3) := by decide +kernel
theorem dX8_init_4 : decode cX8_init 4 = .ok (.aload_n 0, 1) := by decide +kernel
theorem dX8_init_5 : decode cX8_init 5 = .ok (.bipush 40, 2) := by decide +kernel
theorem dX8_init_7 : decode cX8_init 7 = .ok (.anewarray 11, 3) := by decide +kernel
theorem dX8_init_10 : decode cX8_init 10 = .ok (.putfield 13, 3) := by decide +kernel
theorem dX8_init_13 : decode cX8_init 13 = .ok (.aload_n 0, 1) := by decide +kernel
theorem dX8_init_14 : decode cX8_init 14 = .ok (.bipush 40, 2) := by decide +kernel
theorem dX8_init_16 : decode cX8_init 16 = .ok (.newarray .int, 2) := by decide +kernel
theorem dX8_init_18 : decode cX8_init 18 = .ok (.putfield 17, 3) := by decide +kernel
theorem dX8_init_21 : decode cX8_init 21 = .ok (.aload_n 0, 1) := by decide +kernel
theorem dX8_init_22 : decode cX8_init 22 = .ok (.bipush 40, 2) := by decide +kernel
theorem dX8_init_24 : decode cX8_init 24 = .ok (.newarray .int, 2) := by decide +kernel
theorem dX8_init_26 : decode cX8_init 26 = .ok (.putfield 21, 3) := by decide +kernel
theorem dX8_init_29 : decode cX8_init 29 = .ok (.aload_n 0, 1) := by decide +kernel
theorem dX8_init_30 : decode cX8_init 30 = .ok (.bipush 20, 2) := by decide +kernel
theorem dX8_init_32 : decode cX8_init 32 = .ok (.newarray .int, 2) := by decide +kernel
theorem dX8_init_34 : decode cX8_init 34 = .ok (.putfield 24, 3) := by decide +kernel
theorem dX8_init_37 : decode cX8_init 37 = .ok (.return_, 1) := by decide +kernel
theorem dX8_isTold_0 : decode cX8_isTold 0 = .ok (.aload_n 0, 1) := by decide +kernel
theorem dX8_isTold_1 : decode cX8_isTold 1 = .ok (.getfield 27, 3) := by decide +kernel
theorem dX8_isTold_4 : decode cX8_isTold 4 = .ok (.ifCond .le 7, 3) := by decide +kernel
theorem dX8_isTold_7 : decode cX8_isTold 7 = .ok (.iconst 1, 1) := by decide +kernel
theorem dX8_isTold_8 : decode cX8_isTold 8 = .ok (.goto 4, 3) := by decide +kernel
theorem dX8_isTold_11 : decode cX8_isTold 11 = .ok (.iconst 0, 1) := by decide +kernel
theorem dX8_isTold_12 : decode cX8_isTold 12 = .ok (.ireturn, 1) := by decide +kernel
theorem dX8_forget_0 : decode cX8_forget 0 = .ok (.aload_n 0, 1) := by decide +kernel
theorem dX8_forget_1 : decode cX8_forget 1 = .ok (.iconst 0, 1) := by decide +kernel
theorem dX8_forget_2 : decode cX8_forget 2 = .ok (.putfield 31, 3) := by decide +kernel
theorem dX8_forget_5 : decode cX8_forget 5 = .ok (.aload_n 0, 1) := by decide +kernel
theorem dX8_forget_6 : decode cX8_forget 6 = .ok (.iconst 0, 1) := by decide +kernel
theorem dX8_forget_7 : decode cX8_forget 7 = .ok (.putfield 27, 3) := by decide +kernel
theorem dX8_forget_10 : decode cX8_forget 10 = .ok (.return_, 1) := by decide +kernel
theorem dX8_copyFrom_0 : decode cX8_copyFrom 0 = .ok (.aload_n 0, 1) := by decide +kernel
theorem dX8_copyFrom_1 : decode cX8_copyFrom 1 = .ok (.aload_n 1, 1) := by decide +kernel
theorem dX8_copyFrom_2 : decode cX8_copyFrom 2 = .ok (.getfield 31, 3) := by decide +kernel
theorem dX8_copyFrom_5 : decode cX8_copyFrom 5 = .ok (.putfield 31, 3) := by decide +kernel
theorem dX8_copyFrom_8 : decode cX8_copyFrom 8 = .ok (.aload_n 0, 1) := by decide +kernel
theorem dX8_copyFrom_9 : decode cX8_copyFrom 9 = .ok (.aload_n 1, 1) := by decide +kernel
theorem dX8_copyFrom_10 : decode cX8_copyFrom 10 = .ok (.getfield 27, 3) := by decide +kernel
theorem dX8_copyFrom_13 : decode cX8_copyFrom 13 = .ok (.putfield 27, 3) := by decide +kernel
theorem dX8_copyFrom_16 : decode cX8_copyFrom 16 = .ok (.iconst 0, 1) := by decide +kernel
theorem dX8_copyFrom_17 : decode cX8_copyFrom 17 = .ok (.istore_n 2, 1) := by decide +kernel
theorem dX8_copyFrom_18 : decode cX8_copyFrom 18 = .ok (.iload_n 2, 1) := by decide +kernel
theorem dX8_copyFrom_19 : decode cX8_copyFrom 19 = .ok (.aload_n 0, 1) := by decide +kernel
theorem dX8_copyFrom_20 : decode cX8_copyFrom 20 = .ok (.getfield 13, 3) := by decide +kernel
theorem dX8_copyFrom_23 : decode cX8_copyFrom 23 = .ok (.arraylength, 1) := by decide +kernel
theorem dX8_copyFrom_24 : decode cX8_copyFrom 24 = .ok (.if_icmp .ge 45, 3) := by decide +kernel
theorem dX8_copyFrom_27 : decode cX8_copyFrom 27 = .ok (.aload_n 0, 1) := by decide +kernel
theorem dX8_copyFrom_28 : decode cX8_copyFrom 28 = .ok (.getfield 13, 3) := by decide +kernel
theorem dX8_copyFrom_31 : decode cX8_copyFrom 31 = .ok (.iload_n 2, 1) := by decide +kernel
theorem dX8_copyFrom_32 : decode cX8_copyFrom 32 = .ok (.aload_n 1, 1) := by decide +kernel
theorem dX8_copyFrom_33 : decode cX8_copyFrom 33 = .ok (.getfield 13, 3) := by decide +kernel
theorem dX8_copyFrom_36 : decode cX8_copyFrom 36 = .ok (.iload_n 2, 1) := by decide +kernel
theorem dX8_copyFrom_37 : decode cX8_copyFrom 37 = .ok (.aaload, 1) := by decide +kernel
theorem dX8_copyFrom_38 : decode cX8_copyFrom 38 = .ok (.aastore, 1) := by decide +kernel
theorem dX8_copyFrom_39 : decode cX8_copyFrom 39 = .ok (.aload_n 0, 1) := by decide +kernel
theorem dX8_copyFrom_40 : decode cX8_copyFrom 40 = .ok (.getfield 17, 3) := by decide +kernel
theorem dX8_copyFrom_43 : decode cX8_copyFrom 43 = .ok (.iload_n 2, 1) := by decide +kernel
theorem dX8_copyFrom_44 : decode cX8_copyFrom 44 = .ok (.aload_n 1, 1) := by decide +kernel
theorem dX8_copyFrom_45 : decode cX8_copyFrom 45 = .ok (.getfield 17, 3) := by decide +kernel
theorem dX8_copyFrom_48 : decode cX8_copyFrom 48 = .ok (.iload_n 2, 1) := by decide +kernel
theorem dX8_copyFrom_49 : decode cX8_copyFrom 49 = .ok (.iaload, 1) := by decide +kernel
theorem dX8_copyFrom_50 : decode cX8_copyFrom 50 = .ok (.iastore, 1) := by decide +kernel
theorem dX8_copyFrom_51 : decode cX8_copyFrom 51 = .ok (.aload_n 0, 1) := by decide +kernel
theorem dX8_copyFrom_52 : decode cX8_copyFrom 52 = .ok (.getfield 21, 3) := by decide +kernel
theorem dX8_copyFrom_55 : decode cX8_copyFrom 55 = .ok (.iload_n 2, 1) := by decide +kernel
theorem dX8_copyFrom_56 : decode cX8_copyFrom 56 = .ok (.aload_n 1, 1) := by decide +kernel
theorem dX8_copyFrom_57 : decode cX8_copyFrom 57 = .ok (.getfield 21, 3) := by decide +kernel
theorem dX8_copyFrom_60 : decode cX8_copyFrom 60 = .ok (.iload_n 2, 1) := by decide +kernel
theorem dX8_copyFrom_61 : decode cX8_copyFrom 61 = .ok (.iaload, 1) := by decide +kernel
theorem dX8_copyFrom_62 : decode cX8_copyFrom 62 = .ok (.iastore, 1) := by decide +kernel
theorem dX8_copyFrom_63 : decode cX8_copyFrom 63 = .ok (.iinc 2 1, 3) := by decide +kernel
theorem dX8_copyFrom_66 : decode cX8_copyFrom 66 = .ok (.goto (-48), 3) := by decide +kernel
theorem dX8_copyFrom_69 : decode cX8_copyFrom 69 = .ok (.return_, 1) := by decide +kernel
set_option maxRecDepth 20000 in
theorem ggX8_read_X8_forget : GoodIn wsX8_read wsX8_forget := goodIn_r _ [5, 6, 7, 156, 157, 158, 159, 160, 161] rfl rfl
set_option maxRecDepth 20000 in
theorem gX8_read_X8_forget : GoodIn wsX8_read (wsV RX8 34 RX8 yX8_forget wsX8_forget) := goodIn_app (goodIn_r _ [1, 2, 3, 4] rfl rfl) ggX8_read_X8_forget
set_option maxRecDepth 20000 in
theorem ggX8_read_X8_readCond : GoodIn wsX8_read wsX8_readCond := goodIn_r _ [11, 12, 13, 14, 15, 4, 16, 17, 18, 19, 20, 21, 22, 23, 24, 25, 26, 27, 28, 29, 30, 31, 32, 33, 34, 35, 36, 37, 38, 39, 40, 41, 42, 43, 44, 45, 46, 47, 48, 49, 50, 51, 52, 53, 54, 55, 56, 57, 58, 59, 60, 61, 62, 63, 64, 65, 66, 67, 68, 69, 70, 71, 72, 73, 74, 75, 76, 77, 78, 79, 80, 81, 82, 83, 84, 85, 86, 87, 88, 89, 90, 91, 92, 93, 94, 95, 96, 97, 98, 99, 100, 101, 7, 102, 103, 104, 105, 106, 107, 108, 109, 110, 6, 111, 112, 113, 114, 115, 116, 117, 118, 119, 120, 121, 122, 123, 124, 8, 9, 10, 125, 126, 127, 128, 129, 130, 131, 132, 133, 134, 135, 136, 137, 138, 139, 140, 141, 142, 143, 144, 145, 146, 147, 148, 162, 163, 164, 165, 166, 167, 168, 169, 170, 171, 172, 156, 157, 158, 159, 160, 161, 173, 174, 175, 176, 177, 178, 179, 180, 181, 182, 183] rfl rfl
set_option maxRecDepth 20000 in
theorem gX8_read_X8_readCond : GoodIn wsX8_read (wsV RX8 37 RX8 yX8_readCond wsX8_readCond) := goodIn_app (goodIn_r _ [8, 9, 10, 4] rfl rfl) ggX8_read_X8_readCond
set_option maxRecDepth 20000 in
theorem ggX8_read_X4_needsEnd : GoodIn wsX8_read wsX4_needsEnd := goodIn_r _ [151, 152, 153, 154, 17, 155, 20, 129, 120, 121, 122, 123, 34, 124, 162, 163, 164, 165, 166, 167, 168, 169, 170, 171, 172] rfl rfl
set_option maxRecDepth 20000 in
theorem gX8_read_X4_needsEnd_n41 : GoodIn wsX8_read (wsX4_needsEnd) := ggX8_read_X4_needsEnd
theorem dX8_read_0 : decode cX8_read 0 = .ok (.aload_n 0, 1) := by decide +kernel
theorem dX8_read_1 : decode cX8_read 1 = .ok (.invokevirtual 34, 3) := by decide +kernel
theorem dX8_read_4 : decode cX8_read 4 = .ok (.aload_n 0, 1) := by decide +kernel
theorem dX8_read_5 : decode cX8_read 5 = .ok (.aload_n 1, 1) := by decide +kernel
theorem dX8_read_6 : decode cX8_read 6 = .ok (.aload_n 2, 1) := by decide +kernel
theorem dX8_read_7 : decode cX8_read 7 = .ok (.iconst 1, 1) := by decide +kernel
theorem dX8_read_8 : decode cX8_read 8 = .ok (.invokevirtual 37, 3) := by decide +kernel
theorem dX8_read_11 : decode cX8_read 11 = .ok (.ifCond .eq 14, 3) := by decide +kernel
theorem dX8_read_14 : decode cX8_read 14 = .ok (.aload_n 1, 1) := by decide +kernel
theorem dX8_read_15 : decode cX8_read 15 = .ok (.invokevirtual 41, 3) := by decide +kernel
theorem dX8_read_18 : decode cX8_read 18 = .ok (.ifCond .eq 7, 3) := by decide +kernel
theorem dX8_read_21 : decode cX8_read 21 = .ok (.iconst 1, 1) := by decide +kernel
theorem dX8_read_22 : decode cX8_read 22 = .ok (.goto 4, 3) := by decide +kernel
theorem dX8_read_25 : decode cX8_read 25 = .ok (.iconst 0, 1) := by decide +kernel
theorem dX8_read_26 : decode cX8_read 26 = .ok (.ireturn, 1) := by decide +kernel
set_option maxRecDepth 20000 in
theorem ggX8_readCond_X8_readAll : GoodIn wsX8_readCond wsX8_readAll := goodIn_r _ [96, 97, 98, 99, 100, 5, 6, 7, 8, 9, 10, 11, 12, 13, 14, 15, 16, 17, 18, 19, 20, 21, 22, 23, 24, 25, 26, 27, 28, 29, 30, 31, 32, 33, 34, 35, 36, 37, 38, 39, 40, 41, 42, 43, 44, 45, 46, 47, 48, 49, 50, 51, 52, 53, 54, 55, 56, 57, 58, 59, 60, 61, 62, 63, 64, 65, 66, 67, 68, 69, 70, 71, 72, 73, 74, 75, 76, 77, 78, 79, 80, 81, 82, 83, 84, 85, 86, 87, 88, 89, 90, 91, 92, 93, 94, 95, 0, 1, 2, 3, 4, 101, 102, 103, 104, 105, 106, 107, 108, 109, 110, 111, 112, 113, 114, 115, 116, 117, 118, 119, 120, 121, 122, 123, 124, 125, 126, 127, 128, 129, 130, 131, 132, 133, 134, 135, 136, 137, 138, 139, 140, 141, 142, 143, 144, 145, 146, 147, 148, 149, 150, 151, 152, 153, 154, 155, 156, 157, 158, 159, 160, 161, 162, 163, 164, 165, 166, 167, 168, 169, 170, 171] rfl rfl
set_option maxRecDepth 20000 in
theorem gX8_readCond_X8_readAll : GoodIn wsX8_readCond (wsV RX8 47 RX8 yX8_readAll wsX8_readAll) := goodIn_app (goodIn_r _ [2, 3, 4, 5] rfl rfl) ggX8_readCond_X8_readAll
set_option maxRecDepth 20000 in
theorem ggX8_readCond_X4_seesWord : GoodIn wsX8_readCond wsX4_seesWord := goodIn_r _ [9, 10, 11, 144, 145, 146, 147, 148, 149, 150, 151, 152, 153, 154] rfl rfl
set_option maxRecDepth 20000 in
theorem gX8_readCond_X4_seesWord_n54 : GoodIn wsX8_readCond (wsX4_seesWord) := ggX8_readCond_X4_seesWord
set_option maxRecDepth 20000 in
theorem ggX8_readCond_X4_advance : GoodIn wsX8_readCond wsX4_advance := goodIn_r _ [14, 15, 16, 17, 18, 19, 20, 21, 22, 23, 11, 24, 10, 25, 26, 27, 28, 7, 29, 30, 31, 32, 33, 34, 35, 36, 37, 38, 39, 40, 41, 42, 43, 44, 45, 46, 47, 48, 49, 50, 51, 52, 53, 54, 55, 56, 57, 58, 59, 60, 61, 62, 63, 64, 65, 66, 67, 68, 69, 70, 71, 72, 73, 74, 75, 76, 77, 78, 79, 80, 81, 82, 83, 84, 85, 86, 87, 144, 145, 146, 147, 148, 149, 150, 151, 152, 153, 154] rfl rfl
set_option maxRecDepth 20000 in
theorem gX8_readCond_X4_advance_n58 : GoodIn wsX8_readCond (wsX4_advance) := ggX8_readCond_X4_advance
set_option maxRecDepth 20000 in
theorem ggX8_readCond_X8_keepWord : GoodIn wsX8_readCond wsX8_keepWord := goodIn_r _ [91, 92, 93, 94, 95, 155, 156, 157, 158, 159, 160] rfl rfl
set_option maxRecDepth 20000 in
theorem gX8_readCond_X8_keepWord : GoodIn wsX8_readCond (wsV RX8 61 RX8 yX8_keepWord wsX8_keepWord) := goodIn_app (goodIn_r _ [88, 89, 90, 5] rfl rfl) ggX8_readCond_X8_keepWord
theorem dX8_readCond_0 : decode cX8_readCond 0 = .ok (.aload_n 0, 1) := by decide +kernel
theorem dX8_readCond_1 : decode cX8_readCond 1 = .ok (.aload_n 1, 1) := by decide +kernel
theorem dX8_readCond_2 : decode cX8_readCond 2 = .ok (.aload_n 2, 1) := by decide +kernel
theorem dX8_readCond_3 : decode cX8_readCond 3 = .ok (.iload_n 3, 1) := by decide +kernel
theorem dX8_readCond_4 : decode cX8_readCond 4 = .ok (.invokevirtual 47, 3) := by decide +kernel
theorem dX8_readCond_7 : decode cX8_readCond 7 = .ok (.ifCond .ne 5, 3) := by decide +kernel
theorem dX8_readCond_10 : decode cX8_readCond 10 = .ok (.iconst 0, 1) := by decide +kernel
theorem dX8_readCond_11 : decode cX8_readCond 11 = .ok (.ireturn, 1) := by decide +kernel
theorem dX8_readCond_12 : decode cX8_readCond 12 = .ok (.iconst 0, 1) := by decide +kernel
theorem dX8_readCond_13 : decode cX8_readCond 13 = .ok (.istore 4, 2) := by decide +kernel
theorem dX8_readCond_15 : decode cX8_readCond 15 = .ok (.iload 4, 2) := by decide +kernel
theorem dX8_readCond_17 : decode cX8_readCond 17 = .ok (.bipush 20, 2) := by decide +kernel
theorem dX8_readCond_19 : decode cX8_readCond 19 = .ok (.if_icmp .ge 45, 3) := by decide +kernel
theorem dX8_readCond_22 : decode cX8_readCond 22 = .ok (.aload_n 1, 1) := by decide +kernel
theorem dX8_readCond_23 : decode cX8_readCond 23 = .ok (.getstatic 50, 3) := by decide +kernel
theorem dX8_readCond_26 : decode cX8_readCond 26 = .ok (.invokevirtual 54, 3) := by decide +kernel
theorem dX8_readCond_29 : decode cX8_readCond 29 = .ok (.ifCond .eq 35, 3) := by decide +kernel
theorem dX8_readCond_32 : decode cX8_readCond 32 = .ok (.aload_n 1, 1) := by decide +kernel
theorem dX8_readCond_33 : decode cX8_readCond 33 = .ok (.invokevirtual 58, 3) := by decide +kernel
theorem dX8_readCond_36 : decode cX8_readCond 36 = .ok (.aload_n 0, 1) := by decide +kernel
theorem dX8_readCond_37 : decode cX8_readCond 37 = .ok (.aload_n 1, 1) := by decide +kernel
theorem dX8_readCond_38 : decode cX8_readCond 38 = .ok (.aload_n 2, 1) := by decide +kernel
theorem dX8_readCond_39 : decode cX8_readCond 39 = .ok (.iload_n 3, 1) := by decide +kernel
theorem dX8_readCond_40 : decode cX8_readCond 40 = .ok (.invokevirtual 47, 3) := by decide +kernel
theorem dX8_readCond_43 : decode cX8_readCond 43 = .ok (.ifCond .ne 5, 3) := by decide +kernel
theorem dX8_readCond_46 : decode cX8_readCond 46 = .ok (.iconst 0, 1) := by decide +kernel
theorem dX8_readCond_47 : decode cX8_readCond 47 = .ok (.ireturn, 1) := by decide +kernel
theorem dX8_readCond_48 : decode cX8_readCond 48 = .ok (.aload_n 0, 1) := by decide +kernel
theorem dX8_readCond_49 : decode cX8_readCond 49 = .ok (.getstatic 50, 3) := by decide +kernel
theorem dX8_readCond_52 : decode cX8_readCond 52 = .ok (.iconst 0, 1) := by decide +kernel
theorem dX8_readCond_53 : decode cX8_readCond 53 = .ok (.iconst 0, 1) := by decide +kernel
theorem dX8_readCond_54 : decode cX8_readCond 54 = .ok (.invokevirtual 61, 3) := by decide +kernel
theorem dX8_readCond_57 : decode cX8_readCond 57 = .ok (.pop, 1) := by decide +kernel
theorem dX8_readCond_58 : decode cX8_readCond 58 = .ok (.iinc 4 1, 3) := by decide +kernel
theorem dX8_readCond_61 : decode cX8_readCond 61 = .ok (.goto (-46), 3) := by decide +kernel
theorem dX8_readCond_64 : decode cX8_readCond 64 = .ok (.iconst 1, 1) := by decide +kernel
theorem dX8_readCond_65 : decode cX8_readCond 65 = .ok (.ireturn, 1) := by decide +kernel
set_option maxRecDepth 20000 in
theorem ggX8_readAll_X8_readOne : GoodIn wsX8_readAll wsX8_readOne := goodIn_r _ [101, 102, 103, 104, 105, 106, 107, 108, 109, 7, 110, 111, 10, 25, 112, 113, 114, 115, 24, 116, 12, 13, 14, 15, 16, 17, 18, 19, 20, 21, 22, 23, 11, 26, 27, 28, 29, 30, 31, 32, 33, 34, 35, 36, 37, 38, 39, 40, 41, 42, 43, 44, 45, 46, 47, 48, 49, 50, 51, 52, 53, 54, 55, 56, 57, 58, 59, 60, 61, 62, 63, 64, 65, 66, 67, 68, 69, 70, 71, 72, 73, 74, 75, 76, 77, 78, 79, 80, 81, 82, 83, 84, 85, 86, 87, 117, 118, 119, 5, 120, 121, 122, 123, 124, 125, 2, 3, 4, 88, 89, 90, 91, 92, 93, 94, 95, 126, 127, 128, 129, 130, 131, 132, 133, 6, 8, 9, 134, 135, 136, 137, 138, 139, 140, 141, 142, 143, 0, 1, 96, 97, 98, 99, 100, 144, 145, 146, 147, 148, 149, 150, 151, 152, 153, 154, 155, 156, 157, 158, 159, 160, 161, 162, 163, 164, 165, 166, 167, 168, 169, 170, 171] rfl rfl
set_option maxRecDepth 20000 in
theorem gX8_readAll_X8_readOne : GoodIn wsX8_readAll (wsV RX8 65 RX8 yX8_readOne wsX8_readOne) := goodIn_app (goodIn_r _ [2, 3, 4, 5] rfl rfl) ggX8_readAll_X8_readOne
set_option maxRecDepth 20000 in
theorem ggX8_readAll_X4_seesWord : GoodIn wsX8_readAll wsX4_seesWord := goodIn_r _ [9, 10, 11, 144, 145, 146, 147, 148, 149, 150, 151, 152, 153, 154] rfl rfl
set_option maxRecDepth 20000 in
theorem gX8_readAll_X4_seesWord_n54 : GoodIn wsX8_readAll (wsX4_seesWord) := ggX8_readAll_X4_seesWord
set_option maxRecDepth 20000 in
theorem ggX8_readAll_X4_advance : GoodIn wsX8_readAll wsX4_advance := goodIn_r _ [14, 15, 16, 17, 18, 19, 20, 21, 22, 23, 11, 24, 10, 25, 26, 27, 28, 7, 29, 30, 31, 32, 33, 34, 35, 36, 37, 38, 39, 40, 41, 42, 43, 44, 45, 46, 47, 48, 49, 50, 51, 52, 53, 54, 55, 56, 57, 58, 59, 60, 61, 62, 63, 64, 65, 66, 67, 68, 69, 70, 71, 72, 73, 74, 75, 76, 77, 78, 79, 80, 81, 82, 83, 84, 85, 86, 87, 144, 145, 146, 147, 148, 149, 150, 151, 152, 153, 154] rfl rfl
set_option maxRecDepth 20000 in
theorem gX8_readAll_X4_advance_n58 : GoodIn wsX8_readAll (wsX4_advance) := ggX8_readAll_X4_advance
set_option maxRecDepth 20000 in
theorem ggX8_readAll_X8_keepWord : GoodIn wsX8_readAll wsX8_keepWord := goodIn_r _ [91, 92, 93, 94, 95, 155, 156, 157, 158, 159, 160] rfl rfl
set_option maxRecDepth 20000 in
theorem gX8_readAll_X8_keepWord : GoodIn wsX8_readAll (wsV RX8 61 RX8 yX8_keepWord wsX8_keepWord) := goodIn_app (goodIn_r _ [88, 89, 90, 5] rfl rfl) ggX8_readAll_X8_keepWord
theorem dX8_readAll_0 : decode cX8_readAll 0 = .ok (.aload_n 0, 1) := by decide +kernel
theorem dX8_readAll_1 : decode cX8_readAll 1 = .ok (.aload_n 1, 1) := by decide +kernel
theorem dX8_readAll_2 : decode cX8_readAll 2 = .ok (.aload_n 2, 1) := by decide +kernel
theorem dX8_readAll_3 : decode cX8_readAll 3 = .ok (.iload_n 3, 1) := by decide +kernel
theorem dX8_readAll_4 : decode cX8_readAll 4 = .ok (.invokevirtual 65, 3) := by decide +kernel
theorem dX8_readAll_7 : decode cX8_readAll 7 = .ok (.ifCond .ne 5, 3) := by decide +kernel
theorem dX8_readAll_10 : decode cX8_readAll 10 = .ok (.iconst 0, 1) := by decide +kernel
theorem dX8_readAll_11 : decode cX8_readAll 11 = .ok (.ireturn, 1) := by decide +kernel
theorem dX8_readAll_12 : decode cX8_readAll 12 = .ok (.iconst 0, 1) := by decide +kernel
theorem dX8_readAll_13 : decode cX8_readAll 13 = .ok (.istore 4, 2) := by decide +kernel
theorem dX8_readAll_15 : decode cX8_readAll 15 = .ok (.iload 4, 2) := by decide +kernel
theorem dX8_readAll_17 : decode cX8_readAll 17 = .ok (.bipush 20, 2) := by decide +kernel
theorem dX8_readAll_19 : decode cX8_readAll 19 = .ok (.if_icmp .ge 45, 3) := by decide +kernel
theorem dX8_readAll_22 : decode cX8_readAll 22 = .ok (.aload_n 1, 1) := by decide +kernel
theorem dX8_readAll_23 : decode cX8_readAll 23 = .ok (.getstatic 68, 3) := by decide +kernel
theorem dX8_readAll_26 : decode cX8_readAll 26 = .ok (.invokevirtual 54, 3) := by decide +kernel
theorem dX8_readAll_29 : decode cX8_readAll 29 = .ok (.ifCond .eq 35, 3) := by decide +kernel
theorem dX8_readAll_32 : decode cX8_readAll 32 = .ok (.aload_n 1, 1) := by decide +kernel
theorem dX8_readAll_33 : decode cX8_readAll 33 = .ok (.invokevirtual 58, 3) := by decide +kernel
theorem dX8_readAll_36 : decode cX8_readAll 36 = .ok (.aload_n 0, 1) := by decide +kernel
theorem dX8_readAll_37 : decode cX8_readAll 37 = .ok (.aload_n 1, 1) := by decide +kernel
theorem dX8_readAll_38 : decode cX8_readAll 38 = .ok (.aload_n 2, 1) := by decide +kernel
theorem dX8_readAll_39 : decode cX8_readAll 39 = .ok (.iload_n 3, 1) := by decide +kernel
theorem dX8_readAll_40 : decode cX8_readAll 40 = .ok (.invokevirtual 65, 3) := by decide +kernel
theorem dX8_readAll_43 : decode cX8_readAll 43 = .ok (.ifCond .ne 5, 3) := by decide +kernel
theorem dX8_readAll_46 : decode cX8_readAll 46 = .ok (.iconst 0, 1) := by decide +kernel
theorem dX8_readAll_47 : decode cX8_readAll 47 = .ok (.ireturn, 1) := by decide +kernel
theorem dX8_readAll_48 : decode cX8_readAll 48 = .ok (.aload_n 0, 1) := by decide +kernel
theorem dX8_readAll_49 : decode cX8_readAll 49 = .ok (.getstatic 68, 3) := by decide +kernel
theorem dX8_readAll_52 : decode cX8_readAll 52 = .ok (.iconst 0, 1) := by decide +kernel
theorem dX8_readAll_53 : decode cX8_readAll 53 = .ok (.iconst 0, 1) := by decide +kernel
theorem dX8_readAll_54 : decode cX8_readAll 54 = .ok (.invokevirtual 61, 3) := by decide +kernel
theorem dX8_readAll_57 : decode cX8_readAll 57 = .ok (.pop, 1) := by decide +kernel
theorem dX8_readAll_58 : decode cX8_readAll 58 = .ok (.iinc 4 1, 3) := by decide +kernel
theorem dX8_readAll_61 : decode cX8_readAll 61 = .ok (.goto (-46), 3) := by decide +kernel
theorem dX8_readAll_64 : decode cX8_readAll 64 = .ok (.iconst 1, 1) := by decide +kernel
theorem dX8_readAll_65 : decode cX8_readAll 65 = .ok (.ireturn, 1) := by decide +kernel
set_option maxRecDepth 20000 in
theorem ggX8_readOne_X4_seesSign : GoodIn wsX8_readOne wsX4_seesSign := goodIn_r _ [11, 12, 13, 144, 145, 146, 147, 148, 149, 150, 151, 152, 153, 154] rfl rfl
set_option maxRecDepth 20000 in
theorem gX8_readOne_X4_seesSign_n71 : GoodIn wsX8_readOne (wsX4_seesSign) := ggX8_readOne_X4_seesSign
set_option maxRecDepth 20000 in
theorem ggX8_readOne_X4_refuse : GoodIn wsX8_readOne wsX4_refuse := goodIn_r _ [16, 17, 18, 19, 144, 145, 146, 147, 148, 149, 150, 151, 152, 153, 154] rfl rfl
set_option maxRecDepth 20000 in
theorem gX8_readOne_X4_refuse_n82 : GoodIn wsX8_readOne (wsX4_refuse) := ggX8_readOne_X4_refuse
set_option maxRecDepth 20000 in
theorem ggX8_readOne_X4_advance : GoodIn wsX8_readOne wsX4_advance := goodIn_r _ [22, 23, 24, 25, 26, 27, 28, 29, 30, 31, 32, 18, 12, 13, 33, 34, 35, 9, 36, 37, 38, 39, 40, 41, 42, 43, 44, 45, 46, 47, 48, 49, 50, 51, 52, 53, 54, 55, 56, 57, 58, 59, 60, 61, 62, 63, 64, 65, 66, 67, 68, 69, 70, 71, 72, 73, 74, 75, 76, 77, 78, 79, 80, 81, 82, 83, 84, 85, 86, 87, 88, 89, 90, 91, 92, 93, 94, 144, 145, 146, 147, 148, 149, 150, 151, 152, 153, 154] rfl rfl
set_option maxRecDepth 20000 in
theorem gX8_readOne_X4_advance_n58 : GoodIn wsX8_readOne (wsX4_advance) := ggX8_readOne_X4_advance
set_option maxRecDepth 20000 in
theorem ggX8_readOne_X8_readCond : GoodIn wsX8_readOne wsX8_readCond := goodIn_r _ [139, 140, 141, 142, 143, 98, 124, 9, 125, 126, 12, 32, 20, 21, 22, 23, 24, 25, 26, 27, 28, 29, 30, 31, 18, 13, 33, 34, 35, 36, 37, 38, 39, 40, 41, 42, 43, 44, 45, 46, 47, 48, 49, 50, 51, 52, 53, 54, 55, 56, 57, 58, 59, 60, 61, 62, 63, 64, 65, 66, 67, 68, 69, 70, 71, 72, 73, 74, 75, 76, 77, 78, 79, 80, 81, 82, 83, 84, 85, 86, 87, 88, 89, 90, 91, 92, 93, 94, 108, 109, 110, 111, 112, 113, 114, 115, 137, 138, 105, 106, 107, 0, 1, 2, 3, 4, 5, 6, 7, 8, 10, 11, 14, 15, 16, 17, 19, 95, 96, 97, 99, 100, 101, 102, 103, 104, 116, 117, 118, 119, 120, 121, 122, 123, 127, 128, 129, 130, 131, 132, 133, 134, 135, 136, 144, 145, 146, 147, 148, 149, 150, 151, 152, 153, 154, 155, 156, 157, 158, 159, 160, 161, 162, 163, 164, 165, 166, 167, 168, 169, 170, 171] rfl rfl
set_option maxRecDepth 20000 in
theorem gX8_readOne_X8_readCond : GoodIn wsX8_readOne (wsV RX8 37 RX8 yX8_readCond wsX8_readCond) := goodIn_app (goodIn_r _ [95, 96, 97, 98] rfl rfl) ggX8_readOne_X8_readCond
set_option maxRecDepth 20000 in
theorem ggX8_readOne_X4_passSign : GoodIn wsX8_readOne wsX4_passSign := goodIn_r _ [101, 102, 8, 10, 9, 11, 12, 13, 103, 14, 15, 16, 17, 18, 19, 104, 20, 21, 22, 23, 24, 25, 26, 27, 28, 29, 30, 31, 32, 33, 34, 35, 36, 37, 38, 39, 40, 41, 42, 43, 44, 45, 46, 47, 48, 49, 50, 51, 52, 53, 54, 55, 56, 57, 58, 59, 60, 61, 62, 63, 64, 65, 66, 67, 68, 69, 70, 71, 72, 73, 74, 75, 76, 77, 78, 79, 80, 81, 82, 83, 84, 85, 86, 87, 88, 89, 90, 91, 92, 93, 94, 144, 145, 146, 147, 148, 149, 150, 151, 152, 153, 154] rfl rfl
set_option maxRecDepth 20000 in
theorem gX8_readOne_X4_passSign_n85 : GoodIn wsX8_readOne (wsX4_passSign) := ggX8_readOne_X4_passSign
set_option maxRecDepth 20000 in
theorem ggX8_readOne_X8_readOne : GoodIn wsX8_readOne wsX8_readOne := goodIn_r _ [0, 1, 2, 3, 4, 5, 6, 7, 8, 9, 10, 11, 12, 13, 14, 15, 16, 17, 18, 19, 20, 21, 22, 23, 24, 25, 26, 27, 28, 29, 30, 31, 32, 33, 34, 35, 36, 37, 38, 39, 40, 41, 42, 43, 44, 45, 46, 47, 48, 49, 50, 51, 52, 53, 54, 55, 56, 57, 58, 59, 60, 61, 62, 63, 64, 65, 66, 67, 68, 69, 70, 71, 72, 73, 74, 75, 76, 77, 78, 79, 80, 81, 82, 83, 84, 85, 86, 87, 88, 89, 90, 91, 92, 93, 94, 95, 96, 97, 98, 99, 100, 101, 102, 103, 104, 105, 106, 107, 108, 109, 110, 111, 112, 113, 114, 115, 116, 117, 118, 119, 120, 121, 122, 123, 124, 125, 126, 127, 128, 129, 130, 131, 132, 133, 134, 135, 136, 137, 138, 139, 140, 141, 142, 143, 144, 145, 146, 147, 148, 149, 150, 151, 152, 153, 154, 155, 156, 157, 158, 159, 160, 161, 162, 163, 164, 165, 166, 167, 168, 169, 170, 171] rfl rfl
set_option maxRecDepth 20000 in
theorem gX8_readOne_X8_readOne : GoodIn wsX8_readOne (wsV RX8 65 RX8 yX8_readOne wsX8_readOne) := goodIn_app (goodIn_r _ [105, 106, 107, 98] rfl rfl) ggX8_readOne_X8_readOne
set_option maxRecDepth 20000 in
theorem ggX8_readOne_X8_keepWord : GoodIn wsX8_readOne wsX8_keepWord := goodIn_r _ [111, 112, 113, 114, 115, 155, 156, 157, 158, 159, 160] rfl rfl
set_option maxRecDepth 20000 in
theorem gX8_readOne_X8_keepWord : GoodIn wsX8_readOne (wsV RX8 61 RX8 yX8_keepWord wsX8_keepWord) := goodIn_app (goodIn_r _ [108, 109, 110, 98] rfl rfl) ggX8_readOne_X8_keepWord
set_option maxRecDepth 20000 in
theorem ggX8_readOne_X8_readNamed : GoodIn wsX8_readOne wsX8_readNamed := goodIn_r _ [119, 120, 9, 121, 122, 31, 37, 123, 124, 125, 126, 12, 32, 103, 14, 15, 16, 17, 18, 19, 127, 128, 129, 20, 21, 22, 23, 24, 25, 26, 27, 28, 29, 30, 13, 33, 34, 35, 36, 38, 39, 40, 41, 42, 43, 44, 45, 46, 47, 48, 49, 50, 51, 52, 53, 54, 55, 56, 57, 58, 59, 60, 61, 62, 63, 64, 65, 66, 67, 68, 69, 70, 71, 72, 73, 74, 75, 76, 77, 78, 79, 80, 81, 82, 83, 84, 85, 86, 87, 88, 89, 90, 91, 92, 93, 94, 108, 109, 110, 98, 111, 112, 113, 114, 115, 144, 145, 146, 147, 148, 149, 150, 151, 152, 153, 154, 155, 156, 157, 158, 159, 160] rfl rfl
set_option maxRecDepth 20000 in
theorem gX8_readOne_X8_readNamed : GoodIn wsX8_readOne (wsV RX8 103 RX8 yX8_readNamed wsX8_readNamed) := goodIn_app (goodIn_r _ [116, 117, 118, 98] rfl rfl) ggX8_readOne_X8_readNamed
set_option maxRecDepth 20000 in
theorem ggX8_readOne_X8_readComparison : GoodIn wsX8_readOne wsX8_readComparison := goodIn_r _ [133, 8, 9, 10, 11, 12, 13, 14, 15, 16, 17, 18, 19, 20, 21, 22, 23, 24, 25, 26, 27, 28, 29, 30, 31, 32, 33, 34, 35, 36, 37, 38, 39, 40, 41, 42, 43, 44, 45, 46, 47, 48, 49, 50, 51, 52, 53, 54, 55, 56, 57, 58, 59, 60, 61, 62, 63, 64, 65, 66, 67, 68, 69, 70, 71, 72, 73, 74, 75, 76, 77, 78, 79, 80, 81, 82, 83, 84, 85, 86, 87, 88, 89, 90, 91, 92, 93, 94, 134, 135, 136, 103, 108, 109, 110, 98, 111, 112, 113, 114, 115, 144, 145, 146, 147, 148, 149, 150, 151, 152, 153, 154, 155, 156, 157, 158, 159, 160] rfl rfl
set_option maxRecDepth 20000 in
theorem gX8_readOne_X8_readComparison : GoodIn wsX8_readOne (wsV RX8 125 RX8 yX8_readComparison wsX8_readComparison) := goodIn_app (goodIn_r _ [130, 131, 132, 98] rfl rfl) ggX8_readOne_X8_readComparison
theorem dX8_readOne_0 : decode cX8_readOne 0 = .ok (.aload_n 1, 1) := by decide +kernel
theorem dX8_readOne_1 : decode cX8_readOne 1 = .ok (.bipush 40, 2) := by decide +kernel
theorem dX8_readOne_3 : decode cX8_readOne 3 = .ok (.invokevirtual 71, 3) := by decide +kernel
theorem dX8_readOne_6 : decode cX8_readOne 6 = .ok (.istore 4, 2) := by decide +kernel
theorem dX8_readOne_8 : decode cX8_readOne 8 = .ok (.aload_n 1, 1) := by decide +kernel
theorem dX8_readOne_9 : decode cX8_readOne 9 = .ok (.getfield 75, 3) := by decide +kernel
theorem dX8_readOne_12 : decode cX8_readOne 12 = .ok (.astore 5, 2) := by decide +kernel
theorem dX8_readOne_14 : decode cX8_readOne 14 = .ok (.iload 4, 2) := by decide +kernel
theorem dX8_readOne_16 : decode cX8_readOne 16 = .ok (.ifCond .ne 17, 3) := by decide +kernel
theorem dX8_readOne_19 : decode cX8_readOne 19 = .ok (.aload 5, 2) := by decide +kernel
theorem dX8_readOne_21 : decode cX8_readOne 21 = .ok (.getfield 78, 3) := by decide +kernel
theorem dX8_readOne_24 : decode cX8_readOne 24 = .ok (.ifCond .ne 9, 3) := by decide +kernel
theorem dX8_readOne_27 : decode cX8_readOne 27 = .ok (.aload_n 1, 1) := by decide +kernel
theorem dX8_readOne_28 : decode cX8_readOne 28 = .ok (.iconst 1, 1) := by decide +kernel
theorem dX8_readOne_29 : decode cX8_readOne 29 = .ok (.invokevirtual 82, 3) := by decide +kernel
theorem dX8_readOne_32 : decode cX8_readOne 32 = .ok (.ireturn, 1) := by decide +kernel
theorem dX8_readOne_33 : decode cX8_readOne 33 = .ok (.aload_n 0, 1) := by decide +kernel
theorem dX8_readOne_34 : decode cX8_readOne 34 = .ok (.getfield 31, 3) := by decide +kernel
theorem dX8_readOne_37 : decode cX8_readOne 37 = .ok (.bipush 20, 2) := by decide +kernel
theorem dX8_readOne_39 : decode cX8_readOne 39 = .ok (.if_icmp .ge 9, 3) := by decide +kernel
theorem dX8_readOne_42 : decode cX8_readOne 42 = .ok (.iload_n 3, 1) := by decide +kernel
theorem dX8_readOne_43 : decode cX8_readOne 43 = .ok (.bipush 8, 2) := by decide +kernel
theorem dX8_readOne_45 : decode cX8_readOne 45 = .ok (.if_icmp .le 9, 3) := by decide +kernel
theorem dX8_readOne_48 : decode cX8_readOne 48 = .ok (.aload_n 1, 1) := by decide +kernel
theorem dX8_readOne_49 : decode cX8_readOne 49 = .ok (.iconst 4, 1) := by decide +kernel
theorem dX8_readOne_50 : decode cX8_readOne 50 = .ok (.invokevirtual 82, 3) := by decide +kernel
theorem dX8_readOne_53 : decode cX8_readOne 53 = .ok (.ireturn, 1) := by decide +kernel
theorem dX8_readOne_54 : decode cX8_readOne 54 = .ok (.aload_n 0, 1) := by decide +kernel
theorem dX8_readOne_55 : decode cX8_readOne 55 = .ok (.dup, 1) := by decide +kernel
theorem dX8_readOne_56 : decode cX8_readOne 56 = .ok (.getfield 31, 3) := by decide +kernel
theorem dX8_readOne_59 : decode cX8_readOne 59 = .ok (.iconst 1, 1) := by decide +kernel
theorem dX8_readOne_60 : decode cX8_readOne 60 = .ok (.iadd, 1) := by decide +kernel
theorem dX8_readOne_61 : decode cX8_readOne 61 = .ok (.putfield 31, 3) := by decide +kernel
theorem dX8_readOne_64 : decode cX8_readOne 64 = .ok (.aload_n 1, 1) := by decide +kernel
theorem dX8_readOne_65 : decode cX8_readOne 65 = .ok (.invokevirtual 58, 3) := by decide +kernel
theorem dX8_readOne_68 : decode cX8_readOne 68 = .ok (.iload 4, 2) := by decide +kernel
theorem dX8_readOne_70 : decode cX8_readOne 70 = .ok (.ifCond .eq 30, 3) := by decide +kernel
theorem dX8_readOne_73 : decode cX8_readOne 73 = .ok (.aload_n 0, 1) := by decide +kernel
theorem dX8_readOne_74 : decode cX8_readOne 74 = .ok (.aload_n 1, 1) := by decide +kernel
theorem dX8_readOne_75 : decode cX8_readOne 75 = .ok (.aload_n 2, 1) := by decide +kernel
theorem dX8_readOne_76 : decode cX8_readOne 76 = .ok (.iload_n 3, 1) := by decide +kernel
theorem dX8_readOne_77 : decode cX8_readOne 77 = .ok (.iconst 1, 1) := by decide +kernel
theorem dX8_readOne_78 : decode cX8_readOne 78 = .ok (.iadd, 1) := by decide +kernel
theorem dX8_readOne_79 : decode cX8_readOne 79 = .ok (.invokevirtual 37, 3) := by decide +kernel
theorem dX8_readOne_82 : decode cX8_readOne 82 = .ok (.ifCond .eq 16, 3) := by decide +kernel
theorem dX8_readOne_85 : decode cX8_readOne 85 = .ok (.aload_n 1, 1) := by decide +kernel
theorem dX8_readOne_86 : decode cX8_readOne 86 = .ok (.bipush 41, 2) := by decide +kernel
theorem dX8_readOne_88 : decode cX8_readOne 88 = .ok (.invokevirtual 85, 3) := by decide +kernel
theorem dX8_readOne_91 : decode cX8_readOne 91 = .ok (.ifCond .eq 7, 3) := by decide +kernel
theorem dX8_readOne_94 : decode cX8_readOne 94 = .ok (.iconst 1, 1) := by decide +kernel
theorem dX8_readOne_95 : decode cX8_readOne 95 = .ok (.goto 4, 3) := by decide +kernel
theorem dX8_readOne_98 : decode cX8_readOne 98 = .ok (.iconst 0, 1) := by decide +kernel
theorem dX8_readOne_99 : decode cX8_readOne 99 = .ok (.ireturn, 1) := by decide +kernel
theorem dX8_readOne_100 : decode cX8_readOne 100 = .ok (.aload 5, 2) := by decide +kernel
theorem dX8_readOne_102 : decode cX8_readOne 102 = .ok (.getstatic 88, 3) := by decide +kernel
theorem dX8_readOne_105 : decode cX8_readOne 105 = .ok (.if_acmp .ne 33, 3) := by decide +kernel
theorem dX8_readOne_108 : decode cX8_readOne 108 = .ok (.aload_n 0, 1) := by decide +kernel
theorem dX8_readOne_109 : decode cX8_readOne 109 = .ok (.aload_n 1, 1) := by decide +kernel
theorem dX8_readOne_110 : decode cX8_readOne 110 = .ok (.aload_n 2, 1) := by decide +kernel
theorem dX8_readOne_111 : decode cX8_readOne 111 = .ok (.iload_n 3, 1) := by decide +kernel
theorem dX8_readOne_112 : decode cX8_readOne 112 = .ok (.iconst 1, 1) := by decide +kernel
theorem dX8_readOne_113 : decode cX8_readOne 113 = .ok (.iadd, 1) := by decide +kernel
theorem dX8_readOne_114 : decode cX8_readOne 114 = .ok (.invokevirtual 65, 3) := by decide +kernel
theorem dX8_readOne_117 : decode cX8_readOne 117 = .ok (.ifCond .eq 19, 3) := by decide +kernel
theorem dX8_readOne_120 : decode cX8_readOne 120 = .ok (.aload_n 0, 1) := by decide +kernel
theorem dX8_readOne_121 : decode cX8_readOne 121 = .ok (.getstatic 88, 3) := by decide +kernel
theorem dX8_readOne_124 : decode cX8_readOne 124 = .ok (.iconst 0, 1) := by decide +kernel
theorem dX8_readOne_125 : decode cX8_readOne 125 = .ok (.iconst 0, 1) := by decide +kernel
theorem dX8_readOne_126 : decode cX8_readOne 126 = .ok (.invokevirtual 61, 3) := by decide +kernel
theorem dX8_readOne_129 : decode cX8_readOne 129 = .ok (.ifCond .eq 7, 3) := by decide +kernel
theorem dX8_readOne_132 : decode cX8_readOne 132 = .ok (.iconst 1, 1) := by decide +kernel
theorem dX8_readOne_133 : decode cX8_readOne 133 = .ok (.goto 4, 3) := by decide +kernel
theorem dX8_readOne_136 : decode cX8_readOne 136 = .ok (.iconst 0, 1) := by decide +kernel
theorem dX8_readOne_137 : decode cX8_readOne 137 = .ok (.ireturn, 1) := by decide +kernel
theorem dX8_readOne_138 : decode cX8_readOne 138 = .ok (.aload 5, 2) := by decide +kernel
theorem dX8_readOne_140 : decode cX8_readOne 140 = .ok (.getstatic 91, 3) := by decide +kernel
theorem dX8_readOne_143 : decode cX8_readOne 143 = .ok (.if_acmp .ne 19, 3) := by decide +kernel
theorem dX8_readOne_146 : decode cX8_readOne 146 = .ok (.aload_n 0, 1) := by decide +kernel
theorem dX8_readOne_147 : decode cX8_readOne 147 = .ok (.aload_n 1, 1) := by decide +kernel
theorem dX8_readOne_148 : decode cX8_readOne 148 = .ok (.aload 5, 2) := by decide +kernel
theorem dX8_readOne_150 : decode cX8_readOne 150 = .ok (.aload_n 2, 1) := by decide +kernel
theorem dX8_readOne_151 : decode cX8_readOne 151 = .ok (.getfield 94, 3) := by decide +kernel
theorem dX8_readOne_154 : decode cX8_readOne 154 = .ok (.aload_n 2, 1) := by decide +kernel
theorem dX8_readOne_155 : decode cX8_readOne 155 = .ok (.getfield 100, 3) := by decide +kernel
theorem dX8_readOne_158 : decode cX8_readOne 158 = .ok (.invokevirtual 103, 3) := by decide +kernel
theorem dX8_readOne_161 : decode cX8_readOne 161 = .ok (.ireturn, 1) := by decide +kernel
theorem dX8_readOne_162 : decode cX8_readOne 162 = .ok (.aload 5, 2) := by decide +kernel
theorem dX8_readOne_164 : decode cX8_readOne 164 = .ok (.getstatic 107, 3) := by decide +kernel
theorem dX8_readOne_167 : decode cX8_readOne 167 = .ok (.if_acmp .ne 19, 3) := by decide +kernel
theorem dX8_readOne_170 : decode cX8_readOne 170 = .ok (.aload_n 0, 1) := by decide +kernel
theorem dX8_readOne_171 : decode cX8_readOne 171 = .ok (.aload_n 1, 1) := by decide +kernel
theorem dX8_readOne_172 : decode cX8_readOne 172 = .ok (.aload 5, 2) := by decide +kernel
theorem dX8_readOne_174 : decode cX8_readOne 174 = .ok (.aload_n 2, 1) := by decide +kernel
theorem dX8_readOne_175 : decode cX8_readOne 175 = .ok (.getfield 110, 3) := by decide +kernel
theorem dX8_readOne_178 : decode cX8_readOne 178 = .ok (.aload_n 2, 1) := by decide +kernel
theorem dX8_readOne_179 : decode cX8_readOne 179 = .ok (.getfield 113, 3) := by decide +kernel
theorem dX8_readOne_182 : decode cX8_readOne 182 = .ok (.invokevirtual 103, 3) := by decide +kernel
theorem dX8_readOne_185 : decode cX8_readOne 185 = .ok (.ireturn, 1) := by decide +kernel
theorem dX8_readOne_186 : decode cX8_readOne 186 = .ok (.aload 5, 2) := by decide +kernel
theorem dX8_readOne_188 : decode cX8_readOne 188 = .ok (.getstatic 116, 3) := by decide +kernel
theorem dX8_readOne_191 : decode cX8_readOne 191 = .ok (.if_acmp .eq 19, 3) := by decide +kernel
theorem dX8_readOne_194 : decode cX8_readOne 194 = .ok (.aload 5, 2) := by decide +kernel
theorem dX8_readOne_196 : decode cX8_readOne 196 = .ok (.getstatic 119, 3) := by decide +kernel
theorem dX8_readOne_199 : decode cX8_readOne 199 = .ok (.if_acmp .eq 11, 3) := by decide +kernel
theorem dX8_readOne_202 : decode cX8_readOne 202 = .ok (.aload 5, 2) := by decide +kernel
theorem dX8_readOne_204 : decode cX8_readOne 204 = .ok (.getstatic 122, 3) := by decide +kernel
theorem dX8_readOne_207 : decode cX8_readOne 207 = .ok (.if_acmp .ne 11, 3) := by decide +kernel
theorem dX8_readOne_210 : decode cX8_readOne 210 = .ok (.aload_n 0, 1) := by decide +kernel
theorem dX8_readOne_211 : decode cX8_readOne 211 = .ok (.aload_n 1, 1) := by decide +kernel
theorem dX8_readOne_212 : decode cX8_readOne 212 = .ok (.aload 5, 2) := by decide +kernel
theorem dX8_readOne_214 : decode cX8_readOne 214 = .ok (.invokevirtual 125, 3) := by decide +kernel
theorem dX8_readOne_217 : decode cX8_readOne 217 = .ok (.ireturn, 1) := by decide +kernel
theorem dX8_readOne_218 : decode cX8_readOne 218 = .ok (.aload_n 0, 1) := by decide +kernel
theorem dX8_readOne_219 : decode cX8_readOne 219 = .ok (.aload 5, 2) := by decide +kernel
theorem dX8_readOne_221 : decode cX8_readOne 221 = .ok (.iconst 0, 1) := by decide +kernel
theorem dX8_readOne_222 : decode cX8_readOne 222 = .ok (.iconst 0, 1) := by decide +kernel
theorem dX8_readOne_223 : decode cX8_readOne 223 = .ok (.invokevirtual 61, 3) := by decide +kernel
theorem dX8_readOne_226 : decode cX8_readOne 226 = .ok (.ireturn, 1) := by decide +kernel
set_option maxRecDepth 20000 in
theorem ggX8_readNamed_X4_neededOf : GoodIn wsX8_readNamed wsX4_neededOf := goodIn_r _ [4, 5, 6, 7, 8, 9, 2, 10, 11, 12, 13, 14, 15, 16, 17, 18, 19, 20, 21, 22, 105, 106, 107, 108, 109, 110, 111, 112, 113, 114, 115] rfl rfl
set_option maxRecDepth 20000 in
theorem gX8_readNamed_X4_neededOf_n129 : GoodIn wsX8_readNamed (wsX4_neededOf) := ggX8_readNamed_X4_neededOf
set_option maxRecDepth 20000 in
theorem ggX8_readNamed_X4_advance : GoodIn wsX8_readNamed wsX4_advance := goodIn_r _ [25, 26, 27, 28, 29, 30, 31, 32, 33, 5, 12, 18, 11, 34, 35, 36, 37, 2, 38, 6, 39, 40, 41, 42, 43, 44, 45, 46, 47, 48, 49, 50, 51, 52, 53, 54, 55, 56, 57, 58, 59, 60, 61, 62, 63, 64, 65, 66, 67, 68, 69, 70, 71, 72, 73, 74, 75, 76, 77, 78, 79, 80, 81, 82, 83, 84, 85, 86, 87, 88, 89, 90, 91, 92, 93, 94, 95, 105, 106, 107, 108, 109, 110, 111, 112, 113, 114, 115] rfl rfl
set_option maxRecDepth 20000 in
theorem gX8_readNamed_X4_advance_n58 : GoodIn wsX8_readNamed (wsX4_advance) := ggX8_readNamed_X4_advance
set_option maxRecDepth 20000 in
theorem ggX8_readNamed_X8_keepWord : GoodIn wsX8_readNamed wsX8_keepWord := goodIn_r _ [100, 101, 102, 103, 104, 116, 117, 118, 119, 120, 121] rfl rfl
set_option maxRecDepth 20000 in
theorem gX8_readNamed_X8_keepWord : GoodIn wsX8_readNamed (wsV RX8 61 RX8 yX8_keepWord wsX8_keepWord) := goodIn_app (goodIn_r _ [96, 97, 98, 99] rfl rfl) ggX8_readNamed_X8_keepWord
theorem dX8_readNamed_0 : decode cX8_readNamed 0 = .ok (.aload_n 1, 1) := by decide +kernel
theorem dX8_readNamed_1 : decode cX8_readNamed 1 = .ok (.aload_n 3, 1) := by decide +kernel
theorem dX8_readNamed_2 : decode cX8_readNamed 2 = .ok (.iload 4, 2) := by decide +kernel
theorem dX8_readNamed_4 : decode cX8_readNamed 4 = .ok (.invokevirtual 129, 3) := by decide +kernel
theorem dX8_readNamed_7 : decode cX8_readNamed 7 = .ok (.istore 5, 2) := by decide +kernel
theorem dX8_readNamed_9 : decode cX8_readNamed 9 = .ok (.iload 5, 2) := by decide +kernel
theorem dX8_readNamed_11 : decode cX8_readNamed 11 = .ok (.iconst (-1), 1) := by decide +kernel
theorem dX8_readNamed_12 : decode cX8_readNamed 12 = .ok (.if_icmp .ne 5, 3) := by decide +kernel
theorem dX8_readNamed_15 : decode cX8_readNamed 15 = .ok (.iconst 0, 1) := by decide +kernel
theorem dX8_readNamed_16 : decode cX8_readNamed 16 = .ok (.ireturn, 1) := by decide +kernel
theorem dX8_readNamed_17 : decode cX8_readNamed 17 = .ok (.aload_n 1, 1) := by decide +kernel
theorem dX8_readNamed_18 : decode cX8_readNamed 18 = .ok (.invokevirtual 58, 3) := by decide +kernel
theorem dX8_readNamed_21 : decode cX8_readNamed 21 = .ok (.aload_n 0, 1) := by decide +kernel
theorem dX8_readNamed_22 : decode cX8_readNamed 22 = .ok (.aload_n 2, 1) := by decide +kernel
theorem dX8_readNamed_23 : decode cX8_readNamed 23 = .ok (.iconst 0, 1) := by decide +kernel
theorem dX8_readNamed_24 : decode cX8_readNamed 24 = .ok (.iload 5, 2) := by decide +kernel
theorem dX8_readNamed_26 : decode cX8_readNamed 26 = .ok (.invokevirtual 61, 3) := by decide +kernel
theorem dX8_readNamed_29 : decode cX8_readNamed 29 = .ok (.ireturn, 1) := by decide +kernel
set_option maxRecDepth 20000 in
theorem ggX8_readComparison_X4_seesSign : GoodIn wsX8_readComparison wsX4_seesSign := goodIn_r _ [4, 5, 6, 101, 102, 103, 104, 105, 106, 107, 108, 109, 110, 111] rfl rfl
set_option maxRecDepth 20000 in
theorem gX8_readComparison_X4_seesSign_n71 : GoodIn wsX8_readComparison (wsX4_seesSign) := ggX8_readComparison_X4_seesSign
set_option maxRecDepth 20000 in
theorem ggX8_readComparison_X4_refuse : GoodIn wsX8_readComparison wsX4_refuse := goodIn_r _ [9, 10, 11, 12, 101, 102, 103, 104, 105, 106, 107, 108, 109, 110, 111] rfl rfl
set_option maxRecDepth 20000 in
theorem gX8_readComparison_X4_refuse_n82 : GoodIn wsX8_readComparison (wsX4_refuse) := ggX8_readComparison_X4_refuse
set_option maxRecDepth 20000 in
theorem ggX8_readComparison_X4_advance : GoodIn wsX8_readComparison wsX4_advance := goodIn_r _ [15, 16, 17, 18, 19, 20, 21, 22, 23, 24, 25, 11, 5, 6, 26, 27, 28, 2, 29, 30, 31, 32, 33, 34, 35, 36, 37, 38, 39, 40, 41, 42, 43, 44, 45, 46, 47, 48, 49, 50, 51, 52, 53, 54, 55, 56, 57, 58, 59, 60, 61, 62, 63, 64, 65, 66, 67, 68, 69, 70, 71, 72, 73, 74, 75, 76, 77, 78, 79, 80, 81, 82, 83, 84, 85, 86, 87, 101, 102, 103, 104, 105, 106, 107, 108, 109, 110, 111] rfl rfl
set_option maxRecDepth 20000 in
theorem gX8_readComparison_X4_advance_n58 : GoodIn wsX8_readComparison (wsX4_advance) := ggX8_readComparison_X4_advance
set_option maxRecDepth 20000 in
theorem ggX8_readComparison_X4_needsNumber : GoodIn wsX8_readComparison wsX4_needsNumber := goodIn_r _ [90, 5, 6, 91, 7, 8, 2, 9, 10, 11, 12, 101, 102, 103, 104, 105, 106, 107, 108, 109, 110, 111] rfl rfl
set_option maxRecDepth 20000 in
theorem gX8_readComparison_X4_needsNumber_n136 : GoodIn wsX8_readComparison (wsX4_needsNumber) := ggX8_readComparison_X4_needsNumber
set_option maxRecDepth 20000 in
theorem ggX8_readComparison_X8_keepWord : GoodIn wsX8_readComparison wsX8_keepWord := goodIn_r _ [96, 97, 98, 99, 100, 112, 113, 114, 115, 116, 117] rfl rfl
set_option maxRecDepth 20000 in
theorem gX8_readComparison_X8_keepWord : GoodIn wsX8_readComparison (wsV RX8 61 RX8 yX8_keepWord wsX8_keepWord) := goodIn_app (goodIn_r _ [92, 93, 94, 95] rfl rfl) ggX8_readComparison_X8_keepWord
theorem dX8_readComparison_0 : decode cX8_readComparison 0 = .ok (.aload_n 1, 1) := by decide +kernel
theorem dX8_readComparison_1 : decode cX8_readComparison 1 = .ok (.bipush 60, 2) := by decide +kernel
theorem dX8_readComparison_3 : decode cX8_readComparison 3 = .ok (.invokevirtual 71, 3) := by decide +kernel
theorem dX8_readComparison_6 : decode cX8_readComparison 6 = .ok (.ifCond .ne 27, 3) := by decide +kernel
theorem dX8_readComparison_9 : decode cX8_readComparison 9 = .ok (.aload_n 1, 1) := by decide +kernel
theorem dX8_readComparison_10 : decode cX8_readComparison 10 = .ok (.bipush 61, 2) := by decide +kernel
theorem dX8_readComparison_12 : decode cX8_readComparison 12 = .ok (.invokevirtual 71, 3) := by decide +kernel
theorem dX8_readComparison_15 : decode cX8_readComparison 15 = .ok (.ifCond .ne 18, 3) := by decide +kernel
theorem dX8_readComparison_18 : decode cX8_readComparison 18 = .ok (.aload_n 1, 1) := by decide +kernel
theorem dX8_readComparison_19 : decode cX8_readComparison 19 = .ok (.bipush 62, 2) := by decide +kernel
theorem dX8_readComparison_21 : decode cX8_readComparison 21 = .ok (.invokevirtual 71, 3) := by decide +kernel
theorem dX8_readComparison_24 : decode cX8_readComparison 24 = .ok (.ifCond .ne 9, 3) := by decide +kernel
theorem dX8_readComparison_27 : decode cX8_readComparison 27 = .ok (.aload_n 1, 1) := by decide +kernel
theorem dX8_readComparison_28 : decode cX8_readComparison 28 = .ok (.iconst 1, 1) := by decide +kernel
theorem dX8_readComparison_29 : decode cX8_readComparison 29 = .ok (.invokevirtual 82, 3) := by decide +kernel
theorem dX8_readComparison_32 : decode cX8_readComparison 32 = .ok (.ireturn, 1) := by decide +kernel
theorem dX8_readComparison_33 : decode cX8_readComparison 33 = .ok (.aload_n 1, 1) := by decide +kernel
theorem dX8_readComparison_34 : decode cX8_readComparison 34 = .ok (.getfield 133, 3) := by decide +kernel
theorem dX8_readComparison_37 : decode cX8_readComparison 37 = .ok (.istore_n 3, 1) := by decide +kernel
theorem dX8_readComparison_38 : decode cX8_readComparison 38 = .ok (.aload_n 1, 1) := by decide +kernel
theorem dX8_readComparison_39 : decode cX8_readComparison 39 = .ok (.invokevirtual 58, 3) := by decide +kernel
theorem dX8_readComparison_42 : decode cX8_readComparison 42 = .ok (.aload_n 1, 1) := by decide +kernel
theorem dX8_readComparison_43 : decode cX8_readComparison 43 = .ok (.iconst 0, 1) := by decide +kernel
theorem dX8_readComparison_44 : decode cX8_readComparison 44 = .ok (.sipush 999, 3) := by decide +kernel
theorem dX8_readComparison_47 : decode cX8_readComparison 47 = .ok (.invokevirtual 136, 3) := by decide +kernel
theorem dX8_readComparison_50 : decode cX8_readComparison 50 = .ok (.ifCond .ne 5, 3) := by decide +kernel
theorem dX8_readComparison_53 : decode cX8_readComparison 53 = .ok (.iconst 0, 1) := by decide +kernel
theorem dX8_readComparison_54 : decode cX8_readComparison 54 = .ok (.ireturn, 1) := by decide +kernel
theorem dX8_readComparison_55 : decode cX8_readComparison 55 = .ok (.aload_n 1, 1) := by decide +kernel
theorem dX8_readComparison_56 : decode cX8_readComparison 56 = .ok (.getfield 133, 3) := by decide +kernel
theorem dX8_readComparison_59 : decode cX8_readComparison 59 = .ok (.istore 4, 2) := by decide +kernel
theorem dX8_readComparison_61 : decode cX8_readComparison 61 = .ok (.aload_n 1, 1) := by decide +kernel
theorem dX8_readComparison_62 : decode cX8_readComparison 62 = .ok (.invokevirtual 58, 3) := by decide +kernel
theorem dX8_readComparison_65 : decode cX8_readComparison 65 = .ok (.aload_n 0, 1) := by decide +kernel
theorem dX8_readComparison_66 : decode cX8_readComparison 66 = .ok (.aload_n 2, 1) := by decide +kernel
theorem dX8_readComparison_67 : decode cX8_readComparison 67 = .ok (.iload_n 3, 1) := by decide +kernel
theorem dX8_readComparison_68 : decode cX8_readComparison 68 = .ok (.iload 4, 2) := by decide +kernel
theorem dX8_readComparison_70 : decode cX8_readComparison 70 = .ok (.invokevirtual 61, 3) := by decide +kernel
theorem dX8_readComparison_73 : decode cX8_readComparison 73 = .ok (.ireturn, 1) := by decide +kernel
theorem dX8_keepWord_0 : decode cX8_keepWord 0 = .ok (.aload_n 0, 1) := by decide +kernel
theorem dX8_keepWord_1 : decode cX8_keepWord 1 = .ok (.getfield 27, 3) := by decide +kernel
theorem dX8_keepWord_4 : decode cX8_keepWord 4 = .ok (.aload_n 0, 1) := by decide +kernel
theorem dX8_keepWord_5 : decode cX8_keepWord 5 = .ok (.getfield 13, 3) := by decide +kernel
theorem dX8_keepWord_8 : decode cX8_keepWord 8 = .ok (.arraylength, 1) := by decide +kernel
theorem dX8_keepWord_9 : decode cX8_keepWord 9 = .ok (.if_icmp .ge 43, 3) := by decide +kernel
theorem dX8_keepWord_12 : decode cX8_keepWord 12 = .ok (.aload_n 0, 1) := by decide +kernel
theorem dX8_keepWord_13 : decode cX8_keepWord 13 = .ok (.getfield 13, 3) := by decide +kernel
theorem dX8_keepWord_16 : decode cX8_keepWord 16 = .ok (.aload_n 0, 1) := by decide +kernel
theorem dX8_keepWord_17 : decode cX8_keepWord 17 = .ok (.getfield 27, 3) := by decide +kernel
theorem dX8_keepWord_20 : decode cX8_keepWord 20 = .ok (.aload_n 1, 1) := by decide +kernel
theorem dX8_keepWord_21 : decode cX8_keepWord 21 = .ok (.aastore, 1) := by decide +kernel
theorem dX8_keepWord_22 : decode cX8_keepWord 22 = .ok (.aload_n 0, 1) := by decide +kernel
theorem dX8_keepWord_23 : decode cX8_keepWord 23 = .ok (.getfield 17, 3) := by decide +kernel
theorem dX8_keepWord_26 : decode cX8_keepWord 26 = .ok (.aload_n 0, 1) := by decide +kernel
theorem dX8_keepWord_27 : decode cX8_keepWord 27 = .ok (.getfield 27, 3) := by decide +kernel
theorem dX8_keepWord_30 : decode cX8_keepWord 30 = .ok (.iload_n 2, 1) := by decide +kernel
theorem dX8_keepWord_31 : decode cX8_keepWord 31 = .ok (.iastore, 1) := by decide +kernel
theorem dX8_keepWord_32 : decode cX8_keepWord 32 = .ok (.aload_n 0, 1) := by decide +kernel
theorem dX8_keepWord_33 : decode cX8_keepWord 33 = .ok (.getfield 21, 3) := by decide +kernel
theorem dX8_keepWord_36 : decode cX8_keepWord 36 = .ok (.aload_n 0, 1) := by decide +kernel
theorem dX8_keepWord_37 : decode cX8_keepWord 37 = .ok (.getfield 27, 3) := by decide +kernel
theorem dX8_keepWord_40 : decode cX8_keepWord 40 = .ok (.iload_n 3, 1) := by decide +kernel
theorem dX8_keepWord_41 : decode cX8_keepWord 41 = .ok (.iastore, 1) := by decide +kernel
theorem dX8_keepWord_42 : decode cX8_keepWord 42 = .ok (.aload_n 0, 1) := by decide +kernel
theorem dX8_keepWord_43 : decode cX8_keepWord 43 = .ok (.dup, 1) := by decide +kernel
theorem dX8_keepWord_44 : decode cX8_keepWord 44 = .ok (.getfield 27, 3) := by decide +kernel
theorem dX8_keepWord_47 : decode cX8_keepWord 47 = .ok (.iconst 1, 1) := by decide +kernel
theorem dX8_keepWord_48 : decode cX8_keepWord 48 = .ok (.iadd, 1) := by decide +kernel
theorem dX8_keepWord_49 : decode cX8_keepWord 49 = .ok (.putfield 27, 3) := by decide +kernel
theorem dX8_keepWord_52 : decode cX8_keepWord 52 = .ok (.iconst 1, 1) := by decide +kernel
theorem dX8_keepWord_53 : decode cX8_keepWord 53 = .ok (.ireturn, 1) := by decide +kernel
set_option maxRecDepth 20000 in
theorem ggX8_machinesOf_X8_machinesOfPlain : GoodIn wsX8_machinesOf wsX8_machinesOfPlain := goodIn_r _ [11, 12, 13, 14, 10, 15, 2, 16, 17, 18, 19, 20, 21, 22, 23, 24, 25, 26, 27, 28, 29, 30, 31, 32, 33, 34, 35, 36, 37, 38, 39, 40, 41, 42, 43, 44, 45, 46, 47, 48, 49, 50, 51, 52, 53, 54, 55, 56, 57, 58, 59, 60, 61, 62, 63, 64, 65, 66, 67, 68, 69, 70, 71, 72, 73, 74, 75, 76, 77, 78, 79, 80, 81, 82, 83, 84, 85, 86, 87, 88, 89, 90, 91, 92] rfl rfl
set_option maxRecDepth 20000 in
theorem gX8_machinesOf_X8_machinesOfPlain : GoodIn wsX8_machinesOf (wsV RX8 140 RX8 yX8_machinesOfPlain wsX8_machinesOfPlain) := goodIn_app (goodIn_r _ [7, 8, 9, 10] rfl rfl) ggX8_machinesOf_X8_machinesOfPlain
theorem dX8_machinesOf_0 : decode cX8_machinesOf 0 = .ok (.iconst 1, 1) := by decide +kernel
theorem dX8_machinesOf_1 : decode cX8_machinesOf 1 = .ok (.aload_n 1, 1) := by decide +kernel
theorem dX8_machinesOf_2 : decode cX8_machinesOf 2 = .ok (.getfield 113, 3) := by decide +kernel
theorem dX8_machinesOf_5 : decode cX8_machinesOf 5 = .ok (.ishl, 1) := by decide +kernel
theorem dX8_machinesOf_6 : decode cX8_machinesOf 6 = .ok (.iconst 1, 1) := by decide +kernel
theorem dX8_machinesOf_7 : decode cX8_machinesOf 7 = .ok (.isub, 1) := by decide +kernel
theorem dX8_machinesOf_8 : decode cX8_machinesOf 8 = .ok (.istore_n 3, 1) := by decide +kernel
theorem dX8_machinesOf_9 : decode cX8_machinesOf 9 = .ok (.iconst 0, 1) := by decide +kernel
theorem dX8_machinesOf_10 : decode cX8_machinesOf 10 = .ok (.istore 4, 2) := by decide +kernel
theorem dX8_machinesOf_12 : decode cX8_machinesOf 12 = .ok (.iconst 0, 1) := by decide +kernel
theorem dX8_machinesOf_13 : decode cX8_machinesOf 13 = .ok (.istore 5, 2) := by decide +kernel
theorem dX8_machinesOf_15 : decode cX8_machinesOf 15 = .ok (.iload 5, 2) := by decide +kernel
theorem dX8_machinesOf_17 : decode cX8_machinesOf 17 = .ok (.aload_n 0, 1) := by decide +kernel
theorem dX8_machinesOf_18 : decode cX8_machinesOf 18 = .ok (.getfield 27, 3) := by decide +kernel
theorem dX8_machinesOf_21 : decode cX8_machinesOf 21 = .ok (.if_icmp .ge 173, 3) := by decide +kernel
theorem dX8_machinesOf_24 : decode cX8_machinesOf 24 = .ok (.iload 5, 2) := by decide +kernel
theorem dX8_machinesOf_26 : decode cX8_machinesOf 26 = .ok (.aload_n 0, 1) := by decide +kernel
theorem dX8_machinesOf_27 : decode cX8_machinesOf 27 = .ok (.getfield 13, 3) := by decide +kernel
theorem dX8_machinesOf_30 : decode cX8_machinesOf 30 = .ok (.arraylength, 1) := by decide +kernel
theorem dX8_machinesOf_31 : decode cX8_machinesOf 31 = .ok (.if_icmp .ge 163, 3) := by decide +kernel
theorem dX8_machinesOf_34 : decode cX8_machinesOf 34 = .ok (.aload_n 0, 1) := by decide +kernel
theorem dX8_machinesOf_35 : decode cX8_machinesOf 35 = .ok (.getfield 13, 3) := by decide +kernel
theorem dX8_machinesOf_38 : decode cX8_machinesOf 38 = .ok (.iload 5, 2) := by decide +kernel
theorem dX8_machinesOf_40 : decode cX8_machinesOf 40 = .ok (.aaload, 1) := by decide +kernel
theorem dX8_machinesOf_41 : decode cX8_machinesOf 41 = .ok (.astore 6, 2) := by decide +kernel
theorem dX8_machinesOf_43 : decode cX8_machinesOf 43 = .ok (.aload 6, 2) := by decide +kernel
theorem dX8_machinesOf_45 : decode cX8_machinesOf 45 = .ok (.getstatic 88, 3) := by decide +kernel
theorem dX8_machinesOf_48 : decode cX8_machinesOf 48 = .ok (.if_acmp .ne 34, 3) := by decide +kernel
theorem dX8_machinesOf_51 : decode cX8_machinesOf 51 = .ok (.iload 4, 2) := by decide +kernel
theorem dX8_machinesOf_53 : decode cX8_machinesOf 53 = .ok (.iconst 1, 1) := by decide +kernel
theorem dX8_machinesOf_54 : decode cX8_machinesOf 54 = .ok (.if_icmp .lt 28, 3) := by decide +kernel
theorem dX8_machinesOf_57 : decode cX8_machinesOf 57 = .ok (.aload_n 0, 1) := by decide +kernel
theorem dX8_machinesOf_58 : decode cX8_machinesOf 58 = .ok (.getfield 24, 3) := by decide +kernel
theorem dX8_machinesOf_61 : decode cX8_machinesOf 61 = .ok (.iload 4, 2) := by decide +kernel
theorem dX8_machinesOf_63 : decode cX8_machinesOf 63 = .ok (.iconst 1, 1) := by decide +kernel
theorem dX8_machinesOf_64 : decode cX8_machinesOf 64 = .ok (.isub, 1) := by decide +kernel
theorem dX8_machinesOf_65 : decode cX8_machinesOf 65 = .ok (.iload_n 3, 1) := by decide +kernel
theorem dX8_machinesOf_66 : decode cX8_machinesOf 66 = .ok (.aload_n 0, 1) := by decide +kernel
theorem dX8_machinesOf_67 : decode cX8_machinesOf 67 = .ok (.getfield 24, 3) := by decide +kernel
theorem dX8_machinesOf_70 : decode cX8_machinesOf 70 = .ok (.iload 4, 2) := by decide +kernel
theorem dX8_machinesOf_72 : decode cX8_machinesOf 72 = .ok (.iconst 1, 1) := by decide +kernel
theorem dX8_machinesOf_73 : decode cX8_machinesOf 73 = .ok (.isub, 1) := by decide +kernel
theorem dX8_machinesOf_74 : decode cX8_machinesOf 74 = .ok (.iaload, 1) := by decide +kernel
theorem dX8_machinesOf_75 : decode cX8_machinesOf 75 = .ok (.iconst (-1), 1) := by decide +kernel
theorem dX8_machinesOf_76 : decode cX8_machinesOf 76 = .ok (.ixor, 1) := by decide +kernel
theorem dX8_machinesOf_77 : decode cX8_machinesOf 77 = .ok (.iand, 1) := by decide +kernel
theorem dX8_machinesOf_78 : decode cX8_machinesOf 78 = .ok (.iastore, 1) := by decide +kernel
theorem dX8_machinesOf_79 : decode cX8_machinesOf 79 = .ok (.goto 109, 3) := by decide +kernel
theorem dX8_machinesOf_82 : decode cX8_machinesOf 82 = .ok (.aload 6, 2) := by decide +kernel
theorem dX8_machinesOf_84 : decode cX8_machinesOf 84 = .ok (.getstatic 68, 3) := by decide +kernel
theorem dX8_machinesOf_87 : decode cX8_machinesOf 87 = .ok (.if_acmp .ne 34, 3) := by decide +kernel
theorem dX8_machinesOf_90 : decode cX8_machinesOf 90 = .ok (.iload 4, 2) := by decide +kernel
theorem dX8_machinesOf_92 : decode cX8_machinesOf 92 = .ok (.iconst 2, 1) := by decide +kernel
theorem dX8_machinesOf_93 : decode cX8_machinesOf 93 = .ok (.if_icmp .lt 28, 3) := by decide +kernel
theorem dX8_machinesOf_96 : decode cX8_machinesOf 96 = .ok (.iinc 4 (-1), 3) := by decide +kernel
theorem dX8_machinesOf_99 : decode cX8_machinesOf 99 = .ok (.aload_n 0, 1) := by decide +kernel
theorem dX8_machinesOf_100 : decode cX8_machinesOf 100 = .ok (.getfield 24, 3) := by decide +kernel
theorem dX8_machinesOf_103 : decode cX8_machinesOf 103 = .ok (.iload 4, 2) := by decide +kernel
theorem dX8_machinesOf_105 : decode cX8_machinesOf 105 = .ok (.iconst 1, 1) := by decide +kernel
theorem dX8_machinesOf_106 : decode cX8_machinesOf 106 = .ok (.isub, 1) := by decide +kernel
theorem dX8_machinesOf_107 : decode cX8_machinesOf 107 = .ok (.dup2, 1) := by decide +kernel
theorem dX8_machinesOf_108 : decode cX8_machinesOf 108 = .ok (.iaload, 1) := by decide +kernel
theorem dX8_machinesOf_109 : decode cX8_machinesOf 109 = .ok (.aload_n 0, 1) := by decide +kernel
theorem dX8_machinesOf_110 : decode cX8_machinesOf 110 = .ok (.getfield 24, 3) := by decide +kernel
theorem dX8_machinesOf_113 : decode cX8_machinesOf 113 = .ok (.iload 4, 2) := by decide +kernel
theorem dX8_machinesOf_115 : decode cX8_machinesOf 115 = .ok (.iaload, 1) := by decide +kernel
theorem dX8_machinesOf_116 : decode cX8_machinesOf 116 = .ok (.iand, 1) := by decide +kernel
theorem dX8_machinesOf_117 : decode cX8_machinesOf 117 = .ok (.iastore, 1) := by decide +kernel
theorem dX8_machinesOf_118 : decode cX8_machinesOf 118 = .ok (.goto 70, 3) := by decide +kernel
theorem dX8_machinesOf_121 : decode cX8_machinesOf 121 = .ok (.aload 6, 2) := by decide +kernel
theorem dX8_machinesOf_123 : decode cX8_machinesOf 123 = .ok (.getstatic 50, 3) := by decide +kernel
theorem dX8_machinesOf_126 : decode cX8_machinesOf 126 = .ok (.if_acmp .ne 34, 3) := by decide +kernel
theorem dX8_machinesOf_129 : decode cX8_machinesOf 129 = .ok (.iload 4, 2) := by decide +kernel
theorem dX8_machinesOf_131 : decode cX8_machinesOf 131 = .ok (.iconst 2, 1) := by decide +kernel
theorem dX8_machinesOf_132 : decode cX8_machinesOf 132 = .ok (.if_icmp .lt 28, 3) := by decide +kernel
theorem dX8_machinesOf_135 : decode cX8_machinesOf 135 = .ok (.iinc 4 (-1), 3) := by decide +kernel
theorem dX8_machinesOf_138 : decode cX8_machinesOf 138 = .ok (.aload_n 0, 1) := by decide +kernel
theorem dX8_machinesOf_139 : decode cX8_machinesOf 139 = .ok (.getfield 24, 3) := by decide +kernel
theorem dX8_machinesOf_142 : decode cX8_machinesOf 142 = .ok (.iload 4, 2) := by decide +kernel
theorem dX8_machinesOf_144 : decode cX8_machinesOf 144 = .ok (.iconst 1, 1) := by decide +kernel
theorem dX8_machinesOf_145 : decode cX8_machinesOf 145 = .ok (.isub, 1) := by decide +kernel
theorem dX8_machinesOf_146 : decode cX8_machinesOf 146 = .ok (.dup2, 1) := by decide +kernel
theorem dX8_machinesOf_147 : decode cX8_machinesOf 147 = .ok (.iaload, 1) := by decide +kernel
theorem dX8_machinesOf_148 : decode cX8_machinesOf 148 = .ok (.aload_n 0, 1) := by decide +kernel
theorem dX8_machinesOf_149 : decode cX8_machinesOf 149 = .ok (.getfield 24, 3) := by decide +kernel
theorem dX8_machinesOf_152 : decode cX8_machinesOf 152 = .ok (.iload 4, 2) := by decide +kernel
theorem dX8_machinesOf_154 : decode cX8_machinesOf 154 = .ok (.iaload, 1) := by decide +kernel
theorem dX8_machinesOf_155 : decode cX8_machinesOf 155 = .ok (.ior, 1) := by decide +kernel
theorem dX8_machinesOf_156 : decode cX8_machinesOf 156 = .ok (.iastore, 1) := by decide +kernel
theorem dX8_machinesOf_157 : decode cX8_machinesOf 157 = .ok (.goto 31, 3) := by decide +kernel
theorem dX8_machinesOf_160 : decode cX8_machinesOf 160 = .ok (.iload 4, 2) := by decide +kernel
theorem dX8_machinesOf_162 : decode cX8_machinesOf 162 = .ok (.aload_n 0, 1) := by decide +kernel
theorem dX8_machinesOf_163 : decode cX8_machinesOf 163 = .ok (.getfield 24, 3) := by decide +kernel
theorem dX8_machinesOf_166 : decode cX8_machinesOf 166 = .ok (.arraylength, 1) := by decide +kernel
theorem dX8_machinesOf_167 : decode cX8_machinesOf 167 = .ok (.if_icmp .ge 21, 3) := by decide +kernel
theorem dX8_machinesOf_170 : decode cX8_machinesOf 170 = .ok (.aload_n 0, 1) := by decide +kernel
theorem dX8_machinesOf_171 : decode cX8_machinesOf 171 = .ok (.getfield 24, 3) := by decide +kernel
theorem dX8_machinesOf_174 : decode cX8_machinesOf 174 = .ok (.iload 4, 2) := by decide +kernel
theorem dX8_machinesOf_176 : decode cX8_machinesOf 176 = .ok (.aload_n 0, 1) := by decide +kernel
theorem dX8_machinesOf_177 : decode cX8_machinesOf 177 = .ok (.iload 5, 2) := by decide +kernel
theorem dX8_machinesOf_179 : decode cX8_machinesOf 179 = .ok (.aload_n 1, 1) := by decide +kernel
theorem dX8_machinesOf_180 : decode cX8_machinesOf 180 = .ok (.aload_n 2, 1) := by decide +kernel
theorem dX8_machinesOf_181 : decode cX8_machinesOf 181 = .ok (.invokevirtual 140, 3) := by decide +kernel
theorem dX8_machinesOf_184 : decode cX8_machinesOf 184 = .ok (.iastore, 1) := by decide +kernel
theorem dX8_machinesOf_185 : decode cX8_machinesOf 185 = .ok (.iinc 4 1, 3) := by decide +kernel
theorem dX8_machinesOf_188 : decode cX8_machinesOf 188 = .ok (.iinc 5 1, 3) := by decide +kernel
theorem dX8_machinesOf_191 : decode cX8_machinesOf 191 = .ok (.goto (-176), 3) := by decide +kernel
theorem dX8_machinesOf_194 : decode cX8_machinesOf 194 = .ok (.iload 4, 2) := by decide +kernel
theorem dX8_machinesOf_196 : decode cX8_machinesOf 196 = .ok (.ifCond .le 12, 3) := by decide +kernel
theorem dX8_machinesOf_199 : decode cX8_machinesOf 199 = .ok (.aload_n 0, 1) := by decide +kernel
theorem dX8_machinesOf_200 : decode cX8_machinesOf 200 = .ok (.getfield 24, 3) := by decide +kernel
theorem dX8_machinesOf_203 : decode cX8_machinesOf 203 = .ok (.iconst 0, 1) := by decide +kernel
theorem dX8_machinesOf_204 : decode cX8_machinesOf 204 = .ok (.iaload, 1) := by decide +kernel
theorem dX8_machinesOf_205 : decode cX8_machinesOf 205 = .ok (.goto 4, 3) := by decide +kernel
theorem dX8_machinesOf_208 : decode cX8_machinesOf 208 = .ok (.iconst 0, 1) := by decide +kernel
theorem dX8_machinesOf_209 : decode cX8_machinesOf 209 = .ok (.ireturn, 1) := by decide +kernel
set_option maxRecDepth 20000 in
theorem ggX8_machinesOfPlain_X8_isSo : GoodIn wsX8_machinesOfPlain wsX8_isSo := goodIn_r _ [5, 6, 7, 8, 9, 10, 11, 12, 13, 14, 15, 16, 17, 18, 19, 20, 21, 22, 23, 24, 25, 26, 27, 28, 29, 30, 31, 32, 33, 34, 35, 36, 37, 38, 39, 40, 41, 42, 43, 44, 45, 46, 47, 48, 49, 50, 51, 52, 53, 54, 55, 56, 57, 69, 70, 71, 72, 73, 74, 75, 76, 77, 78, 79, 80, 81, 82, 83, 58, 59, 60, 61, 62, 63, 64, 65, 66, 67, 68] rfl rfl
set_option maxRecDepth 20000 in
theorem gX8_machinesOfPlain_X8_isSo : GoodIn wsX8_machinesOfPlain (wsV RX8 144 RX8 yX8_isSo wsX8_isSo) := goodIn_app (goodIn_r _ [1, 2, 3, 4] rfl rfl) ggX8_machinesOfPlain_X8_isSo
theorem dX8_machinesOfPlain_0 : decode cX8_machinesOfPlain 0 = .ok (.iconst 0, 1) := by decide +kernel
theorem dX8_machinesOfPlain_1 : decode cX8_machinesOfPlain 1 = .ok (.istore 4, 2) := by decide +kernel
theorem dX8_machinesOfPlain_3 : decode cX8_machinesOfPlain 3 = .ok (.iconst 0, 1) := by decide +kernel
theorem dX8_machinesOfPlain_4 : decode cX8_machinesOfPlain 4 = .ok (.istore 5, 2) := by decide +kernel
theorem dX8_machinesOfPlain_6 : decode cX8_machinesOfPlain 6 = .ok (.iload 5, 2) := by decide +kernel
theorem dX8_machinesOfPlain_8 : decode cX8_machinesOfPlain 8 = .ok (.aload_n 2, 1) := by decide +kernel
theorem dX8_machinesOfPlain_9 : decode cX8_machinesOfPlain 9 = .ok (.getfield 113, 3) := by decide +kernel
theorem dX8_machinesOfPlain_12 : decode cX8_machinesOfPlain 12 = .ok (.if_icmp .ge 30, 3) := by decide +kernel
theorem dX8_machinesOfPlain_15 : decode cX8_machinesOfPlain 15 = .ok (.aload_n 0, 1) := by decide +kernel
theorem dX8_machinesOfPlain_16 : decode cX8_machinesOfPlain 16 = .ok (.iload_n 1, 1) := by decide +kernel
theorem dX8_machinesOfPlain_17 : decode cX8_machinesOfPlain 17 = .ok (.iload 5, 2) := by decide +kernel
theorem dX8_machinesOfPlain_19 : decode cX8_machinesOfPlain 19 = .ok (.aload_n 2, 1) := by decide +kernel
theorem dX8_machinesOfPlain_20 : decode cX8_machinesOfPlain 20 = .ok (.aload_n 3, 1) := by decide +kernel
theorem dX8_machinesOfPlain_21 : decode cX8_machinesOfPlain 21 = .ok (.invokevirtual 144, 3) := by decide +kernel
theorem dX8_machinesOfPlain_24 : decode cX8_machinesOfPlain 24 = .ok (.ifCond .eq 12, 3) := by decide +kernel
theorem dX8_machinesOfPlain_27 : decode cX8_machinesOfPlain 27 = .ok (.iload 4, 2) := by decide +kernel
theorem dX8_machinesOfPlain_29 : decode cX8_machinesOfPlain 29 = .ok (.iconst 1, 1) := by decide +kernel
theorem dX8_machinesOfPlain_30 : decode cX8_machinesOfPlain 30 = .ok (.iload 5, 2) := by decide +kernel
theorem dX8_machinesOfPlain_32 : decode cX8_machinesOfPlain 32 = .ok (.ishl, 1) := by decide +kernel
theorem dX8_machinesOfPlain_33 : decode cX8_machinesOfPlain 33 = .ok (.ior, 1) := by decide +kernel
theorem dX8_machinesOfPlain_34 : decode cX8_machinesOfPlain 34 = .ok (.istore 4, 2) := by decide +kernel
theorem dX8_machinesOfPlain_36 : decode cX8_machinesOfPlain 36 = .ok (.iinc 5 1, 3) := by decide +kernel
theorem dX8_machinesOfPlain_39 : decode cX8_machinesOfPlain 39 = .ok (.goto (-33), 3) := by decide +kernel
theorem dX8_machinesOfPlain_42 : decode cX8_machinesOfPlain 42 = .ok (.iload 4, 2) := by decide +kernel
theorem dX8_machinesOfPlain_44 : decode cX8_machinesOfPlain 44 = .ok (.ireturn, 1) := by decide +kernel
set_option maxRecDepth 20000 in
theorem ggX8_isSo_X3_hasMachine : GoodIn wsX8_isSo wsX3_hasMachine := goodIn_r _ [14, 15, 68, 69, 70, 71, 72, 73, 74, 75, 76, 77, 78] rfl rfl
set_option maxRecDepth 20000 in
theorem gX8_isSo_X3_hasMachine_n148 : GoodIn wsX8_isSo (wsX3_hasMachine) := ggX8_isSo_X3_hasMachine
set_option maxRecDepth 20000 in
theorem ggX8_isSo_X9_isHeld : GoodIn wsX8_isSo wsX9_isHeld := goodIn_r _ [19, 20, 21, 22, 23, 59, 60, 61, 62, 63, 64, 65, 66, 67] rfl rfl
set_option maxRecDepth 20000 in
theorem gX8_isSo_X9_isHeld_n154 : GoodIn wsX8_isSo (wsX9_isHeld) := ggX8_isSo_X9_isHeld
set_option maxRecDepth 20000 in
theorem ggX8_isSo_X9_phrasesAble : GoodIn wsX8_isSo wsX9_phrasesAble := goodIn_r _ [26, 27, 28, 29, 17, 30, 31, 32, 33, 11, 12, 13, 14, 15, 34, 35, 36, 37, 38, 16, 18, 19, 20, 21, 22, 23, 39, 40, 41, 42, 43, 44, 45, 46, 47, 48, 68, 69, 70, 71, 72, 73, 74, 75, 76, 77, 78, 59, 60, 61, 62, 63, 64, 65, 66, 67] rfl rfl
set_option maxRecDepth 20000 in
theorem gX8_isSo_X9_phrasesAble_n168 : GoodIn wsX8_isSo (wsX9_phrasesAble) := ggX8_isSo_X9_phrasesAble
set_option maxRecDepth 20000 in
theorem ggX8_isSo_X9_whyNotWrite : GoodIn wsX8_isSo wsX9_whyNotWrite := goodIn_r _ [30, 31, 32, 33, 11, 12, 13, 14, 15, 34, 35, 36, 37, 38, 16, 18, 17, 19, 20, 21, 22, 23, 39, 40, 41, 42, 43, 44, 45, 46, 47, 48, 59, 60, 61, 62, 63, 64, 65, 66, 67, 68, 69, 70, 71, 72, 73, 74, 75, 76, 77, 78] rfl rfl
set_option maxRecDepth 20000 in
theorem gX8_isSo_X9_whyNotWrite_n172 : GoodIn wsX8_isSo (wsX9_whyNotWrite) := ggX8_isSo_X9_whyNotWrite
set_option maxRecDepth 20000 in
theorem ggX8_isSo_X9_debtOf : GoodIn wsX8_isSo wsX9_debtOf := goodIn_r _ [51, 52, 59, 60, 61, 62, 63, 64, 65, 66, 67] rfl rfl
set_option maxRecDepth 20000 in
theorem gX8_isSo_X9_debtOf_n176 : GoodIn wsX8_isSo (wsX9_debtOf) := ggX8_isSo_X9_debtOf
theorem dX8_isSo_0 : decode cX8_isSo 0 = .ok (.iload_n 1, 1) := by decide +kernel
theorem dX8_isSo_1 : decode cX8_isSo 1 = .ok (.ifCond .lt 20, 3) := by decide +kernel
theorem dX8_isSo_4 : decode cX8_isSo 4 = .ok (.iload_n 1, 1) := by decide +kernel
theorem dX8_isSo_5 : decode cX8_isSo 5 = .ok (.aload_n 0, 1) := by decide +kernel
theorem dX8_isSo_6 : decode cX8_isSo 6 = .ok (.getfield 13, 3) := by decide +kernel
theorem dX8_isSo_9 : decode cX8_isSo 9 = .ok (.arraylength, 1) := by decide +kernel
theorem dX8_isSo_10 : decode cX8_isSo 10 = .ok (.if_icmp .ge 11, 3) := by decide +kernel
theorem dX8_isSo_13 : decode cX8_isSo 13 = .ok (.aload_n 3, 1) := by decide +kernel
theorem dX8_isSo_14 : decode cX8_isSo 14 = .ok (.iload_n 2, 1) := by decide +kernel
theorem dX8_isSo_15 : decode cX8_isSo 15 = .ok (.invokevirtual 148, 3) := by decide +kernel
theorem dX8_isSo_18 : decode cX8_isSo 18 = .ok (.ifCond .ne 5, 3) := by decide +kernel
theorem dX8_isSo_21 : decode cX8_isSo 21 = .ok (.iconst 0, 1) := by decide +kernel
theorem dX8_isSo_22 : decode cX8_isSo 22 = .ok (.ireturn, 1) := by decide +kernel
theorem dX8_isSo_23 : decode cX8_isSo 23 = .ok (.aload_n 0, 1) := by decide +kernel
theorem dX8_isSo_24 : decode cX8_isSo 24 = .ok (.getfield 13, 3) := by decide +kernel
theorem dX8_isSo_27 : decode cX8_isSo 27 = .ok (.iload_n 1, 1) := by decide +kernel
theorem dX8_isSo_28 : decode cX8_isSo 28 = .ok (.aaload, 1) := by decide +kernel
theorem dX8_isSo_29 : decode cX8_isSo 29 = .ok (.astore 5, 2) := by decide +kernel
theorem dX8_isSo_31 : decode cX8_isSo 31 = .ok (.aload 5, 2) := by decide +kernel
theorem dX8_isSo_33 : decode cX8_isSo 33 = .ok (.getstatic 151, 3) := by decide +kernel
theorem dX8_isSo_36 : decode cX8_isSo 36 = .ok (.if_acmp .ne 10, 3) := by decide +kernel
theorem dX8_isSo_39 : decode cX8_isSo 39 = .ok (.aload 4, 2) := by decide +kernel
theorem dX8_isSo_41 : decode cX8_isSo 41 = .ok (.iload_n 2, 1) := by decide +kernel
theorem dX8_isSo_42 : decode cX8_isSo 42 = .ok (.invokevirtual 154, 3) := by decide +kernel
theorem dX8_isSo_45 : decode cX8_isSo 45 = .ok (.ireturn, 1) := by decide +kernel
theorem dX8_isSo_46 : decode cX8_isSo 46 = .ok (.aload 5, 2) := by decide +kernel
theorem dX8_isSo_48 : decode cX8_isSo 48 = .ok (.getstatic 159, 3) := by decide +kernel
theorem dX8_isSo_51 : decode cX8_isSo 51 = .ok (.if_acmp .ne 18, 3) := by decide +kernel
theorem dX8_isSo_54 : decode cX8_isSo 54 = .ok (.aload 4, 2) := by decide +kernel
theorem dX8_isSo_56 : decode cX8_isSo 56 = .ok (.getfield 162, 3) := by decide +kernel
theorem dX8_isSo_59 : decode cX8_isSo 59 = .ok (.iload_n 2, 1) := by decide +kernel
theorem dX8_isSo_60 : decode cX8_isSo 60 = .ok (.if_icmp .ne 7, 3) := by decide +kernel
theorem dX8_isSo_63 : decode cX8_isSo 63 = .ok (.iconst 1, 1) := by decide +kernel
theorem dX8_isSo_64 : decode cX8_isSo 64 = .ok (.goto 4, 3) := by decide +kernel
theorem dX8_isSo_67 : decode cX8_isSo 67 = .ok (.iconst 0, 1) := by decide +kernel
theorem dX8_isSo_68 : decode cX8_isSo 68 = .ok (.ireturn, 1) := by decide +kernel
theorem dX8_isSo_69 : decode cX8_isSo 69 = .ok (.aload 5, 2) := by decide +kernel
theorem dX8_isSo_71 : decode cX8_isSo 71 = .ok (.getstatic 165, 3) := by decide +kernel
theorem dX8_isSo_74 : decode cX8_isSo 74 = .ok (.if_acmp .ne 19, 3) := by decide +kernel
theorem dX8_isSo_77 : decode cX8_isSo 77 = .ok (.aload 4, 2) := by decide +kernel
theorem dX8_isSo_79 : decode cX8_isSo 79 = .ok (.aload_n 3, 1) := by decide +kernel
theorem dX8_isSo_80 : decode cX8_isSo 80 = .ok (.iload_n 2, 1) := by decide +kernel
theorem dX8_isSo_81 : decode cX8_isSo 81 = .ok (.invokevirtual 168, 3) := by decide +kernel
theorem dX8_isSo_84 : decode cX8_isSo 84 = .ok (.ifCond .ne 7, 3) := by decide +kernel
theorem dX8_isSo_87 : decode cX8_isSo 87 = .ok (.iconst 1, 1) := by decide +kernel
theorem dX8_isSo_88 : decode cX8_isSo 88 = .ok (.goto 4, 3) := by decide +kernel
theorem dX8_isSo_91 : decode cX8_isSo 91 = .ok (.iconst 0, 1) := by decide +kernel
theorem dX8_isSo_92 : decode cX8_isSo 92 = .ok (.ireturn, 1) := by decide +kernel
theorem dX8_isSo_93 : decode cX8_isSo 93 = .ok (.aload 5, 2) := by decide +kernel
theorem dX8_isSo_95 : decode cX8_isSo 95 = .ok (.getstatic 91, 3) := by decide +kernel
theorem dX8_isSo_98 : decode cX8_isSo 98 = .ok (.if_acmp .ne 25, 3) := by decide +kernel
theorem dX8_isSo_101 : decode cX8_isSo 101 = .ok (.aload 4, 2) := by decide +kernel
theorem dX8_isSo_103 : decode cX8_isSo 103 = .ok (.aload_n 3, 1) := by decide +kernel
theorem dX8_isSo_104 : decode cX8_isSo 104 = .ok (.iload_n 2, 1) := by decide +kernel
theorem dX8_isSo_105 : decode cX8_isSo 105 = .ok (.aload_n 0, 1) := by decide +kernel
theorem dX8_isSo_106 : decode cX8_isSo 106 = .ok (.getfield 21, 3) := by decide +kernel
theorem dX8_isSo_109 : decode cX8_isSo 109 = .ok (.iload_n 1, 1) := by decide +kernel
theorem dX8_isSo_110 : decode cX8_isSo 110 = .ok (.iaload, 1) := by decide +kernel
theorem dX8_isSo_111 : decode cX8_isSo 111 = .ok (.invokevirtual 172, 3) := by decide +kernel
theorem dX8_isSo_114 : decode cX8_isSo 114 = .ok (.ifCond .ne 7, 3) := by decide +kernel
theorem dX8_isSo_117 : decode cX8_isSo 117 = .ok (.iconst 1, 1) := by decide +kernel
theorem dX8_isSo_118 : decode cX8_isSo 118 = .ok (.goto 4, 3) := by decide +kernel
theorem dX8_isSo_121 : decode cX8_isSo 121 = .ok (.iconst 0, 1) := by decide +kernel
theorem dX8_isSo_122 : decode cX8_isSo 122 = .ok (.ireturn, 1) := by decide +kernel
theorem dX8_isSo_123 : decode cX8_isSo 123 = .ok (.aload 5, 2) := by decide +kernel
theorem dX8_isSo_125 : decode cX8_isSo 125 = .ok (.getstatic 107, 3) := by decide +kernel
theorem dX8_isSo_128 : decode cX8_isSo 128 = .ok (.if_acmp .ne 24, 3) := by decide +kernel
theorem dX8_isSo_131 : decode cX8_isSo 131 = .ok (.aload 4, 2) := by decide +kernel
theorem dX8_isSo_133 : decode cX8_isSo 133 = .ok (.iload_n 2, 1) := by decide +kernel
theorem dX8_isSo_134 : decode cX8_isSo 134 = .ok (.aload_n 0, 1) := by decide +kernel
theorem dX8_isSo_135 : decode cX8_isSo 135 = .ok (.getfield 21, 3) := by decide +kernel
theorem dX8_isSo_138 : decode cX8_isSo 138 = .ok (.iload_n 1, 1) := by decide +kernel
theorem dX8_isSo_139 : decode cX8_isSo 139 = .ok (.iaload, 1) := by decide +kernel
theorem dX8_isSo_140 : decode cX8_isSo 140 = .ok (.invokevirtual 176, 3) := by decide +kernel
theorem dX8_isSo_143 : decode cX8_isSo 143 = .ok (.ifCond .le 7, 3) := by decide +kernel
theorem dX8_isSo_146 : decode cX8_isSo 146 = .ok (.iconst 1, 1) := by decide +kernel
theorem dX8_isSo_147 : decode cX8_isSo 147 = .ok (.goto 4, 3) := by decide +kernel
theorem dX8_isSo_150 : decode cX8_isSo 150 = .ok (.iconst 0, 1) := by decide +kernel
theorem dX8_isSo_151 : decode cX8_isSo 151 = .ok (.ireturn, 1) := by decide +kernel
theorem dX8_isSo_152 : decode cX8_isSo 152 = .ok (.aload 5, 2) := by decide +kernel
theorem dX8_isSo_154 : decode cX8_isSo 154 = .ok (.getstatic 116, 3) := by decide +kernel
theorem dX8_isSo_157 : decode cX8_isSo 157 = .ok (.if_acmp .ne 13, 3) := by decide +kernel
theorem dX8_isSo_160 : decode cX8_isSo 160 = .ok (.aload 4, 2) := by decide +kernel
theorem dX8_isSo_162 : decode cX8_isSo 162 = .ok (.getfield 180, 3) := by decide +kernel
theorem dX8_isSo_165 : decode cX8_isSo 165 = .ok (.iload_n 2, 1) := by decide +kernel
theorem dX8_isSo_166 : decode cX8_isSo 166 = .ok (.iaload, 1) := by decide +kernel
theorem dX8_isSo_167 : decode cX8_isSo 167 = .ok (.goto 22, 3) := by decide +kernel
theorem dX8_isSo_170 : decode cX8_isSo 170 = .ok (.aload 5, 2) := by decide +kernel
theorem dX8_isSo_172 : decode cX8_isSo 172 = .ok (.getstatic 119, 3) := by decide +kernel
theorem dX8_isSo_175 : decode cX8_isSo 175 = .ok (.if_acmp .ne 13, 3) := by decide +kernel
theorem dX8_isSo_178 : decode cX8_isSo 178 = .ok (.aload 4, 2) := by decide +kernel
theorem dX8_isSo_180 : decode cX8_isSo 180 = .ok (.getfield 183, 3) := by decide +kernel
theorem dX8_isSo_183 : decode cX8_isSo 183 = .ok (.iload_n 2, 1) := by decide +kernel
theorem dX8_isSo_184 : decode cX8_isSo 184 = .ok (.iaload, 1) := by decide +kernel
theorem dX8_isSo_185 : decode cX8_isSo 185 = .ok (.goto 4, 3) := by decide +kernel
theorem dX8_isSo_188 : decode cX8_isSo 188 = .ok (.iload_n 2, 1) := by decide +kernel
theorem dX8_isSo_189 : decode cX8_isSo 189 = .ok (.istore 6, 2) := by decide +kernel
theorem dX8_isSo_191 : decode cX8_isSo 191 = .ok (.aload_n 0, 1) := by decide +kernel
theorem dX8_isSo_192 : decode cX8_isSo 192 = .ok (.getfield 17, 3) := by decide +kernel
theorem dX8_isSo_195 : decode cX8_isSo 195 = .ok (.iload_n 1, 1) := by decide +kernel
theorem dX8_isSo_196 : decode cX8_isSo 196 = .ok (.iaload, 1) := by decide +kernel
theorem dX8_isSo_197 : decode cX8_isSo 197 = .ok (.bipush 60, 2) := by decide +kernel
theorem dX8_isSo_199 : decode cX8_isSo 199 = .ok (.if_icmp .ne 22, 3) := by decide +kernel
theorem dX8_isSo_202 : decode cX8_isSo 202 = .ok (.iload 6, 2) := by decide +kernel
theorem dX8_isSo_204 : decode cX8_isSo 204 = .ok (.aload_n 0, 1) := by decide +kernel
theorem dX8_isSo_205 : decode cX8_isSo 205 = .ok (.getfield 21, 3) := by decide +kernel
theorem dX8_isSo_208 : decode cX8_isSo 208 = .ok (.iload_n 1, 1) := by decide +kernel
theorem dX8_isSo_209 : decode cX8_isSo 209 = .ok (.iaload, 1) := by decide +kernel
theorem dX8_isSo_210 : decode cX8_isSo 210 = .ok (.if_icmp .ge 7, 3) := by decide +kernel
theorem dX8_isSo_213 : decode cX8_isSo 213 = .ok (.iconst 1, 1) := by decide +kernel
theorem dX8_isSo_214 : decode cX8_isSo 214 = .ok (.goto 53, 3) := by decide +kernel
theorem dX8_isSo_217 : decode cX8_isSo 217 = .ok (.iconst 0, 1) := by decide +kernel
theorem dX8_isSo_218 : decode cX8_isSo 218 = .ok (.goto 49, 3) := by decide +kernel
theorem dX8_isSo_221 : decode cX8_isSo 221 = .ok (.aload_n 0, 1) := by decide +kernel
theorem dX8_isSo_222 : decode cX8_isSo 222 = .ok (.getfield 17, 3) := by decide +kernel
theorem dX8_isSo_225 : decode cX8_isSo 225 = .ok (.iload_n 1, 1) := by decide +kernel
theorem dX8_isSo_226 : decode cX8_isSo 226 = .ok (.iaload, 1) := by decide +kernel
theorem dX8_isSo_227 : decode cX8_isSo 227 = .ok (.bipush 62, 2) := by decide +kernel
theorem dX8_isSo_229 : decode cX8_isSo 229 = .ok (.if_icmp .ne 22, 3) := by decide +kernel
theorem dX8_isSo_232 : decode cX8_isSo 232 = .ok (.iload 6, 2) := by decide +kernel
theorem dX8_isSo_234 : decode cX8_isSo 234 = .ok (.aload_n 0, 1) := by decide +kernel
theorem dX8_isSo_235 : decode cX8_isSo 235 = .ok (.getfield 21, 3) := by decide +kernel
theorem dX8_isSo_238 : decode cX8_isSo 238 = .ok (.iload_n 1, 1) := by decide +kernel
theorem dX8_isSo_239 : decode cX8_isSo 239 = .ok (.iaload, 1) := by decide +kernel
theorem dX8_isSo_240 : decode cX8_isSo 240 = .ok (.if_icmp .le 7, 3) := by decide +kernel
theorem dX8_isSo_243 : decode cX8_isSo 243 = .ok (.iconst 1, 1) := by decide +kernel
theorem dX8_isSo_244 : decode cX8_isSo 244 = .ok (.goto 23, 3) := by decide +kernel
theorem dX8_isSo_247 : decode cX8_isSo 247 = .ok (.iconst 0, 1) := by decide +kernel
theorem dX8_isSo_248 : decode cX8_isSo 248 = .ok (.goto 19, 3) := by decide +kernel
theorem dX8_isSo_251 : decode cX8_isSo 251 = .ok (.iload 6, 2) := by decide +kernel
theorem dX8_isSo_253 : decode cX8_isSo 253 = .ok (.aload_n 0, 1) := by decide +kernel
theorem dX8_isSo_254 : decode cX8_isSo 254 = .ok (.getfield 21, 3) := by decide +kernel
theorem dX8_isSo_257 : decode cX8_isSo 257 = .ok (.iload_n 1, 1) := by decide +kernel
theorem dX8_isSo_258 : decode cX8_isSo 258 = .ok (.iaload, 1) := by decide +kernel
theorem dX8_isSo_259 : decode cX8_isSo 259 = .ok (.if_icmp .ne 7, 3) := by decide +kernel
theorem dX8_isSo_262 : decode cX8_isSo 262 = .ok (.iconst 1, 1) := by decide +kernel
theorem dX8_isSo_263 : decode cX8_isSo 263 = .ok (.goto 4, 3) := by decide +kernel
theorem dX8_isSo_266 : decode cX8_isSo 266 = .ok (.iconst 0, 1) := by decide +kernel
theorem dX8_isSo_267 : decode cX8_isSo 267 = .ok (.ireturn, 1) := by decide +kernel
theorem dX9_init_0 : decode cX9_init 0 = .ok (.aload_n 0, 1) := by decide +kernel
theorem dX9_init_1 : decode cX9_init 1 = .ok (.invokespecial 3, 3) := by decide +kernel
theorem dX9_init_4 : decode cX9_init 4 = .ok (.aload_n 0, 1) := by decide +kernel
theorem dX9_init_5 : decode cX9_init 5 = .ok (.bipush 6, 2) := by decide +kernel
theorem dX9_init_7 : decode cX9_init 7 = .ok (.newarray .int, 2) := by decide +kernel
theorem dX9_init_9 : decode cX9_init 9 = .ok (.putfield 9, 3) := by decide +kernel
theorem dX9_init_12 : decode cX9_init 12 = .ok (.aload_n 0, 1) := by decide +kernel
theorem dX9_init_13 : decode cX9_init 13 = .ok (.bipush 6, 2) := by decide +kernel
theorem dX9_init_15 : decode cX9_init 15 = .ok (.newarray .int, 2) := by decide +kernel
theorem dX9_init_17 : decode cX9_init 17 = .ok (.putfield 15, 3) := by decide +kernel
theorem dX9_init_20 : decode cX9_init 20 = .ok (.aload_n 0, 1) := by decide +kernel
theorem dX9_init_21 : decode cX9_init 21 = .ok (.bipush 6, 2) := by decide +kernel
theorem dX9_init_23 : decode cX9_init 23 = .ok (.newarray .int, 2) := by decide +kernel
theorem dX9_init_25 : decode cX9_init 25 = .ok (.putfield 18, 3) := by decide +kernel
theorem dX9_init_28 : decode cX9_init 28 = .ok (.aload_n 0, 1) := by decide +kernel
theorem dX9_init_29 : decode cX9_init 29 = .ok (.bipush 36, 2) := by decide +kernel
theorem dX9_init_31 : decode cX9_init 31 = .ok (.newarray .int, 2) := by decide +kernel
theorem dX9_init_33 : decode cX9_init 33 = .ok (.putfield 21, 3) := by decide +kernel
theorem dX9_init_36 : decode cX9_init 36 = .ok (.aload_n 0, 1) := by decide +kernel
theorem dX9_init_37 : decode cX9_init 37 = .ok (.iconst (-1), 1) := by decide +kernel
theorem dX9_init_38 : decode cX9_init 38 = .ok (.putfield 24, 3) := by decide +kernel
theorem dX9_init_41 : decode cX9_init 41 = .ok (.aload_n 0, 1) := by decide +kernel
theorem dX9_init_42 : decode cX9_init 42 = .ok (.iconst (-1), 1) := by decide +kernel
theorem dX9_init_43 : decode cX9_init 43 = .ok (.putfield 28, 3) := by decide +kernel
theorem dX9_init_46 : decode cX9_init 46 = .ok (.return_, 1) := by decide +kernel
theorem dX9_begin_0 : decode cX9_begin 0 = .ok (.aload_n 0, 1) := by decide +kernel
theorem dX9_begin_1 : decode cX9_begin 1 = .ok (.iconst 0, 1) := by decide +kernel
theorem dX9_begin_2 : decode cX9_begin 2 = .ok (.putfield 31, 3) := by decide +kernel
theorem dX9_begin_5 : decode cX9_begin 5 = .ok (.aload_n 0, 1) := by decide +kernel
theorem dX9_begin_6 : decode cX9_begin 6 = .ok (.iconst (-1), 1) := by decide +kernel
theorem dX9_begin_7 : decode cX9_begin 7 = .ok (.putfield 24, 3) := by decide +kernel
theorem dX9_begin_10 : decode cX9_begin 10 = .ok (.aload_n 0, 1) := by decide +kernel
theorem dX9_begin_11 : decode cX9_begin 11 = .ok (.iconst (-1), 1) := by decide +kernel
theorem dX9_begin_12 : decode cX9_begin 12 = .ok (.putfield 28, 3) := by decide +kernel
theorem dX9_begin_15 : decode cX9_begin 15 = .ok (.aload_n 0, 1) := by decide +kernel
theorem dX9_begin_16 : decode cX9_begin 16 = .ok (.iconst 0, 1) := by decide +kernel
theorem dX9_begin_17 : decode cX9_begin 17 = .ok (.putfield 34, 3) := by decide +kernel
theorem dX9_begin_20 : decode cX9_begin 20 = .ok (.aload_n 0, 1) := by decide +kernel
theorem dX9_begin_21 : decode cX9_begin 21 = .ok (.iconst 0, 1) := by decide +kernel
theorem dX9_begin_22 : decode cX9_begin 22 = .ok (.putfield 37, 3) := by decide +kernel
theorem dX9_begin_25 : decode cX9_begin 25 = .ok (.iconst 0, 1) := by decide +kernel
theorem dX9_begin_26 : decode cX9_begin 26 = .ok (.istore_n 2, 1) := by decide +kernel
theorem dX9_begin_27 : decode cX9_begin 27 = .ok (.iload_n 2, 1) := by decide +kernel
theorem dX9_begin_28 : decode cX9_begin 28 = .ok (.bipush 6, 2) := by decide +kernel
theorem dX9_begin_30 : decode cX9_begin 30 = .ok (.if_icmp .ge 35, 3) := by decide +kernel
theorem dX9_begin_33 : decode cX9_begin 33 = .ok (.aload_n 0, 1) := by decide +kernel
theorem dX9_begin_34 : decode cX9_begin 34 = .ok (.getfield 9, 3) := by decide +kernel
theorem dX9_begin_37 : decode cX9_begin 37 = .ok (.iload_n 2, 1) := by decide +kernel
theorem dX9_begin_38 : decode cX9_begin 38 = .ok (.aload_n 1, 1) := by decide +kernel
theorem dX9_begin_39 : decode cX9_begin 39 = .ok (.getfield 40, 3) := by decide +kernel
theorem dX9_begin_42 : decode cX9_begin 42 = .ok (.iload_n 2, 1) := by decide +kernel
theorem dX9_begin_43 : decode cX9_begin 43 = .ok (.iaload, 1) := by decide +kernel
theorem dX9_begin_44 : decode cX9_begin 44 = .ok (.iastore, 1) := by decide +kernel
theorem dX9_begin_45 : decode cX9_begin 45 = .ok (.aload_n 0, 1) := by decide +kernel
theorem dX9_begin_46 : decode cX9_begin 46 = .ok (.getfield 15, 3) := by decide +kernel
theorem dX9_begin_49 : decode cX9_begin 49 = .ok (.iload_n 2, 1) := by decide +kernel
theorem dX9_begin_50 : decode cX9_begin 50 = .ok (.iconst 0, 1) := by decide +kernel
theorem dX9_begin_51 : decode cX9_begin 51 = .ok (.iastore, 1) := by decide +kernel
theorem dX9_begin_52 : decode cX9_begin 52 = .ok (.aload_n 0, 1) := by decide +kernel
theorem dX9_begin_53 : decode cX9_begin 53 = .ok (.getfield 18, 3) := by decide +kernel
theorem dX9_begin_56 : decode cX9_begin 56 = .ok (.iload_n 2, 1) := by decide +kernel
theorem dX9_begin_57 : decode cX9_begin 57 = .ok (.iconst 0, 1) := by decide +kernel
theorem dX9_begin_58 : decode cX9_begin 58 = .ok (.iastore, 1) := by decide +kernel
theorem dX9_begin_59 : decode cX9_begin 59 = .ok (.iinc 2 1, 3) := by decide +kernel
theorem dX9_begin_62 : decode cX9_begin 62 = .ok (.goto (-35), 3) := by decide +kernel
theorem dX9_begin_65 : decode cX9_begin 65 = .ok (.iconst 0, 1) := by decide +kernel
theorem dX9_begin_66 : decode cX9_begin 66 = .ok (.istore_n 2, 1) := by decide +kernel
theorem dX9_begin_67 : decode cX9_begin 67 = .ok (.iload_n 2, 1) := by decide +kernel
theorem dX9_begin_68 : decode cX9_begin 68 = .ok (.aload_n 0, 1) := by decide +kernel
theorem dX9_begin_69 : decode cX9_begin 69 = .ok (.getfield 21, 3) := by decide +kernel
theorem dX9_begin_72 : decode cX9_begin 72 = .ok (.arraylength, 1) := by decide +kernel
theorem dX9_begin_73 : decode cX9_begin 73 = .ok (.if_icmp .ge 16, 3) := by decide +kernel
theorem dX9_begin_76 : decode cX9_begin 76 = .ok (.aload_n 0, 1) := by decide +kernel
theorem dX9_begin_77 : decode cX9_begin 77 = .ok (.getfield 21, 3) := by decide +kernel
theorem dX9_begin_80 : decode cX9_begin 80 = .ok (.iload_n 2, 1) := by decide +kernel
theorem dX9_begin_81 : decode cX9_begin 81 = .ok (.iconst 0, 1) := by decide +kernel
theorem dX9_begin_82 : decode cX9_begin 82 = .ok (.iastore, 1) := by decide +kernel
theorem dX9_begin_83 : decode cX9_begin 83 = .ok (.iinc 2 1, 3) := by decide +kernel
theorem dX9_begin_86 : decode cX9_begin 86 = .ok (.goto (-19), 3) := by decide +kernel
theorem dX9_begin_89 : decode cX9_begin 89 = .ok (.return_, 1) := by decide +kernel
theorem dX9_copyFrom_0 : decode cX9_copyFrom 0 = .ok (.aload_n 0, 1) := by decide +kernel
theorem dX9_copyFrom_1 : decode cX9_copyFrom 1 = .ok (.aload_n 1, 1) := by decide +kernel
theorem dX9_copyFrom_2 : decode cX9_copyFrom 2 = .ok (.getfield 31, 3) := by decide +kernel
theorem dX9_copyFrom_5 : decode cX9_copyFrom 5 = .ok (.putfield 31, 3) := by decide +kernel
theorem dX9_copyFrom_8 : decode cX9_copyFrom 8 = .ok (.aload_n 0, 1) := by decide +kernel
theorem dX9_copyFrom_9 : decode cX9_copyFrom 9 = .ok (.aload_n 1, 1) := by decide +kernel
theorem dX9_copyFrom_10 : decode cX9_copyFrom 10 = .ok (.getfield 24, 3) := by decide +kernel
theorem dX9_copyFrom_13 : decode cX9_copyFrom 13 = .ok (.putfield 24, 3) := by decide +kernel
theorem dX9_copyFrom_16 : decode cX9_copyFrom 16 = .ok (.aload_n 0, 1) := by decide +kernel
theorem dX9_copyFrom_17 : decode cX9_copyFrom 17 = .ok (.aload_n 1, 1) := by decide +kernel
theorem dX9_copyFrom_18 : decode cX9_copyFrom 18 = .ok (.getfield 28, 3) := by decide +kernel
theorem dX9_copyFrom_21 : decode cX9_copyFrom 21 = .ok (.putfield 28, 3) := by decide +kernel
theorem dX9_copyFrom_24 : decode cX9_copyFrom 24 = .ok (.aload_n 0, 1) := by decide +kernel
theorem dX9_copyFrom_25 : decode cX9_copyFrom 25 = .ok (.aload_n 1, 1) := by decide +kernel
theorem dX9_copyFrom_26 : decode cX9_copyFrom 26 = .ok (.getfield 34, 3) := by decide +kernel
theorem dX9_copyFrom_29 : decode cX9_copyFrom 29 = .ok (.putfield 34, 3) := by decide +kernel
theorem dX9_copyFrom_32 : decode cX9_copyFrom 32 = .ok (.aload_n 0, 1) := by decide +kernel
theorem dX9_copyFrom_33 : decode cX9_copyFrom 33 = .ok (.aload_n 1, 1) := by decide +kernel
theorem dX9_copyFrom_34 : decode cX9_copyFrom 34 = .ok (.getfield 37, 3) := by decide +kernel
theorem dX9_copyFrom_37 : decode cX9_copyFrom 37 = .ok (.putfield 37, 3) := by decide +kernel
theorem dX9_copyFrom_40 : decode cX9_copyFrom 40 = .ok (.aload_n 1, 1) := by decide +kernel
theorem dX9_copyFrom_41 : decode cX9_copyFrom 41 = .ok (.getfield 9, 3) := by decide +kernel
theorem dX9_copyFrom_44 : decode cX9_copyFrom 44 = .ok (.iconst 0, 1) := by decide +kernel
theorem dX9_copyFrom_45 : decode cX9_copyFrom 45 = .ok (.aload_n 0, 1) := by decide +kernel
theorem dX9_copyFrom_46 : decode cX9_copyFrom 46 = .ok (.getfield 9, 3) := by decide +kernel
theorem dX9_copyFrom_49 : decode cX9_copyFrom 49 = .ok (.iconst 0, 1) := by decide +kernel
theorem dX9_copyFrom_50 : decode cX9_copyFrom 50 = .ok (.bipush 6, 2) := by decide +kernel
theorem dX9_copyFrom_52 : decode cX9_copyFrom 52 = .ok (.invokestatic 43, 3) := by decide +kernel
theorem dX9_copyFrom_55 : decode cX9_copyFrom 55 = .ok (.aload_n 1, 1) := by decide +kernel
theorem dX9_copyFrom_56 : decode cX9_copyFrom 56 = .ok (.getfield 15, 3) := by decide +kernel
theorem dX9_copyFrom_59 : decode cX9_copyFrom 59 = .ok (.iconst 0, 1) := by decide +kernel
theorem dX9_copyFrom_60 : decode cX9_copyFrom 60 = .ok (.aload_n 0, 1) := by decide +kernel
theorem dX9_copyFrom_61 : decode cX9_copyFrom 61 = .ok (.getfield 15, 3) := by decide +kernel
theorem dX9_copyFrom_64 : decode cX9_copyFrom 64 = .ok (.iconst 0, 1) := by decide +kernel
theorem dX9_copyFrom_65 : decode cX9_copyFrom 65 = .ok (.bipush 6, 2) := by decide +kernel
theorem dX9_copyFrom_67 : decode cX9_copyFrom 67 = .ok (.invokestatic 43, 3) := by decide +kernel
theorem dX9_copyFrom_70 : decode cX9_copyFrom 70 = .ok (.aload_n 1, 1) := by decide +kernel
theorem dX9_copyFrom_71 : decode cX9_copyFrom 71 = .ok (.getfield 18, 3) := by decide +kernel
theorem dX9_copyFrom_74 : decode cX9_copyFrom 74 = .ok (.iconst 0, 1) := by decide +kernel
theorem dX9_copyFrom_75 : decode cX9_copyFrom 75 = .ok (.aload_n 0, 1) := by decide +kernel
theorem dX9_copyFrom_76 : decode cX9_copyFrom 76 = .ok (.getfield 18, 3) := by decide +kernel
theorem dX9_copyFrom_79 : decode cX9_copyFrom 79 = .ok (.iconst 0, 1) := by decide +kernel
theorem dX9_copyFrom_80 : decode cX9_copyFrom 80 = .ok (.bipush 6, 2) := by decide +kernel
theorem dX9_copyFrom_82 : decode cX9_copyFrom 82 = .ok (.invokestatic 43, 3) := by decide +kernel
theorem dX9_copyFrom_85 : decode cX9_copyFrom 85 = .ok (.aload_n 1, 1) := by decide +kernel
theorem dX9_copyFrom_86 : decode cX9_copyFrom 86 = .ok (.getfield 21, 3) := by decide +kernel
theorem dX9_copyFrom_89 : decode cX9_copyFrom 89 = .ok (.iconst 0, 1) := by decide +kernel
theorem dX9_copyFrom_90 : decode cX9_copyFrom 90 = .ok (.aload_n 0, 1) := by decide +kernel
theorem dX9_copyFrom_91 : decode cX9_copyFrom 91 = .ok (.getfield 21, 3) := by decide +kernel
theorem dX9_copyFrom_94 : decode cX9_copyFrom 94 = .ok (.iconst 0, 1) := by decide +kernel
theorem dX9_copyFrom_95 : decode cX9_copyFrom 95 = .ok (.aload_n 0, 1) := by decide +kernel
theorem dX9_copyFrom_96 : decode cX9_copyFrom 96 = .ok (.getfield 21, 3) := by decide +kernel
theorem dX9_copyFrom_99 : decode cX9_copyFrom 99 = .ok (.arraylength, 1) := by decide +kernel
theorem dX9_copyFrom_100 : decode cX9_copyFrom 100 = .ok (.invokestatic 43, 3) := by decide +kernel
theorem dX9_copyFrom_103 : decode cX9_copyFrom 103 = .ok (.return_, 1) := by decide +kernel
set_option maxRecDepth 20000 in
theorem ggX9_isHeld_X11_hasBit : GoodIn wsX9_isHeld wsX11_hasBit := goodIn_r _ [4] rfl rfl
set_option maxRecDepth 20000 in
theorem gX9_isHeld_X11_hasBit_n49 : GoodIn wsX9_isHeld (wsX11_hasBit) := ggX9_isHeld_X11_hasBit
theorem dX9_isHeld_0 : decode cX9_isHeld 0 = .ok (.aload_n 0, 1) := by decide +kernel
theorem dX9_isHeld_1 : decode cX9_isHeld 1 = .ok (.getfield 34, 3) := by decide +kernel
theorem dX9_isHeld_4 : decode cX9_isHeld 4 = .ok (.iload_n 1, 1) := by decide +kernel
theorem dX9_isHeld_5 : decode cX9_isHeld 5 = .ok (.invokestatic 49, 3) := by decide +kernel
theorem dX9_isHeld_8 : decode cX9_isHeld 8 = .ok (.ireturn, 1) := by decide +kernel
theorem dX9_daysLeft_0 : decode cX9_daysLeft 0 = .ok (.sipush 400, 3) := by decide +kernel
theorem dX9_daysLeft_3 : decode cX9_daysLeft 3 = .ok (.aload_n 0, 1) := by decide +kernel
theorem dX9_daysLeft_4 : decode cX9_daysLeft 4 = .ok (.getfield 31, 3) := by decide +kernel
theorem dX9_daysLeft_7 : decode cX9_daysLeft 7 = .ok (.isub, 1) := by decide +kernel
theorem dX9_daysLeft_8 : decode cX9_daysLeft 8 = .ok (.ireturn, 1) := by decide +kernel
theorem dX9_debtOf_0 : decode cX9_debtOf 0 = .ok (.iload_n 1, 1) := by decide +kernel
theorem dX9_debtOf_1 : decode cX9_debtOf 1 = .ok (.ifCond .lt 19, 3) := by decide +kernel
theorem dX9_debtOf_4 : decode cX9_debtOf 4 = .ok (.iload_n 1, 1) := by decide +kernel
theorem dX9_debtOf_5 : decode cX9_debtOf 5 = .ok (.bipush 6, 2) := by decide +kernel
theorem dX9_debtOf_7 : decode cX9_debtOf 7 = .ok (.if_icmp .ge 13, 3) := by decide +kernel
theorem dX9_debtOf_10 : decode cX9_debtOf 10 = .ok (.iload_n 2, 1) := by decide +kernel
theorem dX9_debtOf_11 : decode cX9_debtOf 11 = .ok (.ifCond .lt 9, 3) := by decide +kernel
theorem dX9_debtOf_14 : decode cX9_debtOf 14 = .ok (.iload_n 2, 1) := by decide +kernel
theorem dX9_debtOf_15 : decode cX9_debtOf 15 = .ok (.bipush 6, 2) := by decide +kernel
theorem dX9_debtOf_17 : decode cX9_debtOf 17 = .ok (.if_icmp .lt 5, 3) := by decide +kernel
theorem dX9_debtOf_20 : decode cX9_debtOf 20 = .ok (.iconst 0, 1) := by decide +kernel
theorem dX9_debtOf_21 : decode cX9_debtOf 21 = .ok (.ireturn, 1) := by decide +kernel
theorem dX9_debtOf_22 : decode cX9_debtOf 22 = .ok (.aload_n 0, 1) := by decide +kernel
theorem dX9_debtOf_23 : decode cX9_debtOf 23 = .ok (.getfield 21, 3) := by decide +kernel
theorem dX9_debtOf_26 : decode cX9_debtOf 26 = .ok (.iload_n 1, 1) := by decide +kernel
theorem dX9_debtOf_27 : decode cX9_debtOf 27 = .ok (.bipush 6, 2) := by decide +kernel
theorem dX9_debtOf_29 : decode cX9_debtOf 29 = .ok (.imul, 1) := by decide +kernel
theorem dX9_debtOf_30 : decode cX9_debtOf 30 = .ok (.iload_n 2, 1) := by decide +kernel
theorem dX9_debtOf_31 : decode cX9_debtOf 31 = .ok (.iadd, 1) := by decide +kernel
theorem dX9_debtOf_32 : decode cX9_debtOf 32 = .ok (.iaload, 1) := by decide +kernel
theorem dX9_debtOf_33 : decode cX9_debtOf 33 = .ok (.ireturn, 1) := by decide +kernel
theorem dX9_setDebt_0 : decode cX9_setDebt 0 = .ok (.iload_n 1, 1) := by decide +kernel
theorem dX9_setDebt_1 : decode cX9_setDebt 1 = .ok (.ifCond .lt 31, 3) := by decide +kernel
theorem dX9_setDebt_4 : decode cX9_setDebt 4 = .ok (.iload_n 1, 1) := by decide +kernel
theorem dX9_setDebt_5 : decode cX9_setDebt 5 = .ok (.bipush 6, 2) := by decide +kernel
theorem dX9_setDebt_7 : decode cX9_setDebt 7 = .ok (.if_icmp .ge 25, 3) := by decide +kernel
theorem dX9_setDebt_10 : decode cX9_setDebt 10 = .ok (.iload_n 2, 1) := by decide +kernel
theorem dX9_setDebt_11 : decode cX9_setDebt 11 = .ok (.ifCond .lt 21, 3) := by decide +kernel
theorem dX9_setDebt_14 : decode cX9_setDebt 14 = .ok (.iload_n 2, 1) := by decide +kernel
theorem dX9_setDebt_15 : decode cX9_setDebt 15 = .ok (.bipush 6, 2) := by decide +kernel
theorem dX9_setDebt_17 : decode cX9_setDebt 17 = .ok (.if_icmp .ge 15, 3) := by decide +kernel
theorem dX9_setDebt_20 : decode cX9_setDebt 20 = .ok (.aload_n 0, 1) := by decide +kernel
theorem dX9_setDebt_21 : decode cX9_setDebt 21 = .ok (.getfield 21, 3) := by decide +kernel
theorem dX9_setDebt_24 : decode cX9_setDebt 24 = .ok (.iload_n 1, 1) := by decide +kernel
theorem dX9_setDebt_25 : decode cX9_setDebt 25 = .ok (.bipush 6, 2) := by decide +kernel
theorem dX9_setDebt_27 : decode cX9_setDebt 27 = .ok (.imul, 1) := by decide +kernel
theorem dX9_setDebt_28 : decode cX9_setDebt 28 = .ok (.iload_n 2, 1) := by decide +kernel
theorem dX9_setDebt_29 : decode cX9_setDebt 29 = .ok (.iadd, 1) := by decide +kernel
theorem dX9_setDebt_30 : decode cX9_setDebt 30 = .ok (.iload_n 3, 1) := by decide +kernel
theorem dX9_setDebt_31 : decode cX9_setDebt 31 = .ok (.iastore, 1) := by decide +kernel
theorem dX9_setDebt_32 : decode cX9_setDebt 32 = .ok (.return_, 1) := by decide +kernel
set_option maxRecDepth 20000 in
theorem ggX9_owedBy_X9_debtOf : GoodIn wsX9_owedBy wsX9_debtOf := goodIn_r _ [5, 6, 7, 8, 9, 10, 11, 12, 13, 14, 15] rfl rfl
set_option maxRecDepth 20000 in
theorem gX9_owedBy_X9_debtOf : GoodIn wsX9_owedBy (wsV RX9 53 RX9 yX9_debtOf wsX9_debtOf) := goodIn_app (goodIn_r _ [1, 2, 3, 4] rfl rfl) ggX9_owedBy_X9_debtOf
theorem dX9_owedBy_0 : decode cX9_owedBy 0 = .ok (.iconst 0, 1) := by decide +kernel
theorem dX9_owedBy_1 : decode cX9_owedBy 1 = .ok (.istore_n 2, 1) := by decide +kernel
theorem dX9_owedBy_2 : decode cX9_owedBy 2 = .ok (.iconst 0, 1) := by decide +kernel
theorem dX9_owedBy_3 : decode cX9_owedBy 3 = .ok (.istore_n 3, 1) := by decide +kernel
theorem dX9_owedBy_4 : decode cX9_owedBy 4 = .ok (.iload_n 3, 1) := by decide +kernel
theorem dX9_owedBy_5 : decode cX9_owedBy 5 = .ok (.bipush 6, 2) := by decide +kernel
theorem dX9_owedBy_7 : decode cX9_owedBy 7 = .ok (.if_icmp .ge 18, 3) := by decide +kernel
theorem dX9_owedBy_10 : decode cX9_owedBy 10 = .ok (.iload_n 2, 1) := by decide +kernel
theorem dX9_owedBy_11 : decode cX9_owedBy 11 = .ok (.aload_n 0, 1) := by decide +kernel
theorem dX9_owedBy_12 : decode cX9_owedBy 12 = .ok (.iload_n 1, 1) := by decide +kernel
theorem dX9_owedBy_13 : decode cX9_owedBy 13 = .ok (.iload_n 3, 1) := by decide +kernel
theorem dX9_owedBy_14 : decode cX9_owedBy 14 = .ok (.invokevirtual 53, 3) := by decide +kernel
theorem dX9_owedBy_17 : decode cX9_owedBy 17 = .ok (.iadd, 1) := by decide +kernel
theorem dX9_owedBy_18 : decode cX9_owedBy 18 = .ok (.istore_n 2, 1) := by decide +kernel
theorem dX9_owedBy_19 : decode cX9_owedBy 19 = .ok (.iinc 3 1, 3) := by decide +kernel
theorem dX9_owedBy_22 : decode cX9_owedBy 22 = .ok (.goto (-18), 3) := by decide +kernel
theorem dX9_owedBy_25 : decode cX9_owedBy 25 = .ok (.iload_n 2, 1) := by decide +kernel
theorem dX9_owedBy_26 : decode cX9_owedBy 26 = .ok (.ireturn, 1) := by decide +kernel
set_option maxRecDepth 20000 in
theorem ggX9_owedTo_X9_debtOf : GoodIn wsX9_owedTo wsX9_debtOf := goodIn_r _ [5, 6, 7, 8, 9, 10, 11, 12, 13, 14, 15] rfl rfl
set_option maxRecDepth 20000 in
theorem gX9_owedTo_X9_debtOf : GoodIn wsX9_owedTo (wsV RX9 53 RX9 yX9_debtOf wsX9_debtOf) := goodIn_app (goodIn_r _ [1, 2, 3, 4] rfl rfl) ggX9_owedTo_X9_debtOf
theorem dX9_owedTo_0 : decode cX9_owedTo 0 = .ok (.iconst 0, 1) := by decide +kernel
theorem dX9_owedTo_1 : decode cX9_owedTo 1 = .ok (.istore_n 2, 1) := by decide +kernel
theorem dX9_owedTo_2 : decode cX9_owedTo 2 = .ok (.iconst 0, 1) := by decide +kernel
theorem dX9_owedTo_3 : decode cX9_owedTo 3 = .ok (.istore_n 3, 1) := by decide +kernel
theorem dX9_owedTo_4 : decode cX9_owedTo 4 = .ok (.iload_n 3, 1) := by decide +kernel
theorem dX9_owedTo_5 : decode cX9_owedTo 5 = .ok (.bipush 6, 2) := by decide +kernel
theorem dX9_owedTo_7 : decode cX9_owedTo 7 = .ok (.if_icmp .ge 18, 3) := by decide +kernel
theorem dX9_owedTo_10 : decode cX9_owedTo 10 = .ok (.iload_n 2, 1) := by decide +kernel
theorem dX9_owedTo_11 : decode cX9_owedTo 11 = .ok (.aload_n 0, 1) := by decide +kernel
theorem dX9_owedTo_12 : decode cX9_owedTo 12 = .ok (.iload_n 3, 1) := by decide +kernel
theorem dX9_owedTo_13 : decode cX9_owedTo 13 = .ok (.iload_n 1, 1) := by decide +kernel
theorem dX9_owedTo_14 : decode cX9_owedTo 14 = .ok (.invokevirtual 53, 3) := by decide +kernel
theorem dX9_owedTo_17 : decode cX9_owedTo 17 = .ok (.iadd, 1) := by decide +kernel
theorem dX9_owedTo_18 : decode cX9_owedTo 18 = .ok (.istore_n 2, 1) := by decide +kernel
theorem dX9_owedTo_19 : decode cX9_owedTo 19 = .ok (.iinc 3 1, 3) := by decide +kernel
theorem dX9_owedTo_22 : decode cX9_owedTo 22 = .ok (.goto (-18), 3) := by decide +kernel
theorem dX9_owedTo_25 : decode cX9_owedTo 25 = .ok (.iload_n 2, 1) := by decide +kernel
theorem dX9_owedTo_26 : decode cX9_owedTo 26 = .ok (.ireturn, 1) := by decide +kernel
set_option maxRecDepth 20000 in
theorem ggX9_whyNot_X9_owesBothWays : GoodIn wsX9_whyNot wsX9_owesBothWays := goodIn_r _ [6, 7, 8, 9, 5, 10, 11, 50, 51, 52, 53, 54, 55, 56, 57, 58] rfl rfl
set_option maxRecDepth 20000 in
theorem gX9_whyNot_X9_owesBothWays : GoodIn wsX9_whyNot (wsV RX9 57 RX9 yX9_owesBothWays wsX9_owesBothWays) := goodIn_app (goodIn_r _ [2, 3, 4, 5] rfl rfl) ggX9_whyNot_X9_owesBothWays
set_option maxRecDepth 20000 in
theorem ggX9_whyNot_X9_daysLeft : GoodIn wsX9_whyNot wsX9_daysLeft := goodIn_r _ [15, 16, 50, 51, 52, 53, 54, 55, 56, 57, 58] rfl rfl
set_option maxRecDepth 20000 in
theorem gX9_whyNot_X9_daysLeft : GoodIn wsX9_whyNot (wsV RX9 61 RX9 yX9_daysLeft wsX9_daysLeft) := goodIn_app (goodIn_r _ [12, 13, 14, 5] rfl rfl) ggX9_whyNot_X9_daysLeft
set_option maxRecDepth 20000 in
theorem ggX9_whyNot_X3_hasMachine : GoodIn wsX9_whyNot wsX3_hasMachine := goodIn_r _ [20, 21, 59, 60, 61, 62, 63, 64, 65, 66, 67, 68, 69] rfl rfl
set_option maxRecDepth 20000 in
theorem gX9_whyNot_X3_hasMachine_n65 : GoodIn wsX9_whyNot (wsX3_hasMachine) := ggX9_whyNot_X3_hasMachine
set_option maxRecDepth 20000 in
theorem ggX9_whyNot_X9_whyNotWrite : GoodIn wsX9_whyNot wsX9_whyNotWrite := goodIn_r _ [25, 26, 27, 1, 17, 18, 19, 20, 21, 28, 29, 30, 31, 32, 33, 34, 5, 35, 36, 37, 38, 39, 40, 41, 42, 43, 44, 45, 46, 47, 48, 49, 50, 51, 52, 53, 54, 55, 56, 57, 58, 59, 60, 61, 62, 63, 64, 65, 66, 67, 68, 69] rfl rfl
set_option maxRecDepth 20000 in
theorem gX9_whyNot_X9_whyNotWrite : GoodIn wsX9_whyNot (wsV RX9 69 RX9 yX9_whyNotWrite wsX9_whyNotWrite) := goodIn_app (goodIn_r _ [22, 23, 24, 5] rfl rfl) ggX9_whyNot_X9_whyNotWrite
set_option maxRecDepth 20000 in
theorem ggX9_whyNot_X9_isHeld : GoodIn wsX9_whyNot wsX9_isHeld := goodIn_r _ [35, 36, 37, 38, 39, 50, 51, 52, 53, 54, 55, 56, 57, 58] rfl rfl
set_option maxRecDepth 20000 in
theorem gX9_whyNot_X9_isHeld : GoodIn wsX9_whyNot (wsV RX9 73 RX9 yX9_isHeld wsX9_isHeld) := goodIn_app (goodIn_r _ [32, 33, 34, 5] rfl rfl) ggX9_whyNot_X9_isHeld
theorem dX9_whyNot_0 : decode cX9_whyNot 0 = .ok (.iload_n 2, 1) := by decide +kernel
theorem dX9_whyNot_1 : decode cX9_whyNot 1 = .ok (.bipush 40, 2) := by decide +kernel
theorem dX9_whyNot_3 : decode cX9_whyNot 3 = .ok (.if_icmp .ne 16, 3) := by decide +kernel
theorem dX9_whyNot_6 : decode cX9_whyNot 6 = .ok (.aload_n 0, 1) := by decide +kernel
theorem dX9_whyNot_7 : decode cX9_whyNot 7 = .ok (.invokevirtual 57, 3) := by decide +kernel
theorem dX9_whyNot_10 : decode cX9_whyNot 10 = .ok (.ifCond .eq 7, 3) := by decide +kernel
theorem dX9_whyNot_13 : decode cX9_whyNot 13 = .ok (.iconst 0, 1) := by decide +kernel
theorem dX9_whyNot_14 : decode cX9_whyNot 14 = .ok (.goto 4, 3) := by decide +kernel
theorem dX9_whyNot_17 : decode cX9_whyNot 17 = .ok (.iconst 1, 1) := by decide +kernel
theorem dX9_whyNot_18 : decode cX9_whyNot 18 = .ok (.ireturn, 1) := by decide +kernel
theorem dX9_whyNot_19 : decode cX9_whyNot 19 = .ok (.iload_n 2, 1) := by decide +kernel
theorem dX9_whyNot_20 : decode cX9_whyNot 20 = .ok (.bipush 50, 2) := by decide +kernel
theorem dX9_whyNot_22 : decode cX9_whyNot 22 = .ok (.if_icmp .ne 18, 3) := by decide +kernel
theorem dX9_whyNot_25 : decode cX9_whyNot 25 = .ok (.iload 4, 2) := by decide +kernel
theorem dX9_whyNot_27 : decode cX9_whyNot 27 = .ok (.aload_n 0, 1) := by decide +kernel
theorem dX9_whyNot_28 : decode cX9_whyNot 28 = .ok (.invokevirtual 61, 3) := by decide +kernel
theorem dX9_whyNot_31 : decode cX9_whyNot 31 = .ok (.if_icmp .le 7, 3) := by decide +kernel
theorem dX9_whyNot_34 : decode cX9_whyNot 34 = .ok (.iconst 1, 1) := by decide +kernel
theorem dX9_whyNot_35 : decode cX9_whyNot 35 = .ok (.goto 4, 3) := by decide +kernel
theorem dX9_whyNot_38 : decode cX9_whyNot 38 = .ok (.iconst 0, 1) := by decide +kernel
theorem dX9_whyNot_39 : decode cX9_whyNot 39 = .ok (.ireturn, 1) := by decide +kernel
theorem dX9_whyNot_40 : decode cX9_whyNot 40 = .ok (.aload_n 1, 1) := by decide +kernel
theorem dX9_whyNot_41 : decode cX9_whyNot 41 = .ok (.iload_n 3, 1) := by decide +kernel
theorem dX9_whyNot_42 : decode cX9_whyNot 42 = .ok (.invokevirtual 65, 3) := by decide +kernel
theorem dX9_whyNot_45 : decode cX9_whyNot 45 = .ok (.ifCond .ne 5, 3) := by decide +kernel
theorem dX9_whyNot_48 : decode cX9_whyNot 48 = .ok (.iconst (-1), 1) := by decide +kernel
theorem dX9_whyNot_49 : decode cX9_whyNot 49 = .ok (.ireturn, 1) := by decide +kernel
theorem dX9_whyNot_50 : decode cX9_whyNot 50 = .ok (.iload_n 2, 1) := by decide +kernel
theorem dX9_whyNot_51 : decode cX9_whyNot 51 = .ok (.ifCond .ne 12, 3) := by decide +kernel
theorem dX9_whyNot_54 : decode cX9_whyNot 54 = .ok (.aload_n 0, 1) := by decide +kernel
theorem dX9_whyNot_55 : decode cX9_whyNot 55 = .ok (.aload_n 1, 1) := by decide +kernel
theorem dX9_whyNot_56 : decode cX9_whyNot 56 = .ok (.iload_n 3, 1) := by decide +kernel
theorem dX9_whyNot_57 : decode cX9_whyNot 57 = .ok (.iload 4, 2) := by decide +kernel
theorem dX9_whyNot_59 : decode cX9_whyNot 59 = .ok (.invokevirtual 69, 3) := by decide +kernel
theorem dX9_whyNot_62 : decode cX9_whyNot 62 = .ok (.ireturn, 1) := by decide +kernel
theorem dX9_whyNot_63 : decode cX9_whyNot 63 = .ok (.iload_n 2, 1) := by decide +kernel
theorem dX9_whyNot_64 : decode cX9_whyNot 64 = .ok (.bipush 10, 2) := by decide +kernel
theorem dX9_whyNot_66 : decode cX9_whyNot 66 = .ok (.if_icmp .ne 17, 3) := by decide +kernel
theorem dX9_whyNot_69 : decode cX9_whyNot 69 = .ok (.aload_n 0, 1) := by decide +kernel
theorem dX9_whyNot_70 : decode cX9_whyNot 70 = .ok (.iload_n 3, 1) := by decide +kernel
theorem dX9_whyNot_71 : decode cX9_whyNot 71 = .ok (.invokevirtual 73, 3) := by decide +kernel
theorem dX9_whyNot_74 : decode cX9_whyNot 74 = .ok (.ifCond .eq 7, 3) := by decide +kernel
theorem dX9_whyNot_77 : decode cX9_whyNot 77 = .ok (.iconst 1, 1) := by decide +kernel
theorem dX9_whyNot_78 : decode cX9_whyNot 78 = .ok (.goto 4, 3) := by decide +kernel
theorem dX9_whyNot_81 : decode cX9_whyNot 81 = .ok (.iconst 0, 1) := by decide +kernel
theorem dX9_whyNot_82 : decode cX9_whyNot 82 = .ok (.ireturn, 1) := by decide +kernel
theorem dX9_whyNot_83 : decode cX9_whyNot 83 = .ok (.iload_n 2, 1) := by decide +kernel
theorem dX9_whyNot_84 : decode cX9_whyNot 84 = .ok (.bipush 20, 2) := by decide +kernel
theorem dX9_whyNot_86 : decode cX9_whyNot 86 = .ok (.if_icmp .ne 17, 3) := by decide +kernel
theorem dX9_whyNot_89 : decode cX9_whyNot 89 = .ok (.aload_n 0, 1) := by decide +kernel
theorem dX9_whyNot_90 : decode cX9_whyNot 90 = .ok (.iload_n 3, 1) := by decide +kernel
theorem dX9_whyNot_91 : decode cX9_whyNot 91 = .ok (.invokevirtual 73, 3) := by decide +kernel
theorem dX9_whyNot_94 : decode cX9_whyNot 94 = .ok (.ifCond .eq 7, 3) := by decide +kernel
theorem dX9_whyNot_97 : decode cX9_whyNot 97 = .ok (.iconst 0, 1) := by decide +kernel
theorem dX9_whyNot_98 : decode cX9_whyNot 98 = .ok (.goto 4, 3) := by decide +kernel
theorem dX9_whyNot_101 : decode cX9_whyNot 101 = .ok (.iconst 1, 1) := by decide +kernel
theorem dX9_whyNot_102 : decode cX9_whyNot 102 = .ok (.ireturn, 1) := by decide +kernel
theorem dX9_whyNot_103 : decode cX9_whyNot 103 = .ok (.iload 4, 2) := by decide +kernel
theorem dX9_whyNot_105 : decode cX9_whyNot 105 = .ok (.iconst 1, 1) := by decide +kernel
theorem dX9_whyNot_106 : decode cX9_whyNot 106 = .ok (.if_icmp .lt 11, 3) := by decide +kernel
theorem dX9_whyNot_109 : decode cX9_whyNot 109 = .ok (.iload 4, 2) := by decide +kernel
theorem dX9_whyNot_111 : decode cX9_whyNot 111 = .ok (.sipush 999, 3) := by decide +kernel
theorem dX9_whyNot_114 : decode cX9_whyNot 114 = .ok (.if_icmp .le 5, 3) := by decide +kernel
theorem dX9_whyNot_117 : decode cX9_whyNot 117 = .ok (.iconst (-1), 1) := by decide +kernel
theorem dX9_whyNot_118 : decode cX9_whyNot 118 = .ok (.ireturn, 1) := by decide +kernel
theorem dX9_whyNot_119 : decode cX9_whyNot 119 = .ok (.aload_n 0, 1) := by decide +kernel
theorem dX9_whyNot_120 : decode cX9_whyNot 120 = .ok (.getfield 9, 3) := by decide +kernel
theorem dX9_whyNot_123 : decode cX9_whyNot 123 = .ok (.iload_n 3, 1) := by decide +kernel
theorem dX9_whyNot_124 : decode cX9_whyNot 124 = .ok (.iaload, 1) := by decide +kernel
theorem dX9_whyNot_125 : decode cX9_whyNot 125 = .ok (.iload 4, 2) := by decide +kernel
theorem dX9_whyNot_127 : decode cX9_whyNot 127 = .ok (.if_icmp .lt 7, 3) := by decide +kernel
theorem dX9_whyNot_130 : decode cX9_whyNot 130 = .ok (.iconst 1, 1) := by decide +kernel
theorem dX9_whyNot_131 : decode cX9_whyNot 131 = .ok (.goto 4, 3) := by decide +kernel
theorem dX9_whyNot_134 : decode cX9_whyNot 134 = .ok (.iconst 0, 1) := by decide +kernel
theorem dX9_whyNot_135 : decode cX9_whyNot 135 = .ok (.ireturn, 1) := by decide +kernel
set_option maxRecDepth 20000 in
theorem ggX9_whyNotWrite_X3_hasMachine : GoodIn wsX9_whyNotWrite wsX3_hasMachine := goodIn_r _ [7, 8, 41, 42, 43, 44, 45, 46, 47, 48, 49, 50, 51] rfl rfl
set_option maxRecDepth 20000 in
theorem gX9_whyNotWrite_X3_hasMachine_n65 : GoodIn wsX9_whyNotWrite (wsX3_hasMachine) := ggX9_whyNotWrite_X3_hasMachine
set_option maxRecDepth 20000 in
theorem ggX9_whyNotWrite_X3_hasPhrase : GoodIn wsX9_whyNotWrite wsX3_hasPhrase := goodIn_r _ [11, 12, 41, 42, 43, 44, 45, 46, 47, 48, 49, 50, 51] rfl rfl
set_option maxRecDepth 20000 in
theorem gX9_whyNotWrite_X3_hasPhrase_n76 : GoodIn wsX9_whyNotWrite (wsX3_hasPhrase) := ggX9_whyNotWrite_X3_hasPhrase
set_option maxRecDepth 20000 in
theorem ggX9_whyNotWrite_X9_isHeld : GoodIn wsX9_whyNotWrite wsX9_isHeld := goodIn_r _ [17, 18, 19, 20, 21, 32, 33, 34, 35, 36, 37, 38, 39, 40] rfl rfl
set_option maxRecDepth 20000 in
theorem gX9_whyNotWrite_X9_isHeld : GoodIn wsX9_whyNotWrite (wsV RX9 73 RX9 yX9_isHeld wsX9_isHeld) := goodIn_app (goodIn_r _ [13, 14, 15, 16] rfl rfl) ggX9_whyNotWrite_X9_isHeld
set_option maxRecDepth 20000 in
theorem ggX9_whyNotWrite_X3_knowsOf : GoodIn wsX9_whyNotWrite wsX3_knowsOf := goodIn_r _ [24, 25, 26, 4, 6, 5, 7, 8, 27, 9, 10, 11, 12, 19, 20, 21, 41, 42, 43, 44, 45, 46, 47, 48, 49, 50, 51] rfl rfl
set_option maxRecDepth 20000 in
theorem gX9_whyNotWrite_X3_knowsOf_n79 : GoodIn wsX9_whyNotWrite (wsX3_knowsOf) := ggX9_whyNotWrite_X3_knowsOf
set_option maxRecDepth 20000 in
theorem ggX9_whyNotWrite_X3_isAnswer : GoodIn wsX9_whyNotWrite wsX3_isAnswer := goodIn_r _ [30, 31, 27, 9, 10, 5, 11, 12, 19, 20, 21, 41, 42, 43, 44, 45, 46, 47, 48, 49, 50, 51] rfl rfl
set_option maxRecDepth 20000 in
theorem gX9_whyNotWrite_X3_isAnswer_n82 : GoodIn wsX9_whyNotWrite (wsX3_isAnswer) := ggX9_whyNotWrite_X3_isAnswer
theorem dX9_whyNotWrite_0 : decode cX9_whyNotWrite 0 = .ok (.aload_n 1, 1) := by decide +kernel
theorem dX9_whyNotWrite_1 : decode cX9_whyNotWrite 1 = .ok (.iload_n 2, 1) := by decide +kernel
theorem dX9_whyNotWrite_2 : decode cX9_whyNotWrite 2 = .ok (.invokevirtual 65, 3) := by decide +kernel
theorem dX9_whyNotWrite_5 : decode cX9_whyNotWrite 5 = .ok (.ifCond .eq 11, 3) := by decide +kernel
theorem dX9_whyNotWrite_8 : decode cX9_whyNotWrite 8 = .ok (.aload_n 1, 1) := by decide +kernel
theorem dX9_whyNotWrite_9 : decode cX9_whyNotWrite 9 = .ok (.iload_n 3, 1) := by decide +kernel
theorem dX9_whyNotWrite_10 : decode cX9_whyNotWrite 10 = .ok (.invokevirtual 76, 3) := by decide +kernel
theorem dX9_whyNotWrite_13 : decode cX9_whyNotWrite 13 = .ok (.ifCond .ne 5, 3) := by decide +kernel
theorem dX9_whyNotWrite_16 : decode cX9_whyNotWrite 16 = .ok (.iconst (-1), 1) := by decide +kernel
theorem dX9_whyNotWrite_17 : decode cX9_whyNotWrite 17 = .ok (.ireturn, 1) := by decide +kernel
theorem dX9_whyNotWrite_18 : decode cX9_whyNotWrite 18 = .ok (.aload_n 0, 1) := by decide +kernel
theorem dX9_whyNotWrite_19 : decode cX9_whyNotWrite 19 = .ok (.iload_n 2, 1) := by decide +kernel
theorem dX9_whyNotWrite_20 : decode cX9_whyNotWrite 20 = .ok (.invokevirtual 73, 3) := by decide +kernel
theorem dX9_whyNotWrite_23 : decode cX9_whyNotWrite 23 = .ok (.ifCond .eq 5, 3) := by decide +kernel
theorem dX9_whyNotWrite_26 : decode cX9_whyNotWrite 26 = .ok (.iconst 1, 1) := by decide +kernel
theorem dX9_whyNotWrite_27 : decode cX9_whyNotWrite 27 = .ok (.ireturn, 1) := by decide +kernel
theorem dX9_whyNotWrite_28 : decode cX9_whyNotWrite 28 = .ok (.aload_n 0, 1) := by decide +kernel
theorem dX9_whyNotWrite_29 : decode cX9_whyNotWrite 29 = .ok (.getfield 24, 3) := by decide +kernel
theorem dX9_whyNotWrite_32 : decode cX9_whyNotWrite 32 = .ok (.iconst (-1), 1) := by decide +kernel
theorem dX9_whyNotWrite_33 : decode cX9_whyNotWrite 33 = .ok (.if_icmp .eq 13, 3) := by decide +kernel
theorem dX9_whyNotWrite_36 : decode cX9_whyNotWrite 36 = .ok (.aload_n 0, 1) := by decide +kernel
theorem dX9_whyNotWrite_37 : decode cX9_whyNotWrite 37 = .ok (.getfield 28, 3) := by decide +kernel
theorem dX9_whyNotWrite_40 : decode cX9_whyNotWrite 40 = .ok (.iload_n 2, 1) := by decide +kernel
theorem dX9_whyNotWrite_41 : decode cX9_whyNotWrite 41 = .ok (.if_icmp .ne 5, 3) := by decide +kernel
theorem dX9_whyNotWrite_44 : decode cX9_whyNotWrite 44 = .ok (.iconst 2, 1) := by decide +kernel
theorem dX9_whyNotWrite_45 : decode cX9_whyNotWrite 45 = .ok (.ireturn, 1) := by decide +kernel
theorem dX9_whyNotWrite_46 : decode cX9_whyNotWrite 46 = .ok (.aload_n 1, 1) := by decide +kernel
theorem dX9_whyNotWrite_47 : decode cX9_whyNotWrite 47 = .ok (.iload_n 2, 1) := by decide +kernel
theorem dX9_whyNotWrite_48 : decode cX9_whyNotWrite 48 = .ok (.iload_n 3, 1) := by decide +kernel
theorem dX9_whyNotWrite_49 : decode cX9_whyNotWrite 49 = .ok (.invokevirtual 79, 3) := by decide +kernel
theorem dX9_whyNotWrite_52 : decode cX9_whyNotWrite 52 = .ok (.ifCond .ne 5, 3) := by decide +kernel
theorem dX9_whyNotWrite_55 : decode cX9_whyNotWrite 55 = .ok (.iconst 3, 1) := by decide +kernel
theorem dX9_whyNotWrite_56 : decode cX9_whyNotWrite 56 = .ok (.ireturn, 1) := by decide +kernel
theorem dX9_whyNotWrite_57 : decode cX9_whyNotWrite 57 = .ok (.aload_n 0, 1) := by decide +kernel
theorem dX9_whyNotWrite_58 : decode cX9_whyNotWrite 58 = .ok (.getfield 24, 3) := by decide +kernel
theorem dX9_whyNotWrite_61 : decode cX9_whyNotWrite 61 = .ok (.iconst (-1), 1) := by decide +kernel
theorem dX9_whyNotWrite_62 : decode cX9_whyNotWrite 62 = .ok (.if_icmp .eq 17, 3) := by decide +kernel
theorem dX9_whyNotWrite_65 : decode cX9_whyNotWrite 65 = .ok (.aload_n 1, 1) := by decide +kernel
theorem dX9_whyNotWrite_66 : decode cX9_whyNotWrite 66 = .ok (.iload_n 3, 1) := by decide +kernel
theorem dX9_whyNotWrite_67 : decode cX9_whyNotWrite 67 = .ok (.aload_n 0, 1) := by decide +kernel
theorem dX9_whyNotWrite_68 : decode cX9_whyNotWrite 68 = .ok (.getfield 24, 3) := by decide +kernel
theorem dX9_whyNotWrite_71 : decode cX9_whyNotWrite 71 = .ok (.invokevirtual 82, 3) := by decide +kernel
theorem dX9_whyNotWrite_74 : decode cX9_whyNotWrite 74 = .ok (.ifCond .ne 5, 3) := by decide +kernel
theorem dX9_whyNotWrite_77 : decode cX9_whyNotWrite 77 = .ok (.iconst 4, 1) := by decide +kernel
theorem dX9_whyNotWrite_78 : decode cX9_whyNotWrite 78 = .ok (.ireturn, 1) := by decide +kernel
theorem dX9_whyNotWrite_79 : decode cX9_whyNotWrite 79 = .ok (.aload_n 0, 1) := by decide +kernel
theorem dX9_whyNotWrite_80 : decode cX9_whyNotWrite 80 = .ok (.getfield 9, 3) := by decide +kernel
theorem dX9_whyNotWrite_83 : decode cX9_whyNotWrite 83 = .ok (.iload_n 2, 1) := by decide +kernel
theorem dX9_whyNotWrite_84 : decode cX9_whyNotWrite 84 = .ok (.iaload, 1) := by decide +kernel
theorem dX9_whyNotWrite_85 : decode cX9_whyNotWrite 85 = .ok (.aload_n 1, 1) := by decide +kernel
theorem dX9_whyNotWrite_86 : decode cX9_whyNotWrite 86 = .ok (.getfield 85, 3) := by decide +kernel
theorem dX9_whyNotWrite_89 : decode cX9_whyNotWrite 89 = .ok (.iload_n 3, 1) := by decide +kernel
theorem dX9_whyNotWrite_90 : decode cX9_whyNotWrite 90 = .ok (.iaload, 1) := by decide +kernel
theorem dX9_whyNotWrite_91 : decode cX9_whyNotWrite 91 = .ok (.if_icmp .ge 7, 3) := by decide +kernel
theorem dX9_whyNotWrite_94 : decode cX9_whyNotWrite 94 = .ok (.iconst 5, 1) := by decide +kernel
theorem dX9_whyNotWrite_95 : decode cX9_whyNotWrite 95 = .ok (.goto 4, 3) := by decide +kernel
theorem dX9_whyNotWrite_98 : decode cX9_whyNotWrite 98 = .ok (.iconst 0, 1) := by decide +kernel
theorem dX9_whyNotWrite_99 : decode cX9_whyNotWrite 99 = .ok (.ireturn, 1) := by decide +kernel
set_option maxRecDepth 20000 in
theorem ggX9_phrasesAble_X9_whyNotWrite : GoodIn wsX9_phrasesAble wsX9_whyNotWrite := goodIn_r _ [5, 6, 7, 8, 9, 10, 11, 12, 13, 14, 15, 16, 17, 18, 19, 20, 4, 21, 22, 23, 24, 25, 26, 27, 28, 29, 30, 31, 32, 33, 34, 35, 47, 48, 49, 50, 51, 52, 53, 54, 55, 36, 37, 38, 39, 40, 41, 42, 43, 44, 45, 46] rfl rfl
set_option maxRecDepth 20000 in
theorem gX9_phrasesAble_X9_whyNotWrite : GoodIn wsX9_phrasesAble (wsV RX9 69 RX9 yX9_whyNotWrite wsX9_whyNotWrite) := goodIn_app (goodIn_r _ [1, 2, 3, 4] rfl rfl) ggX9_phrasesAble_X9_whyNotWrite
theorem dX9_phrasesAble_0 : decode cX9_phrasesAble 0 = .ok (.iconst 0, 1) := by decide +kernel
theorem dX9_phrasesAble_1 : decode cX9_phrasesAble 1 = .ok (.istore_n 3, 1) := by decide +kernel
theorem dX9_phrasesAble_2 : decode cX9_phrasesAble 2 = .ok (.iconst 0, 1) := by decide +kernel
theorem dX9_phrasesAble_3 : decode cX9_phrasesAble 3 = .ok (.istore 4, 2) := by decide +kernel
theorem dX9_phrasesAble_5 : decode cX9_phrasesAble 5 = .ok (.iload 4, 2) := by decide +kernel
theorem dX9_phrasesAble_7 : decode cX9_phrasesAble 7 = .ok (.aload_n 1, 1) := by decide +kernel
theorem dX9_phrasesAble_8 : decode cX9_phrasesAble 8 = .ok (.getfield 88, 3) := by decide +kernel
theorem dX9_phrasesAble_11 : decode cX9_phrasesAble 11 = .ok (.if_icmp .ge 27, 3) := by decide +kernel
theorem dX9_phrasesAble_14 : decode cX9_phrasesAble 14 = .ok (.aload_n 0, 1) := by decide +kernel
theorem dX9_phrasesAble_15 : decode cX9_phrasesAble 15 = .ok (.aload_n 1, 1) := by decide +kernel
theorem dX9_phrasesAble_16 : decode cX9_phrasesAble 16 = .ok (.iload_n 2, 1) := by decide +kernel
theorem dX9_phrasesAble_17 : decode cX9_phrasesAble 17 = .ok (.iload 4, 2) := by decide +kernel
theorem dX9_phrasesAble_19 : decode cX9_phrasesAble 19 = .ok (.invokevirtual 69, 3) := by decide +kernel
theorem dX9_phrasesAble_22 : decode cX9_phrasesAble 22 = .ok (.ifCond .ne 10, 3) := by decide +kernel
theorem dX9_phrasesAble_25 : decode cX9_phrasesAble 25 = .ok (.iload_n 3, 1) := by decide +kernel
theorem dX9_phrasesAble_26 : decode cX9_phrasesAble 26 = .ok (.iconst 1, 1) := by decide +kernel
theorem dX9_phrasesAble_27 : decode cX9_phrasesAble 27 = .ok (.iload 4, 2) := by decide +kernel
theorem dX9_phrasesAble_29 : decode cX9_phrasesAble 29 = .ok (.ishl, 1) := by decide +kernel
theorem dX9_phrasesAble_30 : decode cX9_phrasesAble 30 = .ok (.ior, 1) := by decide +kernel
theorem dX9_phrasesAble_31 : decode cX9_phrasesAble 31 = .ok (.istore_n 3, 1) := by decide +kernel
theorem dX9_phrasesAble_32 : decode cX9_phrasesAble 32 = .ok (.iinc 4 1, 3) := by decide +kernel
theorem dX9_phrasesAble_35 : decode cX9_phrasesAble 35 = .ok (.goto (-30), 3) := by decide +kernel
theorem dX9_phrasesAble_38 : decode cX9_phrasesAble 38 = .ok (.iload_n 3, 1) := by decide +kernel
theorem dX9_phrasesAble_39 : decode cX9_phrasesAble 39 = .ok (.ireturn, 1) := by decide +kernel
set_option maxRecDepth 20000 in
theorem ggX9_perform_X9_settle : GoodIn wsX9_perform wsX9_settle := goodIn_r _ [7, 8, 9, 10, 11, 12, 13, 14, 6, 15, 16, 17, 18, 19, 20, 38, 39, 40, 41, 42, 43, 44, 45, 46] rfl rfl
set_option maxRecDepth 20000 in
theorem gX9_perform_X9_settle : GoodIn wsX9_perform (wsV RX9 91 RX9 yX9_settle wsX9_settle) := goodIn_app (goodIn_r _ [3, 4, 5, 6] rfl rfl) ggX9_perform_X9_settle
set_option maxRecDepth 20000 in
theorem ggX9_perform_X9_put : GoodIn wsX9_perform wsX9_put := goodIn_r _ [24, 1, 25, 26, 27, 28, 8, 9, 10, 11, 29, 30, 31, 32, 33, 34, 35, 36, 37, 12, 13, 14, 6, 15, 16, 17, 18, 19, 20, 38, 39, 40, 41, 42, 43, 44, 45, 46, 47, 48, 49, 50, 51, 52, 53, 54, 55, 56, 57] rfl rfl
set_option maxRecDepth 20000 in
theorem gX9_perform_X9_put : GoodIn wsX9_perform (wsV RX9 94 RX9 yX9_put wsX9_put) := goodIn_app (goodIn_r _ [21, 22, 23, 6] rfl rfl) ggX9_perform_X9_put
set_option maxRecDepth 20000 in
theorem ggX9_perform_X3_hasMachine : GoodIn wsX9_perform wsX3_hasMachine := goodIn_r _ [32, 33, 47, 48, 49, 50, 51, 52, 53, 54, 55, 56, 57] rfl rfl
set_option maxRecDepth 20000 in
theorem gX9_perform_X3_hasMachine_n65 : GoodIn wsX9_perform (wsX3_hasMachine) := ggX9_perform_X3_hasMachine
theorem dX9_perform_0 : decode cX9_perform 0 = .ok (.iload_n 2, 1) := by decide +kernel
theorem dX9_perform_1 : decode cX9_perform 1 = .ok (.bipush 40, 2) := by decide +kernel
theorem dX9_perform_3 : decode cX9_perform 3 = .ok (.if_icmp .ne 10, 3) := by decide +kernel
theorem dX9_perform_6 : decode cX9_perform 6 = .ok (.aload_n 0, 1) := by decide +kernel
theorem dX9_perform_7 : decode cX9_perform 7 = .ok (.invokevirtual 91, 3) := by decide +kernel
theorem dX9_perform_10 : decode cX9_perform 10 = .ok (.goto 84, 3) := by decide +kernel
theorem dX9_perform_13 : decode cX9_perform 13 = .ok (.iload_n 2, 1) := by decide +kernel
theorem dX9_perform_14 : decode cX9_perform 14 = .ok (.ifCond .ne 14, 3) := by decide +kernel
theorem dX9_perform_17 : decode cX9_perform 17 = .ok (.aload_n 0, 1) := by decide +kernel
theorem dX9_perform_18 : decode cX9_perform 18 = .ok (.aload_n 1, 1) := by decide +kernel
theorem dX9_perform_19 : decode cX9_perform 19 = .ok (.iload_n 3, 1) := by decide +kernel
theorem dX9_perform_20 : decode cX9_perform 20 = .ok (.iload 4, 2) := by decide +kernel
theorem dX9_perform_22 : decode cX9_perform 22 = .ok (.invokevirtual 94, 3) := by decide +kernel
theorem dX9_perform_25 : decode cX9_perform 25 = .ok (.goto 69, 3) := by decide +kernel
theorem dX9_perform_28 : decode cX9_perform 28 = .ok (.iload_n 2, 1) := by decide +kernel
theorem dX9_perform_29 : decode cX9_perform 29 = .ok (.bipush 30, 2) := by decide +kernel
theorem dX9_perform_31 : decode cX9_perform 31 = .ok (.if_icmp .ne 22, 3) := by decide +kernel
theorem dX9_perform_34 : decode cX9_perform 34 = .ok (.aload_n 1, 1) := by decide +kernel
theorem dX9_perform_35 : decode cX9_perform 35 = .ok (.iload_n 3, 1) := by decide +kernel
theorem dX9_perform_36 : decode cX9_perform 36 = .ok (.invokevirtual 65, 3) := by decide +kernel
theorem dX9_perform_39 : decode cX9_perform 39 = .ok (.ifCond .eq 14, 3) := by decide +kernel
theorem dX9_perform_42 : decode cX9_perform 42 = .ok (.aload_n 0, 1) := by decide +kernel
theorem dX9_perform_43 : decode cX9_perform 43 = .ok (.getfield 9, 3) := by decide +kernel
theorem dX9_perform_46 : decode cX9_perform 46 = .ok (.iload_n 3, 1) := by decide +kernel
theorem dX9_perform_47 : decode cX9_perform 47 = .ok (.iload 4, 2) := by decide +kernel
theorem dX9_perform_49 : decode cX9_perform 49 = .ok (.iastore, 1) := by decide +kernel
theorem dX9_perform_50 : decode cX9_perform 50 = .ok (.goto 44, 3) := by decide +kernel
theorem dX9_perform_53 : decode cX9_perform 53 = .ok (.iload_n 2, 1) := by decide +kernel
theorem dX9_perform_54 : decode cX9_perform 54 = .ok (.bipush 10, 2) := by decide +kernel
theorem dX9_perform_56 : decode cX9_perform 56 = .ok (.if_icmp .ne 18, 3) := by decide +kernel
theorem dX9_perform_59 : decode cX9_perform 59 = .ok (.aload_n 0, 1) := by decide +kernel
theorem dX9_perform_60 : decode cX9_perform 60 = .ok (.dup, 1) := by decide +kernel
theorem dX9_perform_61 : decode cX9_perform 61 = .ok (.getfield 34, 3) := by decide +kernel
theorem dX9_perform_64 : decode cX9_perform 64 = .ok (.iconst 1, 1) := by decide +kernel
theorem dX9_perform_65 : decode cX9_perform 65 = .ok (.iload_n 3, 1) := by decide +kernel
theorem dX9_perform_66 : decode cX9_perform 66 = .ok (.ishl, 1) := by decide +kernel
theorem dX9_perform_67 : decode cX9_perform 67 = .ok (.ior, 1) := by decide +kernel
theorem dX9_perform_68 : decode cX9_perform 68 = .ok (.putfield 34, 3) := by decide +kernel
theorem dX9_perform_71 : decode cX9_perform 71 = .ok (.goto 23, 3) := by decide +kernel
theorem dX9_perform_74 : decode cX9_perform 74 = .ok (.iload_n 2, 1) := by decide +kernel
theorem dX9_perform_75 : decode cX9_perform 75 = .ok (.bipush 20, 2) := by decide +kernel
theorem dX9_perform_77 : decode cX9_perform 77 = .ok (.if_icmp .ne 17, 3) := by decide +kernel
theorem dX9_perform_80 : decode cX9_perform 80 = .ok (.aload_n 0, 1) := by decide +kernel
theorem dX9_perform_81 : decode cX9_perform 81 = .ok (.dup, 1) := by decide +kernel
theorem dX9_perform_82 : decode cX9_perform 82 = .ok (.getfield 34, 3) := by decide +kernel
theorem dX9_perform_85 : decode cX9_perform 85 = .ok (.iconst 1, 1) := by decide +kernel
theorem dX9_perform_86 : decode cX9_perform 86 = .ok (.iload_n 3, 1) := by decide +kernel
theorem dX9_perform_87 : decode cX9_perform 87 = .ok (.ishl, 1) := by decide +kernel
theorem dX9_perform_88 : decode cX9_perform 88 = .ok (.iconst (-1), 1) := by decide +kernel
theorem dX9_perform_89 : decode cX9_perform 89 = .ok (.ixor, 1) := by decide +kernel
theorem dX9_perform_90 : decode cX9_perform 90 = .ok (.iand, 1) := by decide +kernel
theorem dX9_perform_91 : decode cX9_perform 91 = .ok (.putfield 34, 3) := by decide +kernel
theorem dX9_perform_94 : decode cX9_perform 94 = .ok (.return_, 1) := by decide +kernel
set_option maxRecDepth 20000 in
theorem ggX9_performIfItCan_X9_whyNot : GoodIn wsX9_performIfItCan wsX9_whyNot := goodIn_r _ [5, 6, 7, 8, 9, 4, 10, 11, 12, 13, 14, 15, 16, 17, 18, 19, 20, 21, 22, 23, 24, 25, 26, 27, 28, 29, 30, 31, 32, 33, 34, 35, 36, 37, 38, 39, 40, 41, 42, 43, 44, 45, 46, 47, 48, 49, 50, 51, 52, 53, 76, 77, 78, 79, 80, 81, 82, 83, 84, 85, 86, 87, 88, 89, 90, 91, 92, 93, 94, 95] rfl rfl
set_option maxRecDepth 20000 in
theorem gX9_performIfItCan_X9_whyNot : GoodIn wsX9_performIfItCan (wsV RX9 98 RX9 yX9_whyNot wsX9_whyNot) := goodIn_app (goodIn_r _ [1, 2, 3, 4] rfl rfl) ggX9_performIfItCan_X9_whyNot
set_option maxRecDepth 20000 in
theorem ggX9_performIfItCan_X9_perform : GoodIn wsX9_performIfItCan wsX9_perform := goodIn_r _ [57, 6, 40, 58, 59, 60, 4, 61, 62, 63, 64, 65, 11, 12, 13, 14, 15, 66, 67, 68, 69, 70, 71, 72, 73, 74, 75, 30, 31, 21, 22, 23, 24, 25, 32, 33, 34, 35, 76, 77, 78, 79, 80, 81, 82, 83, 84, 85, 86, 87, 88, 89, 90, 91, 92, 93, 94, 95] rfl rfl
set_option maxRecDepth 20000 in
theorem gX9_performIfItCan_X9_perform : GoodIn wsX9_performIfItCan (wsV RX9 102 RX9 yX9_perform wsX9_perform) := goodIn_app (goodIn_r _ [54, 55, 56, 4] rfl rfl) ggX9_performIfItCan_X9_perform
theorem dX9_performIfItCan_0 : decode cX9_performIfItCan 0 = .ok (.aload_n 0, 1) := by decide +kernel
theorem dX9_performIfItCan_1 : decode cX9_performIfItCan 1 = .ok (.aload_n 1, 1) := by decide +kernel
theorem dX9_performIfItCan_2 : decode cX9_performIfItCan 2 = .ok (.iload_n 2, 1) := by decide +kernel
theorem dX9_performIfItCan_3 : decode cX9_performIfItCan 3 = .ok (.iload_n 3, 1) := by decide +kernel
theorem dX9_performIfItCan_4 : decode cX9_performIfItCan 4 = .ok (.iload 4, 2) := by decide +kernel
theorem dX9_performIfItCan_6 : decode cX9_performIfItCan 6 = .ok (.invokevirtual 98, 3) := by decide +kernel
theorem dX9_performIfItCan_9 : decode cX9_performIfItCan 9 = .ok (.ifCond .ne 12, 3) := by decide +kernel
theorem dX9_performIfItCan_12 : decode cX9_performIfItCan 12 = .ok (.aload_n 0, 1) := by decide +kernel
theorem dX9_performIfItCan_13 : decode cX9_performIfItCan 13 = .ok (.aload_n 1, 1) := by decide +kernel
theorem dX9_performIfItCan_14 : decode cX9_performIfItCan 14 = .ok (.iload_n 2, 1) := by decide +kernel
theorem dX9_performIfItCan_15 : decode cX9_performIfItCan 15 = .ok (.iload_n 3, 1) := by decide +kernel
theorem dX9_performIfItCan_16 : decode cX9_performIfItCan 16 = .ok (.iload 4, 2) := by decide +kernel
theorem dX9_performIfItCan_18 : decode cX9_performIfItCan 18 = .ok (.invokevirtual 102, 3) := by decide +kernel
theorem dX9_performIfItCan_21 : decode cX9_performIfItCan 21 = .ok (.return_, 1) := by decide +kernel
set_option maxRecDepth 20000 in
theorem ggX9_put_X3_hasMachine : GoodIn wsX9_put wsX3_hasMachine := goodIn_r _ [13, 14, 38, 39, 40, 41, 42, 43, 44, 45, 46, 47, 48] rfl rfl
set_option maxRecDepth 20000 in
theorem gX9_put_X3_hasMachine_n65 : GoodIn wsX9_put (wsX3_hasMachine) := ggX9_put_X3_hasMachine
set_option maxRecDepth 20000 in
theorem ggX9_put_X3_hasPhrase : GoodIn wsX9_put wsX3_hasPhrase := goodIn_r _ [17, 18, 38, 39, 40, 41, 42, 43, 44, 45, 46, 47, 48] rfl rfl
set_option maxRecDepth 20000 in
theorem gX9_put_X3_hasPhrase_n76 : GoodIn wsX9_put (wsX3_hasPhrase) := ggX9_put_X3_hasPhrase
set_option maxRecDepth 20000 in
theorem ggX9_put_X9_debtOf : GoodIn wsX9_put wsX9_debtOf := goodIn_r _ [23, 24, 29, 30, 31, 32, 33, 34, 35, 36, 37] rfl rfl
set_option maxRecDepth 20000 in
theorem gX9_put_X9_debtOf : GoodIn wsX9_put (wsV RX9 53 RX9 yX9_debtOf wsX9_debtOf) := goodIn_app (goodIn_r _ [19, 20, 21, 22] rfl rfl) ggX9_put_X9_debtOf
set_option maxRecDepth 20000 in
theorem ggX9_put_X9_setDebt : GoodIn wsX9_put wsX9_setDebt := goodIn_r _ [28, 24, 29, 30, 31, 32, 33, 34, 35, 36, 37] rfl rfl
set_option maxRecDepth 20000 in
theorem gX9_put_X9_setDebt : GoodIn wsX9_put (wsV RX9 114 RX9 yX9_setDebt wsX9_setDebt) := goodIn_app (goodIn_r _ [25, 26, 27, 22] rfl rfl) ggX9_put_X9_setDebt
theorem dX9_put_0 : decode cX9_put 0 = .ok (.aload_n 1, 1) := by decide +kernel
theorem dX9_put_1 : decode cX9_put 1 = .ok (.iload_n 2, 1) := by decide +kernel
theorem dX9_put_2 : decode cX9_put 2 = .ok (.invokevirtual 65, 3) := by decide +kernel
theorem dX9_put_5 : decode cX9_put 5 = .ok (.ifCond .eq 11, 3) := by decide +kernel
theorem dX9_put_8 : decode cX9_put 8 = .ok (.aload_n 1, 1) := by decide +kernel
theorem dX9_put_9 : decode cX9_put 9 = .ok (.iload_n 3, 1) := by decide +kernel
theorem dX9_put_10 : decode cX9_put 10 = .ok (.invokevirtual 76, 3) := by decide +kernel
theorem dX9_put_13 : decode cX9_put 13 = .ok (.ifCond .ne 4, 3) := by decide +kernel
theorem dX9_put_16 : decode cX9_put 16 = .ok (.return_, 1) := by decide +kernel
theorem dX9_put_17 : decode cX9_put 17 = .ok (.aload_n 0, 1) := by decide +kernel
theorem dX9_put_18 : decode cX9_put 18 = .ok (.getfield 9, 3) := by decide +kernel
theorem dX9_put_21 : decode cX9_put 21 = .ok (.iload_n 2, 1) := by decide +kernel
theorem dX9_put_22 : decode cX9_put 22 = .ok (.dup2, 1) := by decide +kernel
theorem dX9_put_23 : decode cX9_put 23 = .ok (.iaload, 1) := by decide +kernel
theorem dX9_put_24 : decode cX9_put 24 = .ok (.aload_n 1, 1) := by decide +kernel
theorem dX9_put_25 : decode cX9_put 25 = .ok (.getfield 85, 3) := by decide +kernel
theorem dX9_put_28 : decode cX9_put 28 = .ok (.iload_n 3, 1) := by decide +kernel
theorem dX9_put_29 : decode cX9_put 29 = .ok (.iaload, 1) := by decide +kernel
theorem dX9_put_30 : decode cX9_put 30 = .ok (.isub, 1) := by decide +kernel
theorem dX9_put_31 : decode cX9_put 31 = .ok (.iastore, 1) := by decide +kernel
theorem dX9_put_32 : decode cX9_put 32 = .ok (.aload_n 0, 1) := by decide +kernel
theorem dX9_put_33 : decode cX9_put 33 = .ok (.getfield 15, 3) := by decide +kernel
theorem dX9_put_36 : decode cX9_put 36 = .ok (.iload_n 2, 1) := by decide +kernel
theorem dX9_put_37 : decode cX9_put 37 = .ok (.dup2, 1) := by decide +kernel
theorem dX9_put_38 : decode cX9_put 38 = .ok (.iaload, 1) := by decide +kernel
theorem dX9_put_39 : decode cX9_put 39 = .ok (.iconst 1, 1) := by decide +kernel
theorem dX9_put_40 : decode cX9_put 40 = .ok (.iadd, 1) := by decide +kernel
theorem dX9_put_41 : decode cX9_put 41 = .ok (.iastore, 1) := by decide +kernel
theorem dX9_put_42 : decode cX9_put 42 = .ok (.aload_n 0, 1) := by decide +kernel
theorem dX9_put_43 : decode cX9_put 43 = .ok (.getfield 18, 3) := by decide +kernel
theorem dX9_put_46 : decode cX9_put 46 = .ok (.iload_n 2, 1) := by decide +kernel
theorem dX9_put_47 : decode cX9_put 47 = .ok (.dup2, 1) := by decide +kernel
theorem dX9_put_48 : decode cX9_put 48 = .ok (.iaload, 1) := by decide +kernel
theorem dX9_put_49 : decode cX9_put 49 = .ok (.aload_n 1, 1) := by decide +kernel
theorem dX9_put_50 : decode cX9_put 50 = .ok (.getfield 85, 3) := by decide +kernel
theorem dX9_put_53 : decode cX9_put 53 = .ok (.iload_n 3, 1) := by decide +kernel
theorem dX9_put_54 : decode cX9_put 54 = .ok (.iaload, 1) := by decide +kernel
theorem dX9_put_55 : decode cX9_put 55 = .ok (.iadd, 1) := by decide +kernel
theorem dX9_put_56 : decode cX9_put 56 = .ok (.iastore, 1) := by decide +kernel
theorem dX9_put_57 : decode cX9_put 57 = .ok (.aload_n 0, 1) := by decide +kernel
theorem dX9_put_58 : decode cX9_put 58 = .ok (.getfield 24, 3) := by decide +kernel
theorem dX9_put_61 : decode cX9_put 61 = .ok (.iconst (-1), 1) := by decide +kernel
theorem dX9_put_62 : decode cX9_put 62 = .ok (.if_icmp .eq 34, 3) := by decide +kernel
theorem dX9_put_65 : decode cX9_put 65 = .ok (.aload_n 0, 1) := by decide +kernel
theorem dX9_put_66 : decode cX9_put 66 = .ok (.aload_n 0, 1) := by decide +kernel
theorem dX9_put_67 : decode cX9_put 67 = .ok (.getfield 28, 3) := by decide +kernel
theorem dX9_put_70 : decode cX9_put 70 = .ok (.iload_n 2, 1) := by decide +kernel
theorem dX9_put_71 : decode cX9_put 71 = .ok (.sipush 9999, 3) := by decide +kernel
theorem dX9_put_74 : decode cX9_put 74 = .ok (.aload_n 0, 1) := by decide +kernel
theorem dX9_put_75 : decode cX9_put 75 = .ok (.aload_n 0, 1) := by decide +kernel
theorem dX9_put_76 : decode cX9_put 76 = .ok (.getfield 28, 3) := by decide +kernel
theorem dX9_put_79 : decode cX9_put 79 = .ok (.iload_n 2, 1) := by decide +kernel
theorem dX9_put_80 : decode cX9_put 80 = .ok (.invokevirtual 53, 3) := by decide +kernel
theorem dX9_put_83 : decode cX9_put 83 = .ok (.aload_n 1, 1) := by decide +kernel
theorem dX9_put_84 : decode cX9_put 84 = .ok (.getfield 106, 3) := by decide +kernel
theorem dX9_put_87 : decode cX9_put 87 = .ok (.iload_n 3, 1) := by decide +kernel
theorem dX9_put_88 : decode cX9_put 88 = .ok (.iaload, 1) := by decide +kernel
theorem dX9_put_89 : decode cX9_put 89 = .ok (.iadd, 1) := by decide +kernel
theorem dX9_put_90 : decode cX9_put 90 = .ok (.invokestatic 109, 3) := by decide +kernel
theorem dX9_put_93 : decode cX9_put 93 = .ok (.invokevirtual 114, 3) := by decide +kernel
theorem dX9_put_96 : decode cX9_put 96 = .ok (.aload_n 0, 1) := by decide +kernel
theorem dX9_put_97 : decode cX9_put 97 = .ok (.iload_n 3, 1) := by decide +kernel
theorem dX9_put_98 : decode cX9_put 98 = .ok (.putfield 24, 3) := by decide +kernel
theorem dX9_put_101 : decode cX9_put 101 = .ok (.aload_n 0, 1) := by decide +kernel
theorem dX9_put_102 : decode cX9_put 102 = .ok (.iload_n 2, 1) := by decide +kernel
theorem dX9_put_103 : decode cX9_put 103 = .ok (.putfield 28, 3) := by decide +kernel
theorem dX9_put_106 : decode cX9_put 106 = .ok (.return_, 1) := by decide +kernel
set_option maxRecDepth 20000 in
theorem ggX9_owesBothWays_X9_debtOf : GoodIn wsX9_owesBothWays wsX9_debtOf := goodIn_r _ [5, 6, 7, 8, 9, 10, 11, 12, 13, 14, 15] rfl rfl
set_option maxRecDepth 20000 in
theorem gX9_owesBothWays_X9_debtOf : GoodIn wsX9_owesBothWays (wsV RX9 53 RX9 yX9_debtOf wsX9_debtOf) := goodIn_app (goodIn_r _ [1, 2, 3, 4] rfl rfl) ggX9_owesBothWays_X9_debtOf
theorem dX9_owesBothWays_0 : decode cX9_owesBothWays 0 = .ok (.iconst 0, 1) := by decide +kernel
theorem dX9_owesBothWays_1 : decode cX9_owesBothWays 1 = .ok (.istore_n 1, 1) := by decide +kernel
theorem dX9_owesBothWays_2 : decode cX9_owesBothWays 2 = .ok (.iload_n 1, 1) := by decide +kernel
theorem dX9_owesBothWays_3 : decode cX9_owesBothWays 3 = .ok (.bipush 6, 2) := by decide +kernel
theorem dX9_owesBothWays_5 : decode cX9_owesBothWays 5 = .ok (.if_icmp .ge 42, 3) := by decide +kernel
theorem dX9_owesBothWays_8 : decode cX9_owesBothWays 8 = .ok (.iconst 0, 1) := by decide +kernel
theorem dX9_owesBothWays_9 : decode cX9_owesBothWays 9 = .ok (.istore_n 2, 1) := by decide +kernel
theorem dX9_owesBothWays_10 : decode cX9_owesBothWays 10 = .ok (.iload_n 2, 1) := by decide +kernel
theorem dX9_owesBothWays_11 : decode cX9_owesBothWays 11 = .ok (.iload_n 1, 1) := by decide +kernel
theorem dX9_owesBothWays_12 : decode cX9_owesBothWays 12 = .ok (.if_icmp .ge 29, 3) := by decide +kernel
theorem dX9_owesBothWays_15 : decode cX9_owesBothWays 15 = .ok (.aload_n 0, 1) := by decide +kernel
theorem dX9_owesBothWays_16 : decode cX9_owesBothWays 16 = .ok (.iload_n 1, 1) := by decide +kernel
theorem dX9_owesBothWays_17 : decode cX9_owesBothWays 17 = .ok (.iload_n 2, 1) := by decide +kernel
theorem dX9_owesBothWays_18 : decode cX9_owesBothWays 18 = .ok (.invokevirtual 53, 3) := by decide +kernel
theorem dX9_owesBothWays_21 : decode cX9_owesBothWays 21 = .ok (.ifCond .le 14, 3) := by decide +kernel
theorem dX9_owesBothWays_24 : decode cX9_owesBothWays 24 = .ok (.aload_n 0, 1) := by decide +kernel
theorem dX9_owesBothWays_25 : decode cX9_owesBothWays 25 = .ok (.iload_n 2, 1) := by decide +kernel
theorem dX9_owesBothWays_26 : decode cX9_owesBothWays 26 = .ok (.iload_n 1, 1) := by decide +kernel
theorem dX9_owesBothWays_27 : decode cX9_owesBothWays 27 = .ok (.invokevirtual 53, 3) := by decide +kernel
theorem dX9_owesBothWays_30 : decode cX9_owesBothWays 30 = .ok (.ifCond .le 5, 3) := by decide +kernel
theorem dX9_owesBothWays_33 : decode cX9_owesBothWays 33 = .ok (.iconst 1, 1) := by decide +kernel
theorem dX9_owesBothWays_34 : decode cX9_owesBothWays 34 = .ok (.ireturn, 1) := by decide +kernel
theorem dX9_owesBothWays_35 : decode cX9_owesBothWays 35 = .ok (.iinc 2 1, 3) := by decide +kernel
theorem dX9_owesBothWays_38 : decode cX9_owesBothWays 38 = .ok (.goto (-28), 3) := by decide +kernel
theorem dX9_owesBothWays_41 : decode cX9_owesBothWays 41 = .ok (.iinc 1 1, 3) := by decide +kernel
theorem dX9_owesBothWays_44 : decode cX9_owesBothWays 44 = .ok (.goto (-42), 3) := by decide +kernel
theorem dX9_owesBothWays_47 : decode cX9_owesBothWays 47 = .ok (.iconst 0, 1) := by decide +kernel
theorem dX9_owesBothWays_48 : decode cX9_owesBothWays 48 = .ok (.ireturn, 1) := by decide +kernel
set_option maxRecDepth 20000 in
theorem ggX9_settle_X9_debtOf : GoodIn wsX9_settle wsX9_debtOf := goodIn_r _ [9, 10, 15, 16, 17, 18, 19, 20, 21, 22, 23] rfl rfl
set_option maxRecDepth 20000 in
theorem gX9_settle_X9_debtOf : GoodIn wsX9_settle (wsV RX9 53 RX9 yX9_debtOf wsX9_debtOf) := goodIn_app (goodIn_r _ [5, 6, 7, 8] rfl rfl) ggX9_settle_X9_debtOf
set_option maxRecDepth 20000 in
theorem ggX9_settle_X9_setDebt : GoodIn wsX9_settle wsX9_setDebt := goodIn_r _ [14, 10, 15, 16, 17, 18, 19, 20, 21, 22, 23] rfl rfl
set_option maxRecDepth 20000 in
theorem gX9_settle_X9_setDebt : GoodIn wsX9_settle (wsV RX9 114 RX9 yX9_setDebt wsX9_setDebt) := goodIn_app (goodIn_r _ [11, 12, 13, 8] rfl rfl) ggX9_settle_X9_setDebt
theorem dX9_settle_0 : decode cX9_settle 0 = .ok (.iconst 0, 1) := by decide +kernel
theorem dX9_settle_1 : decode cX9_settle 1 = .ok (.istore_n 1, 1) := by decide +kernel
theorem dX9_settle_2 : decode cX9_settle 2 = .ok (.iload_n 1, 1) := by decide +kernel
theorem dX9_settle_3 : decode cX9_settle 3 = .ok (.bipush 6, 2) := by decide +kernel
theorem dX9_settle_5 : decode cX9_settle 5 = .ok (.if_icmp .ge 66, 3) := by decide +kernel
theorem dX9_settle_8 : decode cX9_settle 8 = .ok (.iconst 0, 1) := by decide +kernel
theorem dX9_settle_9 : decode cX9_settle 9 = .ok (.istore_n 2, 1) := by decide +kernel
theorem dX9_settle_10 : decode cX9_settle 10 = .ok (.iload_n 2, 1) := by decide +kernel
theorem dX9_settle_11 : decode cX9_settle 11 = .ok (.iload_n 1, 1) := by decide +kernel
theorem dX9_settle_12 : decode cX9_settle 12 = .ok (.if_icmp .ge 53, 3) := by decide +kernel
theorem dX9_settle_15 : decode cX9_settle 15 = .ok (.aload_n 0, 1) := by decide +kernel
theorem dX9_settle_16 : decode cX9_settle 16 = .ok (.iload_n 1, 1) := by decide +kernel
theorem dX9_settle_17 : decode cX9_settle 17 = .ok (.iload_n 2, 1) := by decide +kernel
theorem dX9_settle_18 : decode cX9_settle 18 = .ok (.invokevirtual 53, 3) := by decide +kernel
theorem dX9_settle_21 : decode cX9_settle 21 = .ok (.aload_n 0, 1) := by decide +kernel
theorem dX9_settle_22 : decode cX9_settle 22 = .ok (.iload_n 2, 1) := by decide +kernel
theorem dX9_settle_23 : decode cX9_settle 23 = .ok (.iload_n 1, 1) := by decide +kernel
theorem dX9_settle_24 : decode cX9_settle 24 = .ok (.invokevirtual 53, 3) := by decide +kernel
theorem dX9_settle_27 : decode cX9_settle 27 = .ok (.invokestatic 109, 3) := by decide +kernel
theorem dX9_settle_30 : decode cX9_settle 30 = .ok (.istore_n 3, 1) := by decide +kernel
theorem dX9_settle_31 : decode cX9_settle 31 = .ok (.aload_n 0, 1) := by decide +kernel
theorem dX9_settle_32 : decode cX9_settle 32 = .ok (.iload_n 1, 1) := by decide +kernel
theorem dX9_settle_33 : decode cX9_settle 33 = .ok (.iload_n 2, 1) := by decide +kernel
theorem dX9_settle_34 : decode cX9_settle 34 = .ok (.aload_n 0, 1) := by decide +kernel
theorem dX9_settle_35 : decode cX9_settle 35 = .ok (.iload_n 1, 1) := by decide +kernel
theorem dX9_settle_36 : decode cX9_settle 36 = .ok (.iload_n 2, 1) := by decide +kernel
theorem dX9_settle_37 : decode cX9_settle 37 = .ok (.invokevirtual 53, 3) := by decide +kernel
theorem dX9_settle_40 : decode cX9_settle 40 = .ok (.iload_n 3, 1) := by decide +kernel
theorem dX9_settle_41 : decode cX9_settle 41 = .ok (.isub, 1) := by decide +kernel
theorem dX9_settle_42 : decode cX9_settle 42 = .ok (.invokevirtual 114, 3) := by decide +kernel
theorem dX9_settle_45 : decode cX9_settle 45 = .ok (.aload_n 0, 1) := by decide +kernel
theorem dX9_settle_46 : decode cX9_settle 46 = .ok (.iload_n 2, 1) := by decide +kernel
theorem dX9_settle_47 : decode cX9_settle 47 = .ok (.iload_n 1, 1) := by decide +kernel
theorem dX9_settle_48 : decode cX9_settle 48 = .ok (.aload_n 0, 1) := by decide +kernel
theorem dX9_settle_49 : decode cX9_settle 49 = .ok (.iload_n 2, 1) := by decide +kernel
theorem dX9_settle_50 : decode cX9_settle 50 = .ok (.iload_n 1, 1) := by decide +kernel
theorem dX9_settle_51 : decode cX9_settle 51 = .ok (.invokevirtual 53, 3) := by decide +kernel
theorem dX9_settle_54 : decode cX9_settle 54 = .ok (.iload_n 3, 1) := by decide +kernel
theorem dX9_settle_55 : decode cX9_settle 55 = .ok (.isub, 1) := by decide +kernel
theorem dX9_settle_56 : decode cX9_settle 56 = .ok (.invokevirtual 114, 3) := by decide +kernel
theorem dX9_settle_59 : decode cX9_settle 59 = .ok (.iinc 2 1, 3) := by decide +kernel
theorem dX9_settle_62 : decode cX9_settle 62 = .ok (.goto (-52), 3) := by decide +kernel
theorem dX9_settle_65 : decode cX9_settle 65 = .ok (.iinc 1 1, 3) := by decide +kernel
theorem dX9_settle_68 : decode cX9_settle 68 = .ok (.goto (-66), 3) := by decide +kernel
theorem dX9_settle_71 : decode cX9_settle 71 = .ok (.return_, 1) := by decide +kernel
set_option maxRecDepth 20000 in
theorem ggX9_passDays_X9_passDay : GoodIn wsX9_passDays wsX9_passDay := goodIn_r _ [5, 6, 7, 8, 9, 10, 11, 12, 4, 13, 14, 15, 16, 17, 18, 19, 20, 21, 22, 23, 24, 25, 26, 27, 28, 29, 30, 31, 32, 33, 34, 35, 36, 37, 38, 39, 40, 41, 42, 43, 44, 45, 46, 47, 48, 49, 50, 51, 52, 53, 54, 55, 56, 57, 58, 59, 60, 61, 62, 63, 64, 65, 66, 67, 68, 69, 70, 71, 72, 73, 74, 75, 76, 77, 78, 79, 80, 81, 82, 83, 84] rfl rfl
set_option maxRecDepth 20000 in
theorem gX9_passDays_X9_passDay : GoodIn wsX9_passDays (wsV RX9 118 RX9 yX9_passDay wsX9_passDay) := goodIn_app (goodIn_r _ [1, 2, 3, 4] rfl rfl) ggX9_passDays_X9_passDay
theorem dX9_passDays_0 : decode cX9_passDays 0 = .ok (.iconst 0, 1) := by decide +kernel
theorem dX9_passDays_1 : decode cX9_passDays 1 = .ok (.istore_n 3, 1) := by decide +kernel
theorem dX9_passDays_2 : decode cX9_passDays 2 = .ok (.iload_n 3, 1) := by decide +kernel
theorem dX9_passDays_3 : decode cX9_passDays 3 = .ok (.iload_n 2, 1) := by decide +kernel
theorem dX9_passDays_4 : decode cX9_passDays 4 = .ok (.if_icmp .ge 15, 3) := by decide +kernel
theorem dX9_passDays_7 : decode cX9_passDays 7 = .ok (.aload_n 0, 1) := by decide +kernel
theorem dX9_passDays_8 : decode cX9_passDays 8 = .ok (.aload_n 1, 1) := by decide +kernel
theorem dX9_passDays_9 : decode cX9_passDays 9 = .ok (.invokevirtual 118, 3) := by decide +kernel
theorem dX9_passDays_12 : decode cX9_passDays 12 = .ok (.pop, 1) := by decide +kernel
theorem dX9_passDays_13 : decode cX9_passDays 13 = .ok (.iinc 3 1, 3) := by decide +kernel
theorem dX9_passDays_16 : decode cX9_passDays 16 = .ok (.goto (-14), 3) := by decide +kernel
theorem dX9_passDays_19 : decode cX9_passDays 19 = .ok (.return_, 1) := by decide +kernel
set_option maxRecDepth 20000 in
theorem ggX9_passDay_X9_writeByTurn : GoodIn wsX9_passDay wsX9_writeByTurn := goodIn_r _ [9, 2, 10, 11, 12, 8, 13, 1, 14, 15, 16, 17, 18, 19, 20, 21, 22, 23, 24, 25, 26, 27, 28, 29, 30, 31, 32, 33, 34, 35, 36, 37, 38, 39, 40, 41, 42, 43, 44, 45, 46, 47, 48, 49, 50, 51, 52, 53, 54, 55, 56, 57, 58, 59, 60, 70, 71, 72, 73, 74, 75, 76, 77, 78, 79, 80, 61, 62, 63, 64, 65, 66, 67, 68, 69] rfl rfl
set_option maxRecDepth 20000 in
theorem gX9_passDay_X9_writeByTurn : GoodIn wsX9_passDay (wsV RX9 122 RX9 yX9_writeByTurn wsX9_writeByTurn) := goodIn_app (goodIn_r _ [5, 6, 7, 8] rfl rfl) ggX9_passDay_X9_writeByTurn
theorem dX9_passDay_0 : decode cX9_passDay 0 = .ok (.aload_n 0, 1) := by decide +kernel
theorem dX9_passDay_1 : decode cX9_passDay 1 = .ok (.aload_n 1, 1) := by decide +kernel
theorem dX9_passDay_2 : decode cX9_passDay 2 = .ok (.invokevirtual 122, 3) := by decide +kernel
theorem dX9_passDay_5 : decode cX9_passDay 5 = .ok (.istore_n 2, 1) := by decide +kernel
theorem dX9_passDay_6 : decode cX9_passDay 6 = .ok (.iload_n 2, 1) := by decide +kernel
theorem dX9_passDay_7 : decode cX9_passDay 7 = .ok (.ifCond .ne 31, 3) := by decide +kernel
theorem dX9_passDay_10 : decode cX9_passDay 10 = .ok (.aload_n 0, 1) := by decide +kernel
theorem dX9_passDay_11 : decode cX9_passDay 11 = .ok (.getfield 24, 3) := by decide +kernel
theorem dX9_passDay_14 : decode cX9_passDay 14 = .ok (.iconst (-1), 1) := by decide +kernel
theorem dX9_passDay_15 : decode cX9_passDay 15 = .ok (.if_icmp .eq 23, 3) := by decide +kernel
theorem dX9_passDay_18 : decode cX9_passDay 18 = .ok (.aload_n 0, 1) := by decide +kernel
theorem dX9_passDay_19 : decode cX9_passDay 19 = .ok (.iconst (-1), 1) := by decide +kernel
theorem dX9_passDay_20 : decode cX9_passDay 20 = .ok (.putfield 24, 3) := by decide +kernel
theorem dX9_passDay_23 : decode cX9_passDay 23 = .ok (.aload_n 0, 1) := by decide +kernel
theorem dX9_passDay_24 : decode cX9_passDay 24 = .ok (.iconst (-1), 1) := by decide +kernel
theorem dX9_passDay_25 : decode cX9_passDay 25 = .ok (.putfield 28, 3) := by decide +kernel
theorem dX9_passDay_28 : decode cX9_passDay 28 = .ok (.aload_n 0, 1) := by decide +kernel
theorem dX9_passDay_29 : decode cX9_passDay 29 = .ok (.dup, 1) := by decide +kernel
theorem dX9_passDay_30 : decode cX9_passDay 30 = .ok (.getfield 37, 3) := by decide +kernel
theorem dX9_passDay_33 : decode cX9_passDay 33 = .ok (.iconst 1, 1) := by decide +kernel
theorem dX9_passDay_34 : decode cX9_passDay 34 = .ok (.iadd, 1) := by decide +kernel
theorem dX9_passDay_35 : decode cX9_passDay 35 = .ok (.putfield 37, 3) := by decide +kernel
theorem dX9_passDay_38 : decode cX9_passDay 38 = .ok (.aload_n 0, 1) := by decide +kernel
theorem dX9_passDay_39 : decode cX9_passDay 39 = .ok (.dup, 1) := by decide +kernel
theorem dX9_passDay_40 : decode cX9_passDay 40 = .ok (.getfield 31, 3) := by decide +kernel
theorem dX9_passDay_43 : decode cX9_passDay 43 = .ok (.iconst 1, 1) := by decide +kernel
theorem dX9_passDay_44 : decode cX9_passDay 44 = .ok (.iadd, 1) := by decide +kernel
theorem dX9_passDay_45 : decode cX9_passDay 45 = .ok (.putfield 31, 3) := by decide +kernel
theorem dX9_passDay_48 : decode cX9_passDay 48 = .ok (.iload_n 2, 1) := by decide +kernel
theorem dX9_passDay_49 : decode cX9_passDay 49 = .ok (.ireturn, 1) := by decide +kernel
set_option maxRecDepth 20000 in
theorem ggX9_writeByTurn_X9_whyNotWrite : GoodIn wsX9_writeByTurn wsX9_whyNotWrite := goodIn_r _ [6, 7, 1, 8, 9, 10, 11, 12, 13, 14, 15, 16, 17, 18, 19, 20, 5, 21, 22, 23, 24, 25, 26, 27, 28, 29, 30, 31, 32, 33, 34, 35, 66, 67, 68, 69, 70, 71, 72, 73, 74, 55, 56, 57, 58, 59, 60, 61, 62, 63, 64, 65] rfl rfl
set_option maxRecDepth 20000 in
theorem gX9_writeByTurn_X9_whyNotWrite : GoodIn wsX9_writeByTurn (wsV RX9 69 RX9 yX9_whyNotWrite wsX9_whyNotWrite) := goodIn_app (goodIn_r _ [2, 3, 4, 5] rfl rfl) ggX9_writeByTurn_X9_whyNotWrite
set_option maxRecDepth 20000 in
theorem ggX9_writeByTurn_X9_put : GoodIn wsX9_writeByTurn wsX9_put := goodIn_r _ [39, 8, 40, 41, 7, 1, 42, 43, 44, 45, 9, 10, 11, 12, 13, 14, 15, 16, 17, 46, 47, 48, 5, 49, 50, 51, 52, 53, 54, 66, 67, 68, 69, 70, 71, 72, 73, 74, 55, 56, 57, 58, 59, 60, 61, 62, 63, 64, 65] rfl rfl
set_option maxRecDepth 20000 in
theorem gX9_writeByTurn_X9_put : GoodIn wsX9_writeByTurn (wsV RX9 94 RX9 yX9_put wsX9_put) := goodIn_app (goodIn_r _ [36, 37, 38, 5] rfl rfl) ggX9_writeByTurn_X9_put
theorem dX9_writeByTurn_0 : decode cX9_writeByTurn 0 = .ok (.iconst 1, 1) := by decide +kernel
theorem dX9_writeByTurn_1 : decode cX9_writeByTurn 1 = .ok (.istore_n 2, 1) := by decide +kernel
theorem dX9_writeByTurn_2 : decode cX9_writeByTurn 2 = .ok (.iload_n 2, 1) := by decide +kernel
theorem dX9_writeByTurn_3 : decode cX9_writeByTurn 3 = .ok (.aload_n 1, 1) := by decide +kernel
theorem dX9_writeByTurn_4 : decode cX9_writeByTurn 4 = .ok (.getfield 125, 3) := by decide +kernel
theorem dX9_writeByTurn_7 : decode cX9_writeByTurn 7 = .ok (.if_icmp .gt 60, 3) := by decide +kernel
theorem dX9_writeByTurn_10 : decode cX9_writeByTurn 10 = .ok (.aload_n 0, 1) := by decide +kernel
theorem dX9_writeByTurn_11 : decode cX9_writeByTurn 11 = .ok (.getfield 28, 3) := by decide +kernel
theorem dX9_writeByTurn_14 : decode cX9_writeByTurn 14 = .ok (.iload_n 2, 1) := by decide +kernel
theorem dX9_writeByTurn_15 : decode cX9_writeByTurn 15 = .ok (.iadd, 1) := by decide +kernel
theorem dX9_writeByTurn_16 : decode cX9_writeByTurn 16 = .ok (.aload_n 1, 1) := by decide +kernel
theorem dX9_writeByTurn_17 : decode cX9_writeByTurn 17 = .ok (.getfield 125, 3) := by decide +kernel
theorem dX9_writeByTurn_20 : decode cX9_writeByTurn 20 = .ok (.irem, 1) := by decide +kernel
theorem dX9_writeByTurn_21 : decode cX9_writeByTurn 21 = .ok (.istore_n 3, 1) := by decide +kernel
theorem dX9_writeByTurn_22 : decode cX9_writeByTurn 22 = .ok (.iconst 0, 1) := by decide +kernel
theorem dX9_writeByTurn_23 : decode cX9_writeByTurn 23 = .ok (.istore 4, 2) := by decide +kernel
theorem dX9_writeByTurn_25 : decode cX9_writeByTurn 25 = .ok (.iload 4, 2) := by decide +kernel
theorem dX9_writeByTurn_27 : decode cX9_writeByTurn 27 = .ok (.aload_n 1, 1) := by decide +kernel
theorem dX9_writeByTurn_28 : decode cX9_writeByTurn 28 = .ok (.getfield 88, 3) := by decide +kernel
theorem dX9_writeByTurn_31 : decode cX9_writeByTurn 31 = .ok (.if_icmp .ge 30, 3) := by decide +kernel
theorem dX9_writeByTurn_34 : decode cX9_writeByTurn 34 = .ok (.aload_n 0, 1) := by decide +kernel
theorem dX9_writeByTurn_35 : decode cX9_writeByTurn 35 = .ok (.aload_n 1, 1) := by decide +kernel
theorem dX9_writeByTurn_36 : decode cX9_writeByTurn 36 = .ok (.iload_n 3, 1) := by decide +kernel
theorem dX9_writeByTurn_37 : decode cX9_writeByTurn 37 = .ok (.iload 4, 2) := by decide +kernel
theorem dX9_writeByTurn_39 : decode cX9_writeByTurn 39 = .ok (.invokevirtual 69, 3) := by decide +kernel
theorem dX9_writeByTurn_42 : decode cX9_writeByTurn 42 = .ok (.ifCond .ne 13, 3) := by decide +kernel
theorem dX9_writeByTurn_45 : decode cX9_writeByTurn 45 = .ok (.aload_n 0, 1) := by decide +kernel
theorem dX9_writeByTurn_46 : decode cX9_writeByTurn 46 = .ok (.aload_n 1, 1) := by decide +kernel
theorem dX9_writeByTurn_47 : decode cX9_writeByTurn 47 = .ok (.iload_n 3, 1) := by decide +kernel
theorem dX9_writeByTurn_48 : decode cX9_writeByTurn 48 = .ok (.iload 4, 2) := by decide +kernel
theorem dX9_writeByTurn_50 : decode cX9_writeByTurn 50 = .ok (.invokevirtual 94, 3) := by decide +kernel
theorem dX9_writeByTurn_53 : decode cX9_writeByTurn 53 = .ok (.iconst 1, 1) := by decide +kernel
theorem dX9_writeByTurn_54 : decode cX9_writeByTurn 54 = .ok (.ireturn, 1) := by decide +kernel
theorem dX9_writeByTurn_55 : decode cX9_writeByTurn 55 = .ok (.iinc 4 1, 3) := by decide +kernel
theorem dX9_writeByTurn_58 : decode cX9_writeByTurn 58 = .ok (.goto (-33), 3) := by decide +kernel
theorem dX9_writeByTurn_61 : decode cX9_writeByTurn 61 = .ok (.iinc 2 1, 3) := by decide +kernel
theorem dX9_writeByTurn_64 : decode cX9_writeByTurn 64 = .ok (.goto (-62), 3) := by decide +kernel
theorem dX9_writeByTurn_67 : decode cX9_writeByTurn 67 = .ok (.iconst 0, 1) := by decide +kernel
theorem dX9_writeByTurn_68 : decode cX9_writeByTurn 68 = .ok (.ireturn, 1) := by decide +kernel
set_option maxRecDepth 20000 in
theorem ggX9_drawDays_X9_drawAct : GoodIn wsX9_drawDays wsX9_drawAct := goodIn_r _ [6, 7, 8, 9, 10, 11, 12, 13, 14, 15, 5, 16, 17, 18, 19, 20, 21, 22, 23, 24, 25, 26, 27, 28, 29, 30, 31, 32, 33, 34, 35, 36, 37, 38, 39, 40, 41, 42, 1, 43, 44, 45, 46, 47, 48, 49, 50, 51, 52, 53, 54, 55, 56, 57, 58, 59, 60, 61, 62, 63, 64, 65, 66, 67, 68, 69, 70, 71, 72, 73, 74, 75, 76, 77, 78, 79, 80, 81, 82, 83, 84, 85, 86, 87, 88, 89, 108, 109, 110, 111, 112, 113, 114, 115, 116, 117, 118, 119, 99, 100, 101, 102, 103, 104, 105, 106, 107] rfl rfl
set_option maxRecDepth 20000 in
theorem gX9_drawDays_X9_drawAct : GoodIn wsX9_drawDays (wsV RX9 128 RX9 yX9_drawAct wsX9_drawAct) := goodIn_app (goodIn_r _ [2, 3, 4, 5] rfl rfl) ggX9_drawDays_X9_drawAct
set_option maxRecDepth 20000 in
theorem ggX9_drawDays_X9_passDay : GoodIn wsX9_drawDays wsX9_passDay := goodIn_r _ [93, 52, 53, 94, 1, 95, 96, 97, 5, 98, 48, 49, 50, 51, 29, 43, 44, 45, 46, 47, 54, 55, 56, 57, 13, 14, 15, 16, 17, 18, 19, 20, 58, 59, 60, 61, 62, 63, 64, 65, 66, 67, 84, 85, 86, 87, 88, 89, 76, 77, 78, 79, 34, 35, 36, 37, 38, 80, 81, 82, 83, 99, 100, 101, 102, 103, 104, 105, 106, 107, 108, 109, 110, 111, 112, 113, 114, 115, 116, 117, 118] rfl rfl
set_option maxRecDepth 20000 in
theorem gX9_drawDays_X9_passDay : GoodIn wsX9_drawDays (wsV RX9 118 RX9 yX9_passDay wsX9_passDay) := goodIn_app (goodIn_r _ [90, 91, 92, 5] rfl rfl) ggX9_drawDays_X9_passDay
theorem dX9_drawDays_0 : decode cX9_drawDays 0 = .ok (.iconst 0, 1) := by decide +kernel
theorem dX9_drawDays_1 : decode cX9_drawDays 1 = .ok (.istore 4, 2) := by decide +kernel
theorem dX9_drawDays_3 : decode cX9_drawDays 3 = .ok (.iload 4, 2) := by decide +kernel
theorem dX9_drawDays_5 : decode cX9_drawDays 5 = .ok (.iload_n 3, 1) := by decide +kernel
theorem dX9_drawDays_6 : decode cX9_drawDays 6 = .ok (.if_icmp .ge 31, 3) := by decide +kernel
theorem dX9_drawDays_9 : decode cX9_drawDays 9 = .ok (.aload_n 0, 1) := by decide +kernel
theorem dX9_drawDays_10 : decode cX9_drawDays 10 = .ok (.getfield 31, 3) := by decide +kernel
theorem dX9_drawDays_13 : decode cX9_drawDays 13 = .ok (.sipush 400, 3) := by decide +kernel
theorem dX9_drawDays_16 : decode cX9_drawDays 16 = .ok (.if_icmp .ge 21, 3) := by decide +kernel
theorem dX9_drawDays_19 : decode cX9_drawDays 19 = .ok (.aload_n 0, 1) := by decide +kernel
theorem dX9_drawDays_20 : decode cX9_drawDays 20 = .ok (.aload_n 1, 1) := by decide +kernel
theorem dX9_drawDays_21 : decode cX9_drawDays 21 = .ok (.aload_n 2, 1) := by decide +kernel
theorem dX9_drawDays_22 : decode cX9_drawDays 22 = .ok (.invokevirtual 128, 3) := by decide +kernel
theorem dX9_drawDays_25 : decode cX9_drawDays 25 = .ok (.aload_n 0, 1) := by decide +kernel
theorem dX9_drawDays_26 : decode cX9_drawDays 26 = .ok (.aload_n 1, 1) := by decide +kernel
theorem dX9_drawDays_27 : decode cX9_drawDays 27 = .ok (.invokevirtual 118, 3) := by decide +kernel
theorem dX9_drawDays_30 : decode cX9_drawDays 30 = .ok (.pop, 1) := by decide +kernel
theorem dX9_drawDays_31 : decode cX9_drawDays 31 = .ok (.iinc 4 1, 3) := by decide +kernel
theorem dX9_drawDays_34 : decode cX9_drawDays 34 = .ok (.goto (-31), 3) := by decide +kernel
theorem dX9_drawDays_37 : decode cX9_drawDays 37 = .ok (.return_, 1) := by decide +kernel
set_option maxRecDepth 20000 in
theorem ggX9_drawAct_X1_draw : GoodIn wsX9_drawAct wsX1_draw := goodIn_r _ [4, 5, 6, 97] rfl rfl
set_option maxRecDepth 20000 in
theorem gX9_drawAct_X1_draw_n132 : GoodIn wsX9_drawAct (wsX1_draw) := ggX9_drawAct_X1_draw
set_option maxRecDepth 20000 in
theorem ggX9_drawAct_X9_isHeld : GoodIn wsX9_drawAct wsX9_isHeld := goodIn_r _ [11, 12, 13, 14, 15, 98, 99, 100, 101, 102, 103, 104, 105, 106] rfl rfl
set_option maxRecDepth 20000 in
theorem gX9_drawAct_X9_isHeld : GoodIn wsX9_drawAct (wsV RX9 73 RX9 yX9_isHeld wsX9_isHeld) := goodIn_app (goodIn_r _ [7, 8, 9, 10] rfl rfl) ggX9_drawAct_X9_isHeld
set_option maxRecDepth 20000 in
theorem ggX9_drawAct_X9_performIfItCan : GoodIn wsX9_drawAct wsX9_performIfItCan := goodIn_r _ [19, 20, 21, 22, 10, 23, 24, 25, 26, 27, 28, 29, 30, 31, 32, 33, 34, 35, 36, 37, 38, 39, 40, 41, 42, 43, 44, 45, 46, 47, 48, 49, 50, 51, 52, 53, 7, 8, 9, 11, 12, 13, 14, 15, 54, 55, 56, 57, 58, 59, 60, 61, 62, 63, 64, 65, 66, 67, 68, 69, 70, 71, 72, 73, 74, 75, 76, 77, 78, 79, 80, 81, 82, 83, 84, 85, 98, 99, 100, 101, 102, 103, 104, 105, 106, 86, 87, 88, 89, 90, 91, 92, 93, 94, 95, 96] rfl rfl
set_option maxRecDepth 20000 in
theorem gX9_drawAct_X9_performIfItCan : GoodIn wsX9_drawAct (wsV RX9 138 RX9 yX9_performIfItCan wsX9_performIfItCan) := goodIn_app (goodIn_r _ [16, 17, 18, 10] rfl rfl) ggX9_drawAct_X9_performIfItCan
theorem dX9_drawAct_0 : decode cX9_drawAct 0 = .ok (.aload_n 1, 1) := by decide +kernel
theorem dX9_drawAct_1 : decode cX9_drawAct 1 = .ok (.getfield 125, 3) := by decide +kernel
theorem dX9_drawAct_4 : decode cX9_drawAct 4 = .ok (.ifCond .ne 4, 3) := by decide +kernel
theorem dX9_drawAct_7 : decode cX9_drawAct 7 = .ok (.return_, 1) := by decide +kernel
theorem dX9_drawAct_8 : decode cX9_drawAct 8 = .ok (.aload_n 2, 1) := by decide +kernel
theorem dX9_drawAct_9 : decode cX9_drawAct 9 = .ok (.bipush 8, 2) := by decide +kernel
theorem dX9_drawAct_11 : decode cX9_drawAct 11 = .ok (.invokevirtual 132, 3) := by decide +kernel
theorem dX9_drawAct_14 : decode cX9_drawAct 14 = .ok (.istore_n 3, 1) := by decide +kernel
theorem dX9_drawAct_15 : decode cX9_drawAct 15 = .ok (.iload_n 3, 1) := by decide +kernel
theorem dX9_drawAct_16 : decode cX9_drawAct 16 = .ok (.ifCond .ne 40, 3) := by decide +kernel
theorem dX9_drawAct_19 : decode cX9_drawAct 19 = .ok (.aload_n 2, 1) := by decide +kernel
theorem dX9_drawAct_20 : decode cX9_drawAct 20 = .ok (.aload_n 1, 1) := by decide +kernel
theorem dX9_drawAct_21 : decode cX9_drawAct 21 = .ok (.getfield 125, 3) := by decide +kernel
theorem dX9_drawAct_24 : decode cX9_drawAct 24 = .ok (.invokevirtual 132, 3) := by decide +kernel
theorem dX9_drawAct_27 : decode cX9_drawAct 27 = .ok (.istore 4, 2) := by decide +kernel
theorem dX9_drawAct_29 : decode cX9_drawAct 29 = .ok (.aload_n 0, 1) := by decide +kernel
theorem dX9_drawAct_30 : decode cX9_drawAct 30 = .ok (.aload_n 1, 1) := by decide +kernel
theorem dX9_drawAct_31 : decode cX9_drawAct 31 = .ok (.aload_n 0, 1) := by decide +kernel
theorem dX9_drawAct_32 : decode cX9_drawAct 32 = .ok (.iload 4, 2) := by decide +kernel
theorem dX9_drawAct_34 : decode cX9_drawAct 34 = .ok (.invokevirtual 73, 3) := by decide +kernel
theorem dX9_drawAct_37 : decode cX9_drawAct 37 = .ok (.ifCond .eq 8, 3) := by decide +kernel
theorem dX9_drawAct_40 : decode cX9_drawAct 40 = .ok (.bipush 20, 2) := by decide +kernel
theorem dX9_drawAct_42 : decode cX9_drawAct 42 = .ok (.goto 5, 3) := by decide +kernel
theorem dX9_drawAct_45 : decode cX9_drawAct 45 = .ok (.bipush 10, 2) := by decide +kernel
theorem dX9_drawAct_47 : decode cX9_drawAct 47 = .ok (.iload 4, 2) := by decide +kernel
theorem dX9_drawAct_49 : decode cX9_drawAct 49 = .ok (.iconst 0, 1) := by decide +kernel
theorem dX9_drawAct_50 : decode cX9_drawAct 50 = .ok (.invokevirtual 138, 3) := by decide +kernel
theorem dX9_drawAct_53 : decode cX9_drawAct 53 = .ok (.goto 76, 3) := by decide +kernel
theorem dX9_drawAct_56 : decode cX9_drawAct 56 = .ok (.iload_n 3, 1) := by decide +kernel
theorem dX9_drawAct_57 : decode cX9_drawAct 57 = .ok (.iconst 1, 1) := by decide +kernel
theorem dX9_drawAct_58 : decode cX9_drawAct 58 = .ok (.if_icmp .ne 33, 3) := by decide +kernel
theorem dX9_drawAct_61 : decode cX9_drawAct 61 = .ok (.aload_n 2, 1) := by decide +kernel
theorem dX9_drawAct_62 : decode cX9_drawAct 62 = .ok (.aload_n 1, 1) := by decide +kernel
theorem dX9_drawAct_63 : decode cX9_drawAct 63 = .ok (.getfield 125, 3) := by decide +kernel
theorem dX9_drawAct_66 : decode cX9_drawAct 66 = .ok (.invokevirtual 132, 3) := by decide +kernel
theorem dX9_drawAct_69 : decode cX9_drawAct 69 = .ok (.istore 4, 2) := by decide +kernel
theorem dX9_drawAct_71 : decode cX9_drawAct 71 = .ok (.aload_n 0, 1) := by decide +kernel
theorem dX9_drawAct_72 : decode cX9_drawAct 72 = .ok (.aload_n 1, 1) := by decide +kernel
theorem dX9_drawAct_73 : decode cX9_drawAct 73 = .ok (.bipush 30, 2) := by decide +kernel
theorem dX9_drawAct_75 : decode cX9_drawAct 75 = .ok (.iload 4, 2) := by decide +kernel
theorem dX9_drawAct_77 : decode cX9_drawAct 77 = .ok (.aload_n 2, 1) := by decide +kernel
theorem dX9_drawAct_78 : decode cX9_drawAct 78 = .ok (.bipush 60, 2) := by decide +kernel
theorem dX9_drawAct_80 : decode cX9_drawAct 80 = .ok (.invokevirtual 132, 3) := by decide +kernel
theorem dX9_drawAct_83 : decode cX9_drawAct 83 = .ok (.iconst 1, 1) := by decide +kernel
theorem dX9_drawAct_84 : decode cX9_drawAct 84 = .ok (.iadd, 1) := by decide +kernel
theorem dX9_drawAct_85 : decode cX9_drawAct 85 = .ok (.invokevirtual 138, 3) := by decide +kernel
theorem dX9_drawAct_88 : decode cX9_drawAct 88 = .ok (.goto 41, 3) := by decide +kernel
theorem dX9_drawAct_91 : decode cX9_drawAct 91 = .ok (.iload_n 3, 1) := by decide +kernel
theorem dX9_drawAct_92 : decode cX9_drawAct 92 = .ok (.iconst 4, 1) := by decide +kernel
theorem dX9_drawAct_93 : decode cX9_drawAct 93 = .ok (.if_icmp .gt 36, 3) := by decide +kernel
theorem dX9_drawAct_96 : decode cX9_drawAct 96 = .ok (.aload_n 1, 1) := by decide +kernel
theorem dX9_drawAct_97 : decode cX9_drawAct 97 = .ok (.getfield 88, 3) := by decide +kernel
theorem dX9_drawAct_100 : decode cX9_drawAct 100 = .ok (.ifCond .le 29, 3) := by decide +kernel
theorem dX9_drawAct_103 : decode cX9_drawAct 103 = .ok (.aload_n 2, 1) := by decide +kernel
theorem dX9_drawAct_104 : decode cX9_drawAct 104 = .ok (.aload_n 1, 1) := by decide +kernel
theorem dX9_drawAct_105 : decode cX9_drawAct 105 = .ok (.getfield 125, 3) := by decide +kernel
theorem dX9_drawAct_108 : decode cX9_drawAct 108 = .ok (.invokevirtual 132, 3) := by decide +kernel
theorem dX9_drawAct_111 : decode cX9_drawAct 111 = .ok (.istore 4, 2) := by decide +kernel
theorem dX9_drawAct_113 : decode cX9_drawAct 113 = .ok (.aload_n 0, 1) := by decide +kernel
theorem dX9_drawAct_114 : decode cX9_drawAct 114 = .ok (.aload_n 1, 1) := by decide +kernel
theorem dX9_drawAct_115 : decode cX9_drawAct 115 = .ok (.iconst 0, 1) := by decide +kernel
theorem dX9_drawAct_116 : decode cX9_drawAct 116 = .ok (.iload 4, 2) := by decide +kernel
theorem dX9_drawAct_118 : decode cX9_drawAct 118 = .ok (.aload_n 2, 1) := by decide +kernel
theorem dX9_drawAct_119 : decode cX9_drawAct 119 = .ok (.aload_n 1, 1) := by decide +kernel
theorem dX9_drawAct_120 : decode cX9_drawAct 120 = .ok (.getfield 88, 3) := by decide +kernel
theorem dX9_drawAct_123 : decode cX9_drawAct 123 = .ok (.invokevirtual 132, 3) := by decide +kernel
theorem dX9_drawAct_126 : decode cX9_drawAct 126 = .ok (.invokevirtual 138, 3) := by decide +kernel
theorem dX9_drawAct_129 : decode cX9_drawAct 129 = .ok (.return_, 1) := by decide +kernel
set_option maxRecDepth 20000 in
theorem ggX11_init_X4_init : GoodIn wsX11_init wsX4_init := goodIn_r _ [56, 57, 2, 3, 4, 58, 59, 60, 165, 166, 167, 168, 169, 170, 171, 172, 173, 174, 175] rfl rfl
set_option maxRecDepth 20000 in
theorem gX11_init_X4_init_n15 : GoodIn wsX11_init (wsX4_init) := ggX11_init_X4_init
set_option maxRecDepth 20000 in
theorem ggX11_init_X7_init : GoodIn wsX11_init wsX7_init := goodIn_r _ [62, 63, 2, 3, 64, 22, 23, 65, 66, 34, 35, 67, 68, 26, 27, 69, 70, 71, 72, 73, 74, 4, 75, 76, 77, 78, 79, 80, 81, 82, 83, 84, 85, 86, 87, 88, 89, 90, 91, 92, 93, 94, 95, 96, 97, 182, 183, 184, 185, 186, 187, 188, 189, 190, 191, 192, 176, 177, 178, 205, 206, 207, 208, 209, 210, 211, 212, 213, 193, 194, 195, 196, 197, 198] rfl rfl
set_option maxRecDepth 20000 in
theorem gX11_init_X7_init_n22 : GoodIn wsX11_init (wsX7_init) := ggX11_init_X7_init
set_option maxRecDepth 20000 in
theorem ggX11_init_X2_init : GoodIn wsX11_init wsX2_init := goodIn_r _ [99, 100, 2, 3, 101, 102, 34, 35, 81, 82, 83, 4, 84, 85, 86, 87, 88, 89, 179, 180, 181, 205, 206, 207, 208, 209, 210, 211, 212, 213] rfl rfl
set_option maxRecDepth 20000 in
theorem gX11_init_X2_init_n37 : GoodIn wsX11_init (wsX2_init) := ggX11_init_X2_init
set_option maxRecDepth 20000 in
theorem ggX11_init_X3_init : GoodIn wsX11_init wsX3_init := goodIn_r _ [71, 72, 2, 3, 73, 74, 4, 75, 76, 77, 78, 79, 80, 182, 183, 184, 185, 186, 187, 188, 189, 190, 191, 192] rfl rfl
set_option maxRecDepth 20000 in
theorem gX11_init_X3_init_n44 : GoodIn wsX11_init (wsX3_init) := ggX11_init_X3_init
set_option maxRecDepth 20000 in
theorem ggX11_init_X8_init : GoodIn wsX11_init wsX8_init := goodIn_r _ [91, 92, 2, 3, 93, 94, 4, 95, 96, 97, 193, 194, 195, 196, 197, 198] rfl rfl
set_option maxRecDepth 20000 in
theorem gX11_init_X8_init_n51 : GoodIn wsX11_init (wsX8_init) := ggX11_init_X8_init
set_option maxRecDepth 20000 in
theorem ggX11_init_X0_init : GoodIn wsX11_init wsX0_init := goodIn_r _ [104, 105, 2, 3, 4, 106, 107, 108, 199, 200, 201, 202, 203, 204] rfl rfl
set_option maxRecDepth 20000 in
theorem gX11_init_X0_init_n58 : GoodIn wsX11_init (wsX0_init) := ggX11_init_X0_init
set_option maxRecDepth 20000 in
theorem ggX11_init_X9_init : GoodIn wsX11_init wsX9_init := goodIn_r _ [82, 83, 2, 3, 4, 84, 85, 86, 87, 88, 89, 205, 206, 207, 208, 209, 210, 211, 212, 213] rfl rfl
set_option maxRecDepth 20000 in
theorem gX11_init_X9_init_n65 : GoodIn wsX11_init (wsX9_init) := ggX11_init_X9_init
set_option maxRecDepth 20000 in
theorem ggX11_init_X1_init : GoodIn wsX11_init wsX1_init := goodIn_r _ [110, 111, 2, 3] rfl rfl
set_option maxRecDepth 20000 in
theorem gX11_init_X1_init_n72 : GoodIn wsX11_init (wsX1_init) := ggX11_init_X1_init
set_option maxRecDepth 20000 in
theorem ggX11_init_X5_init : GoodIn wsX11_init wsX5_init := goodIn_r _ [113, 114, 2, 3, 4, 115, 116, 117, 215, 216, 217, 218] rfl rfl
set_option maxRecDepth 20000 in
theorem gX11_init_X5_init_n79 : GoodIn wsX11_init (wsX5_init) := ggX11_init_X5_init
set_option maxRecDepth 20000 in
theorem ggX11_init_X6_init : GoodIn wsX11_init wsX6_init := goodIn_r _ [119, 120, 2, 3, 121, 4, 122, 123, 124, 125, 219, 220, 221, 222, 223] rfl rfl
set_option maxRecDepth 20000 in
theorem gX11_init_X6_init_n86 : GoodIn wsX11_init (wsX6_init) := ggX11_init_X6_init
set_option maxRecDepth 20000 in
theorem ggX11_init_J4_init_da8c8 : GoodIn wsX11_init wsJ4_init_da8c8 := goodIn_r _ [128, 129, 130, 131, 132, 133, 2, 3, 134, 135, 136, 137, 138, 139, 140, 141, 142, 143, 144, 145, 224, 225, 226, 227] rfl rfl
set_option maxRecDepth 20000 in
theorem gX11_init_J4_init_da8c8 : GoodIn wsX11_init (wsJ4_init_da8c8) := ggX11_init_J4_init_da8c8
theorem dX11_init_0 : decode cX11_init 0 = .ok (.aload_n 0, 1) := by decide +kernel
theorem dX11_init_1 : decode cX11_init 1 = .ok (.invokespecial 1, 3) := by decide +kernel
theorem dX11_init_4 : decode cX11_init 4 = .ok (.aload_n 0, 1) := by decide +kernel
theorem dX11_init_5 : decode cX11_init 5 = .ok (.sipush 940, 3) := by decide +kernel
theorem dX11_init_8 : decode cX11_init 8 = .ok (.newarray .int, 2) := by decide +kernel
theorem dX11_init_10 : decode cX11_init 10 = .ok (.putfield 9, 3) := by decide +kernel
theorem dX11_init_13 : decode cX11_init 13 = .ok (.aload_n 0, 1) := by decide +kernel
theorem dX11_init_14 : decode cX11_init 14 = .ok (.new 13, 3) := by decide +kernel
theorem dX11_init_17 : decode cX11_init 17 = .ok (.dup, 1) := by decide +kernel
theorem dX11_init_18 : decode cX11_init 18 = .ok (.invokespecial 15, 3) := by decide +kernel
theorem dX11_init_21 : decode cX11_init 21 = .ok (.putfield 16, 3) := by decide +kernel
theorem dX11_init_24 : decode cX11_init 24 = .ok (.aload_n 0, 1) := by decide +kernel
theorem dX11_init_25 : decode cX11_init 25 = .ok (.new 20, 3) := by decide +kernel
theorem dX11_init_28 : decode cX11_init 28 = .ok (.dup, 1) := by decide +kernel
theorem dX11_init_29 : decode cX11_init 29 = .ok (.invokespecial 22, 3) := by decide +kernel
theorem dX11_init_32 : decode cX11_init 32 = .ok (.putfield 23, 3) := by decide +kernel
theorem dX11_init_35 : decode cX11_init 35 = .ok (.aload_n 0, 1) := by decide +kernel
theorem dX11_init_36 : decode cX11_init 36 = .ok (.iconst 2, 1) := by decide +kernel
theorem dX11_init_37 : decode cX11_init 37 = .ok (.anewarray 20, 3) := by decide +kernel
theorem dX11_init_40 : decode cX11_init 40 = .ok (.putfield 27, 3) := by decide +kernel
theorem dX11_init_43 : decode cX11_init 43 = .ok (.iconst 0, 1) := by decide +kernel
theorem dX11_init_44 : decode cX11_init 44 = .ok (.istore_n 1, 1) := by decide +kernel
theorem dX11_init_45 : decode cX11_init 45 = .ok (.iload_n 1, 1) := by decide +kernel
theorem dX11_init_46 : decode cX11_init 46 = .ok (.aload_n 0, 1) := by decide +kernel
theorem dX11_init_47 : decode cX11_init 47 = .ok (.getfield 27, 3) := by decide +kernel
theorem dX11_init_50 : decode cX11_init 50 = .ok (.arraylength, 1) := by decide +kernel
theorem dX11_init_51 : decode cX11_init 51 = .ok (.if_icmp .ge 22, 3) := by decide +kernel
theorem dX11_init_54 : decode cX11_init 54 = .ok (.aload_n 0, 1) := by decide +kernel
theorem dX11_init_55 : decode cX11_init 55 = .ok (.getfield 27, 3) := by decide +kernel
theorem dX11_init_58 : decode cX11_init 58 = .ok (.iload_n 1, 1) := by decide +kernel
theorem dX11_init_59 : decode cX11_init 59 = .ok (.new 20, 3) := by decide +kernel
theorem dX11_init_62 : decode cX11_init 62 = .ok (.dup, 1) := by decide +kernel
theorem dX11_init_63 : decode cX11_init 63 = .ok (.invokespecial 22, 3) := by decide +kernel
theorem dX11_init_66 : decode cX11_init 66 = .ok (.aastore, 1) := by decide +kernel
theorem dX11_init_67 : decode cX11_init 67 = .ok (.iinc 1 1, 3) := by decide +kernel
theorem dX11_init_70 : decode cX11_init 70 = .ok (.goto (-25), 3) := by decide +kernel
theorem dX11_init_73 : decode cX11_init 73 = .ok (.aload_n 0, 1) := by decide +kernel
theorem dX11_init_74 : decode cX11_init 74 = .ok (.iconst 2, 1) := by decide +kernel
theorem dX11_init_75 : decode cX11_init 75 = .ok (.newarray .boolean, 2) := by decide +kernel
theorem dX11_init_77 : decode cX11_init 77 = .ok (.putfield 31, 3) := by decide +kernel
theorem dX11_init_80 : decode cX11_init 80 = .ok (.aload_n 0, 1) := by decide +kernel
theorem dX11_init_81 : decode cX11_init 81 = .ok (.new 35, 3) := by decide +kernel
theorem dX11_init_84 : decode cX11_init 84 = .ok (.dup, 1) := by decide +kernel
theorem dX11_init_85 : decode cX11_init 85 = .ok (.invokespecial 37, 3) := by decide +kernel
theorem dX11_init_88 : decode cX11_init 88 = .ok (.putfield 38, 3) := by decide +kernel
theorem dX11_init_91 : decode cX11_init 91 = .ok (.aload_n 0, 1) := by decide +kernel
theorem dX11_init_92 : decode cX11_init 92 = .ok (.new 42, 3) := by decide +kernel
theorem dX11_init_95 : decode cX11_init 95 = .ok (.dup, 1) := by decide +kernel
theorem dX11_init_96 : decode cX11_init 96 = .ok (.invokespecial 44, 3) := by decide +kernel
theorem dX11_init_99 : decode cX11_init 99 = .ok (.putfield 45, 3) := by decide +kernel
theorem dX11_init_102 : decode cX11_init 102 = .ok (.aload_n 0, 1) := by decide +kernel
theorem dX11_init_103 : decode cX11_init 103 = .ok (.new 49, 3) := by decide +kernel
theorem dX11_init_106 : decode cX11_init 106 = .ok (.dup, 1) := by decide +kernel
theorem dX11_init_107 : decode cX11_init 107 = .ok (.invokespecial 51, 3) := by decide +kernel
theorem dX11_init_110 : decode cX11_init 110 = .ok (.putfield 52, 3) := by decide +kernel
theorem dX11_init_113 : decode cX11_init 113 = .ok (.aload_n 0, 1) := by decide +kernel
theorem dX11_init_114 : decode cX11_init 114 = .ok (.new 56, 3) := by decide +kernel
theorem dX11_init_117 : decode cX11_init 117 = .ok (.dup, 1) := by decide +kernel
theorem dX11_init_118 : decode cX11_init 118 = .ok (.invokespecial 58, 3) := by decide +kernel
theorem dX11_init_121 : decode cX11_init 121 = .ok (.putfield 59, 3) := by decide +kernel
theorem dX11_init_124 : decode cX11_init 124 = .ok (.aload_n 0, 1) := by decide +kernel
theorem dX11_init_125 : decode cX11_init 125 = .ok (.new 63, 3) := by decide +kernel
theorem dX11_init_128 : decode cX11_init 128 = .ok (.dup, 1) := by decide +kernel
theorem dX11_init_129 : decode cX11_init 129 = .ok (.invokespecial 65, 3) := by decide +kernel
theorem dX11_init_132 : decode cX11_init 132 = .ok (.putfield 66, 3) := by decide +kernel
theorem dX11_init_135 : decode cX11_init 135 = .ok (.aload_n 0, 1) := by decide +kernel
theorem dX11_init_136 : decode cX11_init 136 = .ok (.new 70, 3) := by decide +kernel
theorem dX11_init_139 : decode cX11_init 139 = .ok (.dup, 1) := by decide +kernel
theorem dX11_init_140 : decode cX11_init 140 = .ok (.invokespecial 72, 3) := by decide +kernel
theorem dX11_init_143 : decode cX11_init 143 = .ok (.putfield 73, 3) := by decide +kernel
theorem dX11_init_146 : decode cX11_init 146 = .ok (.aload_n 0, 1) := by decide +kernel
theorem dX11_init_147 : decode cX11_init 147 = .ok (.new 77, 3) := by decide +kernel
theorem dX11_init_150 : decode cX11_init 150 = .ok (.dup, 1) := by decide +kernel
theorem dX11_init_151 : decode cX11_init 151 = .ok (.invokespecial 79, 3) := by decide +kernel
theorem dX11_init_154 : decode cX11_init 154 = .ok (.putfield 80, 3) := by decide +kernel
theorem dX11_init_157 : decode cX11_init 157 = .ok (.aload_n 0, 1) := by decide +kernel
theorem dX11_init_158 : decode cX11_init 158 = .ok (.new 84, 3) := by decide +kernel
theorem dX11_init_161 : decode cX11_init 161 = .ok (.dup, 1) := by decide +kernel
theorem dX11_init_162 : decode cX11_init 162 = .ok (.invokespecial 86, 3) := by decide +kernel
theorem dX11_init_165 : decode cX11_init 165 = .ok (.putfield 87, 3) := by decide +kernel
theorem dX11_init_168 : decode cX11_init 168 = .ok (.aload_n 0, 1) := by decide +kernel
theorem dX11_init_169 : decode cX11_init 169 = .ok (.iconst 4, 1) := by decide +kernel
theorem dX11_init_170 : decode cX11_init 170 = .ok (.newarray .int, 2) := by decide +kernel
theorem dX11_init_172 : decode cX11_init 172 = .ok (.putfield 91, 3) := by decide +kernel
theorem dX11_init_175 : decode cX11_init 175 = .ok (.aload_n 0, 1) := by decide +kernel
theorem dX11_init_176 : decode cX11_init 176 = .ok (.iconst (-1), 1) := by decide +kernel
theorem dX11_init_177 : decode cX11_init 177 = .ok (.putfield 94, 3) := by decide +kernel
theorem dX11_init_180 : decode cX11_init 180 = .ok (.aload_n 0, 1) := by decide +kernel
theorem dX11_init_181 : decode cX11_init 181 = .ok (.new 98, 3) := by decide +kernel
theorem dX11_init_184 : decode cX11_init 184 = .ok (.dup, 1) := by decide +kernel
theorem dX11_init_185 : decode cX11_init 185 = .ok (.invokespecial 100, 3) := by decide +kernel
theorem dX11_init_188 : decode cX11_init 188 = .ok (.putfield 101, 3) := by decide +kernel
theorem dX11_init_191 : decode cX11_init 191 = .ok (.return_, 1) := by decide +kernel
set_option maxRecDepth 20000 in
theorem ggX11_feed_X11_appendBytes : GoodIn wsX11_feed wsX11_appendBytes := goodIn_r _ [6, 1, 7, 8, 9, 10, 11, 12, 13, 14, 15, 16, 17, 18, 19, 20, 21, 22, 23, 24, 25, 26] rfl rfl
set_option maxRecDepth 20000 in
theorem gX11_feed_X11_appendBytes : GoodIn wsX11_feed (wsV RX11 108 RX11 yX11_appendBytes wsX11_appendBytes) := goodIn_app (goodIn_r _ [2, 3, 4, 5] rfl rfl) ggX11_feed_X11_appendBytes
theorem dX11_feed_0 : decode cX11_feed 0 = .ok (.aload_n 0, 1) := by decide +kernel
theorem dX11_feed_1 : decode cX11_feed 1 = .ok (.getfield 105, 3) := by decide +kernel
theorem dX11_feed_4 : decode cX11_feed 4 = .ok (.bipush 20, 2) := by decide +kernel
theorem dX11_feed_6 : decode cX11_feed 6 = .ok (.iadd, 1) := by decide +kernel
theorem dX11_feed_7 : decode cX11_feed 7 = .ok (.sipush 940, 3) := by decide +kernel
theorem dX11_feed_10 : decode cX11_feed 10 = .ok (.if_icmp .le 5, 3) := by decide +kernel
theorem dX11_feed_13 : decode cX11_feed 13 = .ok (.iconst (-1), 1) := by decide +kernel
theorem dX11_feed_14 : decode cX11_feed 14 = .ok (.ireturn, 1) := by decide +kernel
theorem dX11_feed_15 : decode cX11_feed 15 = .ok (.aload_n 0, 1) := by decide +kernel
theorem dX11_feed_16 : decode cX11_feed 16 = .ok (.iload_n 1, 1) := by decide +kernel
theorem dX11_feed_17 : decode cX11_feed 17 = .ok (.invokevirtual 108, 3) := by decide +kernel
theorem dX11_feed_20 : decode cX11_feed 20 = .ok (.aload_n 0, 1) := by decide +kernel
theorem dX11_feed_21 : decode cX11_feed 21 = .ok (.iload_n 2, 1) := by decide +kernel
theorem dX11_feed_22 : decode cX11_feed 22 = .ok (.invokevirtual 108, 3) := by decide +kernel
theorem dX11_feed_25 : decode cX11_feed 25 = .ok (.aload_n 0, 1) := by decide +kernel
theorem dX11_feed_26 : decode cX11_feed 26 = .ok (.iload_n 3, 1) := by decide +kernel
theorem dX11_feed_27 : decode cX11_feed 27 = .ok (.invokevirtual 108, 3) := by decide +kernel
theorem dX11_feed_30 : decode cX11_feed 30 = .ok (.aload_n 0, 1) := by decide +kernel
theorem dX11_feed_31 : decode cX11_feed 31 = .ok (.iload 4, 2) := by decide +kernel
theorem dX11_feed_33 : decode cX11_feed 33 = .ok (.invokevirtual 108, 3) := by decide +kernel
theorem dX11_feed_36 : decode cX11_feed 36 = .ok (.aload_n 0, 1) := by decide +kernel
theorem dX11_feed_37 : decode cX11_feed 37 = .ok (.iload 5, 2) := by decide +kernel
theorem dX11_feed_39 : decode cX11_feed 39 = .ok (.invokevirtual 108, 3) := by decide +kernel
theorem dX11_feed_42 : decode cX11_feed 42 = .ok (.aload_n 0, 1) := by decide +kernel
theorem dX11_feed_43 : decode cX11_feed 43 = .ok (.getfield 105, 3) := by decide +kernel
theorem dX11_feed_46 : decode cX11_feed 46 = .ok (.ireturn, 1) := by decide +kernel
theorem dX11_end_0 : decode cX11_end 0 = .ok (.iload_n 1, 1) := by decide +kernel
theorem dX11_end_1 : decode cX11_end 1 = .ok (.ifCond .lt 11, 3) := by decide +kernel
theorem dX11_end_4 : decode cX11_end 4 = .ok (.iload_n 1, 1) := by decide +kernel
theorem dX11_end_5 : decode cX11_end 5 = .ok (.aload_n 0, 1) := by decide +kernel
theorem dX11_end_6 : decode cX11_end 6 = .ok (.getfield 105, 3) := by decide +kernel
theorem dX11_end_9 : decode cX11_end 9 = .ok (.if_icmp .le 5, 3) := by decide +kernel
theorem dX11_end_12 : decode cX11_end 12 = .ok (.iconst 0, 1) := by decide +kernel
theorem dX11_end_13 : decode cX11_end 13 = .ok (.ireturn, 1) := by decide +kernel
theorem dX11_end_14 : decode cX11_end 14 = .ok (.aload_n 0, 1) := by decide +kernel
theorem dX11_end_15 : decode cX11_end 15 = .ok (.iload_n 1, 1) := by decide +kernel
theorem dX11_end_16 : decode cX11_end 16 = .ok (.putfield 105, 3) := by decide +kernel
theorem dX11_end_19 : decode cX11_end 19 = .ok (.iconst 1, 1) := by decide +kernel
theorem dX11_end_20 : decode cX11_end 20 = .ok (.ireturn, 1) := by decide +kernel
set_option maxRecDepth 20000 in
theorem ggX11_office_X11_takeTape : GoodIn wsX11_office wsX11_takeTape := goodIn_r _ [11, 12, 230, 231, 232, 233, 234, 235, 236, 237, 238, 239, 240, 241, 242, 243, 244, 245, 246, 247, 248] rfl rfl
set_option maxRecDepth 20000 in
theorem gX11_office_X11_takeTape : GoodIn wsX11_office (wsV RX11 112 RX11 yX11_takeTape wsX11_takeTape) := goodIn_app (goodIn_r _ [7, 8, 9, 10] rfl rfl) ggX11_office_X11_takeTape
set_option maxRecDepth 20000 in
theorem ggX11_office_X4_open : GoodIn wsX11_office wsX4_open := goodIn_r _ [16, 17, 18, 19, 20, 21, 22, 23, 24, 25, 26, 27, 28, 29, 14, 30, 31, 32, 33, 34, 35, 36, 37, 38, 39, 40, 41, 42, 43, 44, 45, 46, 47, 48, 49, 50, 51, 52, 53, 54, 55, 56, 57, 58, 59, 60, 61, 62, 63, 64, 65, 66, 67, 68, 69, 70, 71, 72, 73, 74, 75, 76, 77, 78, 79, 80, 81, 82, 83, 84, 85, 86, 87, 88, 89, 90, 91, 92, 93, 94, 95, 96, 97, 249, 250, 251, 252, 253, 254, 255, 256, 257, 258, 259] rfl rfl
set_option maxRecDepth 20000 in
theorem gX11_office_X4_open_n116 : GoodIn wsX11_office (wsX4_open) := ggX11_office_X4_open
set_option maxRecDepth 20000 in
theorem ggX11_office_X3_read : GoodIn wsX11_office wsX3_read := goodIn_r _ [101, 102, 103, 104, 105, 106, 14, 107, 108, 34, 109, 110, 111, 99, 112, 113, 114, 115, 116, 117, 118, 119, 32, 120, 121, 122, 123, 124, 125, 126, 127, 128, 129, 25, 33, 26, 28, 29, 30, 22, 23, 18, 19, 20, 21, 24, 17, 31, 35, 36, 37, 38, 39, 40, 41, 42, 43, 44, 45, 46, 47, 48, 49, 50, 51, 52, 53, 54, 55, 56, 57, 58, 59, 60, 61, 62, 63, 64, 65, 66, 67, 68, 69, 70, 71, 72, 73, 74, 75, 76, 77, 78, 79, 80, 81, 82, 83, 84, 85, 86, 87, 88, 89, 90, 91, 92, 93, 94, 95, 96, 97, 130, 131, 132, 133, 134, 135, 136, 137, 138, 139, 140, 10, 141, 142, 143, 144, 145, 146, 147, 148, 149, 150, 151, 152, 153, 154, 155, 156, 157, 158, 159, 160, 161, 162, 163, 164, 165, 166, 167, 168, 169, 170, 171, 172, 173, 174, 175, 176, 177, 178, 179, 180, 181, 182, 183, 184, 185, 186, 187, 27, 188, 189, 190, 191, 260, 261, 262, 263, 264, 265, 266, 267, 268, 269, 270, 249, 250, 251, 252, 253, 254, 255, 256, 257, 258, 259] rfl rfl
set_option maxRecDepth 20000 in
theorem gX11_office_X3_read_n120 : GoodIn wsX11_office (wsX3_read) := ggX11_office_X3_read
set_option maxRecDepth 20000 in
theorem ggX11_office_X7_begin : GoodIn wsX11_office wsX7_begin := goodIn_r _ [195, 196, 197, 198, 199, 99, 200, 201, 102, 103, 104, 105, 124, 202, 203, 204, 205, 125, 126, 134, 149, 150, 151, 206, 207, 208, 209, 210, 211, 212, 213, 214, 215, 216, 217, 218, 219, 220, 221, 222, 223, 224, 271, 272, 273, 260, 261, 262, 263, 264, 265, 266, 267, 268, 269, 270, 274, 275, 276, 277, 278, 279, 280, 281, 282, 283, 284, 285, 286, 287, 288] rfl rfl
set_option maxRecDepth 20000 in
theorem gX11_office_X7_begin_n133 : GoodIn wsX11_office (wsX7_begin) := ggX11_office_X7_begin
set_option maxRecDepth 20000 in
theorem ggX11_office_X2_forget : GoodIn wsX11_office wsX2_forget := goodIn_r _ [228, 229, 289, 290, 291] rfl rfl
set_option maxRecDepth 20000 in
theorem gX11_office_X2_forget_n137 : GoodIn wsX11_office (wsX2_forget) := ggX11_office_X2_forget
theorem dX11_office_0 : decode cX11_office 0 = .ok (.aload_n 0, 1) := by decide +kernel
theorem dX11_office_1 : decode cX11_office 1 = .ok (.getfield 16, 3) := by decide +kernel
theorem dX11_office_4 : decode cX11_office 4 = .ok (.aload_n 0, 1) := by decide +kernel
theorem dX11_office_5 : decode cX11_office 5 = .ok (.getfield 9, 3) := by decide +kernel
theorem dX11_office_8 : decode cX11_office 8 = .ok (.aload_n 0, 1) := by decide +kernel
theorem dX11_office_9 : decode cX11_office 9 = .ok (.invokevirtual 112, 3) := by decide +kernel
theorem dX11_office_12 : decode cX11_office 12 = .ok (.sipush 900, 3) := by decide +kernel
theorem dX11_office_15 : decode cX11_office 15 = .ok (.invokevirtual 116, 3) := by decide +kernel
theorem dX11_office_18 : decode cX11_office 18 = .ok (.aload_n 0, 1) := by decide +kernel
theorem dX11_office_19 : decode cX11_office 19 = .ok (.getfield 45, 3) := by decide +kernel
theorem dX11_office_22 : decode cX11_office 22 = .ok (.aload_n 0, 1) := by decide +kernel
theorem dX11_office_23 : decode cX11_office 23 = .ok (.getfield 16, 3) := by decide +kernel
theorem dX11_office_26 : decode cX11_office 26 = .ok (.invokevirtual 120, 3) := by decide +kernel
theorem dX11_office_29 : decode cX11_office 29 = .ok (.istore_n 1, 1) := by decide +kernel
theorem dX11_office_30 : decode cX11_office 30 = .ok (.aload_n 0, 1) := by decide +kernel
theorem dX11_office_31 : decode cX11_office 31 = .ok (.aload_n 0, 1) := by decide +kernel
theorem dX11_office_32 : decode cX11_office 32 = .ok (.getfield 16, 3) := by decide +kernel
theorem dX11_office_35 : decode cX11_office 35 = .ok (.getfield 124, 3) := by decide +kernel
theorem dX11_office_38 : decode cX11_office 38 = .ok (.putfield 127, 3) := by decide +kernel
theorem dX11_office_41 : decode cX11_office 41 = .ok (.iload_n 1, 1) := by decide +kernel
theorem dX11_office_42 : decode cX11_office 42 = .ok (.ifCond .ne 13, 3) := by decide +kernel
theorem dX11_office_45 : decode cX11_office 45 = .ok (.iconst (-1), 1) := by decide +kernel
theorem dX11_office_46 : decode cX11_office 46 = .ok (.aload_n 0, 1) := by decide +kernel
theorem dX11_office_47 : decode cX11_office 47 = .ok (.getfield 16, 3) := by decide +kernel
theorem dX11_office_50 : decode cX11_office 50 = .ok (.getfield 130, 3) := by decide +kernel
theorem dX11_office_53 : decode cX11_office 53 = .ok (.isub, 1) := by decide +kernel
theorem dX11_office_54 : decode cX11_office 54 = .ok (.ireturn, 1) := by decide +kernel
theorem dX11_office_55 : decode cX11_office 55 = .ok (.aload_n 0, 1) := by decide +kernel
theorem dX11_office_56 : decode cX11_office 56 = .ok (.getfield 23, 3) := by decide +kernel
theorem dX11_office_59 : decode cX11_office 59 = .ok (.aload_n 0, 1) := by decide +kernel
theorem dX11_office_60 : decode cX11_office 60 = .ok (.getfield 45, 3) := by decide +kernel
theorem dX11_office_63 : decode cX11_office 63 = .ok (.invokevirtual 133, 3) := by decide +kernel
theorem dX11_office_66 : decode cX11_office 66 = .ok (.aload_n 0, 1) := by decide +kernel
theorem dX11_office_67 : decode cX11_office 67 = .ok (.getfield 38, 3) := by decide +kernel
theorem dX11_office_70 : decode cX11_office 70 = .ok (.invokevirtual 137, 3) := by decide +kernel
theorem dX11_office_73 : decode cX11_office 73 = .ok (.aload_n 0, 1) := by decide +kernel
theorem dX11_office_74 : decode cX11_office 74 = .ok (.getfield 45, 3) := by decide +kernel
theorem dX11_office_77 : decode cX11_office 77 = .ok (.getfield 140, 3) := by decide +kernel
theorem dX11_office_80 : decode cX11_office 80 = .ok (.ireturn, 1) := by decide +kernel
theorem dX11_fault_0 : decode cX11_fault 0 = .ok (.aload_n 0, 1) := by decide +kernel
theorem dX11_fault_1 : decode cX11_fault 1 = .ok (.getfield 127, 3) := by decide +kernel
theorem dX11_fault_4 : decode cX11_fault 4 = .ok (.ireturn, 1) := by decide +kernel
theorem dX11_machine_0 : decode cX11_machine 0 = .ok (.aload_n 0, 1) := by decide +kernel
theorem dX11_machine_1 : decode cX11_machine 1 = .ok (.getfield 23, 3) := by decide +kernel
theorem dX11_machine_4 : decode cX11_machine 4 = .ok (.getfield 143, 3) := by decide +kernel
theorem dX11_machine_7 : decode cX11_machine 7 = .ok (.astore_n 3, 1) := by decide +kernel
theorem dX11_machine_8 : decode cX11_machine 8 = .ok (.aload_n 0, 1) := by decide +kernel
theorem dX11_machine_9 : decode cX11_machine 9 = .ok (.getfield 23, 3) := by decide +kernel
theorem dX11_machine_12 : decode cX11_machine 12 = .ok (.getfield 146, 3) := by decide +kernel
theorem dX11_machine_15 : decode cX11_machine 15 = .ok (.astore 4, 2) := by decide +kernel
theorem dX11_machine_17 : decode cX11_machine 17 = .ok (.aload_n 3, 1) := by decide +kernel
theorem dX11_machine_18 : decode cX11_machine 18 = .ok (.iload_n 1, 1) := by decide +kernel
theorem dX11_machine_19 : decode cX11_machine 19 = .ok (.invokevirtual 149, 3) := by decide +kernel
theorem dX11_machine_22 : decode cX11_machine 22 = .ok (.ifCond .ne 11, 3) := by decide +kernel
theorem dX11_machine_25 : decode cX11_machine 25 = .ok (.new 153, 3) := by decide +kernel
theorem dX11_machine_28 : decode cX11_machine 28 = .ok (.dup, 1) := by decide +kernel
theorem dX11_machine_29 : decode cX11_machine 29 = .ok (.invokespecial 155, 3) := by decide +kernel
theorem dX11_machine_32 : decode cX11_machine 32 = .ok (.athrow, 1) := by decide +kernel
theorem dX11_machine_33 : decode cX11_machine 33 = .ok (.iload_n 2, 1) := by decide +kernel
theorem dX11_machine_34 : decode cX11_machine 34 = .ok (.tableswitch 114 0 7 #[46, 54, 61, 76, 84, 92, 100, 107], 46) := by decide +kernel
theorem dX11_machine_80 : decode cX11_machine 80 = .ok (.aload 4, 2) := by decide +kernel
theorem dX11_machine_82 : decode cX11_machine 82 = .ok (.getfield 156, 3) := by decide +kernel
theorem dX11_machine_85 : decode cX11_machine 85 = .ok (.iload_n 1, 1) := by decide +kernel
theorem dX11_machine_86 : decode cX11_machine 86 = .ok (.iaload, 1) := by decide +kernel
theorem dX11_machine_87 : decode cX11_machine 87 = .ok (.ireturn, 1) := by decide +kernel
theorem dX11_machine_88 : decode cX11_machine 88 = .ok (.aload_n 3, 1) := by decide +kernel
theorem dX11_machine_89 : decode cX11_machine 89 = .ok (.getfield 159, 3) := by decide +kernel
theorem dX11_machine_92 : decode cX11_machine 92 = .ok (.iload_n 1, 1) := by decide +kernel
theorem dX11_machine_93 : decode cX11_machine 93 = .ok (.iaload, 1) := by decide +kernel
theorem dX11_machine_94 : decode cX11_machine 94 = .ok (.ireturn, 1) := by decide +kernel
theorem dX11_machine_95 : decode cX11_machine 95 = .ok (.aload 4, 2) := by decide +kernel
theorem dX11_machine_97 : decode cX11_machine 97 = .ok (.iload_n 1, 1) := by decide +kernel
theorem dX11_machine_98 : decode cX11_machine 98 = .ok (.invokevirtual 162, 3) := by decide +kernel
theorem dX11_machine_101 : decode cX11_machine 101 = .ok (.ifCond .eq 7, 3) := by decide +kernel
theorem dX11_machine_104 : decode cX11_machine 104 = .ok (.iconst 1, 1) := by decide +kernel
theorem dX11_machine_105 : decode cX11_machine 105 = .ok (.goto 4, 3) := by decide +kernel
theorem dX11_machine_108 : decode cX11_machine 108 = .ok (.iconst 0, 1) := by decide +kernel
theorem dX11_machine_109 : decode cX11_machine 109 = .ok (.ireturn, 1) := by decide +kernel
theorem dX11_machine_110 : decode cX11_machine 110 = .ok (.aload 4, 2) := by decide +kernel
theorem dX11_machine_112 : decode cX11_machine 112 = .ok (.getfield 165, 3) := by decide +kernel
theorem dX11_machine_115 : decode cX11_machine 115 = .ok (.iload_n 1, 1) := by decide +kernel
theorem dX11_machine_116 : decode cX11_machine 116 = .ok (.iaload, 1) := by decide +kernel
theorem dX11_machine_117 : decode cX11_machine 117 = .ok (.ireturn, 1) := by decide +kernel
theorem dX11_machine_118 : decode cX11_machine 118 = .ok (.aload 4, 2) := by decide +kernel
theorem dX11_machine_120 : decode cX11_machine 120 = .ok (.getfield 168, 3) := by decide +kernel
theorem dX11_machine_123 : decode cX11_machine 123 = .ok (.iload_n 1, 1) := by decide +kernel
theorem dX11_machine_124 : decode cX11_machine 124 = .ok (.iaload, 1) := by decide +kernel
theorem dX11_machine_125 : decode cX11_machine 125 = .ok (.ireturn, 1) := by decide +kernel
theorem dX11_machine_126 : decode cX11_machine 126 = .ok (.aload 4, 2) := by decide +kernel
theorem dX11_machine_128 : decode cX11_machine 128 = .ok (.aload_n 3, 1) := by decide +kernel
theorem dX11_machine_129 : decode cX11_machine 129 = .ok (.iload_n 1, 1) := by decide +kernel
theorem dX11_machine_130 : decode cX11_machine 130 = .ok (.invokevirtual 171, 3) := by decide +kernel
theorem dX11_machine_133 : decode cX11_machine 133 = .ok (.ireturn, 1) := by decide +kernel
theorem dX11_machine_134 : decode cX11_machine 134 = .ok (.aload 4, 2) := by decide +kernel
theorem dX11_machine_136 : decode cX11_machine 136 = .ok (.iload_n 1, 1) := by decide +kernel
theorem dX11_machine_137 : decode cX11_machine 137 = .ok (.invokevirtual 175, 3) := by decide +kernel
theorem dX11_machine_140 : decode cX11_machine 140 = .ok (.ireturn, 1) := by decide +kernel
theorem dX11_machine_141 : decode cX11_machine 141 = .ok (.aload 4, 2) := by decide +kernel
theorem dX11_machine_143 : decode cX11_machine 143 = .ok (.iload_n 1, 1) := by decide +kernel
theorem dX11_machine_144 : decode cX11_machine 144 = .ok (.invokevirtual 179, 3) := by decide +kernel
theorem dX11_machine_147 : decode cX11_machine 147 = .ok (.ireturn, 1) := by decide +kernel
theorem dX11_machine_148 : decode cX11_machine 148 = .ok (.new 153, 3) := by decide +kernel
theorem dX11_machine_151 : decode cX11_machine 151 = .ok (.dup, 1) := by decide +kernel
theorem dX11_machine_152 : decode cX11_machine 152 = .ok (.invokespecial 155, 3) := by decide +kernel
theorem dX11_machine_155 : decode cX11_machine 155 = .ok (.athrow, 1) := by decide +kernel
set_option maxRecDepth 20000 in
theorem ggX11_phrase_X3_hasPhrase : GoodIn wsX11_phrase wsX3_hasPhrase := goodIn_r _ [5, 6, 54, 55, 56, 57, 58, 59, 60, 61, 62, 63, 64] rfl rfl
set_option maxRecDepth 20000 in
theorem gX11_phrase_X3_hasPhrase_n182 : GoodIn wsX11_phrase (wsX3_hasPhrase) := ggX11_phrase_X3_hasPhrase
set_option maxRecDepth 20000 in
theorem ggX11_phrase_X3_answeredBy : GoodIn wsX11_phrase wsX3_answeredBy := goodIn_r _ [9, 6, 10, 11, 12, 3, 13, 14, 15, 2, 4, 5, 16, 17, 18, 54, 55, 56, 57, 58, 59, 60, 61, 62, 63, 64] rfl rfl
set_option maxRecDepth 20000 in
theorem gX11_phrase_X3_answeredBy_n194 : GoodIn wsX11_phrase (wsX3_answeredBy) := ggX11_phrase_X3_answeredBy
set_option maxRecDepth 20000 in
theorem ggX11_phrase_X3_machinesKnowing : GoodIn wsX11_phrase wsX3_machinesKnowing := goodIn_r _ [21, 22, 23, 24, 25, 3, 26, 27, 28, 29, 30, 31, 15, 2, 4, 5, 6, 16, 17, 18, 54, 55, 56, 57, 58, 59, 60, 61, 62, 63, 64] rfl rfl
set_option maxRecDepth 20000 in
theorem gX11_phrase_X3_machinesKnowing_n197 : GoodIn wsX11_phrase (wsX3_machinesKnowing) := ggX11_phrase_X3_machinesKnowing
theorem dX11_phrase_0 : decode cX11_phrase 0 = .ok (.aload_n 0, 1) := by decide +kernel
theorem dX11_phrase_1 : decode cX11_phrase 1 = .ok (.getfield 23, 3) := by decide +kernel
theorem dX11_phrase_4 : decode cX11_phrase 4 = .ok (.getfield 143, 3) := by decide +kernel
theorem dX11_phrase_7 : decode cX11_phrase 7 = .ok (.astore_n 3, 1) := by decide +kernel
theorem dX11_phrase_8 : decode cX11_phrase 8 = .ok (.aload_n 3, 1) := by decide +kernel
theorem dX11_phrase_9 : decode cX11_phrase 9 = .ok (.iload_n 1, 1) := by decide +kernel
theorem dX11_phrase_10 : decode cX11_phrase 10 = .ok (.invokevirtual 182, 3) := by decide +kernel
theorem dX11_phrase_13 : decode cX11_phrase 13 = .ok (.ifCond .ne 5, 3) := by decide +kernel
theorem dX11_phrase_16 : decode cX11_phrase 16 = .ok (.iconst (-1), 1) := by decide +kernel
theorem dX11_phrase_17 : decode cX11_phrase 17 = .ok (.ireturn, 1) := by decide +kernel
theorem dX11_phrase_18 : decode cX11_phrase 18 = .ok (.iload_n 2, 1) := by decide +kernel
theorem dX11_phrase_19 : decode cX11_phrase 19 = .ok (.tableswitch 66 0 4 #[33, 40, 47, 54, 60], 33) := by decide +kernel
theorem dX11_phrase_52 : decode cX11_phrase 52 = .ok (.aload_n 3, 1) := by decide +kernel
theorem dX11_phrase_53 : decode cX11_phrase 53 = .ok (.getfield 185, 3) := by decide +kernel
theorem dX11_phrase_56 : decode cX11_phrase 56 = .ok (.iload_n 1, 1) := by decide +kernel
theorem dX11_phrase_57 : decode cX11_phrase 57 = .ok (.iaload, 1) := by decide +kernel
theorem dX11_phrase_58 : decode cX11_phrase 58 = .ok (.ireturn, 1) := by decide +kernel
theorem dX11_phrase_59 : decode cX11_phrase 59 = .ok (.aload_n 3, 1) := by decide +kernel
theorem dX11_phrase_60 : decode cX11_phrase 60 = .ok (.getfield 188, 3) := by decide +kernel
theorem dX11_phrase_63 : decode cX11_phrase 63 = .ok (.iload_n 1, 1) := by decide +kernel
theorem dX11_phrase_64 : decode cX11_phrase 64 = .ok (.iaload, 1) := by decide +kernel
theorem dX11_phrase_65 : decode cX11_phrase 65 = .ok (.ireturn, 1) := by decide +kernel
theorem dX11_phrase_66 : decode cX11_phrase 66 = .ok (.aload_n 3, 1) := by decide +kernel
theorem dX11_phrase_67 : decode cX11_phrase 67 = .ok (.getfield 191, 3) := by decide +kernel
theorem dX11_phrase_70 : decode cX11_phrase 70 = .ok (.iload_n 1, 1) := by decide +kernel
theorem dX11_phrase_71 : decode cX11_phrase 71 = .ok (.iaload, 1) := by decide +kernel
theorem dX11_phrase_72 : decode cX11_phrase 72 = .ok (.ireturn, 1) := by decide +kernel
theorem dX11_phrase_73 : decode cX11_phrase 73 = .ok (.aload_n 3, 1) := by decide +kernel
theorem dX11_phrase_74 : decode cX11_phrase 74 = .ok (.iload_n 1, 1) := by decide +kernel
theorem dX11_phrase_75 : decode cX11_phrase 75 = .ok (.invokevirtual 194, 3) := by decide +kernel
theorem dX11_phrase_78 : decode cX11_phrase 78 = .ok (.ireturn, 1) := by decide +kernel
theorem dX11_phrase_79 : decode cX11_phrase 79 = .ok (.aload_n 3, 1) := by decide +kernel
theorem dX11_phrase_80 : decode cX11_phrase 80 = .ok (.iload_n 1, 1) := by decide +kernel
theorem dX11_phrase_81 : decode cX11_phrase 81 = .ok (.invokevirtual 197, 3) := by decide +kernel
theorem dX11_phrase_84 : decode cX11_phrase 84 = .ok (.ireturn, 1) := by decide +kernel
theorem dX11_phrase_85 : decode cX11_phrase 85 = .ok (.iconst (-1), 1) := by decide +kernel
theorem dX11_phrase_86 : decode cX11_phrase 86 = .ok (.ireturn, 1) := by decide +kernel
set_option maxRecDepth 20000 in
theorem ggX11_owes_X3_hasMachine : GoodIn wsX11_owes wsX3_hasMachine := goodIn_r _ [5, 6, 34, 35, 36, 37, 38, 39, 40, 41, 42, 43, 44] rfl rfl
set_option maxRecDepth 20000 in
theorem gX11_owes_X3_hasMachine_n149 : GoodIn wsX11_owes (wsX3_hasMachine) := ggX11_owes_X3_hasMachine
set_option maxRecDepth 20000 in
theorem ggX11_owes_X9_debtOf : GoodIn wsX11_owes wsX9_debtOf := goodIn_r _ [10, 11, 45, 46, 47, 48, 49, 50, 51, 52, 53] rfl rfl
set_option maxRecDepth 20000 in
theorem gX11_owes_X9_debtOf_n200 : GoodIn wsX11_owes (wsX9_debtOf) := ggX11_owes_X9_debtOf
theorem dX11_owes_0 : decode cX11_owes 0 = .ok (.iload_n 1, 1) := by decide +kernel
theorem dX11_owes_1 : decode cX11_owes 1 = .ok (.iload_n 2, 1) := by decide +kernel
theorem dX11_owes_2 : decode cX11_owes 2 = .ok (.if_icmp .eq 31, 3) := by decide +kernel
theorem dX11_owes_5 : decode cX11_owes 5 = .ok (.aload_n 0, 1) := by decide +kernel
theorem dX11_owes_6 : decode cX11_owes 6 = .ok (.getfield 23, 3) := by decide +kernel
theorem dX11_owes_9 : decode cX11_owes 9 = .ok (.getfield 143, 3) := by decide +kernel
theorem dX11_owes_12 : decode cX11_owes 12 = .ok (.iload_n 1, 1) := by decide +kernel
theorem dX11_owes_13 : decode cX11_owes 13 = .ok (.invokevirtual 149, 3) := by decide +kernel
theorem dX11_owes_16 : decode cX11_owes 16 = .ok (.ifCond .eq 17, 3) := by decide +kernel
theorem dX11_owes_19 : decode cX11_owes 19 = .ok (.aload_n 0, 1) := by decide +kernel
theorem dX11_owes_20 : decode cX11_owes 20 = .ok (.getfield 23, 3) := by decide +kernel
theorem dX11_owes_23 : decode cX11_owes 23 = .ok (.getfield 143, 3) := by decide +kernel
theorem dX11_owes_26 : decode cX11_owes 26 = .ok (.iload_n 2, 1) := by decide +kernel
theorem dX11_owes_27 : decode cX11_owes 27 = .ok (.invokevirtual 149, 3) := by decide +kernel
theorem dX11_owes_30 : decode cX11_owes 30 = .ok (.ifCond .ne 5, 3) := by decide +kernel
theorem dX11_owes_33 : decode cX11_owes 33 = .ok (.iconst (-1), 1) := by decide +kernel
theorem dX11_owes_34 : decode cX11_owes 34 = .ok (.ireturn, 1) := by decide +kernel
theorem dX11_owes_35 : decode cX11_owes 35 = .ok (.aload_n 0, 1) := by decide +kernel
theorem dX11_owes_36 : decode cX11_owes 36 = .ok (.getfield 23, 3) := by decide +kernel
theorem dX11_owes_39 : decode cX11_owes 39 = .ok (.getfield 146, 3) := by decide +kernel
theorem dX11_owes_42 : decode cX11_owes 42 = .ok (.iload_n 1, 1) := by decide +kernel
theorem dX11_owes_43 : decode cX11_owes 43 = .ok (.iload_n 2, 1) := by decide +kernel
theorem dX11_owes_44 : decode cX11_owes 44 = .ok (.invokevirtual 200, 3) := by decide +kernel
theorem dX11_owes_47 : decode cX11_owes 47 = .ok (.ireturn, 1) := by decide +kernel
set_option maxRecDepth 20000 in
theorem ggX11_now_X11_sumOf : GoodIn wsX11_now wsX11_sumOf := goodIn_r _ [5] rfl rfl
set_option maxRecDepth 20000 in
theorem gX11_now_X11_sumOf : GoodIn wsX11_now (va_wsS RX11 216 yX11_sumOf wsX11_sumOf) := goodIn_app (goodIn_r _ [2, 3, 4] rfl rfl) ggX11_now_X11_sumOf
theorem dX11_now_0 : decode cX11_now 0 = .ok (.aload_n 0, 1) := by decide +kernel
theorem dX11_now_1 : decode cX11_now 1 = .ok (.getfield 23, 3) := by decide +kernel
theorem dX11_now_4 : decode cX11_now 4 = .ok (.getfield 146, 3) := by decide +kernel
theorem dX11_now_7 : decode cX11_now 7 = .ok (.astore_n 2, 1) := by decide +kernel
theorem dX11_now_8 : decode cX11_now 8 = .ok (.iload_n 1, 1) := by decide +kernel
theorem dX11_now_9 : decode cX11_now 9 = .ok (.tableswitch 96 0 7 #[47, 52, 57, 62, 67, 75, 83, 88], 47) := by decide +kernel
theorem dX11_now_56 : decode cX11_now 56 = .ok (.aload_n 2, 1) := by decide +kernel
theorem dX11_now_57 : decode cX11_now 57 = .ok (.getfield 204, 3) := by decide +kernel
theorem dX11_now_60 : decode cX11_now 60 = .ok (.ireturn, 1) := by decide +kernel
theorem dX11_now_61 : decode cX11_now 61 = .ok (.aload_n 2, 1) := by decide +kernel
theorem dX11_now_62 : decode cX11_now 62 = .ok (.getfield 207, 3) := by decide +kernel
theorem dX11_now_65 : decode cX11_now 65 = .ok (.ireturn, 1) := by decide +kernel
theorem dX11_now_66 : decode cX11_now 66 = .ok (.aload_n 2, 1) := by decide +kernel
theorem dX11_now_67 : decode cX11_now 67 = .ok (.getfield 210, 3) := by decide +kernel
theorem dX11_now_70 : decode cX11_now 70 = .ok (.ireturn, 1) := by decide +kernel
theorem dX11_now_71 : decode cX11_now 71 = .ok (.aload_n 2, 1) := by decide +kernel
theorem dX11_now_72 : decode cX11_now 72 = .ok (.getfield 213, 3) := by decide +kernel
theorem dX11_now_75 : decode cX11_now 75 = .ok (.ireturn, 1) := by decide +kernel
theorem dX11_now_76 : decode cX11_now 76 = .ok (.aload_n 2, 1) := by decide +kernel
theorem dX11_now_77 : decode cX11_now 77 = .ok (.getfield 165, 3) := by decide +kernel
theorem dX11_now_80 : decode cX11_now 80 = .ok (.invokestatic 216, 3) := by decide +kernel
theorem dX11_now_83 : decode cX11_now 83 = .ok (.ireturn, 1) := by decide +kernel
theorem dX11_now_84 : decode cX11_now 84 = .ok (.aload_n 2, 1) := by decide +kernel
theorem dX11_now_85 : decode cX11_now 85 = .ok (.getfield 168, 3) := by decide +kernel
theorem dX11_now_88 : decode cX11_now 88 = .ok (.invokestatic 216, 3) := by decide +kernel
theorem dX11_now_91 : decode cX11_now 91 = .ok (.ireturn, 1) := by decide +kernel
theorem dX11_now_92 : decode cX11_now 92 = .ok (.aload_n 2, 1) := by decide +kernel
theorem dX11_now_93 : decode cX11_now 93 = .ok (.getfield 220, 3) := by decide +kernel
theorem dX11_now_96 : decode cX11_now 96 = .ok (.ireturn, 1) := by decide +kernel
theorem dX11_now_97 : decode cX11_now 97 = .ok (.aload_n 2, 1) := by decide +kernel
theorem dX11_now_98 : decode cX11_now 98 = .ok (.getfield 223, 3) := by decide +kernel
theorem dX11_now_101 : decode cX11_now 101 = .ok (.invokestatic 216, 3) := by decide +kernel
theorem dX11_now_104 : decode cX11_now 104 = .ok (.ireturn, 1) := by decide +kernel
theorem dX11_now_105 : decode cX11_now 105 = .ok (.iconst (-1), 1) := by decide +kernel
theorem dX11_now_106 : decode cX11_now 106 = .ok (.ireturn, 1) := by decide +kernel
set_option maxRecDepth 20000 in
theorem ggX11_write_X11_doOne : GoodIn wsX11_write wsX11_doOne := goodIn_r _ [5, 6, 7, 8, 9, 10, 11, 12, 13, 14, 15, 16, 17, 18, 19, 20, 21, 22, 23, 24, 25, 26, 27, 28, 29, 30, 31, 32, 33, 34, 35, 36, 37, 38, 39, 40, 41, 42, 43, 44, 45, 46, 47, 4, 48, 49, 50, 51, 52, 53, 54, 55, 56, 57, 58, 59, 60, 61, 62, 63, 64, 65, 66, 67, 68, 69, 70, 71, 72, 73, 74, 75, 76, 77, 78, 79, 80, 81, 82, 83, 84, 85, 86, 87, 88, 89, 90, 91, 92, 93, 94, 95, 96, 97, 98, 99, 100, 101, 102, 103, 104, 105, 106, 107, 108, 109, 110, 111, 112, 113, 114, 115, 116, 117, 118, 119, 120, 121, 122, 123, 124, 125, 126, 127, 128, 129, 130, 131, 132, 133, 134, 135, 136, 137, 138, 139] rfl rfl
set_option maxRecDepth 20000 in
theorem gX11_write_X11_doOne : GoodIn wsX11_write (wsV RX11 226 RX11 yX11_doOne wsX11_doOne) := goodIn_app (goodIn_r _ [1, 2, 3, 4] rfl rfl) ggX11_write_X11_doOne
theorem dX11_write_0 : decode cX11_write 0 = .ok (.aload_n 0, 1) := by decide +kernel
theorem dX11_write_1 : decode cX11_write 1 = .ok (.iconst 0, 1) := by decide +kernel
theorem dX11_write_2 : decode cX11_write 2 = .ok (.iload_n 1, 1) := by decide +kernel
theorem dX11_write_3 : decode cX11_write 3 = .ok (.iload_n 2, 1) := by decide +kernel
theorem dX11_write_4 : decode cX11_write 4 = .ok (.invokevirtual 226, 3) := by decide +kernel
theorem dX11_write_7 : decode cX11_write 7 = .ok (.ireturn, 1) := by decide +kernel
set_option maxRecDepth 20000 in
theorem ggX11_sit_X11_doOne : GoodIn wsX11_sit wsX11_doOne := goodIn_r _ [5, 6, 7, 8, 9, 10, 11, 12, 13, 14, 15, 16, 17, 18, 19, 20, 21, 22, 23, 24, 25, 26, 27, 28, 29, 30, 31, 32, 33, 34, 35, 36, 37, 38, 39, 40, 41, 42, 43, 44, 45, 46, 47, 4, 48, 49, 50, 51, 52, 53, 54, 55, 56, 57, 58, 59, 60, 61, 62, 63, 64, 65, 66, 67, 68, 69, 70, 71, 72, 73, 74, 75, 76, 77, 78, 79, 80, 81, 82, 83, 84, 85, 86, 87, 88, 89, 90, 91, 92, 93, 94, 95, 96, 97, 98, 99, 100, 101, 102, 103, 104, 105, 106, 107, 108, 109, 110, 111, 112, 113, 114, 115, 116, 117, 118, 119, 120, 121, 122, 123, 124, 125, 126, 127, 128, 129, 130, 131, 132, 133, 134, 135, 136, 137, 138, 139] rfl rfl
set_option maxRecDepth 20000 in
theorem gX11_sit_X11_doOne : GoodIn wsX11_sit (wsV RX11 226 RX11 yX11_doOne wsX11_doOne) := goodIn_app (goodIn_r _ [1, 2, 3, 4] rfl rfl) ggX11_sit_X11_doOne
theorem dX11_sit_0 : decode cX11_sit 0 = .ok (.aload_n 0, 1) := by decide +kernel
theorem dX11_sit_1 : decode cX11_sit 1 = .ok (.bipush 10, 2) := by decide +kernel
theorem dX11_sit_3 : decode cX11_sit 3 = .ok (.iload_n 1, 1) := by decide +kernel
theorem dX11_sit_4 : decode cX11_sit 4 = .ok (.iconst 0, 1) := by decide +kernel
theorem dX11_sit_5 : decode cX11_sit 5 = .ok (.invokevirtual 226, 3) := by decide +kernel
theorem dX11_sit_8 : decode cX11_sit 8 = .ok (.ireturn, 1) := by decide +kernel
set_option maxRecDepth 20000 in
theorem ggX11_leave_X11_doOne : GoodIn wsX11_leave wsX11_doOne := goodIn_r _ [5, 6, 7, 8, 9, 10, 11, 12, 13, 14, 15, 16, 17, 18, 19, 20, 21, 22, 23, 24, 25, 26, 27, 28, 29, 30, 31, 32, 33, 34, 35, 36, 37, 38, 39, 40, 41, 42, 43, 44, 45, 46, 47, 4, 48, 49, 50, 51, 52, 53, 54, 55, 56, 57, 58, 59, 60, 61, 62, 63, 64, 65, 66, 67, 68, 69, 70, 71, 72, 73, 74, 75, 76, 77, 78, 79, 80, 81, 82, 83, 84, 85, 86, 87, 88, 89, 90, 91, 92, 93, 94, 95, 96, 97, 98, 99, 100, 101, 102, 103, 104, 105, 106, 107, 108, 109, 110, 111, 112, 113, 114, 115, 116, 117, 118, 119, 120, 121, 122, 123, 124, 125, 126, 127, 128, 129, 130, 131, 132, 133, 134, 135, 136, 137, 138, 139] rfl rfl
set_option maxRecDepth 20000 in
theorem gX11_leave_X11_doOne : GoodIn wsX11_leave (wsV RX11 226 RX11 yX11_doOne wsX11_doOne) := goodIn_app (goodIn_r _ [1, 2, 3, 4] rfl rfl) ggX11_leave_X11_doOne
theorem dX11_leave_0 : decode cX11_leave 0 = .ok (.aload_n 0, 1) := by decide +kernel
theorem dX11_leave_1 : decode cX11_leave 1 = .ok (.bipush 20, 2) := by decide +kernel
theorem dX11_leave_3 : decode cX11_leave 3 = .ok (.iload_n 1, 1) := by decide +kernel
theorem dX11_leave_4 : decode cX11_leave 4 = .ok (.iconst 0, 1) := by decide +kernel
theorem dX11_leave_5 : decode cX11_leave 5 = .ok (.invokevirtual 226, 3) := by decide +kernel
theorem dX11_leave_8 : decode cX11_leave 8 = .ok (.ireturn, 1) := by decide +kernel
set_option maxRecDepth 20000 in
theorem ggX11_ribbon_X11_doOne : GoodIn wsX11_ribbon wsX11_doOne := goodIn_r _ [5, 6, 7, 8, 9, 10, 11, 12, 13, 14, 15, 16, 17, 18, 19, 20, 21, 22, 23, 24, 25, 26, 27, 28, 29, 30, 31, 32, 33, 34, 35, 36, 37, 38, 39, 40, 41, 42, 43, 44, 45, 46, 47, 4, 48, 49, 50, 51, 52, 53, 54, 55, 56, 57, 58, 59, 60, 61, 62, 63, 64, 65, 66, 67, 68, 69, 70, 71, 72, 73, 74, 75, 76, 77, 78, 79, 80, 81, 82, 83, 84, 85, 86, 87, 88, 89, 90, 91, 92, 93, 94, 95, 96, 97, 98, 99, 100, 101, 102, 103, 104, 105, 106, 107, 108, 109, 110, 111, 112, 113, 114, 115, 116, 117, 118, 119, 120, 121, 122, 123, 124, 125, 126, 127, 128, 129, 130, 131, 132, 133, 134, 135, 136, 137, 138, 139] rfl rfl
set_option maxRecDepth 20000 in
theorem gX11_ribbon_X11_doOne : GoodIn wsX11_ribbon (wsV RX11 226 RX11 yX11_doOne wsX11_doOne) := goodIn_app (goodIn_r _ [1, 2, 3, 4] rfl rfl) ggX11_ribbon_X11_doOne
theorem dX11_ribbon_0 : decode cX11_ribbon 0 = .ok (.aload_n 0, 1) := by decide +kernel
theorem dX11_ribbon_1 : decode cX11_ribbon 1 = .ok (.bipush 30, 2) := by decide +kernel
theorem dX11_ribbon_3 : decode cX11_ribbon 3 = .ok (.iload_n 1, 1) := by decide +kernel
theorem dX11_ribbon_4 : decode cX11_ribbon 4 = .ok (.iload_n 2, 1) := by decide +kernel
theorem dX11_ribbon_5 : decode cX11_ribbon 5 = .ok (.invokevirtual 226, 3) := by decide +kernel
theorem dX11_ribbon_8 : decode cX11_ribbon 8 = .ok (.ireturn, 1) := by decide +kernel
set_option maxRecDepth 20000 in
theorem ggX11_clear_X11_doOne : GoodIn wsX11_clear wsX11_doOne := goodIn_r _ [5, 6, 7, 8, 9, 10, 11, 12, 13, 14, 15, 16, 17, 18, 19, 20, 21, 22, 23, 24, 25, 26, 27, 28, 29, 30, 31, 32, 33, 34, 35, 36, 37, 38, 39, 40, 41, 42, 43, 44, 45, 46, 47, 4, 48, 49, 50, 51, 52, 53, 54, 55, 56, 57, 58, 59, 60, 61, 62, 63, 64, 65, 66, 67, 68, 69, 70, 71, 72, 73, 74, 75, 76, 77, 78, 79, 80, 81, 82, 83, 84, 85, 86, 87, 88, 89, 90, 91, 92, 93, 94, 95, 96, 97, 98, 99, 100, 101, 102, 103, 104, 105, 106, 107, 108, 109, 110, 111, 112, 113, 114, 115, 116, 117, 118, 119, 120, 121, 122, 123, 124, 125, 126, 127, 128, 129, 130, 131, 132, 133, 134, 135, 136, 137, 138, 139] rfl rfl
set_option maxRecDepth 20000 in
theorem gX11_clear_X11_doOne : GoodIn wsX11_clear (wsV RX11 226 RX11 yX11_doOne wsX11_doOne) := goodIn_app (goodIn_r _ [1, 2, 3, 4] rfl rfl) ggX11_clear_X11_doOne
theorem dX11_clear_0 : decode cX11_clear 0 = .ok (.aload_n 0, 1) := by decide +kernel
theorem dX11_clear_1 : decode cX11_clear 1 = .ok (.bipush 40, 2) := by decide +kernel
theorem dX11_clear_3 : decode cX11_clear 3 = .ok (.iconst 0, 1) := by decide +kernel
theorem dX11_clear_4 : decode cX11_clear 4 = .ok (.iconst 0, 1) := by decide +kernel
theorem dX11_clear_5 : decode cX11_clear 5 = .ok (.invokevirtual 226, 3) := by decide +kernel
theorem dX11_clear_8 : decode cX11_clear 8 = .ok (.ireturn, 1) := by decide +kernel
set_option maxRecDepth 20000 in
theorem ggX11_days_X11_isDays : GoodIn wsX11_days wsX11_isDays := goodIn_r _ [10] rfl rfl
set_option maxRecDepth 20000 in
theorem gX11_days_X11_isDays : GoodIn wsX11_days (va_wsS RX11 230 yX11_isDays wsX11_isDays) := goodIn_app (goodIn_r _ [7, 8, 9] rfl rfl) ggX11_days_X11_isDays
set_option maxRecDepth 20000 in
theorem ggX11_days_X9_daysLeft : GoodIn wsX11_days wsX9_daysLeft := goodIn_r _ [14, 15, 113, 114, 115, 116, 117, 118, 119, 120, 121] rfl rfl
set_option maxRecDepth 20000 in
theorem gX11_days_X9_daysLeft_n233 : GoodIn wsX11_days (wsX9_daysLeft) := ggX11_days_X9_daysLeft
set_option maxRecDepth 20000 in
theorem ggX11_days_X2_keep : GoodIn wsX11_days wsX2_keep := goodIn_r _ [19, 20, 21, 22, 23, 12, 24, 25, 15, 26, 27, 28, 29, 30, 31, 32, 33, 34, 35, 36, 37, 122, 123, 124, 113, 114, 115, 116, 117, 118, 119, 120, 121] rfl rfl
set_option maxRecDepth 20000 in
theorem gX11_days_X2_keep_n241 : GoodIn wsX11_days (wsX2_keep) := ggX11_days_X2_keep
set_option maxRecDepth 20000 in
theorem ggX11_days_X9_passDays : GoodIn wsX11_days wsX9_passDays := goodIn_r _ [40, 41, 42, 43, 12, 44, 26, 27, 29, 15, 45, 46, 47, 48, 49, 50, 51, 52, 30, 53, 54, 55, 56, 57, 58, 59, 60, 61, 62, 63, 64, 65, 28, 66, 9, 67, 68, 69, 70, 71, 72, 73, 74, 75, 76, 77, 78, 79, 80, 81, 35, 36, 82, 3, 4, 5, 83, 84, 85, 86, 37, 87, 88, 89, 90, 113, 114, 115, 116, 117, 118, 119, 120, 121, 125, 126, 127, 128, 129, 130, 131, 132, 133, 134, 135] rfl rfl
set_option maxRecDepth 20000 in
theorem gX11_days_X9_passDays_n245 : GoodIn wsX11_days (wsX9_passDays) := ggX11_days_X9_passDays
theorem dX11_days_0 : decode cX11_days 0 = .ok (.iload_n 1, 1) := by decide +kernel
theorem dX11_days_1 : decode cX11_days 1 = .ok (.invokestatic 230, 3) := by decide +kernel
theorem dX11_days_4 : decode cX11_days 4 = .ok (.ifCond .ne 5, 3) := by decide +kernel
theorem dX11_days_7 : decode cX11_days 7 = .ok (.iconst (-1), 1) := by decide +kernel
theorem dX11_days_8 : decode cX11_days 8 = .ok (.ireturn, 1) := by decide +kernel
theorem dX11_days_9 : decode cX11_days 9 = .ok (.iload_n 1, 1) := by decide +kernel
theorem dX11_days_10 : decode cX11_days 10 = .ok (.aload_n 0, 1) := by decide +kernel
theorem dX11_days_11 : decode cX11_days 11 = .ok (.getfield 23, 3) := by decide +kernel
theorem dX11_days_14 : decode cX11_days 14 = .ok (.getfield 146, 3) := by decide +kernel
theorem dX11_days_17 : decode cX11_days 17 = .ok (.invokevirtual 233, 3) := by decide +kernel
theorem dX11_days_20 : decode cX11_days 20 = .ok (.invokestatic 236, 3) := by decide +kernel
theorem dX11_days_23 : decode cX11_days 23 = .ok (.istore_n 2, 1) := by decide +kernel
theorem dX11_days_24 : decode cX11_days 24 = .ok (.iload_n 2, 1) := by decide +kernel
theorem dX11_days_25 : decode cX11_days 25 = .ok (.ifCond .le 35, 3) := by decide +kernel
theorem dX11_days_28 : decode cX11_days 28 = .ok (.aload_n 0, 1) := by decide +kernel
theorem dX11_days_29 : decode cX11_days 29 = .ok (.getfield 38, 3) := by decide +kernel
theorem dX11_days_32 : decode cX11_days 32 = .ok (.aload_n 0, 1) := by decide +kernel
theorem dX11_days_33 : decode cX11_days 33 = .ok (.getfield 23, 3) := by decide +kernel
theorem dX11_days_36 : decode cX11_days 36 = .ok (.getfield 146, 3) := by decide +kernel
theorem dX11_days_39 : decode cX11_days 39 = .ok (.invokevirtual 241, 3) := by decide +kernel
theorem dX11_days_42 : decode cX11_days 42 = .ok (.aload_n 0, 1) := by decide +kernel
theorem dX11_days_43 : decode cX11_days 43 = .ok (.getfield 23, 3) := by decide +kernel
theorem dX11_days_46 : decode cX11_days 46 = .ok (.getfield 146, 3) := by decide +kernel
theorem dX11_days_49 : decode cX11_days 49 = .ok (.aload_n 0, 1) := by decide +kernel
theorem dX11_days_50 : decode cX11_days 50 = .ok (.getfield 23, 3) := by decide +kernel
theorem dX11_days_53 : decode cX11_days 53 = .ok (.getfield 143, 3) := by decide +kernel
theorem dX11_days_56 : decode cX11_days 56 = .ok (.iload_n 2, 1) := by decide +kernel
theorem dX11_days_57 : decode cX11_days 57 = .ok (.invokevirtual 245, 3) := by decide +kernel
theorem dX11_days_60 : decode cX11_days 60 = .ok (.iload_n 2, 1) := by decide +kernel
theorem dX11_days_61 : decode cX11_days 61 = .ok (.ireturn, 1) := by decide +kernel
set_option maxRecDepth 20000 in
theorem ggX11_undo_X2_takeBack : GoodIn wsX11_undo wsX2_takeBack := goodIn_r _ [6, 7, 8, 9, 10, 11, 12, 13, 14, 15, 16, 17, 18, 19, 20, 21, 22, 23, 24, 25, 26, 49, 50, 51, 52, 53, 54, 55, 56, 57, 58, 59, 60] rfl rfl
set_option maxRecDepth 20000 in
theorem gX11_undo_X2_takeBack_n249 : GoodIn wsX11_undo (wsX2_takeBack) := ggX11_undo_X2_takeBack
theorem dX11_undo_0 : decode cX11_undo 0 = .ok (.aload_n 0, 1) := by decide +kernel
theorem dX11_undo_1 : decode cX11_undo 1 = .ok (.getfield 38, 3) := by decide +kernel
theorem dX11_undo_4 : decode cX11_undo 4 = .ok (.aload_n 0, 1) := by decide +kernel
theorem dX11_undo_5 : decode cX11_undo 5 = .ok (.getfield 23, 3) := by decide +kernel
theorem dX11_undo_8 : decode cX11_undo 8 = .ok (.getfield 146, 3) := by decide +kernel
theorem dX11_undo_11 : decode cX11_undo 11 = .ok (.invokevirtual 249, 3) := by decide +kernel
theorem dX11_undo_14 : decode cX11_undo 14 = .ok (.ifCond .eq 13, 3) := by decide +kernel
theorem dX11_undo_17 : decode cX11_undo 17 = .ok (.aload_n 0, 1) := by decide +kernel
theorem dX11_undo_18 : decode cX11_undo 18 = .ok (.getfield 38, 3) := by decide +kernel
theorem dX11_undo_21 : decode cX11_undo 21 = .ok (.getfield 253, 3) := by decide +kernel
theorem dX11_undo_24 : decode cX11_undo 24 = .ok (.goto 4, 3) := by decide +kernel
theorem dX11_undo_27 : decode cX11_undo 27 = .ok (.iconst (-1), 1) := by decide +kernel
theorem dX11_undo_28 : decode cX11_undo 28 = .ok (.ireturn, 1) := by decide +kernel
set_option maxRecDepth 20000 in
theorem ggX11_comes_X5_find : GoodIn wsX11_comes wsX5_find := goodIn_r _ [6, 7, 8, 9, 10, 11, 12, 4, 13, 14, 15, 16, 17, 18, 19, 20, 21, 22, 23, 24, 25, 26, 27, 28, 29, 30, 31, 32, 33, 34, 35, 36, 37, 38, 39, 40, 41, 42, 43, 44, 45, 46, 47, 48, 49, 50, 51, 74, 75, 76, 77, 78, 79, 80, 81, 82, 83, 84, 85, 86, 87, 88, 89, 90, 91, 92, 93, 94, 95, 96, 97] rfl rfl
set_option maxRecDepth 20000 in
theorem gX11_comes_X5_find_n256 : GoodIn wsX11_comes (wsX5_find) := ggX11_comes_X5_find
theorem dX11_comes_0 : decode cX11_comes 0 = .ok (.aload_n 0, 1) := by decide +kernel
theorem dX11_comes_1 : decode cX11_comes 1 = .ok (.getfield 80, 3) := by decide +kernel
theorem dX11_comes_4 : decode cX11_comes 4 = .ok (.aload_n 0, 1) := by decide +kernel
theorem dX11_comes_5 : decode cX11_comes 5 = .ok (.getfield 23, 3) := by decide +kernel
theorem dX11_comes_8 : decode cX11_comes 8 = .ok (.getfield 143, 3) := by decide +kernel
theorem dX11_comes_11 : decode cX11_comes 11 = .ok (.aload_n 0, 1) := by decide +kernel
theorem dX11_comes_12 : decode cX11_comes 12 = .ok (.getfield 23, 3) := by decide +kernel
theorem dX11_comes_15 : decode cX11_comes 15 = .ok (.getfield 146, 3) := by decide +kernel
theorem dX11_comes_18 : decode cX11_comes 18 = .ok (.iload_n 1, 1) := by decide +kernel
theorem dX11_comes_19 : decode cX11_comes 19 = .ok (.invokevirtual 256, 3) := by decide +kernel
theorem dX11_comes_22 : decode cX11_comes 22 = .ok (.ireturn, 1) := by decide +kernel
theorem dX11_comesAt_0 : decode cX11_comesAt 0 = .ok (.iload_n 1, 1) := by decide +kernel
theorem dX11_comesAt_1 : decode cX11_comesAt 1 = .ok (.ifCond .lt 26, 3) := by decide +kernel
theorem dX11_comesAt_4 : decode cX11_comesAt 4 = .ok (.iload_n 1, 1) := by decide +kernel
theorem dX11_comesAt_5 : decode cX11_comesAt 5 = .ok (.aload_n 0, 1) := by decide +kernel
theorem dX11_comesAt_6 : decode cX11_comesAt 6 = .ok (.getfield 80, 3) := by decide +kernel
theorem dX11_comesAt_9 : decode cX11_comesAt 9 = .ok (.getfield 260, 3) := by decide +kernel
theorem dX11_comesAt_12 : decode cX11_comesAt 12 = .ok (.if_icmp .ge 15, 3) := by decide +kernel
theorem dX11_comesAt_15 : decode cX11_comesAt 15 = .ok (.aload_n 0, 1) := by decide +kernel
theorem dX11_comesAt_16 : decode cX11_comesAt 16 = .ok (.getfield 80, 3) := by decide +kernel
theorem dX11_comesAt_19 : decode cX11_comesAt 19 = .ok (.getfield 261, 3) := by decide +kernel
theorem dX11_comesAt_22 : decode cX11_comesAt 22 = .ok (.iload_n 1, 1) := by decide +kernel
theorem dX11_comesAt_23 : decode cX11_comesAt 23 = .ok (.iaload, 1) := by decide +kernel
theorem dX11_comesAt_24 : decode cX11_comesAt 24 = .ok (.goto 4, 3) := by decide +kernel
theorem dX11_comesAt_27 : decode cX11_comesAt 27 = .ok (.iconst (-1), 1) := by decide +kernel
theorem dX11_comesAt_28 : decode cX11_comesAt 28 = .ok (.ireturn, 1) := by decide +kernel
set_option maxRecDepth 20000 in
theorem ggX11_silent_X9_copyFrom : GoodIn wsX11_silent wsX9_copyFrom := goodIn_r _ [6, 7, 8, 9, 10, 11, 12, 13, 14, 15, 16, 17, 18, 19, 95, 96, 97, 98, 99, 100, 101, 102, 103] rfl rfl
set_option maxRecDepth 20000 in
theorem gX11_silent_X9_copyFrom_n264 : GoodIn wsX11_silent (wsX9_copyFrom) := ggX11_silent_X9_copyFrom
set_option maxRecDepth 20000 in
theorem ggX11_silent_X9_passDay : GoodIn wsX11_silent wsX9_passDay := goodIn_r _ [22, 8, 9, 11, 7, 23, 24, 25, 4, 26, 27, 28, 29, 30, 12, 31, 32, 33, 34, 35, 36, 37, 38, 39, 40, 41, 42, 43, 10, 44, 45, 46, 47, 48, 49, 50, 51, 52, 53, 54, 55, 56, 57, 58, 59, 60, 17, 18, 61, 62, 63, 64, 65, 66, 67, 68, 19, 69, 70, 71, 72, 95, 96, 97, 98, 99, 100, 101, 102, 103, 104, 105, 106, 107, 108, 109, 110, 111, 112, 113, 114] rfl rfl
set_option maxRecDepth 20000 in
theorem gX11_silent_X9_passDay_n267 : GoodIn wsX11_silent (wsX9_passDay) := ggX11_silent_X9_passDay
theorem dX11_silent_0 : decode cX11_silent 0 = .ok (.aload_n 0, 1) := by decide +kernel
theorem dX11_silent_1 : decode cX11_silent 1 = .ok (.getfield 66, 3) := by decide +kernel
theorem dX11_silent_4 : decode cX11_silent 4 = .ok (.aload_n 0, 1) := by decide +kernel
theorem dX11_silent_5 : decode cX11_silent 5 = .ok (.getfield 23, 3) := by decide +kernel
theorem dX11_silent_8 : decode cX11_silent 8 = .ok (.getfield 146, 3) := by decide +kernel
theorem dX11_silent_11 : decode cX11_silent 11 = .ok (.invokevirtual 264, 3) := by decide +kernel
theorem dX11_silent_14 : decode cX11_silent 14 = .ok (.iconst 1, 1) := by decide +kernel
theorem dX11_silent_15 : decode cX11_silent 15 = .ok (.istore_n 1, 1) := by decide +kernel
theorem dX11_silent_16 : decode cX11_silent 16 = .ok (.iload_n 1, 1) := by decide +kernel
theorem dX11_silent_17 : decode cX11_silent 17 = .ok (.bipush 99, 2) := by decide +kernel
theorem dX11_silent_19 : decode cX11_silent 19 = .ok (.if_icmp .gt 28, 3) := by decide +kernel
theorem dX11_silent_22 : decode cX11_silent 22 = .ok (.aload_n 0, 1) := by decide +kernel
theorem dX11_silent_23 : decode cX11_silent 23 = .ok (.getfield 66, 3) := by decide +kernel
theorem dX11_silent_26 : decode cX11_silent 26 = .ok (.aload_n 0, 1) := by decide +kernel
theorem dX11_silent_27 : decode cX11_silent 27 = .ok (.getfield 23, 3) := by decide +kernel
theorem dX11_silent_30 : decode cX11_silent 30 = .ok (.getfield 143, 3) := by decide +kernel
theorem dX11_silent_33 : decode cX11_silent 33 = .ok (.invokevirtual 267, 3) := by decide +kernel
theorem dX11_silent_36 : decode cX11_silent 36 = .ok (.ifCond .ne 5, 3) := by decide +kernel
theorem dX11_silent_39 : decode cX11_silent 39 = .ok (.iload_n 1, 1) := by decide +kernel
theorem dX11_silent_40 : decode cX11_silent 40 = .ok (.ireturn, 1) := by decide +kernel
theorem dX11_silent_41 : decode cX11_silent 41 = .ok (.iinc 1 1, 3) := by decide +kernel
theorem dX11_silent_44 : decode cX11_silent 44 = .ok (.goto (-28), 3) := by decide +kernel
theorem dX11_silent_47 : decode cX11_silent 47 = .ok (.iconst (-1), 1) := by decide +kernel
theorem dX11_silent_48 : decode cX11_silent 48 = .ok (.ireturn, 1) := by decide +kernel
set_option maxRecDepth 20000 in
theorem ggX11_ways_X11_takeTape : GoodIn wsX11_ways wsX11_takeTape := goodIn_r _ [8, 9, 57, 58, 59, 60, 61, 62, 63, 64, 65, 66, 67, 68, 69, 70, 71, 72, 73, 74, 75] rfl rfl
set_option maxRecDepth 20000 in
theorem gX11_ways_X11_takeTape : GoodIn wsX11_ways (wsV RX11 112 RX11 yX11_takeTape wsX11_takeTape) := goodIn_app (goodIn_r _ [4, 5, 6, 7] rfl rfl) ggX11_ways_X11_takeTape
set_option maxRecDepth 20000 in
theorem ggX11_ways_X11_tellsPhrases : GoodIn wsX11_ways wsX11_tellsPhrases := goodIn_r _ [13, 2, 3, 14, 15, 16, 17, 18, 57, 58, 59, 60, 61, 62, 63, 64, 65, 66, 67, 68, 69, 70, 71, 72, 73, 74, 75, 76, 77, 78, 79, 80, 81, 82, 83, 84, 85, 86, 87, 88, 89] rfl rfl
set_option maxRecDepth 20000 in
theorem gX11_ways_X11_tellsPhrases : GoodIn wsX11_ways (wsV RX11 271 RX11 yX11_tellsPhrases wsX11_tellsPhrases) := goodIn_app (goodIn_r _ [10, 11, 12, 7] rfl rfl) ggX11_ways_X11_tellsPhrases
set_option maxRecDepth 20000 in
theorem ggX11_ways_X6_measure : GoodIn wsX11_ways wsX6_measure := goodIn_r _ [22, 23, 24, 25, 26, 15, 27, 28, 29, 30, 31, 32, 33, 34, 35, 14, 16, 17, 18, 36, 7, 37, 38, 39, 20, 40, 41, 42, 43, 44, 45, 46, 47, 48, 49, 50, 51, 52, 53, 54, 55, 56, 90, 91, 92, 93, 94, 79, 80, 81, 82, 83, 84, 85, 86, 87, 88, 89] rfl rfl
set_option maxRecDepth 20000 in
theorem gX11_ways_X6_measure_n274 : GoodIn wsX11_ways (wsX6_measure) := ggX11_ways_X6_measure
theorem dX11_ways_0 : decode cX11_ways 0 = .ok (.aload_n 0, 1) := by decide +kernel
theorem dX11_ways_1 : decode cX11_ways 1 = .ok (.invokevirtual 112, 3) := by decide +kernel
theorem dX11_ways_4 : decode cX11_ways 4 = .ok (.istore_n 1, 1) := by decide +kernel
theorem dX11_ways_5 : decode cX11_ways 5 = .ok (.aload_n 0, 1) := by decide +kernel
theorem dX11_ways_6 : decode cX11_ways 6 = .ok (.iload_n 1, 1) := by decide +kernel
theorem dX11_ways_7 : decode cX11_ways 7 = .ok (.invokevirtual 271, 3) := by decide +kernel
theorem dX11_ways_10 : decode cX11_ways 10 = .ok (.ifCond .eq 25, 3) := by decide +kernel
theorem dX11_ways_13 : decode cX11_ways 13 = .ok (.aload_n 0, 1) := by decide +kernel
theorem dX11_ways_14 : decode cX11_ways 14 = .ok (.getfield 87, 3) := by decide +kernel
theorem dX11_ways_17 : decode cX11_ways 17 = .ok (.aload_n 0, 1) := by decide +kernel
theorem dX11_ways_18 : decode cX11_ways 18 = .ok (.getfield 23, 3) := by decide +kernel
theorem dX11_ways_21 : decode cX11_ways 21 = .ok (.getfield 143, 3) := by decide +kernel
theorem dX11_ways_24 : decode cX11_ways 24 = .ok (.aload_n 0, 1) := by decide +kernel
theorem dX11_ways_25 : decode cX11_ways 25 = .ok (.getfield 9, 3) := by decide +kernel
theorem dX11_ways_28 : decode cX11_ways 28 = .ok (.iload_n 1, 1) := by decide +kernel
theorem dX11_ways_29 : decode cX11_ways 29 = .ok (.invokevirtual 274, 3) := by decide +kernel
theorem dX11_ways_32 : decode cX11_ways 32 = .ok (.goto 4, 3) := by decide +kernel
theorem dX11_ways_35 : decode cX11_ways 35 = .ok (.iconst (-1), 1) := by decide +kernel
theorem dX11_ways_36 : decode cX11_ways 36 = .ok (.ireturn, 1) := by decide +kernel
theorem dX11_waysAt_0 : decode cX11_waysAt 0 = .ok (.iload_n 1, 1) := by decide +kernel
theorem dX11_waysAt_1 : decode cX11_waysAt 1 = .ok (.ifCond .lt 26, 3) := by decide +kernel
theorem dX11_waysAt_4 : decode cX11_waysAt 4 = .ok (.iload_n 1, 1) := by decide +kernel
theorem dX11_waysAt_5 : decode cX11_waysAt 5 = .ok (.aload_n 0, 1) := by decide +kernel
theorem dX11_waysAt_6 : decode cX11_waysAt 6 = .ok (.getfield 87, 3) := by decide +kernel
theorem dX11_waysAt_9 : decode cX11_waysAt 9 = .ok (.getfield 278, 3) := by decide +kernel
theorem dX11_waysAt_12 : decode cX11_waysAt 12 = .ok (.if_icmp .ge 15, 3) := by decide +kernel
theorem dX11_waysAt_15 : decode cX11_waysAt 15 = .ok (.aload_n 0, 1) := by decide +kernel
theorem dX11_waysAt_16 : decode cX11_waysAt 16 = .ok (.getfield 87, 3) := by decide +kernel
theorem dX11_waysAt_19 : decode cX11_waysAt 19 = .ok (.getfield 279, 3) := by decide +kernel
theorem dX11_waysAt_22 : decode cX11_waysAt 22 = .ok (.iload_n 1, 1) := by decide +kernel
theorem dX11_waysAt_23 : decode cX11_waysAt 23 = .ok (.iaload, 1) := by decide +kernel
theorem dX11_waysAt_24 : decode cX11_waysAt 24 = .ok (.goto 4, 3) := by decide +kernel
theorem dX11_waysAt_27 : decode cX11_waysAt 27 = .ok (.iconst (-1), 1) := by decide +kernel
theorem dX11_waysAt_28 : decode cX11_waysAt 28 = .ok (.ireturn, 1) := by decide +kernel
theorem dX11_ask_0 : decode cX11_ask 0 = .ok (.aload_n 0, 1) := by decide +kernel
theorem dX11_ask_1 : decode cX11_ask 1 = .ok (.getfield 87, 3) := by decide +kernel
theorem dX11_ask_4 : decode cX11_ask 4 = .ok (.getfield 282, 3) := by decide +kernel
theorem dX11_ask_7 : decode cX11_ask 7 = .ok (.ireturn, 1) := by decide +kernel
set_option maxRecDepth 20000 in
theorem ggX11_lacks_X11_takeTape : GoodIn wsX11_lacks wsX11_takeTape := goodIn_r _ [7, 8, 32, 33, 34, 35, 36, 37, 38, 39, 40, 41, 42, 43, 44, 45, 46, 47, 48, 49, 50] rfl rfl
set_option maxRecDepth 20000 in
theorem gX11_lacks_X11_takeTape : GoodIn wsX11_lacks (wsV RX11 112 RX11 yX11_takeTape wsX11_takeTape) := goodIn_app (goodIn_r _ [3, 4, 5, 6] rfl rfl) ggX11_lacks_X11_takeTape
set_option maxRecDepth 20000 in
theorem ggX11_lacks_X11_tellsPhrases : GoodIn wsX11_lacks wsX11_tellsPhrases := goodIn_r _ [12, 1, 2, 13, 14, 15, 16, 17, 32, 33, 34, 35, 36, 37, 38, 39, 40, 41, 42, 43, 44, 45, 46, 47, 48, 49, 50, 51, 52, 53, 54, 55, 56, 57, 58, 59, 60, 61, 62, 63, 64] rfl rfl
set_option maxRecDepth 20000 in
theorem gX11_lacks_X11_tellsPhrases : GoodIn wsX11_lacks (wsV RX11 271 RX11 yX11_tellsPhrases wsX11_tellsPhrases) := goodIn_app (goodIn_r _ [9, 10, 11, 6] rfl rfl) ggX11_lacks_X11_tellsPhrases
set_option maxRecDepth 20000 in
theorem ggX11_lacks_X3_isAnswer : GoodIn wsX11_lacks wsX3_isAnswer := goodIn_r _ [20, 21, 22, 13, 15, 14, 16, 17, 23, 6, 24, 54, 55, 56, 57, 58, 59, 60, 61, 62, 63, 64] rfl rfl
set_option maxRecDepth 20000 in
theorem gX11_lacks_X3_isAnswer_n285 : GoodIn wsX11_lacks (wsX3_isAnswer) := ggX11_lacks_X3_isAnswer
set_option maxRecDepth 20000 in
theorem ggX11_lacks_J13_bitCount_95d88 : GoodIn wsX11_lacks wsJ13_bitCount_95d88 := goodIn_r _ [28, 29, 30, 31] rfl rfl
set_option maxRecDepth 20000 in
theorem gX11_lacks_J13_bitCount_95d88 : GoodIn wsX11_lacks (va_wsS RX11 289 yJ13_bitCount_95d88 wsJ13_bitCount_95d88) := goodIn_app (goodIn_r _ [25, 26, 27] rfl rfl) ggX11_lacks_J13_bitCount_95d88
theorem dX11_lacks_0 : decode cX11_lacks 0 = .ok (.aload_n 0, 1) := by decide +kernel
theorem dX11_lacks_1 : decode cX11_lacks 1 = .ok (.invokevirtual 112, 3) := by decide +kernel
theorem dX11_lacks_4 : decode cX11_lacks 4 = .ok (.istore_n 1, 1) := by decide +kernel
theorem dX11_lacks_5 : decode cX11_lacks 5 = .ok (.aload_n 0, 1) := by decide +kernel
theorem dX11_lacks_6 : decode cX11_lacks 6 = .ok (.iload_n 1, 1) := by decide +kernel
theorem dX11_lacks_7 : decode cX11_lacks 7 = .ok (.invokevirtual 271, 3) := by decide +kernel
theorem dX11_lacks_10 : decode cX11_lacks 10 = .ok (.ifCond .ne 5, 3) := by decide +kernel
theorem dX11_lacks_13 : decode cX11_lacks 13 = .ok (.iconst (-1), 1) := by decide +kernel
theorem dX11_lacks_14 : decode cX11_lacks 14 = .ok (.ireturn, 1) := by decide +kernel
theorem dX11_lacks_15 : decode cX11_lacks 15 = .ok (.lconst 0, 1) := by decide +kernel
theorem dX11_lacks_16 : decode cX11_lacks 16 = .ok (.lstore_n 2, 1) := by decide +kernel
theorem dX11_lacks_17 : decode cX11_lacks 17 = .ok (.iconst 1, 1) := by decide +kernel
theorem dX11_lacks_18 : decode cX11_lacks 18 = .ok (.istore 4, 2) := by decide +kernel
theorem dX11_lacks_20 : decode cX11_lacks 20 = .ok (.iload 4, 2) := by decide +kernel
theorem dX11_lacks_22 : decode cX11_lacks 22 = .ok (.iload_n 1, 1) := by decide +kernel
theorem dX11_lacks_23 : decode cX11_lacks 23 = .ok (.if_icmp .ge 63, 3) := by decide +kernel
theorem dX11_lacks_26 : decode cX11_lacks 26 = .ok (.aload_n 0, 1) := by decide +kernel
theorem dX11_lacks_27 : decode cX11_lacks 27 = .ok (.getfield 23, 3) := by decide +kernel
theorem dX11_lacks_30 : decode cX11_lacks 30 = .ok (.getfield 143, 3) := by decide +kernel
theorem dX11_lacks_33 : decode cX11_lacks 33 = .ok (.aload_n 0, 1) := by decide +kernel
theorem dX11_lacks_34 : decode cX11_lacks 34 = .ok (.getfield 9, 3) := by decide +kernel
theorem dX11_lacks_37 : decode cX11_lacks 37 = .ok (.iload 4, 2) := by decide +kernel
theorem dX11_lacks_39 : decode cX11_lacks 39 = .ok (.iaload, 1) := by decide +kernel
theorem dX11_lacks_40 : decode cX11_lacks 40 = .ok (.aload_n 0, 1) := by decide +kernel
theorem dX11_lacks_41 : decode cX11_lacks 41 = .ok (.getfield 9, 3) := by decide +kernel
theorem dX11_lacks_44 : decode cX11_lacks 44 = .ok (.iload 4, 2) := by decide +kernel
theorem dX11_lacks_46 : decode cX11_lacks 46 = .ok (.iconst 1, 1) := by decide +kernel
theorem dX11_lacks_47 : decode cX11_lacks 47 = .ok (.isub, 1) := by decide +kernel
theorem dX11_lacks_48 : decode cX11_lacks 48 = .ok (.iaload, 1) := by decide +kernel
theorem dX11_lacks_49 : decode cX11_lacks 49 = .ok (.invokevirtual 285, 3) := by decide +kernel
theorem dX11_lacks_52 : decode cX11_lacks 52 = .ok (.ifCond .ne 28, 3) := by decide +kernel
theorem dX11_lacks_55 : decode cX11_lacks 55 = .ok (.lload_n 2, 1) := by decide +kernel
theorem dX11_lacks_56 : decode cX11_lacks 56 = .ok (.lconst 1, 1) := by decide +kernel
theorem dX11_lacks_57 : decode cX11_lacks 57 = .ok (.aload_n 0, 1) := by decide +kernel
theorem dX11_lacks_58 : decode cX11_lacks 58 = .ok (.getfield 9, 3) := by decide +kernel
theorem dX11_lacks_61 : decode cX11_lacks 61 = .ok (.iload 4, 2) := by decide +kernel
theorem dX11_lacks_63 : decode cX11_lacks 63 = .ok (.iconst 1, 1) := by decide +kernel
theorem dX11_lacks_64 : decode cX11_lacks 64 = .ok (.isub, 1) := by decide +kernel
theorem dX11_lacks_65 : decode cX11_lacks 65 = .ok (.iaload, 1) := by decide +kernel
theorem dX11_lacks_66 : decode cX11_lacks 66 = .ok (.bipush 8, 2) := by decide +kernel
theorem dX11_lacks_68 : decode cX11_lacks 68 = .ok (.imul, 1) := by decide +kernel
theorem dX11_lacks_69 : decode cX11_lacks 69 = .ok (.aload_n 0, 1) := by decide +kernel
theorem dX11_lacks_70 : decode cX11_lacks 70 = .ok (.getfield 9, 3) := by decide +kernel
theorem dX11_lacks_73 : decode cX11_lacks 73 = .ok (.iload 4, 2) := by decide +kernel
theorem dX11_lacks_75 : decode cX11_lacks 75 = .ok (.iaload, 1) := by decide +kernel
theorem dX11_lacks_76 : decode cX11_lacks 76 = .ok (.iadd, 1) := by decide +kernel
theorem dX11_lacks_77 : decode cX11_lacks 77 = .ok (.lshl, 1) := by decide +kernel
theorem dX11_lacks_78 : decode cX11_lacks 78 = .ok (.lor, 1) := by decide +kernel
theorem dX11_lacks_79 : decode cX11_lacks 79 = .ok (.lstore_n 2, 1) := by decide +kernel
theorem dX11_lacks_80 : decode cX11_lacks 80 = .ok (.iinc 4 1, 3) := by decide +kernel
theorem dX11_lacks_83 : decode cX11_lacks 83 = .ok (.goto (-63), 3) := by decide +kernel
theorem dX11_lacks_86 : decode cX11_lacks 86 = .ok (.lload_n 2, 1) := by decide +kernel
theorem dX11_lacks_87 : decode cX11_lacks 87 = .ok (.invokestatic 289, 3) := by decide +kernel
theorem dX11_lacks_90 : decode cX11_lacks 90 = .ok (.ireturn, 1) := by decide +kernel
set_option maxRecDepth 20000 in
theorem ggX11_faint_X11_takeTape : GoodIn wsX11_faint wsX11_takeTape := goodIn_r _ [7, 8, 39, 40, 41, 42, 43, 44, 45, 46, 47, 48, 49, 50, 51, 52, 53, 54, 55, 56, 57] rfl rfl
set_option maxRecDepth 20000 in
theorem gX11_faint_X11_takeTape : GoodIn wsX11_faint (wsV RX11 112 RX11 yX11_takeTape wsX11_takeTape) := goodIn_app (goodIn_r _ [3, 4, 5, 6] rfl rfl) ggX11_faint_X11_takeTape
set_option maxRecDepth 20000 in
theorem ggX11_faint_X11_tellsFaintLetters : GoodIn wsX11_faint wsX11_tellsFaintLetters := goodIn_r _ [12, 13, 14, 15, 6, 16, 39, 40, 41, 42, 43, 44, 45, 46, 47, 48, 49, 50, 51, 52, 53, 54, 55, 56, 57] rfl rfl
set_option maxRecDepth 20000 in
theorem gX11_faint_X11_tellsFaintLetters : GoodIn wsX11_faint (wsV RX11 295 RX11 yX11_tellsFaintLetters wsX11_tellsFaintLetters) := goodIn_app (goodIn_r _ [9, 10, 11, 6] rfl rfl) ggX11_faint_X11_tellsFaintLetters
set_option maxRecDepth 20000 in
theorem ggX11_faint_X11_fits : GoodIn wsX11_faint wsX11_fits := goodIn_r _ [20, 13, 21, 22, 6, 23, 39, 40, 41, 42, 43, 44, 45, 46, 47, 48, 49, 50, 51, 52, 53, 54, 55, 56, 57] rfl rfl
set_option maxRecDepth 20000 in
theorem gX11_faint_X11_fits : GoodIn wsX11_faint (wsV RX11 305 RX11 yX11_fits wsX11_fits) := goodIn_app (goodIn_r _ [17, 18, 19, 6] rfl rfl) ggX11_faint_X11_fits
set_option maxRecDepth 20000 in
theorem ggX11_faint_X11_placeToLook : GoodIn wsX11_faint wsX11_placeToLook := goodIn_r _ [27, 28, 29, 30, 6, 31, 1, 32, 33, 34, 35, 36, 37, 38, 21, 22, 23, 39, 40, 41, 42, 43, 44, 45, 46, 47, 48, 49, 50, 51, 52, 53, 54, 55, 56, 57, 58, 59, 60, 61, 62, 63, 64, 65, 66, 67, 68, 69, 70, 71] rfl rfl
set_option maxRecDepth 20000 in
theorem gX11_faint_X11_placeToLook : GoodIn wsX11_faint (wsV RX11 309 RX11 yX11_placeToLook wsX11_placeToLook) := goodIn_app (goodIn_r _ [24, 25, 26, 6] rfl rfl) ggX11_faint_X11_placeToLook
theorem dX11_faint_0 : decode cX11_faint 0 = .ok (.aload_n 0, 1) := by decide +kernel
theorem dX11_faint_1 : decode cX11_faint 1 = .ok (.invokevirtual 112, 3) := by decide +kernel
theorem dX11_faint_4 : decode cX11_faint 4 = .ok (.istore_n 1, 1) := by decide +kernel
theorem dX11_faint_5 : decode cX11_faint 5 = .ok (.aload_n 0, 1) := by decide +kernel
theorem dX11_faint_6 : decode cX11_faint 6 = .ok (.iload_n 1, 1) := by decide +kernel
theorem dX11_faint_7 : decode cX11_faint 7 = .ok (.invokevirtual 295, 3) := by decide +kernel
theorem dX11_faint_10 : decode cX11_faint 10 = .ok (.ifCond .ne 5, 3) := by decide +kernel
theorem dX11_faint_13 : decode cX11_faint 13 = .ok (.iconst (-1), 1) := by decide +kernel
theorem dX11_faint_14 : decode cX11_faint 14 = .ok (.ireturn, 1) := by decide +kernel
theorem dX11_faint_15 : decode cX11_faint 15 = .ok (.aload_n 0, 1) := by decide +kernel
theorem dX11_faint_16 : decode cX11_faint 16 = .ok (.getfield 23, 3) := by decide +kernel
theorem dX11_faint_19 : decode cX11_faint 19 = .ok (.getfield 143, 3) := by decide +kernel
theorem dX11_faint_22 : decode cX11_faint 22 = .ok (.astore_n 2, 1) := by decide +kernel
theorem dX11_faint_23 : decode cX11_faint 23 = .ok (.iconst 0, 1) := by decide +kernel
theorem dX11_faint_24 : decode cX11_faint 24 = .ok (.istore_n 3, 1) := by decide +kernel
theorem dX11_faint_25 : decode cX11_faint 25 = .ok (.iconst 0, 1) := by decide +kernel
theorem dX11_faint_26 : decode cX11_faint 26 = .ok (.istore 4, 2) := by decide +kernel
theorem dX11_faint_28 : decode cX11_faint 28 = .ok (.iload 4, 2) := by decide +kernel
theorem dX11_faint_30 : decode cX11_faint 30 = .ok (.aload_n 2, 1) := by decide +kernel
theorem dX11_faint_31 : decode cX11_faint 31 = .ok (.getfield 298, 3) := by decide +kernel
theorem dX11_faint_34 : decode cX11_faint 34 = .ok (.if_icmp .ge 31, 3) := by decide +kernel
theorem dX11_faint_37 : decode cX11_faint 37 = .ok (.aload_n 0, 1) := by decide +kernel
theorem dX11_faint_38 : decode cX11_faint 38 = .ok (.aload_n 2, 1) := by decide +kernel
theorem dX11_faint_39 : decode cX11_faint 39 = .ok (.getfield 301, 3) := by decide +kernel
theorem dX11_faint_42 : decode cX11_faint 42 = .ok (.iload 4, 2) := by decide +kernel
theorem dX11_faint_44 : decode cX11_faint 44 = .ok (.laload, 1) := by decide +kernel
theorem dX11_faint_45 : decode cX11_faint 45 = .ok (.iload_n 1, 1) := by decide +kernel
theorem dX11_faint_46 : decode cX11_faint 46 = .ok (.invokevirtual 305, 3) := by decide +kernel
theorem dX11_faint_49 : decode cX11_faint 49 = .ok (.ifCond .eq 10, 3) := by decide +kernel
theorem dX11_faint_52 : decode cX11_faint 52 = .ok (.iload_n 3, 1) := by decide +kernel
theorem dX11_faint_53 : decode cX11_faint 53 = .ok (.iconst 1, 1) := by decide +kernel
theorem dX11_faint_54 : decode cX11_faint 54 = .ok (.iload 4, 2) := by decide +kernel
theorem dX11_faint_56 : decode cX11_faint 56 = .ok (.ishl, 1) := by decide +kernel
theorem dX11_faint_57 : decode cX11_faint 57 = .ok (.ior, 1) := by decide +kernel
theorem dX11_faint_58 : decode cX11_faint 58 = .ok (.istore_n 3, 1) := by decide +kernel
theorem dX11_faint_59 : decode cX11_faint 59 = .ok (.iinc 4 1, 3) := by decide +kernel
theorem dX11_faint_62 : decode cX11_faint 62 = .ok (.goto (-34), 3) := by decide +kernel
theorem dX11_faint_65 : decode cX11_faint 65 = .ok (.iload_n 3, 1) := by decide +kernel
theorem dX11_faint_66 : decode cX11_faint 66 = .ok (.ifCond .le 13, 3) := by decide +kernel
theorem dX11_faint_69 : decode cX11_faint 69 = .ok (.aload_n 0, 1) := by decide +kernel
theorem dX11_faint_70 : decode cX11_faint 70 = .ok (.aload_n 0, 1) := by decide +kernel
theorem dX11_faint_71 : decode cX11_faint 71 = .ok (.iload_n 3, 1) := by decide +kernel
theorem dX11_faint_72 : decode cX11_faint 72 = .ok (.iload_n 1, 1) := by decide +kernel
theorem dX11_faint_73 : decode cX11_faint 73 = .ok (.invokevirtual 309, 3) := by decide +kernel
theorem dX11_faint_76 : decode cX11_faint 76 = .ok (.putfield 94, 3) := by decide +kernel
theorem dX11_faint_79 : decode cX11_faint 79 = .ok (.iload_n 3, 1) := by decide +kernel
theorem dX11_faint_80 : decode cX11_faint 80 = .ok (.ireturn, 1) := by decide +kernel
theorem dX11_look_0 : decode cX11_look 0 = .ok (.aload_n 0, 1) := by decide +kernel
theorem dX11_look_1 : decode cX11_look 1 = .ok (.getfield 94, 3) := by decide +kernel
theorem dX11_look_4 : decode cX11_look 4 = .ok (.ireturn, 1) := by decide +kernel
set_option maxRecDepth 20000 in
theorem ggX11_ship_X11_takeTape : GoodIn wsX11_ship wsX11_takeTape := goodIn_r _ [7, 8, 16, 17, 18, 19, 20, 21, 22, 23, 24, 25, 26, 27, 28, 29, 30, 31, 32, 33, 34] rfl rfl
set_option maxRecDepth 20000 in
theorem gX11_ship_X11_takeTape : GoodIn wsX11_ship (wsV RX11 112 RX11 yX11_takeTape wsX11_takeTape) := goodIn_app (goodIn_r _ [3, 4, 5, 6] rfl rfl) ggX11_ship_X11_takeTape
set_option maxRecDepth 20000 in
theorem ggX11_ship_X11_commonDivisor : GoodIn wsX11_ship wsX11_commonDivisor := goodIn_r _ [11, 12, 13, 14, 15] rfl rfl
set_option maxRecDepth 20000 in
theorem gX11_ship_X11_commonDivisor : GoodIn wsX11_ship (va_wsS RX11 312 yX11_commonDivisor wsX11_commonDivisor) := goodIn_app (goodIn_r _ [9, 10, 6] rfl rfl) ggX11_ship_X11_commonDivisor
theorem dX11_ship_0 : decode cX11_ship 0 = .ok (.aload_n 0, 1) := by decide +kernel
theorem dX11_ship_1 : decode cX11_ship 1 = .ok (.invokevirtual 112, 3) := by decide +kernel
theorem dX11_ship_4 : decode cX11_ship 4 = .ok (.istore_n 1, 1) := by decide +kernel
theorem dX11_ship_5 : decode cX11_ship 5 = .ok (.iload_n 1, 1) := by decide +kernel
theorem dX11_ship_6 : decode cX11_ship 6 = .ok (.iconst 1, 1) := by decide +kernel
theorem dX11_ship_7 : decode cX11_ship 7 = .ok (.if_icmp .lt 9, 3) := by decide +kernel
theorem dX11_ship_10 : decode cX11_ship 10 = .ok (.iload_n 1, 1) := by decide +kernel
theorem dX11_ship_11 : decode cX11_ship 11 = .ok (.bipush 6, 2) := by decide +kernel
theorem dX11_ship_13 : decode cX11_ship 13 = .ok (.if_icmp .le 5, 3) := by decide +kernel
theorem dX11_ship_16 : decode cX11_ship 16 = .ok (.iconst (-1), 1) := by decide +kernel
theorem dX11_ship_17 : decode cX11_ship 17 = .ok (.ireturn, 1) := by decide +kernel
theorem dX11_ship_18 : decode cX11_ship 18 = .ok (.lconst 1, 1) := by decide +kernel
theorem dX11_ship_19 : decode cX11_ship 19 = .ok (.lstore_n 2, 1) := by decide +kernel
theorem dX11_ship_20 : decode cX11_ship 20 = .ok (.iconst 0, 1) := by decide +kernel
theorem dX11_ship_21 : decode cX11_ship 21 = .ok (.istore 4, 2) := by decide +kernel
theorem dX11_ship_23 : decode cX11_ship 23 = .ok (.iload 4, 2) := by decide +kernel
theorem dX11_ship_25 : decode cX11_ship 25 = .ok (.iload_n 1, 1) := by decide +kernel
theorem dX11_ship_26 : decode cX11_ship 26 = .ok (.if_icmp .ge 51, 3) := by decide +kernel
theorem dX11_ship_29 : decode cX11_ship 29 = .ok (.aload_n 0, 1) := by decide +kernel
theorem dX11_ship_30 : decode cX11_ship 30 = .ok (.getfield 9, 3) := by decide +kernel
theorem dX11_ship_33 : decode cX11_ship 33 = .ok (.iload 4, 2) := by decide +kernel
theorem dX11_ship_35 : decode cX11_ship 35 = .ok (.iaload, 1) := by decide +kernel
theorem dX11_ship_36 : decode cX11_ship 36 = .ok (.istore 5, 2) := by decide +kernel
theorem dX11_ship_38 : decode cX11_ship 38 = .ok (.iload 5, 2) := by decide +kernel
theorem dX11_ship_40 : decode cX11_ship 40 = .ok (.iconst 1, 1) := by decide +kernel
theorem dX11_ship_41 : decode cX11_ship 41 = .ok (.if_icmp .lt 10, 3) := by decide +kernel
theorem dX11_ship_44 : decode cX11_ship 44 = .ok (.iload 5, 2) := by decide +kernel
theorem dX11_ship_46 : decode cX11_ship 46 = .ok (.bipush 60, 2) := by decide +kernel
theorem dX11_ship_48 : decode cX11_ship 48 = .ok (.if_icmp .le 5, 3) := by decide +kernel
theorem dX11_ship_51 : decode cX11_ship 51 = .ok (.iconst (-1), 1) := by decide +kernel
theorem dX11_ship_52 : decode cX11_ship 52 = .ok (.ireturn, 1) := by decide +kernel
theorem dX11_ship_53 : decode cX11_ship 53 = .ok (.lload_n 2, 1) := by decide +kernel
theorem dX11_ship_54 : decode cX11_ship 54 = .ok (.iload 5, 2) := by decide +kernel
theorem dX11_ship_56 : decode cX11_ship 56 = .ok (.lload_n 2, 1) := by decide +kernel
theorem dX11_ship_57 : decode cX11_ship 57 = .ok (.iload 5, 2) := by decide +kernel
theorem dX11_ship_59 : decode cX11_ship 59 = .ok (.i2l, 1) := by decide +kernel
theorem dX11_ship_60 : decode cX11_ship 60 = .ok (.lrem, 1) := by decide +kernel
theorem dX11_ship_61 : decode cX11_ship 61 = .ok (.l2i, 1) := by decide +kernel
theorem dX11_ship_62 : decode cX11_ship 62 = .ok (.iload 5, 2) := by decide +kernel
theorem dX11_ship_64 : decode cX11_ship 64 = .ok (.invokestatic 312, 3) := by decide +kernel
theorem dX11_ship_67 : decode cX11_ship 67 = .ok (.idiv, 1) := by decide +kernel
theorem dX11_ship_68 : decode cX11_ship 68 = .ok (.i2l, 1) := by decide +kernel
theorem dX11_ship_69 : decode cX11_ship 69 = .ok (.lmul, 1) := by decide +kernel
theorem dX11_ship_70 : decode cX11_ship 70 = .ok (.lstore_n 2, 1) := by decide +kernel
theorem dX11_ship_71 : decode cX11_ship 71 = .ok (.iinc 4 1, 3) := by decide +kernel
theorem dX11_ship_74 : decode cX11_ship 74 = .ok (.goto (-51), 3) := by decide +kernel
theorem dX11_ship_77 : decode cX11_ship 77 = .ok (.lload_n 2, 1) := by decide +kernel
theorem dX11_ship_78 : decode cX11_ship 78 = .ok (.ldc2_w 315, 3) := by decide +kernel
theorem dX11_ship_81 : decode cX11_ship 81 = .ok (.lcmp, 1) := by decide +kernel
theorem dX11_ship_82 : decode cX11_ship 82 = .ok (.ifCond .le 7, 3) := by decide +kernel
theorem dX11_ship_85 : decode cX11_ship 85 = .ok (.iconst (-1), 1) := by decide +kernel
theorem dX11_ship_86 : decode cX11_ship 86 = .ok (.goto 5, 3) := by decide +kernel
theorem dX11_ship_89 : decode cX11_ship 89 = .ok (.lload_n 2, 1) := by decide +kernel
theorem dX11_ship_90 : decode cX11_ship 90 = .ok (.l2i, 1) := by decide +kernel
theorem dX11_ship_91 : decode cX11_ship 91 = .ok (.ireturn, 1) := by decide +kernel
theorem dX11_part_0 : decode cX11_part 0 = .ok (.aload_n 0, 1) := by decide +kernel
theorem dX11_part_1 : decode cX11_part 1 = .ok (.getfield 23, 3) := by decide +kernel
theorem dX11_part_4 : decode cX11_part 4 = .ok (.getfield 146, 3) := by decide +kernel
theorem dX11_part_7 : decode cX11_part 7 = .ok (.getfield 168, 3) := by decide +kernel
theorem dX11_part_10 : decode cX11_part 10 = .ok (.invokestatic 216, 3) := by decide +kernel
theorem dX11_part_13 : decode cX11_part 13 = .ok (.istore_n 3, 1) := by decide +kernel
theorem dX11_part_14 : decode cX11_part 14 = .ok (.aload_n 0, 1) := by decide +kernel
theorem dX11_part_15 : decode cX11_part 15 = .ok (.getfield 23, 3) := by decide +kernel
theorem dX11_part_18 : decode cX11_part 18 = .ok (.getfield 143, 3) := by decide +kernel
theorem dX11_part_21 : decode cX11_part 21 = .ok (.iload_n 1, 1) := by decide +kernel
theorem dX11_part_22 : decode cX11_part 22 = .ok (.invokevirtual 149, 3) := by decide +kernel
theorem dX11_part_25 : decode cX11_part 25 = .ok (.ifCond .eq 16, 3) := by decide +kernel
theorem dX11_part_28 : decode cX11_part 28 = .ok (.iload_n 2, 1) := by decide +kernel
theorem dX11_part_29 : decode cX11_part 29 = .ok (.ifCond .lt 12, 3) := by decide +kernel
theorem dX11_part_32 : decode cX11_part 32 = .ok (.iload_n 2, 1) := by decide +kernel
theorem dX11_part_33 : decode cX11_part 33 = .ok (.iconst 1, 1) := by decide +kernel
theorem dX11_part_34 : decode cX11_part 34 = .ok (.if_icmp .gt 7, 3) := by decide +kernel
theorem dX11_part_37 : decode cX11_part 37 = .ok (.iload_n 3, 1) := by decide +kernel
theorem dX11_part_38 : decode cX11_part 38 = .ok (.ifCond .gt 11, 3) := by decide +kernel
theorem dX11_part_41 : decode cX11_part 41 = .ok (.new 153, 3) := by decide +kernel
theorem dX11_part_44 : decode cX11_part 44 = .ok (.dup, 1) := by decide +kernel
theorem dX11_part_45 : decode cX11_part 45 = .ok (.invokespecial 155, 3) := by decide +kernel
theorem dX11_part_48 : decode cX11_part 48 = .ok (.athrow, 1) := by decide +kernel
theorem dX11_part_49 : decode cX11_part 49 = .ok (.aload_n 0, 1) := by decide +kernel
theorem dX11_part_50 : decode cX11_part 50 = .ok (.getfield 23, 3) := by decide +kernel
theorem dX11_part_53 : decode cX11_part 53 = .ok (.getfield 146, 3) := by decide +kernel
theorem dX11_part_56 : decode cX11_part 56 = .ok (.getfield 168, 3) := by decide +kernel
theorem dX11_part_59 : decode cX11_part 59 = .ok (.iload_n 1, 1) := by decide +kernel
theorem dX11_part_60 : decode cX11_part 60 = .ok (.iaload, 1) := by decide +kernel
theorem dX11_part_61 : decode cX11_part 61 = .ok (.istore 4, 2) := by decide +kernel
theorem dX11_part_63 : decode cX11_part 63 = .ok (.iload_n 2, 1) := by decide +kernel
theorem dX11_part_64 : decode cX11_part 64 = .ok (.ifCond .ne 8, 3) := by decide +kernel
theorem dX11_part_67 : decode cX11_part 67 = .ok (.iload 4, 2) := by decide +kernel
theorem dX11_part_69 : decode cX11_part 69 = .ok (.goto 4, 3) := by decide +kernel
theorem dX11_part_72 : decode cX11_part 72 = .ok (.iload_n 3, 1) := by decide +kernel
theorem dX11_part_73 : decode cX11_part 73 = .ok (.iload 4, 2) := by decide +kernel
theorem dX11_part_75 : decode cX11_part 75 = .ok (.iload_n 3, 1) := by decide +kernel
theorem dX11_part_76 : decode cX11_part 76 = .ok (.invokestatic 312, 3) := by decide +kernel
theorem dX11_part_79 : decode cX11_part 79 = .ok (.idiv, 1) := by decide +kernel
theorem dX11_part_80 : decode cX11_part 80 = .ok (.ireturn, 1) := by decide +kernel
set_option maxRecDepth 20000 in
theorem ggX11_line_X3_hasMachine : GoodIn wsX11_line wsX3_hasMachine := goodIn_r _ [6, 7, 270, 271, 272, 273, 274, 275, 276, 277, 278, 279, 280] rfl rfl
set_option maxRecDepth 20000 in
theorem gX11_line_X3_hasMachine_n149 : GoodIn wsX11_line (wsX3_hasMachine) := ggX11_line_X3_hasMachine
set_option maxRecDepth 20000 in
theorem ggX11_line_J4_setLength_d00df : GoodIn wsX11_line wsJ4_setLength_d00df := goodIn_r _ [12, 13, 14, 15, 16, 17, 18, 19, 20, 21, 22, 23, 24, 25, 26, 27, 28, 29, 30, 31, 32, 33, 34, 35, 36, 37, 38, 39, 40, 41, 42, 43, 44, 45, 46, 47, 48, 49, 50, 51, 52, 53, 54, 55, 56, 57, 58, 59, 60, 61, 62, 63, 64, 65, 66, 67, 68, 69, 70, 71, 72, 73, 74, 75, 76, 77, 78, 79, 80, 81, 82, 83, 84, 290, 291, 292, 293] rfl rfl
set_option maxRecDepth 20000 in
theorem gX11_line_J4_setLength_d00df : GoodIn wsX11_line (wsV RX11 317 RJ4 yJ4_setLength_d00df wsJ4_setLength_d00df) := goodIn_app (goodIn_r _ [8, 9, 10, 11] rfl rfl) ggX11_line_J4_setLength_d00df
set_option maxRecDepth 20000 in
theorem ggX11_line_X11_appendName : GoodIn wsX11_line wsX11_appendName := goodIn_r _ [89, 2, 90, 91, 88, 92, 93, 94, 95, 11, 96, 97, 98, 15, 99, 17, 100, 19, 20, 22, 23, 24, 25, 26, 27, 28, 29, 30, 31, 32, 33, 34, 35, 36, 37, 38, 39, 40, 41, 42, 43, 44, 45, 46, 47, 48, 49, 50, 51, 52, 53, 54, 55, 56, 57, 58, 59, 60, 61, 62, 63, 64, 65, 66, 67, 68, 69, 101, 102, 72, 103, 104, 105, 106, 107, 108, 109, 110, 82, 111, 112, 113, 114, 115, 116, 117, 118, 119, 120, 121, 122, 123, 124, 125, 126, 127, 128, 129, 130, 131, 132, 133, 134, 135, 136, 137, 138, 139, 140, 141, 142, 143, 144, 145, 146, 147, 148, 149, 150, 151, 152, 153, 154, 248, 249, 250, 251, 252, 253, 254, 255, 256, 257, 258, 259, 260, 261, 262, 263, 264, 265, 266, 290, 291, 292, 293] rfl rfl
set_option maxRecDepth 20000 in
theorem gX11_line_X11_appendName : GoodIn wsX11_line (wsV RX11 323 RX11 yX11_appendName wsX11_appendName) := goodIn_app (goodIn_r _ [85, 86, 87, 88] rfl rfl) ggX11_line_X11_appendName
set_option maxRecDepth 20000 in
theorem ggX11_line_J4_append_15ec4 : GoodIn wsX11_line wsJ4_append_15ec4 := goodIn_r _ [158, 159, 160, 15, 161, 17, 162, 19, 163, 164, 165, 166, 167, 20, 22, 23, 24, 25, 26, 27, 28, 29, 30, 31, 32, 33, 34, 35, 36, 37, 38, 39, 40, 41, 42, 43, 44, 45, 46, 47, 48, 49, 50, 51, 52, 53, 54, 55, 56, 57, 58, 59, 60, 61, 62, 63, 64, 65, 66, 67, 68, 69, 168, 169, 82, 170, 140, 171, 172, 173, 125, 126, 127, 174, 175, 130, 176, 132, 177, 178, 135, 179, 137, 138, 139, 141, 142, 180, 181, 182, 183, 184, 185, 186, 187, 188, 189, 190, 191, 192, 193, 194, 195, 196, 197, 198, 199, 200, 201, 104, 105, 106, 107, 108, 109, 110, 111, 112, 113, 114, 115, 116, 117, 72, 118, 119, 120, 121, 122, 123, 124, 128, 129, 131, 133, 134, 136, 202, 203, 204, 205, 206, 207, 290, 291, 292, 293] rfl rfl
set_option maxRecDepth 20000 in
theorem gX11_line_J4_append_15ec4 : GoodIn wsX11_line (wsV RX11 329 RJ4 yJ4_append_15ec4 wsJ4_append_15ec4) := goodIn_app (goodIn_r _ [155, 156, 157, 11] rfl rfl) ggX11_line_J4_append_15ec4
set_option maxRecDepth 20000 in
theorem ggX11_line_J4_append_bf812 : GoodIn wsX11_line wsJ4_append_bf812 := goodIn_r _ [211, 212, 213, 15, 214, 17, 215, 19, 20, 216, 217, 218, 219, 22, 23, 24, 25, 26, 27, 28, 29, 30, 31, 32, 33, 34, 35, 36, 37, 38, 39, 40, 41, 42, 43, 44, 45, 46, 47, 48, 49, 50, 51, 52, 53, 54, 55, 56, 57, 58, 59, 60, 61, 62, 63, 64, 65, 66, 67, 68, 69, 220, 221, 222, 223, 224, 225, 226, 82, 227, 140, 171, 172, 173, 125, 126, 127, 174, 175, 130, 176, 132, 177, 178, 135, 179, 228, 229, 230, 231, 232, 137, 138, 139, 141, 142, 290, 291, 292, 293] rfl rfl
set_option maxRecDepth 20000 in
theorem gX11_line_J4_append_bf812 : GoodIn wsX11_line (wsV RX11 333 RJ4 yJ4_append_bf812 wsJ4_append_bf812) := goodIn_app (goodIn_r _ [208, 209, 210, 11] rfl rfl) ggX11_line_J4_append_bf812
set_option maxRecDepth 20000 in
theorem ggX11_line_X9_isHeld : GoodIn wsX11_line wsX9_isHeld := goodIn_r _ [236, 237, 238, 88, 239, 281, 282, 283, 284, 285, 286, 287, 288, 289] rfl rfl
set_option maxRecDepth 20000 in
theorem gX11_line_X9_isHeld_n162 : GoodIn wsX11_line (wsX9_isHeld) := ggX11_line_X9_isHeld
set_option maxRecDepth 20000 in
theorem ggX11_line_J4_length_8abf5 : GoodIn wsX11_line wsJ4_length_8abf5 := goodIn_r _ [243, 244, 245, 15, 246, 17, 247, 19, 290, 291, 292, 293] rfl rfl
set_option maxRecDepth 20000 in
theorem gX11_line_J4_length_8abf5 : GoodIn wsX11_line (wsV RX11 340 RJ4 yJ4_length_8abf5 wsJ4_length_8abf5) := goodIn_app (goodIn_r _ [240, 241, 242, 11] rfl rfl) ggX11_line_J4_length_8abf5
theorem dX11_line_0 : decode cX11_line 0 = .ok (.aload_n 0, 1) := by decide +kernel
theorem dX11_line_1 : decode cX11_line 1 = .ok (.getfield 23, 3) := by decide +kernel
theorem dX11_line_4 : decode cX11_line 4 = .ok (.getfield 143, 3) := by decide +kernel
theorem dX11_line_7 : decode cX11_line 7 = .ok (.iload_n 1, 1) := by decide +kernel
theorem dX11_line_8 : decode cX11_line 8 = .ok (.invokevirtual 149, 3) := by decide +kernel
theorem dX11_line_11 : decode cX11_line 11 = .ok (.ifCond .ne 5, 3) := by decide +kernel
theorem dX11_line_14 : decode cX11_line 14 = .ok (.iconst (-1), 1) := by decide +kernel
theorem dX11_line_15 : decode cX11_line 15 = .ok (.ireturn, 1) := by decide +kernel
theorem dX11_line_16 : decode cX11_line 16 = .ok (.aload_n 0, 1) := by decide +kernel
theorem dX11_line_17 : decode cX11_line 17 = .ok (.getfield 101, 3) := by decide +kernel
theorem dX11_line_20 : decode cX11_line 20 = .ok (.iconst 0, 1) := by decide +kernel
theorem dX11_line_21 : decode cX11_line 21 = .ok (.invokevirtual 317, 3) := by decide +kernel
theorem dX11_line_24 : decode cX11_line 24 = .ok (.aload_n 0, 1) := by decide +kernel
theorem dX11_line_25 : decode cX11_line 25 = .ok (.aload_n 0, 1) := by decide +kernel
theorem dX11_line_26 : decode cX11_line 26 = .ok (.getfield 23, 3) := by decide +kernel
theorem dX11_line_29 : decode cX11_line 29 = .ok (.getfield 143, 3) := by decide +kernel
theorem dX11_line_32 : decode cX11_line 32 = .ok (.getfield 320, 3) := by decide +kernel
theorem dX11_line_35 : decode cX11_line 35 = .ok (.iload_n 1, 1) := by decide +kernel
theorem dX11_line_36 : decode cX11_line 36 = .ok (.laload, 1) := by decide +kernel
theorem dX11_line_37 : decode cX11_line 37 = .ok (.invokevirtual 323, 3) := by decide +kernel
theorem dX11_line_40 : decode cX11_line 40 = .ok (.aload_n 0, 1) := by decide +kernel
theorem dX11_line_41 : decode cX11_line 41 = .ok (.getfield 101, 3) := by decide +kernel
theorem dX11_line_44 : decode cX11_line 44 = .ok (.ldc_w 327, 3) := by decide +kernel
theorem dX11_line_47 : decode cX11_line 47 = .ok (.invokevirtual 329, 3) := by decide +kernel
theorem dX11_line_50 : decode cX11_line 50 = .ok (.aload_n 0, 1) := by decide +kernel
theorem dX11_line_51 : decode cX11_line 51 = .ok (.getfield 23, 3) := by decide +kernel
theorem dX11_line_54 : decode cX11_line 54 = .ok (.getfield 146, 3) := by decide +kernel
theorem dX11_line_57 : decode cX11_line 57 = .ok (.getfield 165, 3) := by decide +kernel
theorem dX11_line_60 : decode cX11_line 60 = .ok (.iload_n 1, 1) := by decide +kernel
theorem dX11_line_61 : decode cX11_line 61 = .ok (.iaload, 1) := by decide +kernel
theorem dX11_line_62 : decode cX11_line 62 = .ok (.invokevirtual 333, 3) := by decide +kernel
theorem dX11_line_65 : decode cX11_line 65 = .ok (.pop, 1) := by decide +kernel
theorem dX11_line_66 : decode cX11_line 66 = .ok (.aload_n 0, 1) := by decide +kernel
theorem dX11_line_67 : decode cX11_line 67 = .ok (.getfield 101, 3) := by decide +kernel
theorem dX11_line_70 : decode cX11_line 70 = .ok (.ldc_w 336, 3) := by decide +kernel
theorem dX11_line_73 : decode cX11_line 73 = .ok (.invokevirtual 329, 3) := by decide +kernel
theorem dX11_line_76 : decode cX11_line 76 = .ok (.aload_n 0, 1) := by decide +kernel
theorem dX11_line_77 : decode cX11_line 77 = .ok (.getfield 23, 3) := by decide +kernel
theorem dX11_line_80 : decode cX11_line 80 = .ok (.getfield 146, 3) := by decide +kernel
theorem dX11_line_83 : decode cX11_line 83 = .ok (.getfield 156, 3) := by decide +kernel
theorem dX11_line_86 : decode cX11_line 86 = .ok (.iload_n 1, 1) := by decide +kernel
theorem dX11_line_87 : decode cX11_line 87 = .ok (.iaload, 1) := by decide +kernel
theorem dX11_line_88 : decode cX11_line 88 = .ok (.invokevirtual 333, 3) := by decide +kernel
theorem dX11_line_91 : decode cX11_line 91 = .ok (.pop, 1) := by decide +kernel
theorem dX11_line_92 : decode cX11_line 92 = .ok (.aload_n 0, 1) := by decide +kernel
theorem dX11_line_93 : decode cX11_line 93 = .ok (.getfield 23, 3) := by decide +kernel
theorem dX11_line_96 : decode cX11_line 96 = .ok (.getfield 146, 3) := by decide +kernel
theorem dX11_line_99 : decode cX11_line 99 = .ok (.iload_n 1, 1) := by decide +kernel
theorem dX11_line_100 : decode cX11_line 100 = .ok (.invokevirtual 162, 3) := by decide +kernel
theorem dX11_line_103 : decode cX11_line 103 = .ok (.ifCond .eq 14, 3) := by decide +kernel
theorem dX11_line_106 : decode cX11_line 106 = .ok (.aload_n 0, 1) := by decide +kernel
theorem dX11_line_107 : decode cX11_line 107 = .ok (.getfield 101, 3) := by decide +kernel
theorem dX11_line_110 : decode cX11_line 110 = .ok (.ldc_w 338, 3) := by decide +kernel
theorem dX11_line_113 : decode cX11_line 113 = .ok (.invokevirtual 329, 3) := by decide +kernel
theorem dX11_line_116 : decode cX11_line 116 = .ok (.pop, 1) := by decide +kernel
theorem dX11_line_117 : decode cX11_line 117 = .ok (.aload_n 0, 1) := by decide +kernel
theorem dX11_line_118 : decode cX11_line 118 = .ok (.getfield 101, 3) := by decide +kernel
theorem dX11_line_121 : decode cX11_line 121 = .ok (.invokevirtual 340, 3) := by decide +kernel
theorem dX11_line_124 : decode cX11_line 124 = .ok (.ireturn, 1) := by decide +kernel
set_option maxRecDepth 20000 in
theorem ggX11_byteAt_J4_length_8abf5 : GoodIn wsX11_byteAt wsJ4_length_8abf5 := goodIn_r _ [6, 7, 8, 9, 10, 11, 12, 13, 66, 67, 68, 69] rfl rfl
set_option maxRecDepth 20000 in
theorem gX11_byteAt_J4_length_8abf5 : GoodIn wsX11_byteAt (wsV RX11 340 RJ4 yJ4_length_8abf5 wsJ4_length_8abf5) := goodIn_app (goodIn_r _ [2, 3, 4, 5] rfl rfl) ggX11_byteAt_J4_length_8abf5
set_option maxRecDepth 20000 in
theorem ggX11_byteAt_J4_charAt_5068e : GoodIn wsX11_byteAt wsJ4_charAt_5068e := goodIn_r _ [17, 18, 19, 9, 20, 11, 21, 22, 23, 13, 24, 25, 26, 27, 28, 29, 30, 31, 32, 33, 34, 35, 36, 37, 38, 39, 40, 41, 42, 43, 44, 45, 46, 66, 67, 68, 69] rfl rfl
set_option maxRecDepth 20000 in
theorem gX11_byteAt_J4_charAt_5068e : GoodIn wsX11_byteAt (wsV RX11 343 RJ4 yJ4_charAt_5068e wsJ4_charAt_5068e) := goodIn_app (goodIn_r _ [14, 15, 16, 5] rfl rfl) ggX11_byteAt_J4_charAt_5068e
theorem dX11_byteAt_0 : decode cX11_byteAt 0 = .ok (.iload_n 1, 1) := by decide +kernel
theorem dX11_byteAt_1 : decode cX11_byteAt 1 = .ok (.ifCond .lt 25, 3) := by decide +kernel
theorem dX11_byteAt_4 : decode cX11_byteAt 4 = .ok (.iload_n 1, 1) := by decide +kernel
theorem dX11_byteAt_5 : decode cX11_byteAt 5 = .ok (.aload_n 0, 1) := by decide +kernel
theorem dX11_byteAt_6 : decode cX11_byteAt 6 = .ok (.getfield 101, 3) := by decide +kernel
theorem dX11_byteAt_9 : decode cX11_byteAt 9 = .ok (.invokevirtual 340, 3) := by decide +kernel
theorem dX11_byteAt_12 : decode cX11_byteAt 12 = .ok (.if_icmp .ge 14, 3) := by decide +kernel
theorem dX11_byteAt_15 : decode cX11_byteAt 15 = .ok (.aload_n 0, 1) := by decide +kernel
theorem dX11_byteAt_16 : decode cX11_byteAt 16 = .ok (.getfield 101, 3) := by decide +kernel
theorem dX11_byteAt_19 : decode cX11_byteAt 19 = .ok (.iload_n 1, 1) := by decide +kernel
theorem dX11_byteAt_20 : decode cX11_byteAt 20 = .ok (.invokevirtual 343, 3) := by decide +kernel
theorem dX11_byteAt_23 : decode cX11_byteAt 23 = .ok (.goto 4, 3) := by decide +kernel
theorem dX11_byteAt_26 : decode cX11_byteAt 26 = .ok (.iconst (-1), 1) := by decide +kernel
theorem dX11_byteAt_27 : decode cX11_byteAt 27 = .ok (.ireturn, 1) := by decide +kernel
set_option maxRecDepth 20000 in
theorem ggX11_drawn_X11_isDays : GoodIn wsX11_drawn wsX11_isDays := goodIn_r _ [11] rfl rfl
set_option maxRecDepth 20000 in
theorem gX11_drawn_X11_isDays : GoodIn wsX11_drawn (va_wsS RX11 230 yX11_isDays wsX11_isDays) := goodIn_app (goodIn_r _ [8, 9, 10] rfl rfl) ggX11_drawn_X11_isDays
set_option maxRecDepth 20000 in
theorem ggX11_drawn_X9_daysLeft : GoodIn wsX11_drawn wsX9_daysLeft := goodIn_r _ [15, 16, 146, 147, 148, 149, 150, 151, 152, 153, 154] rfl rfl
set_option maxRecDepth 20000 in
theorem gX11_drawn_X9_daysLeft_n233 : GoodIn wsX11_drawn (wsX9_daysLeft) := ggX11_drawn_X9_daysLeft
set_option maxRecDepth 20000 in
theorem ggX11_drawn_X2_keep : GoodIn wsX11_drawn wsX2_keep := goodIn_r _ [20, 21, 22, 23, 24, 13, 25, 26, 16, 27, 28, 29, 30, 31, 32, 33, 34, 35, 36, 37, 38, 155, 156, 157, 146, 147, 148, 149, 150, 151, 152, 153, 154] rfl rfl
set_option maxRecDepth 20000 in
theorem gX11_drawn_X2_keep_n241 : GoodIn wsX11_drawn (wsX2_keep) := ggX11_drawn_X2_keep
set_option maxRecDepth 20000 in
theorem ggX11_drawn_X9_drawDays : GoodIn wsX11_drawn wsX9_drawDays := goodIn_r _ [41, 16, 42, 43, 44, 13, 45, 46, 47, 48, 49, 50, 51, 52, 53, 54, 55, 29, 56, 10, 57, 58, 59, 60, 61, 62, 63, 64, 65, 31, 66, 67, 68, 69, 70, 71, 72, 73, 38, 74, 12, 14, 15, 75, 76, 77, 78, 79, 80, 81, 82, 83, 27, 28, 84, 85, 86, 87, 88, 89, 90, 91, 92, 93, 94, 95, 96, 97, 98, 99, 100, 101, 102, 103, 104, 105, 106, 3, 4, 5, 107, 108, 109, 110, 111, 112, 113, 114, 36, 37, 115, 116, 117, 118, 30, 119, 120, 121, 122, 146, 147, 148, 149, 150, 151, 152, 153, 154, 158, 159, 160, 161, 162, 163, 164, 165, 166, 167, 168, 145] rfl rfl
set_option maxRecDepth 20000 in
theorem gX11_drawn_X9_drawDays_n350 : GoodIn wsX11_drawn (wsX9_drawDays) := ggX11_drawn_X9_drawDays
theorem dX11_drawn_0 : decode cX11_drawn 0 = .ok (.iload_n 1, 1) := by decide +kernel
theorem dX11_drawn_1 : decode cX11_drawn 1 = .ok (.invokestatic 230, 3) := by decide +kernel
theorem dX11_drawn_4 : decode cX11_drawn 4 = .ok (.ifCond .ne 5, 3) := by decide +kernel
theorem dX11_drawn_7 : decode cX11_drawn 7 = .ok (.iconst (-1), 1) := by decide +kernel
theorem dX11_drawn_8 : decode cX11_drawn 8 = .ok (.ireturn, 1) := by decide +kernel
theorem dX11_drawn_9 : decode cX11_drawn 9 = .ok (.iload_n 1, 1) := by decide +kernel
theorem dX11_drawn_10 : decode cX11_drawn 10 = .ok (.aload_n 0, 1) := by decide +kernel
theorem dX11_drawn_11 : decode cX11_drawn 11 = .ok (.getfield 23, 3) := by decide +kernel
theorem dX11_drawn_14 : decode cX11_drawn 14 = .ok (.getfield 146, 3) := by decide +kernel
theorem dX11_drawn_17 : decode cX11_drawn 17 = .ok (.invokevirtual 233, 3) := by decide +kernel
theorem dX11_drawn_20 : decode cX11_drawn 20 = .ok (.invokestatic 236, 3) := by decide +kernel
theorem dX11_drawn_23 : decode cX11_drawn 23 = .ok (.istore_n 3, 1) := by decide +kernel
theorem dX11_drawn_24 : decode cX11_drawn 24 = .ok (.iload_n 3, 1) := by decide +kernel
theorem dX11_drawn_25 : decode cX11_drawn 25 = .ok (.ifCond .le 47, 3) := by decide +kernel
theorem dX11_drawn_28 : decode cX11_drawn 28 = .ok (.aload_n 0, 1) := by decide +kernel
theorem dX11_drawn_29 : decode cX11_drawn 29 = .ok (.getfield 38, 3) := by decide +kernel
theorem dX11_drawn_32 : decode cX11_drawn 32 = .ok (.aload_n 0, 1) := by decide +kernel
theorem dX11_drawn_33 : decode cX11_drawn 33 = .ok (.getfield 23, 3) := by decide +kernel
theorem dX11_drawn_36 : decode cX11_drawn 36 = .ok (.getfield 146, 3) := by decide +kernel
theorem dX11_drawn_39 : decode cX11_drawn 39 = .ok (.invokevirtual 241, 3) := by decide +kernel
theorem dX11_drawn_42 : decode cX11_drawn 42 = .ok (.aload_n 0, 1) := by decide +kernel
theorem dX11_drawn_43 : decode cX11_drawn 43 = .ok (.getfield 73, 3) := by decide +kernel
theorem dX11_drawn_46 : decode cX11_drawn 46 = .ok (.iload_n 2, 1) := by decide +kernel
theorem dX11_drawn_47 : decode cX11_drawn 47 = .ok (.putfield 347, 3) := by decide +kernel
theorem dX11_drawn_50 : decode cX11_drawn 50 = .ok (.aload_n 0, 1) := by decide +kernel
theorem dX11_drawn_51 : decode cX11_drawn 51 = .ok (.getfield 23, 3) := by decide +kernel
theorem dX11_drawn_54 : decode cX11_drawn 54 = .ok (.getfield 146, 3) := by decide +kernel
theorem dX11_drawn_57 : decode cX11_drawn 57 = .ok (.aload_n 0, 1) := by decide +kernel
theorem dX11_drawn_58 : decode cX11_drawn 58 = .ok (.getfield 23, 3) := by decide +kernel
theorem dX11_drawn_61 : decode cX11_drawn 61 = .ok (.getfield 143, 3) := by decide +kernel
theorem dX11_drawn_64 : decode cX11_drawn 64 = .ok (.aload_n 0, 1) := by decide +kernel
theorem dX11_drawn_65 : decode cX11_drawn 65 = .ok (.getfield 73, 3) := by decide +kernel
theorem dX11_drawn_68 : decode cX11_drawn 68 = .ok (.iload_n 3, 1) := by decide +kernel
theorem dX11_drawn_69 : decode cX11_drawn 69 = .ok (.invokevirtual 350, 3) := by decide +kernel
theorem dX11_drawn_72 : decode cX11_drawn 72 = .ok (.iload_n 3, 1) := by decide +kernel
theorem dX11_drawn_73 : decode cX11_drawn 73 = .ok (.ireturn, 1) := by decide +kernel
set_option maxRecDepth 20000 in
theorem ggX11_odds_X3_hasMachine : GoodIn wsX11_odds wsX3_hasMachine := goodIn_r _ [7, 8, 144, 145, 146, 147, 148, 149, 150, 151, 152, 153, 154] rfl rfl
set_option maxRecDepth 20000 in
theorem gX11_odds_X3_hasMachine_n149 : GoodIn wsX11_odds (wsX3_hasMachine) := ggX11_odds_X3_hasMachine
set_option maxRecDepth 20000 in
theorem ggX11_odds_X9_copyFrom : GoodIn wsX11_odds wsX9_copyFrom := goodIn_r _ [12, 13, 14, 15, 16, 17, 18, 19, 20, 21, 22, 23, 24, 25, 135, 136, 137, 138, 139, 140, 141, 142, 143] rfl rfl
set_option maxRecDepth 20000 in
theorem gX11_odds_X9_copyFrom_n264 : GoodIn wsX11_odds (wsX9_copyFrom) := ggX11_odds_X9_copyFrom
set_option maxRecDepth 20000 in
theorem ggX11_odds_X9_drawDays : GoodIn wsX11_odds wsX9_drawDays := goodIn_r _ [28, 13, 29, 30, 31, 10, 32, 33, 34, 35, 36, 37, 38, 39, 40, 41, 42, 16, 43, 44, 45, 46, 47, 48, 49, 50, 51, 52, 53, 18, 54, 55, 56, 57, 58, 59, 60, 61, 25, 62, 63, 64, 65, 4, 5, 6, 7, 8, 66, 67, 68, 69, 14, 15, 70, 71, 72, 73, 74, 75, 76, 77, 78, 79, 80, 81, 82, 83, 84, 85, 86, 87, 88, 89, 90, 91, 92, 93, 94, 95, 96, 97, 98, 99, 100, 101, 102, 103, 23, 24, 104, 105, 106, 107, 17, 108, 109, 110, 111, 135, 136, 137, 138, 139, 140, 141, 142, 143, 144, 145, 146, 147, 148, 149, 150, 151, 152, 153, 154, 134] rfl rfl
set_option maxRecDepth 20000 in
theorem gX11_odds_X9_drawDays_n350 : GoodIn wsX11_odds (wsX9_drawDays) := ggX11_odds_X9_drawDays
theorem dX11_odds_0 : decode cX11_odds 0 = .ok (.aload_n 0, 1) := by decide +kernel
theorem dX11_odds_1 : decode cX11_odds 1 = .ok (.getfield 23, 3) := by decide +kernel
theorem dX11_odds_4 : decode cX11_odds 4 = .ok (.getfield 143, 3) := by decide +kernel
theorem dX11_odds_7 : decode cX11_odds 7 = .ok (.iload_n 1, 1) := by decide +kernel
theorem dX11_odds_8 : decode cX11_odds 8 = .ok (.invokevirtual 149, 3) := by decide +kernel
theorem dX11_odds_11 : decode cX11_odds 11 = .ok (.ifCond .eq 14, 3) := by decide +kernel
theorem dX11_odds_14 : decode cX11_odds 14 = .ok (.iload_n 2, 1) := by decide +kernel
theorem dX11_odds_15 : decode cX11_odds 15 = .ok (.iconst 1, 1) := by decide +kernel
theorem dX11_odds_16 : decode cX11_odds 16 = .ok (.if_icmp .lt 9, 3) := by decide +kernel
theorem dX11_odds_19 : decode cX11_odds 19 = .ok (.iload_n 2, 1) := by decide +kernel
theorem dX11_odds_20 : decode cX11_odds 20 = .ok (.bipush 30, 2) := by decide +kernel
theorem dX11_odds_22 : decode cX11_odds 22 = .ok (.if_icmp .le 5, 3) := by decide +kernel
theorem dX11_odds_25 : decode cX11_odds 25 = .ok (.iconst (-1), 1) := by decide +kernel
theorem dX11_odds_26 : decode cX11_odds 26 = .ok (.ireturn, 1) := by decide +kernel
theorem dX11_odds_27 : decode cX11_odds 27 = .ok (.iconst 0, 1) := by decide +kernel
theorem dX11_odds_28 : decode cX11_odds 28 = .ok (.istore 4, 2) := by decide +kernel
theorem dX11_odds_30 : decode cX11_odds 30 = .ok (.iconst 0, 1) := by decide +kernel
theorem dX11_odds_31 : decode cX11_odds 31 = .ok (.istore 5, 2) := by decide +kernel
theorem dX11_odds_33 : decode cX11_odds 33 = .ok (.iload 5, 2) := by decide +kernel
theorem dX11_odds_35 : decode cX11_odds 35 = .ok (.iload_n 2, 1) := by decide +kernel
theorem dX11_odds_36 : decode cX11_odds 36 = .ok (.if_icmp .ge 81, 3) := by decide +kernel
theorem dX11_odds_39 : decode cX11_odds 39 = .ok (.aload_n 0, 1) := by decide +kernel
theorem dX11_odds_40 : decode cX11_odds 40 = .ok (.getfield 66, 3) := by decide +kernel
theorem dX11_odds_43 : decode cX11_odds 43 = .ok (.aload_n 0, 1) := by decide +kernel
theorem dX11_odds_44 : decode cX11_odds 44 = .ok (.getfield 23, 3) := by decide +kernel
theorem dX11_odds_47 : decode cX11_odds 47 = .ok (.getfield 146, 3) := by decide +kernel
theorem dX11_odds_50 : decode cX11_odds 50 = .ok (.invokevirtual 264, 3) := by decide +kernel
theorem dX11_odds_53 : decode cX11_odds 53 = .ok (.aload_n 0, 1) := by decide +kernel
theorem dX11_odds_54 : decode cX11_odds 54 = .ok (.getfield 73, 3) := by decide +kernel
theorem dX11_odds_57 : decode cX11_odds 57 = .ok (.iload_n 3, 1) := by decide +kernel
theorem dX11_odds_58 : decode cX11_odds 58 = .ok (.iload 5, 2) := by decide +kernel
theorem dX11_odds_60 : decode cX11_odds 60 = .ok (.iadd, 1) := by decide +kernel
theorem dX11_odds_61 : decode cX11_odds 61 = .ok (.putfield 347, 3) := by decide +kernel
theorem dX11_odds_64 : decode cX11_odds 64 = .ok (.aload_n 0, 1) := by decide +kernel
theorem dX11_odds_65 : decode cX11_odds 65 = .ok (.getfield 66, 3) := by decide +kernel
theorem dX11_odds_68 : decode cX11_odds 68 = .ok (.aload_n 0, 1) := by decide +kernel
theorem dX11_odds_69 : decode cX11_odds 69 = .ok (.getfield 23, 3) := by decide +kernel
theorem dX11_odds_72 : decode cX11_odds 72 = .ok (.getfield 143, 3) := by decide +kernel
theorem dX11_odds_75 : decode cX11_odds 75 = .ok (.aload_n 0, 1) := by decide +kernel
theorem dX11_odds_76 : decode cX11_odds 76 = .ok (.getfield 73, 3) := by decide +kernel
theorem dX11_odds_79 : decode cX11_odds 79 = .ok (.bipush 10, 2) := by decide +kernel
theorem dX11_odds_81 : decode cX11_odds 81 = .ok (.invokevirtual 350, 3) := by decide +kernel
theorem dX11_odds_84 : decode cX11_odds 84 = .ok (.aload_n 0, 1) := by decide +kernel
theorem dX11_odds_85 : decode cX11_odds 85 = .ok (.getfield 66, 3) := by decide +kernel
theorem dX11_odds_88 : decode cX11_odds 88 = .ok (.getfield 165, 3) := by decide +kernel
theorem dX11_odds_91 : decode cX11_odds 91 = .ok (.iload_n 1, 1) := by decide +kernel
theorem dX11_odds_92 : decode cX11_odds 92 = .ok (.iaload, 1) := by decide +kernel
theorem dX11_odds_93 : decode cX11_odds 93 = .ok (.aload_n 0, 1) := by decide +kernel
theorem dX11_odds_94 : decode cX11_odds 94 = .ok (.getfield 23, 3) := by decide +kernel
theorem dX11_odds_97 : decode cX11_odds 97 = .ok (.getfield 146, 3) := by decide +kernel
theorem dX11_odds_100 : decode cX11_odds 100 = .ok (.getfield 165, 3) := by decide +kernel
theorem dX11_odds_103 : decode cX11_odds 103 = .ok (.iload_n 1, 1) := by decide +kernel
theorem dX11_odds_104 : decode cX11_odds 104 = .ok (.iaload, 1) := by decide +kernel
theorem dX11_odds_105 : decode cX11_odds 105 = .ok (.if_icmp .le 6, 3) := by decide +kernel
theorem dX11_odds_108 : decode cX11_odds 108 = .ok (.iinc 4 1, 3) := by decide +kernel
theorem dX11_odds_111 : decode cX11_odds 111 = .ok (.iinc 5 1, 3) := by decide +kernel
theorem dX11_odds_114 : decode cX11_odds 114 = .ok (.goto (-81), 3) := by decide +kernel
theorem dX11_odds_117 : decode cX11_odds 117 = .ok (.iload 4, 2) := by decide +kernel
theorem dX11_odds_119 : decode cX11_odds 119 = .ok (.ireturn, 1) := by decide +kernel
set_option maxRecDepth 20000 in
theorem ggX11_book_X11_takeTape : GoodIn wsX11_book wsX11_takeTape := goodIn_r _ [14, 15, 272, 273, 274, 275, 276, 277, 278, 279, 280, 281, 282, 283, 284, 285, 286, 287, 288, 289, 290] rfl rfl
set_option maxRecDepth 20000 in
theorem gX11_book_X11_takeTape : GoodIn wsX11_book (wsV RX11 112 RX11 yX11_takeTape wsX11_takeTape) := goodIn_app (goodIn_r _ [10, 11, 12, 13] rfl rfl) ggX11_book_X11_takeTape
set_option maxRecDepth 20000 in
theorem ggX11_book_X4_open : GoodIn wsX11_book wsX4_open := goodIn_r _ [19, 20, 21, 22, 23, 24, 25, 26, 27, 28, 29, 30, 31, 32, 17, 33, 34, 35, 36, 37, 38, 39, 40, 41, 42, 43, 44, 45, 46, 47, 48, 49, 50, 51, 52, 53, 54, 55, 56, 57, 58, 59, 60, 61, 62, 63, 64, 65, 66, 67, 68, 69, 70, 71, 72, 73, 74, 75, 76, 77, 78, 79, 80, 81, 82, 83, 84, 85, 86, 87, 88, 89, 90, 91, 92, 93, 94, 95, 96, 97, 98, 99, 100, 294, 295, 296, 297, 298, 299, 300, 301, 302, 303, 304] rfl rfl
set_option maxRecDepth 20000 in
theorem gX11_book_X4_open_n116 : GoodIn wsX11_book (wsX4_open) := ggX11_book_X4_open
set_option maxRecDepth 20000 in
theorem ggX11_book_X0_read : GoodIn wsX11_book wsX0_read := goodIn_r _ [104, 105, 106, 17, 107, 108, 37, 109, 110, 111, 102, 112, 113, 114, 115, 116, 117, 118, 119, 35, 120, 121, 122, 34, 43, 123, 124, 125, 126, 127, 28, 36, 29, 128, 13, 129, 31, 32, 33, 25, 26, 21, 22, 23, 24, 27, 20, 38, 39, 40, 41, 42, 44, 45, 46, 47, 48, 49, 50, 51, 52, 53, 54, 55, 56, 57, 58, 59, 60, 61, 62, 63, 64, 65, 66, 67, 68, 69, 70, 71, 72, 73, 74, 75, 76, 77, 78, 79, 80, 81, 82, 83, 84, 85, 86, 87, 88, 89, 90, 91, 92, 93, 94, 95, 96, 97, 98, 99, 100, 130, 131, 132, 133, 134, 135, 136, 137, 138, 139, 140, 141, 142, 143, 144, 145, 146, 147, 148, 149, 150, 151, 152, 153, 154, 155, 156, 157, 158, 159, 160, 161, 162, 163, 164, 30, 165, 166, 167, 168, 305, 306, 307, 308, 309, 310, 294, 295, 296, 297, 298, 299, 300, 301, 302, 303, 304, 320, 321, 322, 323, 324, 325, 326, 327, 328, 329, 330] rfl rfl
set_option maxRecDepth 20000 in
theorem gX11_book_X0_read_n354 : GoodIn wsX11_book (wsX0_read) := ggX11_book_X0_read
set_option maxRecDepth 20000 in
theorem ggX11_book_X9_copyFrom : GoodIn wsX11_book wsX9_copyFrom := goodIn_r _ [172, 173, 174, 175, 176, 177, 178, 179, 180, 181, 182, 183, 184, 185, 311, 312, 313, 314, 315, 316, 317, 318, 319] rfl rfl
set_option maxRecDepth 20000 in
theorem gX11_book_X9_copyFrom_n264 : GoodIn wsX11_book (wsX9_copyFrom) := ggX11_book_X9_copyFrom
set_option maxRecDepth 20000 in
theorem ggX11_book_X0_live : GoodIn wsX11_book wsX0_live := goodIn_r _ [188, 189, 190, 105, 142, 115, 116, 191, 170, 192, 193, 178, 194, 195, 196, 197, 198, 199, 200, 201, 185, 202, 203, 204, 205, 173, 206, 207, 208, 209, 210, 211, 212, 213, 214, 174, 175, 215, 216, 217, 218, 219, 220, 221, 222, 176, 223, 13, 224, 225, 226, 227, 228, 229, 230, 231, 232, 233, 234, 235, 236, 237, 238, 239, 240, 241, 177, 242, 243, 244, 245, 246, 247, 248, 249, 183, 184, 250, 22, 23, 24, 251, 252, 253, 254, 255, 256, 257, 258, 259, 260, 261, 305, 306, 307, 308, 309, 310, 311, 312, 313, 314, 315, 316, 317, 318, 319, 320, 321, 322, 323, 324, 325, 326, 327, 328, 329, 330] rfl rfl
set_option maxRecDepth 20000 in
theorem gX11_book_X0_live_n357 : GoodIn wsX11_book (wsX0_live) := ggX11_book_X0_live
set_option maxRecDepth 20000 in
theorem ggX11_book_X11_sumOf : GoodIn wsX11_book wsX11_sumOf := goodIn_r _ [264] rfl rfl
set_option maxRecDepth 20000 in
theorem gX11_book_X11_sumOf : GoodIn wsX11_book (va_wsS RX11 216 yX11_sumOf wsX11_sumOf) := goodIn_app (goodIn_r _ [262, 263, 13] rfl rfl) ggX11_book_X11_sumOf
set_option maxRecDepth 20000 in
theorem ggX11_book_X2_keep : GoodIn wsX11_book wsX2_keep := goodIn_r _ [268, 269, 270, 271, 169, 170, 171, 172, 173, 174, 175, 176, 177, 178, 179, 180, 181, 182, 183, 184, 185, 331, 332, 333, 311, 312, 313, 314, 315, 316, 317, 318, 319] rfl rfl
set_option maxRecDepth 20000 in
theorem gX11_book_X2_keep_n241 : GoodIn wsX11_book (wsX2_keep) := ggX11_book_X2_keep
theorem dX11_book_0 : decode cX11_book 0 = .ok (.iload_n 1, 1) := by decide +kernel
theorem dX11_book_1 : decode cX11_book 1 = .ok (.ifCond .eq 12, 3) := by decide +kernel
theorem dX11_book_4 : decode cX11_book 4 = .ok (.iload_n 1, 1) := by decide +kernel
theorem dX11_book_5 : decode cX11_book 5 = .ok (.iconst 1, 1) := by decide +kernel
theorem dX11_book_6 : decode cX11_book 6 = .ok (.if_icmp .eq 7, 3) := by decide +kernel
theorem dX11_book_9 : decode cX11_book 9 = .ok (.sipush (-1000), 3) := by decide +kernel
theorem dX11_book_12 : decode cX11_book 12 = .ok (.ireturn, 1) := by decide +kernel
theorem dX11_book_13 : decode cX11_book 13 = .ok (.aload_n 0, 1) := by decide +kernel
theorem dX11_book_14 : decode cX11_book 14 = .ok (.getfield 16, 3) := by decide +kernel
theorem dX11_book_17 : decode cX11_book 17 = .ok (.aload_n 0, 1) := by decide +kernel
theorem dX11_book_18 : decode cX11_book 18 = .ok (.getfield 9, 3) := by decide +kernel
theorem dX11_book_21 : decode cX11_book 21 = .ok (.aload_n 0, 1) := by decide +kernel
theorem dX11_book_22 : decode cX11_book 22 = .ok (.invokevirtual 112, 3) := by decide +kernel
theorem dX11_book_25 : decode cX11_book 25 = .ok (.sipush 400, 3) := by decide +kernel
theorem dX11_book_28 : decode cX11_book 28 = .ok (.invokevirtual 116, 3) := by decide +kernel
theorem dX11_book_31 : decode cX11_book 31 = .ok (.aload_n 0, 1) := by decide +kernel
theorem dX11_book_32 : decode cX11_book 32 = .ok (.getfield 59, 3) := by decide +kernel
theorem dX11_book_35 : decode cX11_book 35 = .ok (.aload_n 0, 1) := by decide +kernel
theorem dX11_book_36 : decode cX11_book 36 = .ok (.getfield 16, 3) := by decide +kernel
theorem dX11_book_39 : decode cX11_book 39 = .ok (.aload_n 0, 1) := by decide +kernel
theorem dX11_book_40 : decode cX11_book 40 = .ok (.getfield 23, 3) := by decide +kernel
theorem dX11_book_43 : decode cX11_book 43 = .ok (.getfield 143, 3) := by decide +kernel
theorem dX11_book_46 : decode cX11_book 46 = .ok (.invokevirtual 354, 3) := by decide +kernel
theorem dX11_book_49 : decode cX11_book 49 = .ok (.istore_n 2, 1) := by decide +kernel
theorem dX11_book_50 : decode cX11_book 50 = .ok (.aload_n 0, 1) := by decide +kernel
theorem dX11_book_51 : decode cX11_book 51 = .ok (.aload_n 0, 1) := by decide +kernel
theorem dX11_book_52 : decode cX11_book 52 = .ok (.getfield 16, 3) := by decide +kernel
theorem dX11_book_55 : decode cX11_book 55 = .ok (.getfield 124, 3) := by decide +kernel
theorem dX11_book_58 : decode cX11_book 58 = .ok (.putfield 127, 3) := by decide +kernel
theorem dX11_book_61 : decode cX11_book 61 = .ok (.iload_n 2, 1) := by decide +kernel
theorem dX11_book_62 : decode cX11_book 62 = .ok (.ifCond .ne 14, 3) := by decide +kernel
theorem dX11_book_65 : decode cX11_book 65 = .ok (.bipush (-2), 2) := by decide +kernel
theorem dX11_book_67 : decode cX11_book 67 = .ok (.aload_n 0, 1) := by decide +kernel
theorem dX11_book_68 : decode cX11_book 68 = .ok (.getfield 16, 3) := by decide +kernel
theorem dX11_book_71 : decode cX11_book 71 = .ok (.getfield 130, 3) := by decide +kernel
theorem dX11_book_74 : decode cX11_book 74 = .ok (.isub, 1) := by decide +kernel
theorem dX11_book_75 : decode cX11_book 75 = .ok (.ireturn, 1) := by decide +kernel
theorem dX11_book_76 : decode cX11_book 76 = .ok (.aload_n 0, 1) := by decide +kernel
theorem dX11_book_77 : decode cX11_book 77 = .ok (.getfield 66, 3) := by decide +kernel
theorem dX11_book_80 : decode cX11_book 80 = .ok (.aload_n 0, 1) := by decide +kernel
theorem dX11_book_81 : decode cX11_book 81 = .ok (.getfield 23, 3) := by decide +kernel
theorem dX11_book_84 : decode cX11_book 84 = .ok (.getfield 146, 3) := by decide +kernel
theorem dX11_book_87 : decode cX11_book 87 = .ok (.invokevirtual 264, 3) := by decide +kernel
theorem dX11_book_90 : decode cX11_book 90 = .ok (.aload_n 0, 1) := by decide +kernel
theorem dX11_book_91 : decode cX11_book 91 = .ok (.getfield 59, 3) := by decide +kernel
theorem dX11_book_94 : decode cX11_book 94 = .ok (.aload_n 0, 1) := by decide +kernel
theorem dX11_book_95 : decode cX11_book 95 = .ok (.getfield 23, 3) := by decide +kernel
theorem dX11_book_98 : decode cX11_book 98 = .ok (.getfield 143, 3) := by decide +kernel
theorem dX11_book_101 : decode cX11_book 101 = .ok (.aload_n 0, 1) := by decide +kernel
theorem dX11_book_102 : decode cX11_book 102 = .ok (.getfield 66, 3) := by decide +kernel
theorem dX11_book_105 : decode cX11_book 105 = .ok (.invokevirtual 357, 3) := by decide +kernel
theorem dX11_book_108 : decode cX11_book 108 = .ok (.aload_n 0, 1) := by decide +kernel
theorem dX11_book_109 : decode cX11_book 109 = .ok (.iconst 1, 1) := by decide +kernel
theorem dX11_book_110 : decode cX11_book 110 = .ok (.putfield 361, 3) := by decide +kernel
theorem dX11_book_113 : decode cX11_book 113 = .ok (.aload_n 0, 1) := by decide +kernel
theorem dX11_book_114 : decode cX11_book 114 = .ok (.getfield 91, 3) := by decide +kernel
theorem dX11_book_117 : decode cX11_book 117 = .ok (.iconst 0, 1) := by decide +kernel
theorem dX11_book_118 : decode cX11_book 118 = .ok (.aload_n 0, 1) := by decide +kernel
theorem dX11_book_119 : decode cX11_book 119 = .ok (.getfield 59, 3) := by decide +kernel
theorem dX11_book_122 : decode cX11_book 122 = .ok (.getfield 365, 3) := by decide +kernel
theorem dX11_book_125 : decode cX11_book 125 = .ok (.iastore, 1) := by decide +kernel
theorem dX11_book_126 : decode cX11_book 126 = .ok (.aload_n 0, 1) := by decide +kernel
theorem dX11_book_127 : decode cX11_book 127 = .ok (.getfield 91, 3) := by decide +kernel
theorem dX11_book_130 : decode cX11_book 130 = .ok (.iconst 1, 1) := by decide +kernel
theorem dX11_book_131 : decode cX11_book 131 = .ok (.aload_n 0, 1) := by decide +kernel
theorem dX11_book_132 : decode cX11_book 132 = .ok (.getfield 59, 3) := by decide +kernel
theorem dX11_book_135 : decode cX11_book 135 = .ok (.getfield 368, 3) := by decide +kernel
theorem dX11_book_138 : decode cX11_book 138 = .ok (.iastore, 1) := by decide +kernel
theorem dX11_book_139 : decode cX11_book 139 = .ok (.aload_n 0, 1) := by decide +kernel
theorem dX11_book_140 : decode cX11_book 140 = .ok (.getfield 91, 3) := by decide +kernel
theorem dX11_book_143 : decode cX11_book 143 = .ok (.iconst 2, 1) := by decide +kernel
theorem dX11_book_144 : decode cX11_book 144 = .ok (.aload_n 0, 1) := by decide +kernel
theorem dX11_book_145 : decode cX11_book 145 = .ok (.getfield 66, 3) := by decide +kernel
theorem dX11_book_148 : decode cX11_book 148 = .ok (.getfield 204, 3) := by decide +kernel
theorem dX11_book_151 : decode cX11_book 151 = .ok (.iastore, 1) := by decide +kernel
theorem dX11_book_152 : decode cX11_book 152 = .ok (.aload_n 0, 1) := by decide +kernel
theorem dX11_book_153 : decode cX11_book 153 = .ok (.getfield 91, 3) := by decide +kernel
theorem dX11_book_156 : decode cX11_book 156 = .ok (.iconst 3, 1) := by decide +kernel
theorem dX11_book_157 : decode cX11_book 157 = .ok (.aload_n 0, 1) := by decide +kernel
theorem dX11_book_158 : decode cX11_book 158 = .ok (.getfield 66, 3) := by decide +kernel
theorem dX11_book_161 : decode cX11_book 161 = .ok (.getfield 165, 3) := by decide +kernel
theorem dX11_book_164 : decode cX11_book 164 = .ok (.invokestatic 216, 3) := by decide +kernel
theorem dX11_book_167 : decode cX11_book 167 = .ok (.iastore, 1) := by decide +kernel
theorem dX11_book_168 : decode cX11_book 168 = .ok (.iload_n 1, 1) := by decide +kernel
theorem dX11_book_169 : decode cX11_book 169 = .ok (.iconst 1, 1) := by decide +kernel
theorem dX11_book_170 : decode cX11_book 170 = .ok (.if_icmp .ne 41, 3) := by decide +kernel
theorem dX11_book_173 : decode cX11_book 173 = .ok (.aload_n 0, 1) := by decide +kernel
theorem dX11_book_174 : decode cX11_book 174 = .ok (.getfield 59, 3) := by decide +kernel
theorem dX11_book_177 : decode cX11_book 177 = .ok (.getfield 368, 3) := by decide +kernel
theorem dX11_book_180 : decode cX11_book 180 = .ok (.ifCond .le 31, 3) := by decide +kernel
theorem dX11_book_183 : decode cX11_book 183 = .ok (.aload_n 0, 1) := by decide +kernel
theorem dX11_book_184 : decode cX11_book 184 = .ok (.getfield 38, 3) := by decide +kernel
theorem dX11_book_187 : decode cX11_book 187 = .ok (.aload_n 0, 1) := by decide +kernel
theorem dX11_book_188 : decode cX11_book 188 = .ok (.getfield 23, 3) := by decide +kernel
theorem dX11_book_191 : decode cX11_book 191 = .ok (.getfield 146, 3) := by decide +kernel
theorem dX11_book_194 : decode cX11_book 194 = .ok (.invokevirtual 241, 3) := by decide +kernel
theorem dX11_book_197 : decode cX11_book 197 = .ok (.aload_n 0, 1) := by decide +kernel
theorem dX11_book_198 : decode cX11_book 198 = .ok (.getfield 23, 3) := by decide +kernel
theorem dX11_book_201 : decode cX11_book 201 = .ok (.getfield 146, 3) := by decide +kernel
theorem dX11_book_204 : decode cX11_book 204 = .ok (.aload_n 0, 1) := by decide +kernel
theorem dX11_book_205 : decode cX11_book 205 = .ok (.getfield 66, 3) := by decide +kernel
theorem dX11_book_208 : decode cX11_book 208 = .ok (.invokevirtual 264, 3) := by decide +kernel
theorem dX11_book_211 : decode cX11_book 211 = .ok (.aload_n 0, 1) := by decide +kernel
theorem dX11_book_212 : decode cX11_book 212 = .ok (.getfield 59, 3) := by decide +kernel
theorem dX11_book_215 : decode cX11_book 215 = .ok (.getfield 365, 3) := by decide +kernel
theorem dX11_book_218 : decode cX11_book 218 = .ok (.ifCond .ne 7, 3) := by decide +kernel
theorem dX11_book_221 : decode cX11_book 221 = .ok (.iconst (-1), 1) := by decide +kernel
theorem dX11_book_222 : decode cX11_book 222 = .ok (.goto 10, 3) := by decide +kernel
theorem dX11_book_225 : decode cX11_book 225 = .ok (.aload_n 0, 1) := by decide +kernel
theorem dX11_book_226 : decode cX11_book 226 = .ok (.getfield 59, 3) := by decide +kernel
theorem dX11_book_229 : decode cX11_book 229 = .ok (.getfield 368, 3) := by decide +kernel
theorem dX11_book_232 : decode cX11_book 232 = .ok (.ireturn, 1) := by decide +kernel
theorem dX11_told_0 : decode cX11_told 0 = .ok (.aload_n 0, 1) := by decide +kernel
theorem dX11_told_1 : decode cX11_told 1 = .ok (.getfield 361, 3) := by decide +kernel
theorem dX11_told_4 : decode cX11_told 4 = .ok (.ifCond .eq 25, 3) := by decide +kernel
theorem dX11_told_7 : decode cX11_told 7 = .ok (.iload_n 1, 1) := by decide +kernel
theorem dX11_told_8 : decode cX11_told 8 = .ok (.ifCond .lt 21, 3) := by decide +kernel
theorem dX11_told_11 : decode cX11_told 11 = .ok (.iload_n 1, 1) := by decide +kernel
theorem dX11_told_12 : decode cX11_told 12 = .ok (.aload_n 0, 1) := by decide +kernel
theorem dX11_told_13 : decode cX11_told 13 = .ok (.getfield 91, 3) := by decide +kernel
theorem dX11_told_16 : decode cX11_told 16 = .ok (.arraylength, 1) := by decide +kernel
theorem dX11_told_17 : decode cX11_told 17 = .ok (.if_icmp .ge 12, 3) := by decide +kernel
theorem dX11_told_20 : decode cX11_told 20 = .ok (.aload_n 0, 1) := by decide +kernel
theorem dX11_told_21 : decode cX11_told 21 = .ok (.getfield 91, 3) := by decide +kernel
theorem dX11_told_24 : decode cX11_told 24 = .ok (.iload_n 1, 1) := by decide +kernel
theorem dX11_told_25 : decode cX11_told 25 = .ok (.iaload, 1) := by decide +kernel
theorem dX11_told_26 : decode cX11_told 26 = .ok (.goto 4, 3) := by decide +kernel
theorem dX11_told_29 : decode cX11_told 29 = .ok (.iconst (-1), 1) := by decide +kernel
theorem dX11_told_30 : decode cX11_told 30 = .ok (.ireturn, 1) := by decide +kernel
set_option maxRecDepth 20000 in
theorem ggX11_sentence_X11_takeTape : GoodIn wsX11_sentence wsX11_takeTape := goodIn_r _ [10, 11, 175, 176, 177, 178, 179, 180, 181, 182, 183, 184, 185, 186, 187, 188, 189, 190, 191, 192, 193] rfl rfl
set_option maxRecDepth 20000 in
theorem gX11_sentence_X11_takeTape : GoodIn wsX11_sentence (wsV RX11 112 RX11 yX11_takeTape wsX11_takeTape) := goodIn_app (goodIn_r _ [6, 7, 8, 9] rfl rfl) ggX11_sentence_X11_takeTape
set_option maxRecDepth 20000 in
theorem ggX11_sentence_X4_open : GoodIn wsX11_sentence wsX4_open := goodIn_r _ [15, 16, 17, 18, 19, 20, 21, 22, 23, 24, 25, 26, 27, 28, 13, 29, 30, 31, 32, 33, 34, 35, 36, 37, 38, 39, 40, 41, 42, 43, 44, 45, 46, 47, 48, 49, 50, 51, 52, 53, 54, 55, 56, 57, 58, 59, 60, 61, 62, 63, 64, 65, 66, 67, 68, 69, 70, 71, 72, 73, 74, 75, 76, 77, 78, 79, 80, 81, 82, 83, 84, 85, 86, 87, 88, 89, 90, 91, 92, 93, 94, 95, 96, 197, 198, 199, 200, 201, 202, 203, 204, 205, 206, 207] rfl rfl
set_option maxRecDepth 20000 in
theorem gX11_sentence_X4_open_n116 : GoodIn wsX11_sentence (wsX4_open) := ggX11_sentence_X4_open
set_option maxRecDepth 20000 in
theorem ggX11_sentence_X8_read : GoodIn wsX11_sentence wsX8_read := goodIn_r _ [100, 101, 102, 103, 98, 104, 105, 106, 107, 108, 109, 110, 111, 112, 113, 114, 115, 13, 116, 117, 33, 31, 27, 28, 29, 21, 22, 17, 18, 19, 20, 23, 16, 30, 32, 34, 35, 36, 37, 38, 39, 40, 41, 42, 43, 44, 45, 46, 47, 48, 49, 50, 51, 52, 53, 54, 55, 56, 57, 58, 59, 60, 61, 62, 63, 64, 65, 66, 67, 68, 69, 70, 71, 72, 73, 74, 75, 76, 77, 78, 79, 80, 81, 82, 83, 84, 85, 86, 87, 88, 89, 90, 91, 92, 93, 94, 95, 96, 118, 119, 120, 121, 122, 123, 124, 125, 126, 127, 128, 129, 130, 131, 132, 133, 134, 135, 136, 137, 138, 139, 140, 141, 142, 24, 25, 143, 144, 145, 146, 147, 26, 148, 149, 150, 151, 152, 153, 154, 155, 156, 9, 157, 158, 159, 160, 161, 162, 163, 164, 165, 166, 167, 168, 169, 170, 171, 208, 209, 210, 211, 212, 213, 197, 198, 199, 200, 201, 202, 203, 204, 205, 206, 207, 214, 215, 216, 217, 218, 219, 220, 221, 222, 223, 224] rfl rfl
set_option maxRecDepth 20000 in
theorem gX11_sentence_X8_read_n371 : GoodIn wsX11_sentence (wsX8_read) := ggX11_sentence_X8_read
set_option maxRecDepth 20000 in
theorem ggX11_sentence_X8_copyFrom : GoodIn wsX11_sentence wsX8_copyFrom := goodIn_r _ [174, 105, 106, 122, 123, 124, 208, 209, 210, 211, 212, 213] rfl rfl
set_option maxRecDepth 20000 in
theorem gX11_sentence_X8_copyFrom_n375 : GoodIn wsX11_sentence (wsX8_copyFrom) := ggX11_sentence_X8_copyFrom
theorem dX11_sentence_0 : decode cX11_sentence 0 = .ok (.aload_n 0, 1) := by decide +kernel
theorem dX11_sentence_1 : decode cX11_sentence 1 = .ok (.getfield 16, 3) := by decide +kernel
theorem dX11_sentence_4 : decode cX11_sentence 4 = .ok (.aload_n 0, 1) := by decide +kernel
theorem dX11_sentence_5 : decode cX11_sentence 5 = .ok (.getfield 9, 3) := by decide +kernel
theorem dX11_sentence_8 : decode cX11_sentence 8 = .ok (.aload_n 0, 1) := by decide +kernel
theorem dX11_sentence_9 : decode cX11_sentence 9 = .ok (.invokevirtual 112, 3) := by decide +kernel
theorem dX11_sentence_12 : decode cX11_sentence 12 = .ok (.sipush 200, 3) := by decide +kernel
theorem dX11_sentence_15 : decode cX11_sentence 15 = .ok (.invokevirtual 116, 3) := by decide +kernel
theorem dX11_sentence_18 : decode cX11_sentence 18 = .ok (.aload_n 0, 1) := by decide +kernel
theorem dX11_sentence_19 : decode cX11_sentence 19 = .ok (.getfield 52, 3) := by decide +kernel
theorem dX11_sentence_22 : decode cX11_sentence 22 = .ok (.aload_n 0, 1) := by decide +kernel
theorem dX11_sentence_23 : decode cX11_sentence 23 = .ok (.getfield 16, 3) := by decide +kernel
theorem dX11_sentence_26 : decode cX11_sentence 26 = .ok (.aload_n 0, 1) := by decide +kernel
theorem dX11_sentence_27 : decode cX11_sentence 27 = .ok (.getfield 23, 3) := by decide +kernel
theorem dX11_sentence_30 : decode cX11_sentence 30 = .ok (.getfield 143, 3) := by decide +kernel
theorem dX11_sentence_33 : decode cX11_sentence 33 = .ok (.invokevirtual 371, 3) := by decide +kernel
theorem dX11_sentence_36 : decode cX11_sentence 36 = .ok (.istore_n 1, 1) := by decide +kernel
theorem dX11_sentence_37 : decode cX11_sentence 37 = .ok (.aload_n 0, 1) := by decide +kernel
theorem dX11_sentence_38 : decode cX11_sentence 38 = .ok (.aload_n 0, 1) := by decide +kernel
theorem dX11_sentence_39 : decode cX11_sentence 39 = .ok (.getfield 16, 3) := by decide +kernel
theorem dX11_sentence_42 : decode cX11_sentence 42 = .ok (.getfield 124, 3) := by decide +kernel
theorem dX11_sentence_45 : decode cX11_sentence 45 = .ok (.putfield 127, 3) := by decide +kernel
theorem dX11_sentence_48 : decode cX11_sentence 48 = .ok (.iload_n 1, 1) := by decide +kernel
theorem dX11_sentence_49 : decode cX11_sentence 49 = .ok (.ifCond .ne 13, 3) := by decide +kernel
theorem dX11_sentence_52 : decode cX11_sentence 52 = .ok (.iconst (-1), 1) := by decide +kernel
theorem dX11_sentence_53 : decode cX11_sentence 53 = .ok (.aload_n 0, 1) := by decide +kernel
theorem dX11_sentence_54 : decode cX11_sentence 54 = .ok (.getfield 16, 3) := by decide +kernel
theorem dX11_sentence_57 : decode cX11_sentence 57 = .ok (.getfield 130, 3) := by decide +kernel
theorem dX11_sentence_60 : decode cX11_sentence 60 = .ok (.isub, 1) := by decide +kernel
theorem dX11_sentence_61 : decode cX11_sentence 61 = .ok (.ireturn, 1) := by decide +kernel
theorem dX11_sentence_62 : decode cX11_sentence 62 = .ok (.aload_n 0, 1) := by decide +kernel
theorem dX11_sentence_63 : decode cX11_sentence 63 = .ok (.getfield 23, 3) := by decide +kernel
theorem dX11_sentence_66 : decode cX11_sentence 66 = .ok (.getfield 372, 3) := by decide +kernel
theorem dX11_sentence_69 : decode cX11_sentence 69 = .ok (.aload_n 0, 1) := by decide +kernel
theorem dX11_sentence_70 : decode cX11_sentence 70 = .ok (.getfield 52, 3) := by decide +kernel
theorem dX11_sentence_73 : decode cX11_sentence 73 = .ok (.invokevirtual 375, 3) := by decide +kernel
theorem dX11_sentence_76 : decode cX11_sentence 76 = .ok (.aload_n 0, 1) := by decide +kernel
theorem dX11_sentence_77 : decode cX11_sentence 77 = .ok (.getfield 52, 3) := by decide +kernel
theorem dX11_sentence_80 : decode cX11_sentence 80 = .ok (.getfield 378, 3) := by decide +kernel
theorem dX11_sentence_83 : decode cX11_sentence 83 = .ok (.ireturn, 1) := by decide +kernel
set_option maxRecDepth 20000 in
theorem ggX11_said_X8_isTold : GoodIn wsX11_said wsX8_isTold := goodIn_r _ [5, 6, 107, 108, 109, 110, 111, 112] rfl rfl
set_option maxRecDepth 20000 in
theorem gX11_said_X8_isTold_n381 : GoodIn wsX11_said (wsX8_isTold) := ggX11_said_X8_isTold
set_option maxRecDepth 20000 in
theorem ggX11_said_X8_machinesOf : GoodIn wsX11_said wsX8_machinesOf := goodIn_r _ [9, 6, 10, 11, 12, 13, 14, 15, 16, 17, 3, 18, 19, 20, 21, 22, 23, 24, 25, 26, 27, 28, 29, 30, 31, 32, 33, 34, 35, 36, 37, 38, 39, 40, 41, 42, 43, 44, 45, 46, 47, 48, 49, 50, 51, 52, 53, 54, 55, 56, 57, 58, 59, 60, 61, 62, 63, 64, 65, 66, 67, 68, 69, 70, 71, 72, 73, 113, 114, 115, 116, 117, 118, 119, 120, 121, 122, 123, 107, 108, 109, 110, 111, 112, 124, 125, 126, 127, 128, 129, 130, 131, 132] rfl rfl
set_option maxRecDepth 20000 in
theorem gX11_said_X8_machinesOf_n385 : GoodIn wsX11_said (wsX8_machinesOf) := ggX11_said_X8_machinesOf
set_option maxRecDepth 20000 in
theorem ggX11_said_J6_bitCount_0f7a4 : GoodIn wsX11_said wsJ6_bitCount_0f7a4 := goodIn_r _ [77, 78, 79, 80] rfl rfl
set_option maxRecDepth 20000 in
theorem gX11_said_J6_bitCount_0f7a4 : GoodIn wsX11_said (va_wsS RX11 389 yJ6_bitCount_0f7a4 wsJ6_bitCount_0f7a4) := goodIn_app (goodIn_r _ [74, 75, 76] rfl rfl) ggX11_said_J6_bitCount_0f7a4
set_option maxRecDepth 20000 in
theorem ggX11_said_X11_bitAt : GoodIn wsX11_said wsX11_bitAt := goodIn_r _ [83, 84, 42, 43, 44] rfl rfl
set_option maxRecDepth 20000 in
theorem gX11_said_X11_bitAt : GoodIn wsX11_said (va_wsS RX11 393 yX11_bitAt wsX11_bitAt) := goodIn_app (goodIn_r _ [81, 82, 43] rfl rfl) ggX11_said_X11_bitAt
theorem dX11_said_0 : decode cX11_said 0 = .ok (.aload_n 0, 1) := by decide +kernel
theorem dX11_said_1 : decode cX11_said 1 = .ok (.getfield 23, 3) := by decide +kernel
theorem dX11_said_4 : decode cX11_said 4 = .ok (.getfield 372, 3) := by decide +kernel
theorem dX11_said_7 : decode cX11_said 7 = .ok (.invokevirtual 381, 3) := by decide +kernel
theorem dX11_said_10 : decode cX11_said 10 = .ok (.ifCond .eq 8, 3) := by decide +kernel
theorem dX11_said_13 : decode cX11_said 13 = .ok (.iload_n 1, 1) := by decide +kernel
theorem dX11_said_14 : decode cX11_said 14 = .ok (.iconst (-1), 1) := by decide +kernel
theorem dX11_said_15 : decode cX11_said 15 = .ok (.if_icmp .ge 5, 3) := by decide +kernel
theorem dX11_said_18 : decode cX11_said 18 = .ok (.iconst (-1), 1) := by decide +kernel
theorem dX11_said_19 : decode cX11_said 19 = .ok (.ireturn, 1) := by decide +kernel
theorem dX11_said_20 : decode cX11_said 20 = .ok (.aload_n 0, 1) := by decide +kernel
theorem dX11_said_21 : decode cX11_said 21 = .ok (.getfield 23, 3) := by decide +kernel
theorem dX11_said_24 : decode cX11_said 24 = .ok (.getfield 372, 3) := by decide +kernel
theorem dX11_said_27 : decode cX11_said 27 = .ok (.aload_n 0, 1) := by decide +kernel
theorem dX11_said_28 : decode cX11_said 28 = .ok (.getfield 23, 3) := by decide +kernel
theorem dX11_said_31 : decode cX11_said 31 = .ok (.getfield 143, 3) := by decide +kernel
theorem dX11_said_34 : decode cX11_said 34 = .ok (.aload_n 0, 1) := by decide +kernel
theorem dX11_said_35 : decode cX11_said 35 = .ok (.getfield 23, 3) := by decide +kernel
theorem dX11_said_38 : decode cX11_said 38 = .ok (.getfield 146, 3) := by decide +kernel
theorem dX11_said_41 : decode cX11_said 41 = .ok (.invokevirtual 385, 3) := by decide +kernel
theorem dX11_said_44 : decode cX11_said 44 = .ok (.istore_n 2, 1) := by decide +kernel
theorem dX11_said_45 : decode cX11_said 45 = .ok (.iload_n 1, 1) := by decide +kernel
theorem dX11_said_46 : decode cX11_said 46 = .ok (.iconst (-1), 1) := by decide +kernel
theorem dX11_said_47 : decode cX11_said 47 = .ok (.if_icmp .ne 10, 3) := by decide +kernel
theorem dX11_said_50 : decode cX11_said 50 = .ok (.iload_n 2, 1) := by decide +kernel
theorem dX11_said_51 : decode cX11_said 51 = .ok (.invokestatic 389, 3) := by decide +kernel
theorem dX11_said_54 : decode cX11_said 54 = .ok (.goto 8, 3) := by decide +kernel
theorem dX11_said_57 : decode cX11_said 57 = .ok (.iload_n 2, 1) := by decide +kernel
theorem dX11_said_58 : decode cX11_said 58 = .ok (.iload_n 1, 1) := by decide +kernel
theorem dX11_said_59 : decode cX11_said 59 = .ok (.invokestatic 393, 3) := by decide +kernel
theorem dX11_said_62 : decode cX11_said 62 = .ok (.ireturn, 1) := by decide +kernel
set_option maxRecDepth 20000 in
theorem ggX11_image_X7_copyFrom : GoodIn wsX11_image wsX7_copyFrom := goodIn_r _ [7, 8, 9, 10, 11, 12, 13, 14, 15, 16, 17, 18, 19, 20, 21, 22, 23, 24, 25, 26, 27, 28, 29, 30, 31, 32, 33, 34, 35, 36, 37, 38, 39, 40, 41, 42, 43, 44, 45, 46, 47, 48, 49, 50, 51, 52, 72, 73, 74, 75, 76, 77, 78, 79, 80, 81, 82, 83, 84, 85, 86, 87, 88, 89, 90, 91, 92, 93, 94, 95, 96, 97, 98, 99, 100] rfl rfl
set_option maxRecDepth 20000 in
theorem gX11_image_X7_copyFrom_n396 : GoodIn wsX11_image (wsX7_copyFrom) := ggX11_image_X7_copyFrom
theorem dX11_image_0 : decode cX11_image 0 = .ok (.iload_n 1, 1) := by decide +kernel
theorem dX11_image_1 : decode cX11_image 1 = .ok (.ifCond .lt 12, 3) := by decide +kernel
theorem dX11_image_4 : decode cX11_image 4 = .ok (.iload_n 1, 1) := by decide +kernel
theorem dX11_image_5 : decode cX11_image 5 = .ok (.aload_n 0, 1) := by decide +kernel
theorem dX11_image_6 : decode cX11_image 6 = .ok (.getfield 27, 3) := by decide +kernel
theorem dX11_image_9 : decode cX11_image 9 = .ok (.arraylength, 1) := by decide +kernel
theorem dX11_image_10 : decode cX11_image 10 = .ok (.if_icmp .lt 5, 3) := by decide +kernel
theorem dX11_image_13 : decode cX11_image 13 = .ok (.iconst 0, 1) := by decide +kernel
theorem dX11_image_14 : decode cX11_image 14 = .ok (.ireturn, 1) := by decide +kernel
theorem dX11_image_15 : decode cX11_image 15 = .ok (.aload_n 0, 1) := by decide +kernel
theorem dX11_image_16 : decode cX11_image 16 = .ok (.getfield 27, 3) := by decide +kernel
theorem dX11_image_19 : decode cX11_image 19 = .ok (.iload_n 1, 1) := by decide +kernel
theorem dX11_image_20 : decode cX11_image 20 = .ok (.aaload, 1) := by decide +kernel
theorem dX11_image_21 : decode cX11_image 21 = .ok (.aload_n 0, 1) := by decide +kernel
theorem dX11_image_22 : decode cX11_image 22 = .ok (.getfield 23, 3) := by decide +kernel
theorem dX11_image_25 : decode cX11_image 25 = .ok (.invokevirtual 396, 3) := by decide +kernel
theorem dX11_image_28 : decode cX11_image 28 = .ok (.aload_n 0, 1) := by decide +kernel
theorem dX11_image_29 : decode cX11_image 29 = .ok (.getfield 31, 3) := by decide +kernel
theorem dX11_image_32 : decode cX11_image 32 = .ok (.iload_n 1, 1) := by decide +kernel
theorem dX11_image_33 : decode cX11_image 33 = .ok (.iconst 1, 1) := by decide +kernel
theorem dX11_image_34 : decode cX11_image 34 = .ok (.bastore, 1) := by decide +kernel
theorem dX11_image_35 : decode cX11_image 35 = .ok (.iconst 1, 1) := by decide +kernel
theorem dX11_image_36 : decode cX11_image 36 = .ok (.ireturn, 1) := by decide +kernel
set_option maxRecDepth 20000 in
theorem ggX11_restore_X7_copyFrom : GoodIn wsX11_restore wsX7_copyFrom := goodIn_r _ [8, 9, 10, 11, 12, 13, 14, 15, 16, 17, 18, 19, 20, 21, 22, 23, 24, 25, 26, 27, 28, 29, 30, 31, 32, 33, 34, 35, 36, 37, 38, 39, 40, 41, 42, 43, 44, 45, 46, 47, 48, 49, 50, 51, 52, 53, 78, 79, 80, 81, 82, 83, 84, 85, 86, 87, 88, 89, 90, 91, 92, 93, 94, 95, 96, 97, 98, 99, 100, 101, 102, 103, 104, 105, 106] rfl rfl
set_option maxRecDepth 20000 in
theorem gX11_restore_X7_copyFrom_n396 : GoodIn wsX11_restore (wsX7_copyFrom) := ggX11_restore_X7_copyFrom
set_option maxRecDepth 20000 in
theorem ggX11_restore_X2_forget : GoodIn wsX11_restore wsX2_forget := goodIn_r _ [57, 58, 107, 108, 109] rfl rfl
set_option maxRecDepth 20000 in
theorem gX11_restore_X2_forget_n137 : GoodIn wsX11_restore (wsX2_forget) := ggX11_restore_X2_forget
theorem dX11_restore_0 : decode cX11_restore 0 = .ok (.iload_n 1, 1) := by decide +kernel
theorem dX11_restore_1 : decode cX11_restore 1 = .ok (.ifCond .lt 21, 3) := by decide +kernel
theorem dX11_restore_4 : decode cX11_restore 4 = .ok (.iload_n 1, 1) := by decide +kernel
theorem dX11_restore_5 : decode cX11_restore 5 = .ok (.aload_n 0, 1) := by decide +kernel
theorem dX11_restore_6 : decode cX11_restore 6 = .ok (.getfield 27, 3) := by decide +kernel
theorem dX11_restore_9 : decode cX11_restore 9 = .ok (.arraylength, 1) := by decide +kernel
theorem dX11_restore_10 : decode cX11_restore 10 = .ok (.if_icmp .ge 12, 3) := by decide +kernel
theorem dX11_restore_13 : decode cX11_restore 13 = .ok (.aload_n 0, 1) := by decide +kernel
theorem dX11_restore_14 : decode cX11_restore 14 = .ok (.getfield 31, 3) := by decide +kernel
theorem dX11_restore_17 : decode cX11_restore 17 = .ok (.iload_n 1, 1) := by decide +kernel
theorem dX11_restore_18 : decode cX11_restore 18 = .ok (.baload, 1) := by decide +kernel
theorem dX11_restore_19 : decode cX11_restore 19 = .ok (.ifCond .ne 5, 3) := by decide +kernel
theorem dX11_restore_22 : decode cX11_restore 22 = .ok (.iconst 0, 1) := by decide +kernel
theorem dX11_restore_23 : decode cX11_restore 23 = .ok (.ireturn, 1) := by decide +kernel
theorem dX11_restore_24 : decode cX11_restore 24 = .ok (.aload_n 0, 1) := by decide +kernel
theorem dX11_restore_25 : decode cX11_restore 25 = .ok (.getfield 23, 3) := by decide +kernel
theorem dX11_restore_28 : decode cX11_restore 28 = .ok (.aload_n 0, 1) := by decide +kernel
theorem dX11_restore_29 : decode cX11_restore 29 = .ok (.getfield 27, 3) := by decide +kernel
theorem dX11_restore_32 : decode cX11_restore 32 = .ok (.iload_n 1, 1) := by decide +kernel
theorem dX11_restore_33 : decode cX11_restore 33 = .ok (.aaload, 1) := by decide +kernel
theorem dX11_restore_34 : decode cX11_restore 34 = .ok (.invokevirtual 396, 3) := by decide +kernel
theorem dX11_restore_37 : decode cX11_restore 37 = .ok (.aload_n 0, 1) := by decide +kernel
theorem dX11_restore_38 : decode cX11_restore 38 = .ok (.getfield 38, 3) := by decide +kernel
theorem dX11_restore_41 : decode cX11_restore 41 = .ok (.invokevirtual 137, 3) := by decide +kernel
theorem dX11_restore_44 : decode cX11_restore 44 = .ok (.iconst 1, 1) := by decide +kernel
theorem dX11_restore_45 : decode cX11_restore 45 = .ok (.ireturn, 1) := by decide +kernel
theorem dX11_count_0 : decode cX11_count 0 = .ok (.iload_n 1, 1) := by decide +kernel
theorem dX11_count_1 : decode cX11_count 1 = .ok (.tableswitch 69 0 3 #[31, 42, 53, 64], 31) := by decide +kernel
theorem dX11_count_32 : decode cX11_count 32 = .ok (.aload_n 0, 1) := by decide +kernel
theorem dX11_count_33 : decode cX11_count 33 = .ok (.getfield 23, 3) := by decide +kernel
theorem dX11_count_36 : decode cX11_count 36 = .ok (.getfield 143, 3) := by decide +kernel
theorem dX11_count_39 : decode cX11_count 39 = .ok (.getfield 399, 3) := by decide +kernel
theorem dX11_count_42 : decode cX11_count 42 = .ok (.ireturn, 1) := by decide +kernel
theorem dX11_count_43 : decode cX11_count 43 = .ok (.aload_n 0, 1) := by decide +kernel
theorem dX11_count_44 : decode cX11_count 44 = .ok (.getfield 23, 3) := by decide +kernel
theorem dX11_count_47 : decode cX11_count 47 = .ok (.getfield 143, 3) := by decide +kernel
theorem dX11_count_50 : decode cX11_count 50 = .ok (.getfield 298, 3) := by decide +kernel
theorem dX11_count_53 : decode cX11_count 53 = .ok (.ireturn, 1) := by decide +kernel
theorem dX11_count_54 : decode cX11_count 54 = .ok (.aload_n 0, 1) := by decide +kernel
theorem dX11_count_55 : decode cX11_count 55 = .ok (.getfield 23, 3) := by decide +kernel
theorem dX11_count_58 : decode cX11_count 58 = .ok (.getfield 143, 3) := by decide +kernel
theorem dX11_count_61 : decode cX11_count 61 = .ok (.getfield 402, 3) := by decide +kernel
theorem dX11_count_64 : decode cX11_count 64 = .ok (.ireturn, 1) := by decide +kernel
theorem dX11_count_65 : decode cX11_count 65 = .ok (.aload_n 0, 1) := by decide +kernel
theorem dX11_count_66 : decode cX11_count 66 = .ok (.getfield 105, 3) := by decide +kernel
theorem dX11_count_69 : decode cX11_count 69 = .ok (.ireturn, 1) := by decide +kernel
theorem dX11_count_70 : decode cX11_count 70 = .ok (.iconst (-1), 1) := by decide +kernel
theorem dX11_count_71 : decode cX11_count 71 = .ok (.ireturn, 1) := by decide +kernel
theorem dX11_appendBytes_0 : decode cX11_appendBytes 0 = .ok (.bipush 24, 2) := by decide +kernel
theorem dX11_appendBytes_2 : decode cX11_appendBytes 2 = .ok (.istore_n 2, 1) := by decide +kernel
theorem dX11_appendBytes_3 : decode cX11_appendBytes 3 = .ok (.iload_n 2, 1) := by decide +kernel
theorem dX11_appendBytes_4 : decode cX11_appendBytes 4 = .ok (.ifCond .lt 45, 3) := by decide +kernel
theorem dX11_appendBytes_7 : decode cX11_appendBytes 7 = .ok (.aload_n 0, 1) := by decide +kernel
theorem dX11_appendBytes_8 : decode cX11_appendBytes 8 = .ok (.getfield 105, 3) := by decide +kernel
theorem dX11_appendBytes_11 : decode cX11_appendBytes 11 = .ok (.sipush 940, 3) := by decide +kernel
theorem dX11_appendBytes_14 : decode cX11_appendBytes 14 = .ok (.if_icmp .ge 35, 3) := by decide +kernel
theorem dX11_appendBytes_17 : decode cX11_appendBytes 17 = .ok (.aload_n 0, 1) := by decide +kernel
theorem dX11_appendBytes_18 : decode cX11_appendBytes 18 = .ok (.getfield 9, 3) := by decide +kernel
theorem dX11_appendBytes_21 : decode cX11_appendBytes 21 = .ok (.aload_n 0, 1) := by decide +kernel
theorem dX11_appendBytes_22 : decode cX11_appendBytes 22 = .ok (.getfield 105, 3) := by decide +kernel
theorem dX11_appendBytes_25 : decode cX11_appendBytes 25 = .ok (.iload_n 1, 1) := by decide +kernel
theorem dX11_appendBytes_26 : decode cX11_appendBytes 26 = .ok (.iload_n 2, 1) := by decide +kernel
theorem dX11_appendBytes_27 : decode cX11_appendBytes 27 = .ok (.iushr, 1) := by decide +kernel
theorem dX11_appendBytes_28 : decode cX11_appendBytes 28 = .ok (.sipush 255, 3) := by decide +kernel
theorem dX11_appendBytes_31 : decode cX11_appendBytes 31 = .ok (.iand, 1) := by decide +kernel
theorem dX11_appendBytes_32 : decode cX11_appendBytes 32 = .ok (.iastore, 1) := by decide +kernel
theorem dX11_appendBytes_33 : decode cX11_appendBytes 33 = .ok (.aload_n 0, 1) := by decide +kernel
theorem dX11_appendBytes_34 : decode cX11_appendBytes 34 = .ok (.dup, 1) := by decide +kernel
theorem dX11_appendBytes_35 : decode cX11_appendBytes 35 = .ok (.getfield 105, 3) := by decide +kernel
theorem dX11_appendBytes_38 : decode cX11_appendBytes 38 = .ok (.iconst 1, 1) := by decide +kernel
theorem dX11_appendBytes_39 : decode cX11_appendBytes 39 = .ok (.iadd, 1) := by decide +kernel
theorem dX11_appendBytes_40 : decode cX11_appendBytes 40 = .ok (.putfield 105, 3) := by decide +kernel
theorem dX11_appendBytes_43 : decode cX11_appendBytes 43 = .ok (.iinc 2 (-8), 3) := by decide +kernel
theorem dX11_appendBytes_46 : decode cX11_appendBytes 46 = .ok (.goto (-43), 3) := by decide +kernel
theorem dX11_appendBytes_49 : decode cX11_appendBytes 49 = .ok (.return_, 1) := by decide +kernel
theorem dX11_takeTape_0 : decode cX11_takeTape 0 = .ok (.aload_n 0, 1) := by decide +kernel
theorem dX11_takeTape_1 : decode cX11_takeTape 1 = .ok (.getfield 105, 3) := by decide +kernel
theorem dX11_takeTape_4 : decode cX11_takeTape 4 = .ok (.istore_n 1, 1) := by decide +kernel
theorem dX11_takeTape_5 : decode cX11_takeTape 5 = .ok (.aload_n 0, 1) := by decide +kernel
theorem dX11_takeTape_6 : decode cX11_takeTape 6 = .ok (.iconst 0, 1) := by decide +kernel
theorem dX11_takeTape_7 : decode cX11_takeTape 7 = .ok (.putfield 105, 3) := by decide +kernel
theorem dX11_takeTape_10 : decode cX11_takeTape 10 = .ok (.iload_n 1, 1) := by decide +kernel
theorem dX11_takeTape_11 : decode cX11_takeTape 11 = .ok (.ireturn, 1) := by decide +kernel
set_option maxRecDepth 20000 in
theorem ggX11_doOne_X9_whyNot : GoodIn wsX11_doOne wsX9_whyNot := goodIn_r _ [6, 7, 8, 9, 10, 4, 11, 12, 13, 14, 15, 16, 17, 18, 19, 20, 21, 22, 23, 24, 25, 26, 27, 28, 29, 30, 31, 32, 33, 34, 35, 36, 37, 38, 39, 40, 41, 42, 43, 44, 45, 46, 47, 48, 49, 50, 51, 52, 53, 54, 113, 114, 115, 116, 117, 118, 119, 120, 121, 122, 123, 124, 125, 126, 127, 128, 129, 130, 131, 132] rfl rfl
set_option maxRecDepth 20000 in
theorem gX11_doOne_X9_whyNot_n405 : GoodIn wsX11_doOne (wsX9_whyNot) := ggX11_doOne_X9_whyNot
set_option maxRecDepth 20000 in
theorem ggX11_doOne_X2_keep : GoodIn wsX11_doOne wsX2_keep := goodIn_r _ [58, 59, 60, 61, 62, 4, 63, 64, 21, 31, 32, 41, 65, 7, 66, 67, 68, 69, 70, 71, 16, 133, 134, 135, 113, 114, 115, 116, 117, 118, 119, 120, 121] rfl rfl
set_option maxRecDepth 20000 in
theorem gX11_doOne_X2_keep_n241 : GoodIn wsX11_doOne (wsX2_keep) := ggX11_doOne_X2_keep
set_option maxRecDepth 20000 in
theorem ggX11_doOne_X9_perform : GoodIn wsX11_doOne wsX9_perform := goodIn_r _ [74, 7, 41, 75, 76, 77, 4, 78, 79, 80, 81, 82, 12, 13, 14, 15, 16, 83, 84, 85, 86, 87, 88, 89, 90, 70, 71, 31, 32, 22, 23, 24, 25, 26, 33, 34, 35, 36, 113, 114, 115, 116, 117, 118, 119, 120, 121, 122, 123, 124, 125, 126, 127, 128, 129, 130, 131, 132] rfl rfl
set_option maxRecDepth 20000 in
theorem gX11_doOne_X9_perform_n409 : GoodIn wsX11_doOne (wsX9_perform) := ggX11_doOne_X9_perform
theorem dX11_doOne_0 : decode cX11_doOne 0 = .ok (.aload_n 0, 1) := by decide +kernel
theorem dX11_doOne_1 : decode cX11_doOne 1 = .ok (.getfield 23, 3) := by decide +kernel
theorem dX11_doOne_4 : decode cX11_doOne 4 = .ok (.getfield 146, 3) := by decide +kernel
theorem dX11_doOne_7 : decode cX11_doOne 7 = .ok (.aload_n 0, 1) := by decide +kernel
theorem dX11_doOne_8 : decode cX11_doOne 8 = .ok (.getfield 23, 3) := by decide +kernel
theorem dX11_doOne_11 : decode cX11_doOne 11 = .ok (.getfield 143, 3) := by decide +kernel
theorem dX11_doOne_14 : decode cX11_doOne 14 = .ok (.iload_n 1, 1) := by decide +kernel
theorem dX11_doOne_15 : decode cX11_doOne 15 = .ok (.iload_n 2, 1) := by decide +kernel
theorem dX11_doOne_16 : decode cX11_doOne 16 = .ok (.iload_n 3, 1) := by decide +kernel
theorem dX11_doOne_17 : decode cX11_doOne 17 = .ok (.invokevirtual 405, 3) := by decide +kernel
theorem dX11_doOne_20 : decode cX11_doOne 20 = .ok (.istore 4, 2) := by decide +kernel
theorem dX11_doOne_22 : decode cX11_doOne 22 = .ok (.iload 4, 2) := by decide +kernel
theorem dX11_doOne_24 : decode cX11_doOne 24 = .ok (.ifCond .ne 37, 3) := by decide +kernel
theorem dX11_doOne_27 : decode cX11_doOne 27 = .ok (.aload_n 0, 1) := by decide +kernel
theorem dX11_doOne_28 : decode cX11_doOne 28 = .ok (.getfield 38, 3) := by decide +kernel
theorem dX11_doOne_31 : decode cX11_doOne 31 = .ok (.aload_n 0, 1) := by decide +kernel
theorem dX11_doOne_32 : decode cX11_doOne 32 = .ok (.getfield 23, 3) := by decide +kernel
theorem dX11_doOne_35 : decode cX11_doOne 35 = .ok (.getfield 146, 3) := by decide +kernel
theorem dX11_doOne_38 : decode cX11_doOne 38 = .ok (.invokevirtual 241, 3) := by decide +kernel
theorem dX11_doOne_41 : decode cX11_doOne 41 = .ok (.aload_n 0, 1) := by decide +kernel
theorem dX11_doOne_42 : decode cX11_doOne 42 = .ok (.getfield 23, 3) := by decide +kernel
theorem dX11_doOne_45 : decode cX11_doOne 45 = .ok (.getfield 146, 3) := by decide +kernel
theorem dX11_doOne_48 : decode cX11_doOne 48 = .ok (.aload_n 0, 1) := by decide +kernel
theorem dX11_doOne_49 : decode cX11_doOne 49 = .ok (.getfield 23, 3) := by decide +kernel
theorem dX11_doOne_52 : decode cX11_doOne 52 = .ok (.getfield 143, 3) := by decide +kernel
theorem dX11_doOne_55 : decode cX11_doOne 55 = .ok (.iload_n 1, 1) := by decide +kernel
theorem dX11_doOne_56 : decode cX11_doOne 56 = .ok (.iload_n 2, 1) := by decide +kernel
theorem dX11_doOne_57 : decode cX11_doOne 57 = .ok (.iload_n 3, 1) := by decide +kernel
theorem dX11_doOne_58 : decode cX11_doOne 58 = .ok (.invokevirtual 409, 3) := by decide +kernel
theorem dX11_doOne_61 : decode cX11_doOne 61 = .ok (.iload 4, 2) := by decide +kernel
theorem dX11_doOne_63 : decode cX11_doOne 63 = .ok (.ireturn, 1) := by decide +kernel
set_option maxRecDepth 20000 in
theorem ggX11_tellsPhrases_X3_hasPhrase : GoodIn wsX11_tellsPhrases wsX3_hasPhrase := goodIn_r _ [6, 7, 30, 31, 32, 33, 34, 35, 36, 37, 38, 39, 40] rfl rfl
set_option maxRecDepth 20000 in
theorem gX11_tellsPhrases_X3_hasPhrase_n182 : GoodIn wsX11_tellsPhrases (wsX3_hasPhrase) := ggX11_tellsPhrases_X3_hasPhrase
theorem dX11_tellsPhrases_0 : decode cX11_tellsPhrases 0 = .ok (.iload_n 1, 1) := by decide +kernel
theorem dX11_tellsPhrases_1 : decode cX11_tellsPhrases 1 = .ok (.iconst 1, 1) := by decide +kernel
theorem dX11_tellsPhrases_2 : decode cX11_tellsPhrases 2 = .ok (.if_icmp .lt 9, 3) := by decide +kernel
theorem dX11_tellsPhrases_5 : decode cX11_tellsPhrases 5 = .ok (.iload_n 1, 1) := by decide +kernel
theorem dX11_tellsPhrases_6 : decode cX11_tellsPhrases 6 = .ok (.bipush 9, 2) := by decide +kernel
theorem dX11_tellsPhrases_8 : decode cX11_tellsPhrases 8 = .ok (.if_icmp .le 5, 3) := by decide +kernel
theorem dX11_tellsPhrases_11 : decode cX11_tellsPhrases 11 = .ok (.iconst 0, 1) := by decide +kernel
theorem dX11_tellsPhrases_12 : decode cX11_tellsPhrases 12 = .ok (.ireturn, 1) := by decide +kernel
theorem dX11_tellsPhrases_13 : decode cX11_tellsPhrases 13 = .ok (.iconst 0, 1) := by decide +kernel
theorem dX11_tellsPhrases_14 : decode cX11_tellsPhrases 14 = .ok (.istore_n 2, 1) := by decide +kernel
theorem dX11_tellsPhrases_15 : decode cX11_tellsPhrases 15 = .ok (.iload_n 2, 1) := by decide +kernel
theorem dX11_tellsPhrases_16 : decode cX11_tellsPhrases 16 = .ok (.iload_n 1, 1) := by decide +kernel
theorem dX11_tellsPhrases_17 : decode cX11_tellsPhrases 17 = .ok (.if_icmp .ge 30, 3) := by decide +kernel
theorem dX11_tellsPhrases_20 : decode cX11_tellsPhrases 20 = .ok (.aload_n 0, 1) := by decide +kernel
theorem dX11_tellsPhrases_21 : decode cX11_tellsPhrases 21 = .ok (.getfield 23, 3) := by decide +kernel
theorem dX11_tellsPhrases_24 : decode cX11_tellsPhrases 24 = .ok (.getfield 143, 3) := by decide +kernel
theorem dX11_tellsPhrases_27 : decode cX11_tellsPhrases 27 = .ok (.aload_n 0, 1) := by decide +kernel
theorem dX11_tellsPhrases_28 : decode cX11_tellsPhrases 28 = .ok (.getfield 9, 3) := by decide +kernel
theorem dX11_tellsPhrases_31 : decode cX11_tellsPhrases 31 = .ok (.iload_n 2, 1) := by decide +kernel
theorem dX11_tellsPhrases_32 : decode cX11_tellsPhrases 32 = .ok (.iaload, 1) := by decide +kernel
theorem dX11_tellsPhrases_33 : decode cX11_tellsPhrases 33 = .ok (.invokevirtual 182, 3) := by decide +kernel
theorem dX11_tellsPhrases_36 : decode cX11_tellsPhrases 36 = .ok (.ifCond .ne 5, 3) := by decide +kernel
theorem dX11_tellsPhrases_39 : decode cX11_tellsPhrases 39 = .ok (.iconst 0, 1) := by decide +kernel
theorem dX11_tellsPhrases_40 : decode cX11_tellsPhrases 40 = .ok (.ireturn, 1) := by decide +kernel
theorem dX11_tellsPhrases_41 : decode cX11_tellsPhrases 41 = .ok (.iinc 2 1, 3) := by decide +kernel
theorem dX11_tellsPhrases_44 : decode cX11_tellsPhrases 44 = .ok (.goto (-29), 3) := by decide +kernel
theorem dX11_tellsPhrases_47 : decode cX11_tellsPhrases 47 = .ok (.iconst 1, 1) := by decide +kernel
theorem dX11_tellsPhrases_48 : decode cX11_tellsPhrases 48 = .ok (.ireturn, 1) := by decide +kernel
set_option maxRecDepth 20000 in
theorem ggX11_tellsFaintLetters_X11_isLetter : GoodIn wsX11_tellsFaintLetters wsX11_isLetter := goodIn_r _ [5] rfl rfl
set_option maxRecDepth 20000 in
theorem gX11_tellsFaintLetters_X11_isLetter : GoodIn wsX11_tellsFaintLetters (va_wsS RX11 413 yX11_isLetter wsX11_isLetter) := goodIn_app (goodIn_r _ [2, 3, 4] rfl rfl) ggX11_tellsFaintLetters_X11_isLetter
theorem dX11_tellsFaintLetters_0 : decode cX11_tellsFaintLetters 0 = .ok (.iload_n 1, 1) := by decide +kernel
theorem dX11_tellsFaintLetters_1 : decode cX11_tellsFaintLetters 1 = .ok (.iconst 1, 1) := by decide +kernel
theorem dX11_tellsFaintLetters_2 : decode cX11_tellsFaintLetters 2 = .ok (.if_icmp .lt 9, 3) := by decide +kernel
theorem dX11_tellsFaintLetters_5 : decode cX11_tellsFaintLetters 5 = .ok (.iload_n 1, 1) := by decide +kernel
theorem dX11_tellsFaintLetters_6 : decode cX11_tellsFaintLetters 6 = .ok (.bipush 7, 2) := by decide +kernel
theorem dX11_tellsFaintLetters_8 : decode cX11_tellsFaintLetters 8 = .ok (.if_icmp .le 5, 3) := by decide +kernel
theorem dX11_tellsFaintLetters_11 : decode cX11_tellsFaintLetters 11 = .ok (.iconst 0, 1) := by decide +kernel
theorem dX11_tellsFaintLetters_12 : decode cX11_tellsFaintLetters 12 = .ok (.ireturn, 1) := by decide +kernel
theorem dX11_tellsFaintLetters_13 : decode cX11_tellsFaintLetters 13 = .ok (.iconst 0, 1) := by decide +kernel
theorem dX11_tellsFaintLetters_14 : decode cX11_tellsFaintLetters 14 = .ok (.istore_n 2, 1) := by decide +kernel
theorem dX11_tellsFaintLetters_15 : decode cX11_tellsFaintLetters 15 = .ok (.iload_n 2, 1) := by decide +kernel
theorem dX11_tellsFaintLetters_16 : decode cX11_tellsFaintLetters 16 = .ok (.iload_n 1, 1) := by decide +kernel
theorem dX11_tellsFaintLetters_17 : decode cX11_tellsFaintLetters 17 = .ok (.if_icmp .ge 34, 3) := by decide +kernel
theorem dX11_tellsFaintLetters_20 : decode cX11_tellsFaintLetters 20 = .ok (.aload_n 0, 1) := by decide +kernel
theorem dX11_tellsFaintLetters_21 : decode cX11_tellsFaintLetters 21 = .ok (.getfield 9, 3) := by decide +kernel
theorem dX11_tellsFaintLetters_24 : decode cX11_tellsFaintLetters 24 = .ok (.iload_n 2, 1) := by decide +kernel
theorem dX11_tellsFaintLetters_25 : decode cX11_tellsFaintLetters 25 = .ok (.iaload, 1) := by decide +kernel
theorem dX11_tellsFaintLetters_26 : decode cX11_tellsFaintLetters 26 = .ok (.bipush 63, 2) := by decide +kernel
theorem dX11_tellsFaintLetters_28 : decode cX11_tellsFaintLetters 28 = .ok (.if_icmp .eq 17, 3) := by decide +kernel
theorem dX11_tellsFaintLetters_31 : decode cX11_tellsFaintLetters 31 = .ok (.aload_n 0, 1) := by decide +kernel
theorem dX11_tellsFaintLetters_32 : decode cX11_tellsFaintLetters 32 = .ok (.getfield 9, 3) := by decide +kernel
theorem dX11_tellsFaintLetters_35 : decode cX11_tellsFaintLetters 35 = .ok (.iload_n 2, 1) := by decide +kernel
theorem dX11_tellsFaintLetters_36 : decode cX11_tellsFaintLetters 36 = .ok (.iaload, 1) := by decide +kernel
theorem dX11_tellsFaintLetters_37 : decode cX11_tellsFaintLetters 37 = .ok (.invokestatic 413, 3) := by decide +kernel
theorem dX11_tellsFaintLetters_40 : decode cX11_tellsFaintLetters 40 = .ok (.ifCond .ne 5, 3) := by decide +kernel
theorem dX11_tellsFaintLetters_43 : decode cX11_tellsFaintLetters 43 = .ok (.iconst 0, 1) := by decide +kernel
theorem dX11_tellsFaintLetters_44 : decode cX11_tellsFaintLetters 44 = .ok (.ireturn, 1) := by decide +kernel
theorem dX11_tellsFaintLetters_45 : decode cX11_tellsFaintLetters 45 = .ok (.iinc 2 1, 3) := by decide +kernel
theorem dX11_tellsFaintLetters_48 : decode cX11_tellsFaintLetters 48 = .ok (.goto (-33), 3) := by decide +kernel
theorem dX11_tellsFaintLetters_51 : decode cX11_tellsFaintLetters 51 = .ok (.iconst 1, 1) := by decide +kernel
theorem dX11_tellsFaintLetters_52 : decode cX11_tellsFaintLetters 52 = .ok (.ireturn, 1) := by decide +kernel
set_option maxRecDepth 20000 in
theorem ggX11_fits_X11_letterAt : GoodIn wsX11_fits wsX11_letterAt := goodIn_r _ [5] rfl rfl
set_option maxRecDepth 20000 in
theorem gX11_fits_X11_letterAt : GoodIn wsX11_fits (va_wsS RX11 416 yX11_letterAt wsX11_letterAt) := goodIn_app (goodIn_r _ [2, 3, 4] rfl rfl) ggX11_fits_X11_letterAt
theorem dX11_fits_0 : decode cX11_fits 0 = .ok (.lload_n 1, 1) := by decide +kernel
theorem dX11_fits_1 : decode cX11_fits 1 = .ok (.iload_n 3, 1) := by decide +kernel
theorem dX11_fits_2 : decode cX11_fits 2 = .ok (.iconst 1, 1) := by decide +kernel
theorem dX11_fits_3 : decode cX11_fits 3 = .ok (.isub, 1) := by decide +kernel
theorem dX11_fits_4 : decode cX11_fits 4 = .ok (.invokestatic 416, 3) := by decide +kernel
theorem dX11_fits_7 : decode cX11_fits 7 = .ok (.ifCond .eq 11, 3) := by decide +kernel
theorem dX11_fits_10 : decode cX11_fits 10 = .ok (.lload_n 1, 1) := by decide +kernel
theorem dX11_fits_11 : decode cX11_fits 11 = .ok (.iload_n 3, 1) := by decide +kernel
theorem dX11_fits_12 : decode cX11_fits 12 = .ok (.invokestatic 416, 3) := by decide +kernel
theorem dX11_fits_15 : decode cX11_fits 15 = .ok (.ifCond .eq 5, 3) := by decide +kernel
theorem dX11_fits_18 : decode cX11_fits 18 = .ok (.iconst 0, 1) := by decide +kernel
theorem dX11_fits_19 : decode cX11_fits 19 = .ok (.ireturn, 1) := by decide +kernel
theorem dX11_fits_20 : decode cX11_fits 20 = .ok (.iconst 0, 1) := by decide +kernel
theorem dX11_fits_21 : decode cX11_fits 21 = .ok (.istore 4, 2) := by decide +kernel
theorem dX11_fits_23 : decode cX11_fits 23 = .ok (.iload 4, 2) := by decide +kernel
theorem dX11_fits_25 : decode cX11_fits 25 = .ok (.iload_n 3, 1) := by decide +kernel
theorem dX11_fits_26 : decode cX11_fits 26 = .ok (.if_icmp .ge 39, 3) := by decide +kernel
theorem dX11_fits_29 : decode cX11_fits 29 = .ok (.aload_n 0, 1) := by decide +kernel
theorem dX11_fits_30 : decode cX11_fits 30 = .ok (.getfield 9, 3) := by decide +kernel
theorem dX11_fits_33 : decode cX11_fits 33 = .ok (.iload 4, 2) := by decide +kernel
theorem dX11_fits_35 : decode cX11_fits 35 = .ok (.iaload, 1) := by decide +kernel
theorem dX11_fits_36 : decode cX11_fits 36 = .ok (.bipush 63, 2) := by decide +kernel
theorem dX11_fits_38 : decode cX11_fits 38 = .ok (.if_icmp .eq 21, 3) := by decide +kernel
theorem dX11_fits_41 : decode cX11_fits 41 = .ok (.aload_n 0, 1) := by decide +kernel
theorem dX11_fits_42 : decode cX11_fits 42 = .ok (.getfield 9, 3) := by decide +kernel
theorem dX11_fits_45 : decode cX11_fits 45 = .ok (.iload 4, 2) := by decide +kernel
theorem dX11_fits_47 : decode cX11_fits 47 = .ok (.iaload, 1) := by decide +kernel
theorem dX11_fits_48 : decode cX11_fits 48 = .ok (.lload_n 1, 1) := by decide +kernel
theorem dX11_fits_49 : decode cX11_fits 49 = .ok (.iload 4, 2) := by decide +kernel
theorem dX11_fits_51 : decode cX11_fits 51 = .ok (.invokestatic 416, 3) := by decide +kernel
theorem dX11_fits_54 : decode cX11_fits 54 = .ok (.if_icmp .eq 5, 3) := by decide +kernel
theorem dX11_fits_57 : decode cX11_fits 57 = .ok (.iconst 0, 1) := by decide +kernel
theorem dX11_fits_58 : decode cX11_fits 58 = .ok (.ireturn, 1) := by decide +kernel
theorem dX11_fits_59 : decode cX11_fits 59 = .ok (.iinc 4 1, 3) := by decide +kernel
theorem dX11_fits_62 : decode cX11_fits 62 = .ok (.goto (-39), 3) := by decide +kernel
theorem dX11_fits_65 : decode cX11_fits 65 = .ok (.iconst 1, 1) := by decide +kernel
theorem dX11_fits_66 : decode cX11_fits 66 = .ok (.ireturn, 1) := by decide +kernel
set_option maxRecDepth 20000 in
theorem ggX11_placeToLook_X11_mostAlikeAt : GoodIn wsX11_placeToLook wsX11_mostAlikeAt := goodIn_r _ [5, 6, 7, 8, 9, 10, 11, 12, 4, 13, 14, 15, 16, 17, 18, 19, 20, 21, 22, 23, 24, 25, 26, 27, 28, 29, 30, 31, 32, 33, 34, 35, 36, 37, 38, 39, 40, 41, 42, 43, 44, 45, 46, 47, 48, 49] rfl rfl
set_option maxRecDepth 20000 in
theorem gX11_placeToLook_X11_mostAlikeAt : GoodIn wsX11_placeToLook (wsV RX11 420 RX11 yX11_mostAlikeAt wsX11_mostAlikeAt) := goodIn_app (goodIn_r _ [1, 2, 3, 4] rfl rfl) ggX11_placeToLook_X11_mostAlikeAt
theorem dX11_placeToLook_0 : decode cX11_placeToLook 0 = .ok (.iconst 0, 1) := by decide +kernel
theorem dX11_placeToLook_1 : decode cX11_placeToLook 1 = .ok (.istore_n 3, 1) := by decide +kernel
theorem dX11_placeToLook_2 : decode cX11_placeToLook 2 = .ok (.bipush 9, 2) := by decide +kernel
theorem dX11_placeToLook_4 : decode cX11_placeToLook 4 = .ok (.istore 4, 2) := by decide +kernel
theorem dX11_placeToLook_6 : decode cX11_placeToLook 6 = .ok (.iconst 0, 1) := by decide +kernel
theorem dX11_placeToLook_7 : decode cX11_placeToLook 7 = .ok (.istore 5, 2) := by decide +kernel
theorem dX11_placeToLook_9 : decode cX11_placeToLook 9 = .ok (.iload 5, 2) := by decide +kernel
theorem dX11_placeToLook_11 : decode cX11_placeToLook 11 = .ok (.iload_n 2, 1) := by decide +kernel
theorem dX11_placeToLook_12 : decode cX11_placeToLook 12 = .ok (.if_icmp .ge 32, 3) := by decide +kernel
theorem dX11_placeToLook_15 : decode cX11_placeToLook 15 = .ok (.aload_n 0, 1) := by decide +kernel
theorem dX11_placeToLook_16 : decode cX11_placeToLook 16 = .ok (.iload 5, 2) := by decide +kernel
theorem dX11_placeToLook_18 : decode cX11_placeToLook 18 = .ok (.iload_n 1, 1) := by decide +kernel
theorem dX11_placeToLook_19 : decode cX11_placeToLook 19 = .ok (.invokevirtual 420, 3) := by decide +kernel
theorem dX11_placeToLook_22 : decode cX11_placeToLook 22 = .ok (.istore 6, 2) := by decide +kernel
theorem dX11_placeToLook_24 : decode cX11_placeToLook 24 = .ok (.iload 6, 2) := by decide +kernel
theorem dX11_placeToLook_26 : decode cX11_placeToLook 26 = .ok (.iload 4, 2) := by decide +kernel
theorem dX11_placeToLook_28 : decode cX11_placeToLook 28 = .ok (.if_icmp .ge 10, 3) := by decide +kernel
theorem dX11_placeToLook_31 : decode cX11_placeToLook 31 = .ok (.iload 5, 2) := by decide +kernel
theorem dX11_placeToLook_33 : decode cX11_placeToLook 33 = .ok (.istore_n 3, 1) := by decide +kernel
theorem dX11_placeToLook_34 : decode cX11_placeToLook 34 = .ok (.iload 6, 2) := by decide +kernel
theorem dX11_placeToLook_36 : decode cX11_placeToLook 36 = .ok (.istore 4, 2) := by decide +kernel
theorem dX11_placeToLook_38 : decode cX11_placeToLook 38 = .ok (.iinc 5 1, 3) := by decide +kernel
theorem dX11_placeToLook_41 : decode cX11_placeToLook 41 = .ok (.goto (-32), 3) := by decide +kernel
theorem dX11_placeToLook_44 : decode cX11_placeToLook 44 = .ok (.iload_n 3, 1) := by decide +kernel
theorem dX11_placeToLook_45 : decode cX11_placeToLook 45 = .ok (.ireturn, 1) := by decide +kernel
set_option maxRecDepth 20000 in
theorem ggX11_mostAlikeAt_X11_hasBit : GoodIn wsX11_mostAlikeAt wsX11_hasBit := goodIn_r _ [9] rfl rfl
set_option maxRecDepth 20000 in
theorem gX11_mostAlikeAt_X11_hasBit : GoodIn wsX11_mostAlikeAt (va_wsS RX11 423 yX11_hasBit wsX11_hasBit) := goodIn_app (goodIn_r _ [6, 7, 8] rfl rfl) ggX11_mostAlikeAt_X11_hasBit
set_option maxRecDepth 20000 in
theorem ggX11_mostAlikeAt_X11_letterAt : GoodIn wsX11_mostAlikeAt wsX11_letterAt := goodIn_r _ [12] rfl rfl
set_option maxRecDepth 20000 in
theorem gX11_mostAlikeAt_X11_letterAt : GoodIn wsX11_mostAlikeAt (va_wsS RX11 416 yX11_letterAt wsX11_letterAt) := goodIn_app (goodIn_r _ [10, 11, 8] rfl rfl) ggX11_mostAlikeAt_X11_letterAt
theorem dX11_mostAlikeAt_0 : decode cX11_mostAlikeAt 0 = .ok (.aload_n 0, 1) := by decide +kernel
theorem dX11_mostAlikeAt_1 : decode cX11_mostAlikeAt 1 = .ok (.getfield 23, 3) := by decide +kernel
theorem dX11_mostAlikeAt_4 : decode cX11_mostAlikeAt 4 = .ok (.getfield 143, 3) := by decide +kernel
theorem dX11_mostAlikeAt_7 : decode cX11_mostAlikeAt 7 = .ok (.astore_n 3, 1) := by decide +kernel
theorem dX11_mostAlikeAt_8 : decode cX11_mostAlikeAt 8 = .ok (.iconst 0, 1) := by decide +kernel
theorem dX11_mostAlikeAt_9 : decode cX11_mostAlikeAt 9 = .ok (.istore 4, 2) := by decide +kernel
theorem dX11_mostAlikeAt_11 : decode cX11_mostAlikeAt 11 = .ok (.iconst 0, 1) := by decide +kernel
theorem dX11_mostAlikeAt_12 : decode cX11_mostAlikeAt 12 = .ok (.istore 5, 2) := by decide +kernel
theorem dX11_mostAlikeAt_14 : decode cX11_mostAlikeAt 14 = .ok (.iload 5, 2) := by decide +kernel
theorem dX11_mostAlikeAt_16 : decode cX11_mostAlikeAt 16 = .ok (.aload_n 3, 1) := by decide +kernel
theorem dX11_mostAlikeAt_17 : decode cX11_mostAlikeAt 17 = .ok (.getfield 298, 3) := by decide +kernel
theorem dX11_mostAlikeAt_20 : decode cX11_mostAlikeAt 20 = .ok (.if_icmp .ge 85, 3) := by decide +kernel
theorem dX11_mostAlikeAt_23 : decode cX11_mostAlikeAt 23 = .ok (.iconst 0, 1) := by decide +kernel
theorem dX11_mostAlikeAt_24 : decode cX11_mostAlikeAt 24 = .ok (.istore 6, 2) := by decide +kernel
theorem dX11_mostAlikeAt_26 : decode cX11_mostAlikeAt 26 = .ok (.iconst 0, 1) := by decide +kernel
theorem dX11_mostAlikeAt_27 : decode cX11_mostAlikeAt 27 = .ok (.istore 7, 2) := by decide +kernel
theorem dX11_mostAlikeAt_29 : decode cX11_mostAlikeAt 29 = .ok (.iload 7, 2) := by decide +kernel
theorem dX11_mostAlikeAt_31 : decode cX11_mostAlikeAt 31 = .ok (.aload_n 3, 1) := by decide +kernel
theorem dX11_mostAlikeAt_32 : decode cX11_mostAlikeAt 32 = .ok (.getfield 298, 3) := by decide +kernel
theorem dX11_mostAlikeAt_35 : decode cX11_mostAlikeAt 35 = .ok (.if_icmp .ge 55, 3) := by decide +kernel
theorem dX11_mostAlikeAt_38 : decode cX11_mostAlikeAt 38 = .ok (.iload_n 2, 1) := by decide +kernel
theorem dX11_mostAlikeAt_39 : decode cX11_mostAlikeAt 39 = .ok (.iload 5, 2) := by decide +kernel
theorem dX11_mostAlikeAt_41 : decode cX11_mostAlikeAt 41 = .ok (.invokestatic 423, 3) := by decide +kernel
theorem dX11_mostAlikeAt_44 : decode cX11_mostAlikeAt 44 = .ok (.ifCond .eq 46, 3) := by decide +kernel
theorem dX11_mostAlikeAt_47 : decode cX11_mostAlikeAt 47 = .ok (.iload_n 2, 1) := by decide +kernel
theorem dX11_mostAlikeAt_48 : decode cX11_mostAlikeAt 48 = .ok (.iload 7, 2) := by decide +kernel
theorem dX11_mostAlikeAt_50 : decode cX11_mostAlikeAt 50 = .ok (.invokestatic 423, 3) := by decide +kernel
theorem dX11_mostAlikeAt_53 : decode cX11_mostAlikeAt 53 = .ok (.ifCond .eq 31, 3) := by decide +kernel
theorem dX11_mostAlikeAt_56 : decode cX11_mostAlikeAt 56 = .ok (.aload_n 3, 1) := by decide +kernel
theorem dX11_mostAlikeAt_57 : decode cX11_mostAlikeAt 57 = .ok (.getfield 301, 3) := by decide +kernel
theorem dX11_mostAlikeAt_60 : decode cX11_mostAlikeAt 60 = .ok (.iload 5, 2) := by decide +kernel
theorem dX11_mostAlikeAt_62 : decode cX11_mostAlikeAt 62 = .ok (.laload, 1) := by decide +kernel
theorem dX11_mostAlikeAt_63 : decode cX11_mostAlikeAt 63 = .ok (.iload_n 1, 1) := by decide +kernel
theorem dX11_mostAlikeAt_64 : decode cX11_mostAlikeAt 64 = .ok (.invokestatic 416, 3) := by decide +kernel
theorem dX11_mostAlikeAt_67 : decode cX11_mostAlikeAt 67 = .ok (.aload_n 3, 1) := by decide +kernel
theorem dX11_mostAlikeAt_68 : decode cX11_mostAlikeAt 68 = .ok (.getfield 301, 3) := by decide +kernel
theorem dX11_mostAlikeAt_71 : decode cX11_mostAlikeAt 71 = .ok (.iload 7, 2) := by decide +kernel
theorem dX11_mostAlikeAt_73 : decode cX11_mostAlikeAt 73 = .ok (.laload, 1) := by decide +kernel
theorem dX11_mostAlikeAt_74 : decode cX11_mostAlikeAt 74 = .ok (.iload_n 1, 1) := by decide +kernel
theorem dX11_mostAlikeAt_75 : decode cX11_mostAlikeAt 75 = .ok (.invokestatic 416, 3) := by decide +kernel
theorem dX11_mostAlikeAt_78 : decode cX11_mostAlikeAt 78 = .ok (.if_icmp .ne 6, 3) := by decide +kernel
theorem dX11_mostAlikeAt_81 : decode cX11_mostAlikeAt 81 = .ok (.iinc 6 1, 3) := by decide +kernel
theorem dX11_mostAlikeAt_84 : decode cX11_mostAlikeAt 84 = .ok (.iinc 7 1, 3) := by decide +kernel
theorem dX11_mostAlikeAt_87 : decode cX11_mostAlikeAt 87 = .ok (.goto (-58), 3) := by decide +kernel
theorem dX11_mostAlikeAt_90 : decode cX11_mostAlikeAt 90 = .ok (.iload 4, 2) := by decide +kernel
theorem dX11_mostAlikeAt_92 : decode cX11_mostAlikeAt 92 = .ok (.iload 6, 2) := by decide +kernel
theorem dX11_mostAlikeAt_94 : decode cX11_mostAlikeAt 94 = .ok (.invokestatic 426, 3) := by decide +kernel
theorem dX11_mostAlikeAt_97 : decode cX11_mostAlikeAt 97 = .ok (.istore 4, 2) := by decide +kernel
theorem dX11_mostAlikeAt_99 : decode cX11_mostAlikeAt 99 = .ok (.iinc 5 1, 3) := by decide +kernel
theorem dX11_mostAlikeAt_102 : decode cX11_mostAlikeAt 102 = .ok (.goto (-88), 3) := by decide +kernel
theorem dX11_mostAlikeAt_105 : decode cX11_mostAlikeAt 105 = .ok (.iload 4, 2) := by decide +kernel
theorem dX11_mostAlikeAt_107 : decode cX11_mostAlikeAt 107 = .ok (.ireturn, 1) := by decide +kernel
set_option maxRecDepth 20000 in
theorem ggX11_appendName_X11_letterAt : GoodIn wsX11_appendName wsX11_letterAt := goodIn_r _ [5] rfl rfl
set_option maxRecDepth 20000 in
theorem gX11_appendName_X11_letterAt : GoodIn wsX11_appendName (va_wsS RX11 416 yX11_letterAt wsX11_letterAt) := goodIn_app (goodIn_r _ [2, 3, 4] rfl rfl) ggX11_appendName_X11_letterAt
set_option maxRecDepth 20000 in
theorem ggX11_appendName_J4_append_cf468 : GoodIn wsX11_appendName wsJ4_append_cf468 := goodIn_r _ [10, 11, 12, 13, 14, 15, 16, 17, 18, 19, 20, 21, 22, 23, 24, 25, 26, 27, 28, 29, 30, 31, 32, 33, 34, 35, 36, 37, 38, 39, 40, 41, 42, 43, 44, 45, 46, 47, 48, 49, 50, 51, 52, 53, 54, 55, 56, 57, 58, 59, 60, 61, 62, 63, 64, 65, 66, 67, 68, 69, 70, 71, 72, 73, 74, 75, 76, 77, 78, 79, 80, 81, 82, 83, 84, 85, 86, 87, 88, 89, 90, 91, 92, 93, 94, 95, 96, 97, 98, 99, 100, 101, 102, 103, 104, 105, 106, 107, 108, 109, 110, 111, 112, 113, 114, 115, 116, 117, 118, 119, 120, 121, 122, 142, 143, 144, 145] rfl rfl
set_option maxRecDepth 20000 in
theorem gX11_appendName_J4_append_cf468 : GoodIn wsX11_appendName (wsV RX11 429 RJ4 yJ4_append_cf468 wsJ4_append_cf468) := goodIn_app (goodIn_r _ [6, 7, 8, 9] rfl rfl) ggX11_appendName_J4_append_cf468
theorem dX11_appendName_0 : decode cX11_appendName 0 = .ok (.iconst 0, 1) := by decide +kernel
theorem dX11_appendName_1 : decode cX11_appendName 1 = .ok (.istore_n 3, 1) := by decide +kernel
theorem dX11_appendName_2 : decode cX11_appendName 2 = .ok (.iload_n 3, 1) := by decide +kernel
theorem dX11_appendName_3 : decode cX11_appendName 3 = .ok (.bipush 7, 2) := by decide +kernel
theorem dX11_appendName_5 : decode cX11_appendName 5 = .ok (.if_icmp .ge 31, 3) := by decide +kernel
theorem dX11_appendName_8 : decode cX11_appendName 8 = .ok (.lload_n 1, 1) := by decide +kernel
theorem dX11_appendName_9 : decode cX11_appendName 9 = .ok (.iload_n 3, 1) := by decide +kernel
theorem dX11_appendName_10 : decode cX11_appendName 10 = .ok (.invokestatic 416, 3) := by decide +kernel
theorem dX11_appendName_13 : decode cX11_appendName 13 = .ok (.ifCond .eq 23, 3) := by decide +kernel
theorem dX11_appendName_16 : decode cX11_appendName 16 = .ok (.aload_n 0, 1) := by decide +kernel
theorem dX11_appendName_17 : decode cX11_appendName 17 = .ok (.getfield 101, 3) := by decide +kernel
theorem dX11_appendName_20 : decode cX11_appendName 20 = .ok (.lload_n 1, 1) := by decide +kernel
theorem dX11_appendName_21 : decode cX11_appendName 21 = .ok (.iload_n 3, 1) := by decide +kernel
theorem dX11_appendName_22 : decode cX11_appendName 22 = .ok (.invokestatic 416, 3) := by decide +kernel
theorem dX11_appendName_25 : decode cX11_appendName 25 = .ok (.i2c, 1) := by decide +kernel
theorem dX11_appendName_26 : decode cX11_appendName 26 = .ok (.invokevirtual 429, 3) := by decide +kernel
theorem dX11_appendName_29 : decode cX11_appendName 29 = .ok (.pop, 1) := by decide +kernel
theorem dX11_appendName_30 : decode cX11_appendName 30 = .ok (.iinc 3 1, 3) := by decide +kernel
theorem dX11_appendName_33 : decode cX11_appendName 33 = .ok (.goto (-31), 3) := by decide +kernel
theorem dX11_appendName_36 : decode cX11_appendName 36 = .ok (.return_, 1) := by decide +kernel
theorem dX11_isDays_0 : decode cX11_isDays 0 = .ok (.iload_n 0, 1) := by decide +kernel
theorem dX11_isDays_1 : decode cX11_isDays 1 = .ok (.iconst 1, 1) := by decide +kernel
theorem dX11_isDays_2 : decode cX11_isDays 2 = .ok (.if_icmp .lt 13, 3) := by decide +kernel
theorem dX11_isDays_5 : decode cX11_isDays 5 = .ok (.iload_n 0, 1) := by decide +kernel
theorem dX11_isDays_6 : decode cX11_isDays 6 = .ok (.bipush 60, 2) := by decide +kernel
theorem dX11_isDays_8 : decode cX11_isDays 8 = .ok (.if_icmp .gt 7, 3) := by decide +kernel
theorem dX11_isDays_11 : decode cX11_isDays 11 = .ok (.iconst 1, 1) := by decide +kernel
theorem dX11_isDays_12 : decode cX11_isDays 12 = .ok (.goto 4, 3) := by decide +kernel
theorem dX11_isDays_15 : decode cX11_isDays 15 = .ok (.iconst 0, 1) := by decide +kernel
theorem dX11_isDays_16 : decode cX11_isDays 16 = .ok (.ireturn, 1) := by decide +kernel
theorem dX11_isLetter_0 : decode cX11_isLetter 0 = .ok (.iload_n 0, 1) := by decide +kernel
theorem dX11_isLetter_1 : decode cX11_isLetter 1 = .ok (.bipush 97, 2) := by decide +kernel
theorem dX11_isLetter_3 : decode cX11_isLetter 3 = .ok (.if_icmp .lt 13, 3) := by decide +kernel
theorem dX11_isLetter_6 : decode cX11_isLetter 6 = .ok (.iload_n 0, 1) := by decide +kernel
theorem dX11_isLetter_7 : decode cX11_isLetter 7 = .ok (.bipush 122, 2) := by decide +kernel
theorem dX11_isLetter_9 : decode cX11_isLetter 9 = .ok (.if_icmp .gt 7, 3) := by decide +kernel
theorem dX11_isLetter_12 : decode cX11_isLetter 12 = .ok (.iconst 1, 1) := by decide +kernel
theorem dX11_isLetter_13 : decode cX11_isLetter 13 = .ok (.goto 4, 3) := by decide +kernel
theorem dX11_isLetter_16 : decode cX11_isLetter 16 = .ok (.iconst 0, 1) := by decide +kernel
theorem dX11_isLetter_17 : decode cX11_isLetter 17 = .ok (.ireturn, 1) := by decide +kernel
theorem dX11_hasBit_0 : decode cX11_hasBit 0 = .ok (.iload_n 0, 1) := by decide +kernel
theorem dX11_hasBit_1 : decode cX11_hasBit 1 = .ok (.iload_n 1, 1) := by decide +kernel
theorem dX11_hasBit_2 : decode cX11_hasBit 2 = .ok (.iushr, 1) := by decide +kernel
theorem dX11_hasBit_3 : decode cX11_hasBit 3 = .ok (.iconst 1, 1) := by decide +kernel
theorem dX11_hasBit_4 : decode cX11_hasBit 4 = .ok (.iand, 1) := by decide +kernel
theorem dX11_hasBit_5 : decode cX11_hasBit 5 = .ok (.iconst 1, 1) := by decide +kernel
theorem dX11_hasBit_6 : decode cX11_hasBit 6 = .ok (.if_icmp .ne 7, 3) := by decide +kernel
theorem dX11_hasBit_9 : decode cX11_hasBit 9 = .ok (.iconst 1, 1) := by decide +kernel
theorem dX11_hasBit_10 : decode cX11_hasBit 10 = .ok (.goto 4, 3) := by decide +kernel
theorem dX11_hasBit_13 : decode cX11_hasBit 13 = .ok (.iconst 0, 1) := by decide +kernel
theorem dX11_hasBit_14 : decode cX11_hasBit 14 = .ok (.ireturn, 1) := by decide +kernel
set_option maxRecDepth 20000 in
theorem ggX11_bitAt_X11_hasBit : GoodIn wsX11_bitAt wsX11_hasBit := goodIn_r _ [4] rfl rfl
set_option maxRecDepth 20000 in
theorem gX11_bitAt_X11_hasBit : GoodIn wsX11_bitAt (va_wsS RX11 423 yX11_hasBit wsX11_hasBit) := goodIn_app (goodIn_r _ [1, 2, 3] rfl rfl) ggX11_bitAt_X11_hasBit
theorem dX11_bitAt_0 : decode cX11_bitAt 0 = .ok (.iload_n 1, 1) := by decide +kernel
theorem dX11_bitAt_1 : decode cX11_bitAt 1 = .ok (.istore_n 2, 1) := by decide +kernel
theorem dX11_bitAt_2 : decode cX11_bitAt 2 = .ok (.iconst 0, 1) := by decide +kernel
theorem dX11_bitAt_3 : decode cX11_bitAt 3 = .ok (.istore_n 3, 1) := by decide +kernel
theorem dX11_bitAt_4 : decode cX11_bitAt 4 = .ok (.iload_n 3, 1) := by decide +kernel
theorem dX11_bitAt_5 : decode cX11_bitAt 5 = .ok (.bipush 6, 2) := by decide +kernel
theorem dX11_bitAt_7 : decode cX11_bitAt 7 = .ok (.if_icmp .ge 26, 3) := by decide +kernel
theorem dX11_bitAt_10 : decode cX11_bitAt 10 = .ok (.iload_n 0, 1) := by decide +kernel
theorem dX11_bitAt_11 : decode cX11_bitAt 11 = .ok (.iload_n 3, 1) := by decide +kernel
theorem dX11_bitAt_12 : decode cX11_bitAt 12 = .ok (.invokestatic 423, 3) := by decide +kernel
theorem dX11_bitAt_15 : decode cX11_bitAt 15 = .ok (.ifCond .eq 12, 3) := by decide +kernel
theorem dX11_bitAt_18 : decode cX11_bitAt 18 = .ok (.iload_n 2, 1) := by decide +kernel
theorem dX11_bitAt_19 : decode cX11_bitAt 19 = .ok (.ifCond .ne 5, 3) := by decide +kernel
theorem dX11_bitAt_22 : decode cX11_bitAt 22 = .ok (.iload_n 3, 1) := by decide +kernel
theorem dX11_bitAt_23 : decode cX11_bitAt 23 = .ok (.ireturn, 1) := by decide +kernel
theorem dX11_bitAt_24 : decode cX11_bitAt 24 = .ok (.iinc 2 (-1), 3) := by decide +kernel
theorem dX11_bitAt_27 : decode cX11_bitAt 27 = .ok (.iinc 3 1, 3) := by decide +kernel
theorem dX11_bitAt_30 : decode cX11_bitAt 30 = .ok (.goto (-26), 3) := by decide +kernel
theorem dX11_bitAt_33 : decode cX11_bitAt 33 = .ok (.iconst (-1), 1) := by decide +kernel
theorem dX11_bitAt_34 : decode cX11_bitAt 34 = .ok (.ireturn, 1) := by decide +kernel
theorem dX11_sumOf_0 : decode cX11_sumOf 0 = .ok (.iconst 0, 1) := by decide +kernel
theorem dX11_sumOf_1 : decode cX11_sumOf 1 = .ok (.istore_n 1, 1) := by decide +kernel
theorem dX11_sumOf_2 : decode cX11_sumOf 2 = .ok (.iconst 0, 1) := by decide +kernel
theorem dX11_sumOf_3 : decode cX11_sumOf 3 = .ok (.istore_n 2, 1) := by decide +kernel
theorem dX11_sumOf_4 : decode cX11_sumOf 4 = .ok (.iload_n 2, 1) := by decide +kernel
theorem dX11_sumOf_5 : decode cX11_sumOf 5 = .ok (.aload_n 0, 1) := by decide +kernel
theorem dX11_sumOf_6 : decode cX11_sumOf 6 = .ok (.arraylength, 1) := by decide +kernel
theorem dX11_sumOf_7 : decode cX11_sumOf 7 = .ok (.if_icmp .ge 15, 3) := by decide +kernel
theorem dX11_sumOf_10 : decode cX11_sumOf 10 = .ok (.iload_n 1, 1) := by decide +kernel
theorem dX11_sumOf_11 : decode cX11_sumOf 11 = .ok (.aload_n 0, 1) := by decide +kernel
theorem dX11_sumOf_12 : decode cX11_sumOf 12 = .ok (.iload_n 2, 1) := by decide +kernel
theorem dX11_sumOf_13 : decode cX11_sumOf 13 = .ok (.iaload, 1) := by decide +kernel
theorem dX11_sumOf_14 : decode cX11_sumOf 14 = .ok (.iadd, 1) := by decide +kernel
theorem dX11_sumOf_15 : decode cX11_sumOf 15 = .ok (.istore_n 1, 1) := by decide +kernel
theorem dX11_sumOf_16 : decode cX11_sumOf 16 = .ok (.iinc 2 1, 3) := by decide +kernel
theorem dX11_sumOf_19 : decode cX11_sumOf 19 = .ok (.goto (-15), 3) := by decide +kernel
theorem dX11_sumOf_22 : decode cX11_sumOf 22 = .ok (.iload_n 1, 1) := by decide +kernel
theorem dX11_sumOf_23 : decode cX11_sumOf 23 = .ok (.ireturn, 1) := by decide +kernel
theorem dX11_commonDivisor_0 : decode cX11_commonDivisor 0 = .ok (.iload_n 0, 1) := by decide +kernel
theorem dX11_commonDivisor_1 : decode cX11_commonDivisor 1 = .ok (.istore_n 2, 1) := by decide +kernel
theorem dX11_commonDivisor_2 : decode cX11_commonDivisor 2 = .ok (.iload_n 1, 1) := by decide +kernel
theorem dX11_commonDivisor_3 : decode cX11_commonDivisor 3 = .ok (.istore_n 3, 1) := by decide +kernel
theorem dX11_commonDivisor_4 : decode cX11_commonDivisor 4 = .ok (.iconst 0, 1) := by decide +kernel
theorem dX11_commonDivisor_5 : decode cX11_commonDivisor 5 = .ok (.istore 4, 2) := by decide +kernel
theorem dX11_commonDivisor_7 : decode cX11_commonDivisor 7 = .ok (.iload 4, 2) := by decide +kernel
theorem dX11_commonDivisor_9 : decode cX11_commonDivisor 9 = .ok (.bipush 100, 2) := by decide +kernel
theorem dX11_commonDivisor_11 : decode cX11_commonDivisor 11 = .ok (.if_icmp .ge 23, 3) := by decide +kernel
theorem dX11_commonDivisor_14 : decode cX11_commonDivisor 14 = .ok (.iload_n 3, 1) := by decide +kernel
theorem dX11_commonDivisor_15 : decode cX11_commonDivisor 15 = .ok (.ifCond .eq 19, 3) := by decide +kernel
theorem dX11_commonDivisor_18 : decode cX11_commonDivisor 18 = .ok (.iload_n 2, 1) := by decide +kernel
theorem dX11_commonDivisor_19 : decode cX11_commonDivisor 19 = .ok (.iload_n 3, 1) := by decide +kernel
theorem dX11_commonDivisor_20 : decode cX11_commonDivisor 20 = .ok (.irem, 1) := by decide +kernel
theorem dX11_commonDivisor_21 : decode cX11_commonDivisor 21 = .ok (.istore 5, 2) := by decide +kernel
theorem dX11_commonDivisor_23 : decode cX11_commonDivisor 23 = .ok (.iload_n 3, 1) := by decide +kernel
theorem dX11_commonDivisor_24 : decode cX11_commonDivisor 24 = .ok (.istore_n 2, 1) := by decide +kernel
theorem dX11_commonDivisor_25 : decode cX11_commonDivisor 25 = .ok (.iload 5, 2) := by decide +kernel
theorem dX11_commonDivisor_27 : decode cX11_commonDivisor 27 = .ok (.istore_n 3, 1) := by decide +kernel
theorem dX11_commonDivisor_28 : decode cX11_commonDivisor 28 = .ok (.iinc 4 1, 3) := by decide +kernel
theorem dX11_commonDivisor_31 : decode cX11_commonDivisor 31 = .ok (.goto (-24), 3) := by decide +kernel
theorem dX11_commonDivisor_34 : decode cX11_commonDivisor 34 = .ok (.iconst 1, 1) := by decide +kernel
theorem dX11_commonDivisor_35 : decode cX11_commonDivisor 35 = .ok (.iload_n 2, 1) := by decide +kernel
theorem dX11_commonDivisor_36 : decode cX11_commonDivisor 36 = .ok (.invokestatic 426, 3) := by decide +kernel
theorem dX11_commonDivisor_39 : decode cX11_commonDivisor 39 = .ok (.ireturn, 1) := by decide +kernel
theorem dX11_letterAt_0 : decode cX11_letterAt 0 = .ok (.iload_n 2, 1) := by decide +kernel
theorem dX11_letterAt_1 : decode cX11_letterAt 1 = .ok (.ifCond .lt 9, 3) := by decide +kernel
theorem dX11_letterAt_4 : decode cX11_letterAt 4 = .ok (.iload_n 2, 1) := by decide +kernel
theorem dX11_letterAt_5 : decode cX11_letterAt 5 = .ok (.bipush 7, 2) := by decide +kernel
theorem dX11_letterAt_7 : decode cX11_letterAt 7 = .ok (.if_icmp .lt 5, 3) := by decide +kernel
theorem dX11_letterAt_10 : decode cX11_letterAt 10 = .ok (.iconst 0, 1) := by decide +kernel
theorem dX11_letterAt_11 : decode cX11_letterAt 11 = .ok (.ireturn, 1) := by decide +kernel
theorem dX11_letterAt_12 : decode cX11_letterAt 12 = .ok (.lload_n 0, 1) := by decide +kernel
theorem dX11_letterAt_13 : decode cX11_letterAt 13 = .ok (.bipush 8, 2) := by decide +kernel
theorem dX11_letterAt_15 : decode cX11_letterAt 15 = .ok (.bipush 6, 2) := by decide +kernel
theorem dX11_letterAt_17 : decode cX11_letterAt 17 = .ok (.iload_n 2, 1) := by decide +kernel
theorem dX11_letterAt_18 : decode cX11_letterAt 18 = .ok (.isub, 1) := by decide +kernel
theorem dX11_letterAt_19 : decode cX11_letterAt 19 = .ok (.imul, 1) := by decide +kernel
theorem dX11_letterAt_20 : decode cX11_letterAt 20 = .ok (.lushr, 1) := by decide +kernel
theorem dX11_letterAt_21 : decode cX11_letterAt 21 = .ok (.l2i, 1) := by decide +kernel
theorem dX11_letterAt_22 : decode cX11_letterAt 22 = .ok (.sipush 255, 3) := by decide +kernel
theorem dX11_letterAt_25 : decode cX11_letterAt 25 = .ok (.iand, 1) := by decide +kernel
theorem dX11_letterAt_26 : decode cX11_letterAt 26 = .ok (.ireturn, 1) := by decide +kernel
theorem dX11_placeOf_0 : decode cX11_placeOf 0 = .ok (.iconst 0, 1) := by decide +kernel
theorem dX11_placeOf_1 : decode cX11_placeOf 1 = .ok (.istore 4, 2) := by decide +kernel
theorem dX11_placeOf_3 : decode cX11_placeOf 3 = .ok (.iload 4, 2) := by decide +kernel
theorem dX11_placeOf_5 : decode cX11_placeOf 5 = .ok (.iload_n 3, 1) := by decide +kernel
theorem dX11_placeOf_6 : decode cX11_placeOf 6 = .ok (.if_icmp .ge 28, 3) := by decide +kernel
theorem dX11_placeOf_9 : decode cX11_placeOf 9 = .ok (.iload 4, 2) := by decide +kernel
theorem dX11_placeOf_11 : decode cX11_placeOf 11 = .ok (.aload_n 2, 1) := by decide +kernel
theorem dX11_placeOf_12 : decode cX11_placeOf 12 = .ok (.arraylength, 1) := by decide +kernel
theorem dX11_placeOf_13 : decode cX11_placeOf 13 = .ok (.if_icmp .ge 21, 3) := by decide +kernel
theorem dX11_placeOf_16 : decode cX11_placeOf 16 = .ok (.aload_n 2, 1) := by decide +kernel
theorem dX11_placeOf_17 : decode cX11_placeOf 17 = .ok (.iload 4, 2) := by decide +kernel
theorem dX11_placeOf_19 : decode cX11_placeOf 19 = .ok (.laload, 1) := by decide +kernel
theorem dX11_placeOf_20 : decode cX11_placeOf 20 = .ok (.lload_n 0, 1) := by decide +kernel
theorem dX11_placeOf_21 : decode cX11_placeOf 21 = .ok (.lcmp, 1) := by decide +kernel
theorem dX11_placeOf_22 : decode cX11_placeOf 22 = .ok (.ifCond .ne 6, 3) := by decide +kernel
theorem dX11_placeOf_25 : decode cX11_placeOf 25 = .ok (.iload 4, 2) := by decide +kernel
theorem dX11_placeOf_27 : decode cX11_placeOf 27 = .ok (.ireturn, 1) := by decide +kernel
theorem dX11_placeOf_28 : decode cX11_placeOf 28 = .ok (.iinc 4 1, 3) := by decide +kernel
theorem dX11_placeOf_31 : decode cX11_placeOf 31 = .ok (.goto (-28), 3) := by decide +kernel
