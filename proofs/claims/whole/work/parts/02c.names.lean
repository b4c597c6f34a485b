set_option maxRecDepth 20000 in
theorem ggX9_init_X8_init : GoodIn wsX9_init wsX8_init := goodIn_r _ [43, 44, 2, 3, 45, 46, 47, 48, 49, 50, 6, 51, 52, 53, 54, 55, 56, 57, 58, 59, 60, 61, 141, 142, 143, 144, 145, 146] (by decide +kernel) (by decide +kernel)
set_option maxRecDepth 20000 in
theorem gX9_init_X8_init : GoodIn wsX9_init (wsX8_init) := ggX9_init_X8_init
set_option maxRecDepth 20000 in
theorem ggX9_init_X7_init : GoodIn wsX9_init wsX7_init := goodIn_r _ [63, 64, 2, 3, 65, 66, 157, 158, 159, 160, 161] (by decide +kernel) (by decide +kernel)
set_option maxRecDepth 20000 in
theorem gX9_init_X7_init_n18 : GoodIn wsX9_init (wsX7_init) := ggX9_init_X7_init
set_option maxRecDepth 20000 in
theorem ggX9_init_X5_init : GoodIn wsX9_init wsX5_init := goodIn_r _ [69, 70, 2, 3, 71, 5, 6, 72, 73, 74, 75, 76, 77, 42, 43, 44, 45, 46, 47, 48, 49, 50, 51, 52, 53, 54, 55, 56, 57, 58, 59, 60, 61, 141, 142, 143, 144, 145, 146, 162, 163, 164, 165, 166, 167, 168] (by decide +kernel) (by decide +kernel)
set_option maxRecDepth 20000 in
theorem gX9_init_X5_init : GoodIn wsX9_init (wsX5_init) := ggX9_init_X5_init
set_option maxRecDepth 20000 in
theorem ggX9_init_X3_init : GoodIn wsX9_init wsX3_init := goodIn_r _ [79, 80, 2, 3, 45, 81, 82, 83, 169, 170, 171, 172] (by decide +kernel) (by decide +kernel)
set_option maxRecDepth 20000 in
theorem gX9_init_X3_init_n34 : GoodIn wsX9_init (wsX3_init) := ggX9_init_X3_init
set_option maxRecDepth 20000 in
theorem ggX9_init_X0_init : GoodIn wsX9_init wsX0_init := goodIn_r _ [85, 86, 2, 3, 73, 87, 45, 88, 89, 173, 174, 175] (by decide +kernel) (by decide +kernel)
set_option maxRecDepth 20000 in
theorem gX9_init_X0_init_n41 : GoodIn wsX9_init (wsX0_init) := ggX9_init_X0_init
set_option maxRecDepth 20000 in
theorem ggX9_init_X2_init : GoodIn wsX9_init wsX2_init := goodIn_r _ [92, 93, 2, 3, 45, 94, 95, 96, 97, 98, 99, 100, 101, 102, 103, 104, 176, 177, 178, 179, 180, 181, 182, 183, 184, 185, 186, 187, 188] (by decide +kernel) (by decide +kernel)
set_option maxRecDepth 20000 in
theorem gX9_init_X2_init : GoodIn wsX9_init (wsX2_init) := ggX9_init_X2_init
set_option maxRecDepth 20000 in
theorem ggX9_init_X4_init : GoodIn wsX9_init wsX4_init := goodIn_r _ [107, 108, 2, 3, 73, 109, 95, 110, 45, 111, 112, 113, 114, 115, 30, 116, 117, 118, 119, 120, 121, 122, 123, 124, 125, 126, 127, 128, 189, 190, 191, 192, 141, 142, 143, 144, 145, 146] (by decide +kernel) (by decide +kernel)
set_option maxRecDepth 20000 in
theorem gX9_init_X4_init : GoodIn wsX9_init (wsX4_init) := ggX9_init_X4_init
set_option maxRecDepth 20000 in
theorem ggX9_init_X1_init : GoodIn wsX9_init wsX1_init := goodIn_r _ [131, 132, 2, 3, 45, 133, 134, 135, 193, 194, 195, 196] (by decide +kernel) (by decide +kernel)
set_option maxRecDepth 20000 in
theorem gX9_init_X1_init : GoodIn wsX9_init (wsX1_init) := ggX9_init_X1_init
set_option maxRecDepth 20000 in
theorem ggX9_init_X6_init : GoodIn wsX9_init wsX6_init := goodIn_r _ [137, 138, 2, 3, 45, 139, 140, 197, 198, 199] (by decide +kernel) (by decide +kernel)
set_option maxRecDepth 20000 in
theorem gX9_init_X6_init_n79 : GoodIn wsX9_init (wsX6_init) := ggX9_init_X6_init
theorem dX9_init_0 : decode cX9_init 0 = .ok (.aload_n 0, 1) := by decide +kernel
theorem dX9_init_1 : decode cX9_init 1 = .ok (.invokespecial 1, 3) := by decide +kernel
theorem dX9_init_4 : decode cX9_init 4 = .ok (.aload_n 0, 1) := by decide +kernel
theorem dX9_init_5 : decode cX9_init 5 = .ok (.new 7, 3) := by decide +kernel
theorem dX9_init_8 : decode cX9_init 8 = .ok (.dup, 1) := by decide +kernel
theorem dX9_init_9 : decode cX9_init 9 = .ok (.invokespecial 9, 3) := by decide +kernel
theorem dX9_init_12 : decode cX9_init 12 = .ok (.putfield 10, 3) := by decide +kernel
theorem dX9_init_15 : decode cX9_init 15 = .ok (.aload_n 0, 1) := by decide +kernel
theorem dX9_init_16 : decode cX9_init 16 = .ok (.new 16, 3) := by decide +kernel
theorem dX9_init_19 : decode cX9_init 19 = .ok (.dup, 1) := by decide +kernel
theorem dX9_init_20 : decode cX9_init 20 = .ok (.invokespecial 18, 3) := by decide +kernel
theorem dX9_init_23 : decode cX9_init 23 = .ok (.putfield 19, 3) := by decide +kernel
theorem dX9_init_26 : decode cX9_init 26 = .ok (.aload_n 0, 1) := by decide +kernel
theorem dX9_init_27 : decode cX9_init 27 = .ok (.new 23, 3) := by decide +kernel
theorem dX9_init_30 : decode cX9_init 30 = .ok (.dup, 1) := by decide +kernel
theorem dX9_init_31 : decode cX9_init 31 = .ok (.aload_n 0, 1) := by decide +kernel
theorem dX9_init_32 : decode cX9_init 32 = .ok (.getfield 19, 3) := by decide +kernel
theorem dX9_init_35 : decode cX9_init 35 = .ok (.invokespecial 25, 3) := by decide +kernel
theorem dX9_init_38 : decode cX9_init 38 = .ok (.putfield 28, 3) := by decide +kernel
theorem dX9_init_41 : decode cX9_init 41 = .ok (.aload_n 0, 1) := by decide +kernel
theorem dX9_init_42 : decode cX9_init 42 = .ok (.new 32, 3) := by decide +kernel
theorem dX9_init_45 : decode cX9_init 45 = .ok (.dup, 1) := by decide +kernel
theorem dX9_init_46 : decode cX9_init 46 = .ok (.invokespecial 34, 3) := by decide +kernel
theorem dX9_init_49 : decode cX9_init 49 = .ok (.putfield 35, 3) := by decide +kernel
theorem dX9_init_52 : decode cX9_init 52 = .ok (.aload_n 0, 1) := by decide +kernel
theorem dX9_init_53 : decode cX9_init 53 = .ok (.new 39, 3) := by decide +kernel
theorem dX9_init_56 : decode cX9_init 56 = .ok (.dup, 1) := by decide +kernel
theorem dX9_init_57 : decode cX9_init 57 = .ok (.invokespecial 41, 3) := by decide +kernel
theorem dX9_init_60 : decode cX9_init 60 = .ok (.putfield 42, 3) := by decide +kernel
theorem dX9_init_63 : decode cX9_init 63 = .ok (.aload_n 0, 1) := by decide +kernel
theorem dX9_init_64 : decode cX9_init 64 = .ok (.new 46, 3) := by decide +kernel
theorem dX9_init_67 : decode cX9_init 67 = .ok (.dup, 1) := by decide +kernel
theorem dX9_init_68 : decode cX9_init 68 = .ok (.aload_n 0, 1) := by decide +kernel
theorem dX9_init_69 : decode cX9_init 69 = .ok (.getfield 10, 3) := by decide +kernel
theorem dX9_init_72 : decode cX9_init 72 = .ok (.aload_n 0, 1) := by decide +kernel
theorem dX9_init_73 : decode cX9_init 73 = .ok (.getfield 35, 3) := by decide +kernel
theorem dX9_init_76 : decode cX9_init 76 = .ok (.aload_n 0, 1) := by decide +kernel
theorem dX9_init_77 : decode cX9_init 77 = .ok (.getfield 42, 3) := by decide +kernel
theorem dX9_init_80 : decode cX9_init 80 = .ok (.invokespecial 48, 3) := by decide +kernel
theorem dX9_init_83 : decode cX9_init 83 = .ok (.putfield 51, 3) := by decide +kernel
theorem dX9_init_86 : decode cX9_init 86 = .ok (.aload_n 0, 1) := by decide +kernel
theorem dX9_init_87 : decode cX9_init 87 = .ok (.new 55, 3) := by decide +kernel
theorem dX9_init_90 : decode cX9_init 90 = .ok (.dup, 1) := by decide +kernel
theorem dX9_init_91 : decode cX9_init 91 = .ok (.aload_n 0, 1) := by decide +kernel
theorem dX9_init_92 : decode cX9_init 92 = .ok (.getfield 10, 3) := by decide +kernel
theorem dX9_init_95 : decode cX9_init 95 = .ok (.invokespecial 57, 3) := by decide +kernel
theorem dX9_init_98 : decode cX9_init 98 = .ok (.putfield 60, 3) := by decide +kernel
theorem dX9_init_101 : decode cX9_init 101 = .ok (.aload_n 0, 1) := by decide +kernel
theorem dX9_init_102 : decode cX9_init 102 = .ok (.new 64, 3) := by decide +kernel
theorem dX9_init_105 : decode cX9_init 105 = .ok (.dup, 1) := by decide +kernel
theorem dX9_init_106 : decode cX9_init 106 = .ok (.aload_n 0, 1) := by decide +kernel
theorem dX9_init_107 : decode cX9_init 107 = .ok (.getfield 10, 3) := by decide +kernel
theorem dX9_init_110 : decode cX9_init 110 = .ok (.aload_n 0, 1) := by decide +kernel
theorem dX9_init_111 : decode cX9_init 111 = .ok (.getfield 35, 3) := by decide +kernel
theorem dX9_init_114 : decode cX9_init 114 = .ok (.invokespecial 66, 3) := by decide +kernel
theorem dX9_init_117 : decode cX9_init 117 = .ok (.putfield 69, 3) := by decide +kernel
theorem dX9_init_120 : decode cX9_init 120 = .ok (.aload_n 0, 1) := by decide +kernel
theorem dX9_init_121 : decode cX9_init 121 = .ok (.iconst 4, 1) := by decide +kernel
theorem dX9_init_122 : decode cX9_init 122 = .ok (.anewarray 73, 3) := by decide +kernel
theorem dX9_init_125 : decode cX9_init 125 = .ok (.putfield 75, 3) := by decide +kernel
theorem dX9_init_128 : decode cX9_init 128 = .ok (.iconst 0, 1) := by decide +kernel
theorem dX9_init_129 : decode cX9_init 129 = .ok (.istore_n 1, 1) := by decide +kernel
theorem dX9_init_130 : decode cX9_init 130 = .ok (.iload_n 1, 1) := by decide +kernel
theorem dX9_init_131 : decode cX9_init 131 = .ok (.iconst 4, 1) := by decide +kernel
theorem dX9_init_132 : decode cX9_init 132 = .ok (.if_icmp .ge 22, 3) := by decide +kernel
theorem dX9_init_135 : decode cX9_init 135 = .ok (.aload_n 0, 1) := by decide +kernel
theorem dX9_init_136 : decode cX9_init 136 = .ok (.getfield 75, 3) := by decide +kernel
theorem dX9_init_139 : decode cX9_init 139 = .ok (.iload_n 1, 1) := by decide +kernel
theorem dX9_init_140 : decode cX9_init 140 = .ok (.new 73, 3) := by decide +kernel
theorem dX9_init_143 : decode cX9_init 143 = .ok (.dup, 1) := by decide +kernel
theorem dX9_init_144 : decode cX9_init 144 = .ok (.invokespecial 79, 3) := by decide +kernel
theorem dX9_init_147 : decode cX9_init 147 = .ok (.aastore, 1) := by decide +kernel
theorem dX9_init_148 : decode cX9_init 148 = .ok (.iinc 1 1, 3) := by decide +kernel
theorem dX9_init_151 : decode cX9_init 151 = .ok (.goto (-21), 3) := by decide +kernel
theorem dX9_init_154 : decode cX9_init 154 = .ok (.aload_n 0, 1) := by decide +kernel
theorem dX9_init_155 : decode cX9_init 155 = .ok (.iconst 0, 1) := by decide +kernel
theorem dX9_init_156 : decode cX9_init 156 = .ok (.putfield 80, 3) := by decide +kernel
theorem dX9_init_159 : decode cX9_init 159 = .ok (.return_, 1) := by decide +kernel
set_option maxRecDepth 20000 in
theorem ggX9_feed_X7_put : GoodIn wsX9_feed wsX7_put := goodIn_r _ [7, 8, 9, 20, 21, 22, 23, 24] (by decide +kernel) (by decide +kernel)
set_option maxRecDepth 20000 in
theorem gX9_feed_X7_put : GoodIn wsX9_feed (wsV RX9 84 RX7 yX7_put wsX7_put) := goodIn_app (goodIn_of _ (by decide +kernel)) ggX9_feed_X7_put
theorem dX9_feed_0 : decode cX9_feed 0 = .ok (.aload_n 0, 1) := by decide +kernel
theorem dX9_feed_1 : decode cX9_feed 1 = .ok (.getfield 19, 3) := by decide +kernel
theorem dX9_feed_4 : decode cX9_feed 4 = .ok (.lload_n 1, 1) := by decide +kernel
theorem dX9_feed_5 : decode cX9_feed 5 = .ok (.invokevirtual 84, 3) := by decide +kernel
theorem dX9_feed_8 : decode cX9_feed 8 = .ok (.ifCond .eq 13, 3) := by decide +kernel
theorem dX9_feed_11 : decode cX9_feed 11 = .ok (.aload_n 0, 1) := by decide +kernel
theorem dX9_feed_12 : decode cX9_feed 12 = .ok (.getfield 19, 3) := by decide +kernel
theorem dX9_feed_15 : decode cX9_feed 15 = .ok (.getfield 88, 3) := by decide +kernel
theorem dX9_feed_18 : decode cX9_feed 18 = .ok (.goto 5, 3) := by decide +kernel
theorem dX9_feed_21 : decode cX9_feed 21 = .ok (.bipush (-3), 2) := by decide +kernel
theorem dX9_feed_23 : decode cX9_feed 23 = .ok (.ireturn, 1) := by decide +kernel
theorem dX9_end_0 : decode cX9_end 0 = .ok (.aload_n 0, 1) := by decide +kernel
theorem dX9_end_1 : decode cX9_end 1 = .ok (.getfield 19, 3) := by decide +kernel
theorem dX9_end_4 : decode cX9_end 4 = .ok (.getfield 88, 3) := by decide +kernel
theorem dX9_end_7 : decode cX9_end 7 = .ok (.istore_n 2, 1) := by decide +kernel
theorem dX9_end_8 : decode cX9_end 8 = .ok (.iload_n 1, 1) := by decide +kernel
theorem dX9_end_9 : decode cX9_end 9 = .ok (.ifCond .lt 8, 3) := by decide +kernel
theorem dX9_end_12 : decode cX9_end 12 = .ok (.iload_n 1, 1) := by decide +kernel
theorem dX9_end_13 : decode cX9_end 13 = .ok (.iload_n 2, 1) := by decide +kernel
theorem dX9_end_14 : decode cX9_end 14 = .ok (.if_icmp .le 5, 3) := by decide +kernel
theorem dX9_end_17 : decode cX9_end 17 = .ok (.iconst (-1), 1) := by decide +kernel
theorem dX9_end_18 : decode cX9_end 18 = .ok (.ireturn, 1) := by decide +kernel
theorem dX9_end_19 : decode cX9_end 19 = .ok (.aload_n 0, 1) := by decide +kernel
theorem dX9_end_20 : decode cX9_end 20 = .ok (.getfield 19, 3) := by decide +kernel
theorem dX9_end_23 : decode cX9_end 23 = .ok (.iload_n 1, 1) := by decide +kernel
theorem dX9_end_24 : decode cX9_end 24 = .ok (.putfield 88, 3) := by decide +kernel
theorem dX9_end_27 : decode cX9_end 27 = .ok (.iload_n 2, 1) := by decide +kernel
theorem dX9_end_28 : decode cX9_end 28 = .ok (.ireturn, 1) := by decide +kernel
set_option maxRecDepth 20000 in
theorem ggX9_text_X5_readTape : GoodIn wsX9_text wsX5_readTape := goodIn_r _ [15, 16, 17, 18, 19, 20, 21, 14, 22, 23, 24, 25, 26, 27, 28, 29, 30, 31, 32, 33, 34, 35, 36, 37, 38, 39, 40, 41, 42, 43, 44, 45, 46, 47, 48, 49, 50, 51, 52, 53, 54, 55, 56, 57, 58, 59, 60, 61, 62, 63, 64, 65, 66, 67, 68, 69, 70, 71, 72, 73, 74, 75, 76, 77, 78, 79, 80, 81, 82, 83, 84, 85, 86, 87, 88, 89, 90, 91, 92, 93, 94, 95, 96, 97, 98, 99, 100, 101, 102, 103, 104, 105, 106, 107, 108, 109, 110, 111, 112, 113, 114, 115, 116, 117, 118, 119, 120, 121, 122, 123, 124, 125, 126, 127, 128, 129, 130, 131, 132, 133, 134, 135, 136, 137, 138, 139, 140, 141, 142, 143, 144, 145, 146, 147, 148, 149, 150, 151, 152, 153, 215, 216, 217, 218, 219, 220, 221, 210, 211, 212, 213, 214, 222, 223, 224, 225, 226, 227] (by decide +kernel) (by decide +kernel)
set_option maxRecDepth 20000 in
theorem gX9_text_X5_readTape : GoodIn wsX9_text (wsV RX9 91 RX5 yX5_readTape wsX5_readTape) := goodIn_app (goodIn_of _ (by decide +kernel)) ggX9_text_X5_readTape
set_option maxRecDepth 20000 in
theorem ggX9_text_X8_take : GoodIn wsX9_text wsX8_take := goodIn_r _ [157, 33, 158, 159, 160, 161, 34, 162, 163, 164, 31, 165, 166, 167, 168, 169, 170, 171, 222, 223, 224, 225, 226, 227] (by decide +kernel) (by decide +kernel)
set_option maxRecDepth 20000 in
theorem gX9_text_X8_take : GoodIn wsX9_text (wsV RX9 103 RX8 yX8_take wsX8_take) := goodIn_app (goodIn_of _ (by decide +kernel)) ggX9_text_X8_take
set_option maxRecDepth 20000 in
theorem ggX9_text_X4_settle : GoodIn wsX9_text wsX4_settle := goodIn_r _ [176, 177, 178, 179, 180, 181, 182, 175, 183, 184, 185, 186, 187, 188, 189, 190, 191, 228, 229, 230, 231, 222, 223, 224, 225, 226, 227] (by decide +kernel) (by decide +kernel)
set_option maxRecDepth 20000 in
theorem gX9_text_X4_settle : GoodIn wsX9_text (wsV RX9 106 RX4 yX4_settle wsX4_settle) := goodIn_app (goodIn_of _ (by decide +kernel)) ggX9_text_X4_settle
set_option maxRecDepth 20000 in
theorem ggX9_text_X2_forget : GoodIn wsX9_text wsX2_forget := goodIn_r _ [196, 197, 198, 199, 232, 233, 234, 235, 236, 237, 238, 239, 240, 241, 242, 243, 244] (by decide +kernel) (by decide +kernel)
set_option maxRecDepth 20000 in
theorem gX9_text_X2_forget : GoodIn wsX9_text (wsV RX9 109 RX2 yX2_forget wsX2_forget) := goodIn_app (goodIn_of _ (by decide +kernel)) ggX9_text_X2_forget
theorem dX9_text_0 : decode cX9_text 0 = .ok (.aload_n 0, 1) := by decide +kernel
theorem dX9_text_1 : decode cX9_text 1 = .ok (.getfield 28, 3) := by decide +kernel
theorem dX9_text_4 : decode cX9_text 4 = .ok (.invokevirtual 91, 3) := by decide +kernel
theorem dX9_text_7 : decode cX9_text 7 = .ok (.aload_n 0, 1) := by decide +kernel
theorem dX9_text_8 : decode cX9_text 8 = .ok (.getfield 19, 3) := by decide +kernel
theorem dX9_text_11 : decode cX9_text 11 = .ok (.iconst 0, 1) := by decide +kernel
theorem dX9_text_12 : decode cX9_text 12 = .ok (.putfield 88, 3) := by decide +kernel
theorem dX9_text_15 : decode cX9_text 15 = .ok (.aload_n 0, 1) := by decide +kernel
theorem dX9_text_16 : decode cX9_text 16 = .ok (.getfield 28, 3) := by decide +kernel
theorem dX9_text_19 : decode cX9_text 19 = .ok (.getfield 94, 3) := by decide +kernel
theorem dX9_text_22 : decode cX9_text 22 = .ok (.ifCond .eq 14, 3) := by decide +kernel
theorem dX9_text_25 : decode cX9_text 25 = .ok (.bipush (-10), 2) := by decide +kernel
theorem dX9_text_27 : decode cX9_text 27 = .ok (.aload_n 0, 1) := by decide +kernel
theorem dX9_text_28 : decode cX9_text 28 = .ok (.getfield 28, 3) := by decide +kernel
theorem dX9_text_31 : decode cX9_text 31 = .ok (.getfield 97, 3) := by decide +kernel
theorem dX9_text_34 : decode cX9_text 34 = .ok (.isub, 1) := by decide +kernel
theorem dX9_text_35 : decode cX9_text 35 = .ok (.ireturn, 1) := by decide +kernel
theorem dX9_text_36 : decode cX9_text 36 = .ok (.aload_n 0, 1) := by decide +kernel
theorem dX9_text_37 : decode cX9_text 37 = .ok (.getfield 10, 3) := by decide +kernel
theorem dX9_text_40 : decode cX9_text 40 = .ok (.aload_n 0, 1) := by decide +kernel
theorem dX9_text_41 : decode cX9_text 41 = .ok (.getfield 28, 3) := by decide +kernel
theorem dX9_text_44 : decode cX9_text 44 = .ok (.getfield 100, 3) := by decide +kernel
theorem dX9_text_47 : decode cX9_text 47 = .ok (.invokevirtual 103, 3) := by decide +kernel
theorem dX9_text_50 : decode cX9_text 50 = .ok (.aload_n 0, 1) := by decide +kernel
theorem dX9_text_51 : decode cX9_text 51 = .ok (.getfield 60, 3) := by decide +kernel
theorem dX9_text_54 : decode cX9_text 54 = .ok (.invokevirtual 106, 3) := by decide +kernel
theorem dX9_text_57 : decode cX9_text 57 = .ok (.aload_n 0, 1) := by decide +kernel
theorem dX9_text_58 : decode cX9_text 58 = .ok (.getfield 51, 3) := by decide +kernel
theorem dX9_text_61 : decode cX9_text 61 = .ok (.invokevirtual 109, 3) := by decide +kernel
theorem dX9_text_64 : decode cX9_text 64 = .ok (.aload_n 0, 1) := by decide +kernel
theorem dX9_text_65 : decode cX9_text 65 = .ok (.getfield 28, 3) := by decide +kernel
theorem dX9_text_68 : decode cX9_text 68 = .ok (.getfield 112, 3) := by decide +kernel
theorem dX9_text_71 : decode cX9_text 71 = .ok (.ireturn, 1) := by decide +kernel
theorem dX9_fault_0 : decode cX9_fault 0 = .ok (.aload_n 0, 1) := by decide +kernel
theorem dX9_fault_1 : decode cX9_fault 1 = .ok (.getfield 28, 3) := by decide +kernel
theorem dX9_fault_4 : decode cX9_fault 4 = .ok (.getfield 94, 3) := by decide +kernel
theorem dX9_fault_7 : decode cX9_fault 7 = .ok (.ireturn, 1) := by decide +kernel
set_option maxRecDepth 20000 in
theorem ggX9_part_X9_isPart : GoodIn wsX9_part wsX9_isPart := goodIn_r _ [6] (by decide +kernel) (by decide +kernel)
set_option maxRecDepth 20000 in
theorem gX9_part_X9_isPart : GoodIn wsX9_part (va_wsS RX9 115 yX9_isPart wsX9_isPart) := goodIn_app (goodIn_of _ (by decide +kernel)) ggX9_part_X9_isPart
theorem dX9_part_0 : decode cX9_part 0 = .ok (.iload_n 1, 1) := by decide +kernel
theorem dX9_part_1 : decode cX9_part 1 = .ok (.invokestatic 115, 3) := by decide +kernel
theorem dX9_part_4 : decode cX9_part 4 = .ok (.ifCond .eq 28, 3) := by decide +kernel
theorem dX9_part_7 : decode cX9_part 7 = .ok (.iload_n 2, 1) := by decide +kernel
theorem dX9_part_8 : decode cX9_part 8 = .ok (.ifCond .lt 24, 3) := by decide +kernel
theorem dX9_part_11 : decode cX9_part 11 = .ok (.iload_n 2, 1) := by decide +kernel
theorem dX9_part_12 : decode cX9_part 12 = .ok (.iconst 2, 1) := by decide +kernel
theorem dX9_part_13 : decode cX9_part 13 = .ok (.if_icmp .gt 19, 3) := by decide +kernel
theorem dX9_part_16 : decode cX9_part 16 = .ok (.aload_n 0, 1) := by decide +kernel
theorem dX9_part_17 : decode cX9_part 17 = .ok (.getfield 10, 3) := by decide +kernel
theorem dX9_part_20 : decode cX9_part 20 = .ok (.getfield 119, 3) := by decide +kernel
theorem dX9_part_23 : decode cX9_part 23 = .ok (.iconst 4, 1) := by decide +kernel
theorem dX9_part_24 : decode cX9_part 24 = .ok (.iload_n 2, 1) := by decide +kernel
theorem dX9_part_25 : decode cX9_part 25 = .ok (.imul, 1) := by decide +kernel
theorem dX9_part_26 : decode cX9_part 26 = .ok (.iload_n 1, 1) := by decide +kernel
theorem dX9_part_27 : decode cX9_part 27 = .ok (.iadd, 1) := by decide +kernel
theorem dX9_part_28 : decode cX9_part 28 = .ok (.iaload, 1) := by decide +kernel
theorem dX9_part_29 : decode cX9_part 29 = .ok (.goto 4, 3) := by decide +kernel
theorem dX9_part_32 : decode cX9_part 32 = .ok (.iconst (-1), 1) := by decide +kernel
theorem dX9_part_33 : decode cX9_part 33 = .ok (.ireturn, 1) := by decide +kernel
theorem dX9_rule_0 : decode cX9_rule 0 = .ok (.iload_n 1, 1) := by decide +kernel
theorem dX9_rule_1 : decode cX9_rule 1 = .ok (.ifCond .lt 21, 3) := by decide +kernel
theorem dX9_rule_4 : decode cX9_rule 4 = .ok (.iload_n 1, 1) := by decide +kernel
theorem dX9_rule_5 : decode cX9_rule 5 = .ok (.bipush 6, 2) := by decide +kernel
theorem dX9_rule_7 : decode cX9_rule 7 = .ok (.if_icmp .gt 15, 3) := by decide +kernel
theorem dX9_rule_10 : decode cX9_rule 10 = .ok (.aload_n 0, 1) := by decide +kernel
theorem dX9_rule_11 : decode cX9_rule 11 = .ok (.getfield 10, 3) := by decide +kernel
theorem dX9_rule_14 : decode cX9_rule 14 = .ok (.getfield 123, 3) := by decide +kernel
theorem dX9_rule_17 : decode cX9_rule 17 = .ok (.iload_n 1, 1) := by decide +kernel
theorem dX9_rule_18 : decode cX9_rule 18 = .ok (.iaload, 1) := by decide +kernel
theorem dX9_rule_19 : decode cX9_rule 19 = .ok (.goto 4, 3) := by decide +kernel
theorem dX9_rule_22 : decode cX9_rule 22 = .ok (.iconst (-1), 1) := by decide +kernel
theorem dX9_rule_23 : decode cX9_rule 23 = .ok (.ireturn, 1) := by decide +kernel
set_option maxRecDepth 20000 in
theorem ggX9_told_X9_areHoles : GoodIn wsX9_told wsX9_areHoles := goodIn_r _ [6] (by decide +kernel) (by decide +kernel)
set_option maxRecDepth 20000 in
theorem gX9_told_X9_areHoles : GoodIn wsX9_told (va_wsS RX9 126 yX9_areHoles wsX9_areHoles) := goodIn_app (goodIn_of _ (by decide +kernel)) ggX9_told_X9_areHoles
set_option maxRecDepth 20000 in
theorem ggX9_told_X3_sorties : GoodIn wsX9_told wsX3_sorties := goodIn_r _ [11, 12, 51, 52, 53, 54] (by decide +kernel) (by decide +kernel)
set_option maxRecDepth 20000 in
theorem gX9_told_X3_sorties : GoodIn wsX9_told (wsV RX9 129 RX3 yX3_sorties wsX3_sorties) := goodIn_app (goodIn_of _ (by decide +kernel)) ggX9_told_X3_sorties
set_option maxRecDepth 20000 in
theorem ggX9_told_X3_beginAct : GoodIn wsX9_told wsX3_beginAct := goodIn_r _ [16, 17, 18, 19, 20, 21, 22, 23, 51, 52, 53, 54] (by decide +kernel) (by decide +kernel)
set_option maxRecDepth 20000 in
theorem gX9_told_X3_beginAct : GoodIn wsX9_told (wsV RX9 133 RX3 yX3_beginAct wsX3_beginAct) := goodIn_app (goodIn_of _ (by decide +kernel)) ggX9_told_X3_beginAct
set_option maxRecDepth 20000 in
theorem ggX9_told_X3_add : GoodIn wsX9_told wsX3_add := goodIn_r _ [27, 12, 23, 17, 51, 52, 53, 54] (by decide +kernel) (by decide +kernel)
set_option maxRecDepth 20000 in
theorem gX9_told_X3_add : GoodIn wsX9_told (wsV RX9 136 RX3 yX3_add wsX3_add) := goodIn_app (goodIn_of _ (by decide +kernel)) ggX9_told_X3_add
set_option maxRecDepth 20000 in
theorem ggX9_told_X3_addHomes : GoodIn wsX9_told wsX3_addHomes := goodIn_r _ [31, 32, 25, 26, 10, 27, 12, 23, 17, 51, 52, 53, 54] (by decide +kernel) (by decide +kernel)
set_option maxRecDepth 20000 in
theorem gX9_told_X3_addHomes : GoodIn wsX9_told (wsV RX9 140 RX3 yX3_addHomes wsX3_addHomes) := goodIn_app (goodIn_of _ (by decide +kernel)) ggX9_told_X3_addHomes
set_option maxRecDepth 20000 in
theorem ggX9_told_X2_forget : GoodIn wsX9_told wsX2_forget := goodIn_r _ [37, 38, 39, 40, 55, 56, 57, 58, 59, 60, 61, 62, 63, 64, 65, 66, 67] (by decide +kernel) (by decide +kernel)
set_option maxRecDepth 20000 in
theorem gX9_told_X2_forget : GoodIn wsX9_told (wsV RX9 109 RX2 yX2_forget wsX2_forget) := goodIn_app (goodIn_of _ (by decide +kernel)) ggX9_told_X2_forget
theorem dX9_told_0 : decode cX9_told 0 = .ok (.iload_n 1, 1) := by decide +kernel
theorem dX9_told_1 : decode cX9_told 1 = .ok (.iconst 1, 1) := by decide +kernel
theorem dX9_told_2 : decode cX9_told 2 = .ok (.if_icmp .lt 25, 3) := by decide +kernel
theorem dX9_told_5 : decode cX9_told 5 = .ok (.iload_n 1, 1) := by decide +kernel
theorem dX9_told_6 : decode cX9_told 6 = .ok (.bipush 99, 2) := by decide +kernel
theorem dX9_told_8 : decode cX9_told 8 = .ok (.if_icmp .gt 19, 3) := by decide +kernel
theorem dX9_told_11 : decode cX9_told 11 = .ok (.iload_n 2, 1) := by decide +kernel
theorem dX9_told_12 : decode cX9_told 12 = .ok (.ifCond .lt 15, 3) := by decide +kernel
theorem dX9_told_15 : decode cX9_told 15 = .ok (.iload_n 2, 1) := by decide +kernel
theorem dX9_told_16 : decode cX9_told 16 = .ok (.iload_n 1, 1) := by decide +kernel
theorem dX9_told_17 : decode cX9_told 17 = .ok (.if_icmp .gt 10, 3) := by decide +kernel
theorem dX9_told_20 : decode cX9_told 20 = .ok (.iload_n 3, 1) := by decide +kernel
theorem dX9_told_21 : decode cX9_told 21 = .ok (.invokestatic 126, 3) := by decide +kernel
theorem dX9_told_24 : decode cX9_told 24 = .ok (.ifCond .ne 5, 3) := by decide +kernel
theorem dX9_told_27 : decode cX9_told 27 = .ok (.iconst (-1), 1) := by decide +kernel
theorem dX9_told_28 : decode cX9_told 28 = .ok (.ireturn, 1) := by decide +kernel
theorem dX9_told_29 : decode cX9_told 29 = .ok (.aload_n 0, 1) := by decide +kernel
theorem dX9_told_30 : decode cX9_told 30 = .ok (.getfield 35, 3) := by decide +kernel
theorem dX9_told_33 : decode cX9_told 33 = .ok (.invokevirtual 129, 3) := by decide +kernel
theorem dX9_told_36 : decode cX9_told 36 = .ok (.iload_n 1, 1) := by decide +kernel
theorem dX9_told_37 : decode cX9_told 37 = .ok (.iadd, 1) := by decide +kernel
theorem dX9_told_38 : decode cX9_told 38 = .ok (.sipush 999, 3) := by decide +kernel
theorem dX9_told_41 : decode cX9_told 41 = .ok (.if_icmp .le 6, 3) := by decide +kernel
theorem dX9_told_44 : decode cX9_told 44 = .ok (.bipush (-3), 2) := by decide +kernel
theorem dX9_told_46 : decode cX9_told 46 = .ok (.ireturn, 1) := by decide +kernel
theorem dX9_told_47 : decode cX9_told 47 = .ok (.aload_n 0, 1) := by decide +kernel
theorem dX9_told_48 : decode cX9_told 48 = .ok (.getfield 35, 3) := by decide +kernel
theorem dX9_told_51 : decode cX9_told 51 = .ok (.invokevirtual 133, 3) := by decide +kernel
theorem dX9_told_54 : decode cX9_told 54 = .ok (.aload_n 0, 1) := by decide +kernel
theorem dX9_told_55 : decode cX9_told 55 = .ok (.getfield 35, 3) := by decide +kernel
theorem dX9_told_58 : decode cX9_told 58 = .ok (.iconst 0, 1) := by decide +kernel
theorem dX9_told_59 : decode cX9_told 59 = .ok (.iload_n 1, 1) := by decide +kernel
theorem dX9_told_60 : decode cX9_told 60 = .ok (.invokevirtual 136, 3) := by decide +kernel
theorem dX9_told_63 : decode cX9_told 63 = .ok (.aload_n 0, 1) := by decide +kernel
theorem dX9_told_64 : decode cX9_told 64 = .ok (.getfield 35, 3) := by decide +kernel
theorem dX9_told_67 : decode cX9_told 67 = .ok (.iload_n 2, 1) := by decide +kernel
theorem dX9_told_68 : decode cX9_told 68 = .ok (.iload_n 3, 1) := by decide +kernel
theorem dX9_told_69 : decode cX9_told 69 = .ok (.bipush 6, 2) := by decide +kernel
theorem dX9_told_71 : decode cX9_told 71 = .ok (.ishr, 1) := by decide +kernel
theorem dX9_told_72 : decode cX9_told 72 = .ok (.iload_n 3, 1) := by decide +kernel
theorem dX9_told_73 : decode cX9_told 73 = .ok (.iconst 4, 1) := by decide +kernel
theorem dX9_told_74 : decode cX9_told 74 = .ok (.ishr, 1) := by decide +kernel
theorem dX9_told_75 : decode cX9_told 75 = .ok (.iconst 3, 1) := by decide +kernel
theorem dX9_told_76 : decode cX9_told 76 = .ok (.iand, 1) := by decide +kernel
theorem dX9_told_77 : decode cX9_told 77 = .ok (.iload_n 3, 1) := by decide +kernel
theorem dX9_told_78 : decode cX9_told 78 = .ok (.iconst 2, 1) := by decide +kernel
theorem dX9_told_79 : decode cX9_told 79 = .ok (.ishr, 1) := by decide +kernel
theorem dX9_told_80 : decode cX9_told 80 = .ok (.iconst 3, 1) := by decide +kernel
theorem dX9_told_81 : decode cX9_told 81 = .ok (.iand, 1) := by decide +kernel
theorem dX9_told_82 : decode cX9_told 82 = .ok (.iload_n 3, 1) := by decide +kernel
theorem dX9_told_83 : decode cX9_told 83 = .ok (.iconst 3, 1) := by decide +kernel
theorem dX9_told_84 : decode cX9_told 84 = .ok (.iand, 1) := by decide +kernel
theorem dX9_told_85 : decode cX9_told 85 = .ok (.invokevirtual 140, 3) := by decide +kernel
theorem dX9_told_88 : decode cX9_told 88 = .ok (.aload_n 0, 1) := by decide +kernel
theorem dX9_told_89 : decode cX9_told 89 = .ok (.getfield 51, 3) := by decide +kernel
theorem dX9_told_92 : decode cX9_told 92 = .ok (.invokevirtual 109, 3) := by decide +kernel
theorem dX9_told_95 : decode cX9_told 95 = .ok (.aload_n 0, 1) := by decide +kernel
theorem dX9_told_96 : decode cX9_told 96 = .ok (.getfield 35, 3) := by decide +kernel
theorem dX9_told_99 : decode cX9_told 99 = .ok (.invokevirtual 129, 3) := by decide +kernel
theorem dX9_told_102 : decode cX9_told 102 = .ok (.ireturn, 1) := by decide +kernel
set_option maxRecDepth 20000 in
theorem ggX9_draw_X3_sorties : GoodIn wsX9_draw wsX3_sorties := goodIn_r _ [8, 9, 70, 71, 72, 73] (by decide +kernel) (by decide +kernel)
set_option maxRecDepth 20000 in
theorem gX9_draw_X3_sorties : GoodIn wsX9_draw (wsV RX9 129 RX3 yX3_sorties wsX3_sorties) := goodIn_app (goodIn_of _ (by decide +kernel)) ggX9_draw_X3_sorties
set_option maxRecDepth 20000 in
theorem ggX9_draw_X3_beginAct : GoodIn wsX9_draw wsX3_beginAct := goodIn_r _ [13, 14, 15, 16, 17, 18, 19, 20, 70, 71, 72, 73] (by decide +kernel) (by decide +kernel)
set_option maxRecDepth 20000 in
theorem gX9_draw_X3_beginAct : GoodIn wsX9_draw (wsV RX9 133 RX3 yX3_beginAct wsX3_beginAct) := goodIn_app (goodIn_of _ (by decide +kernel)) ggX9_draw_X3_beginAct
set_option maxRecDepth 20000 in
theorem ggX9_draw_X1_fly : GoodIn wsX9_draw wsX1_fly := goodIn_r _ [25, 26, 27, 28, 29, 30, 31, 32, 33, 34, 35, 7, 36, 9, 20, 14, 37, 38, 39, 24, 40, 41, 42, 43, 44, 45, 46, 47, 48, 49, 50, 51, 74, 75, 76, 77, 78, 79, 80, 81, 82, 83, 70, 71, 72, 73] (by decide +kernel) (by decide +kernel)
set_option maxRecDepth 20000 in
theorem gX9_draw_X1_fly : GoodIn wsX9_draw (wsV RX9 144 RX1 yX1_fly wsX1_fly) := goodIn_app (goodIn_of _ (by decide +kernel)) ggX9_draw_X1_fly
set_option maxRecDepth 20000 in
theorem ggX9_draw_X2_forget : GoodIn wsX9_draw wsX2_forget := goodIn_r _ [56, 57, 58, 59, 84, 85, 86, 87, 88, 89, 90, 91, 92, 93, 94, 95, 96] (by decide +kernel) (by decide +kernel)
set_option maxRecDepth 20000 in
theorem gX9_draw_X2_forget : GoodIn wsX9_draw (wsV RX9 109 RX2 yX2_forget wsX2_forget) := goodIn_app (goodIn_of _ (by decide +kernel)) ggX9_draw_X2_forget
theorem dX9_draw_0 : decode cX9_draw 0 = .ok (.iload_n 1, 1) := by decide +kernel
theorem dX9_draw_1 : decode cX9_draw 1 = .ok (.iconst 1, 1) := by decide +kernel
theorem dX9_draw_2 : decode cX9_draw 2 = .ok (.if_icmp .lt 9, 3) := by decide +kernel
theorem dX9_draw_5 : decode cX9_draw 5 = .ok (.iload_n 1, 1) := by decide +kernel
theorem dX9_draw_6 : decode cX9_draw 6 = .ok (.bipush 99, 2) := by decide +kernel
theorem dX9_draw_8 : decode cX9_draw 8 = .ok (.if_icmp .le 5, 3) := by decide +kernel
theorem dX9_draw_11 : decode cX9_draw 11 = .ok (.iconst (-1), 1) := by decide +kernel
theorem dX9_draw_12 : decode cX9_draw 12 = .ok (.ireturn, 1) := by decide +kernel
theorem dX9_draw_13 : decode cX9_draw 13 = .ok (.aload_n 0, 1) := by decide +kernel
theorem dX9_draw_14 : decode cX9_draw 14 = .ok (.getfield 35, 3) := by decide +kernel
theorem dX9_draw_17 : decode cX9_draw 17 = .ok (.invokevirtual 129, 3) := by decide +kernel
theorem dX9_draw_20 : decode cX9_draw 20 = .ok (.iload_n 1, 1) := by decide +kernel
theorem dX9_draw_21 : decode cX9_draw 21 = .ok (.iadd, 1) := by decide +kernel
theorem dX9_draw_22 : decode cX9_draw 22 = .ok (.sipush 999, 3) := by decide +kernel
theorem dX9_draw_25 : decode cX9_draw 25 = .ok (.if_icmp .le 6, 3) := by decide +kernel
theorem dX9_draw_28 : decode cX9_draw 28 = .ok (.bipush (-3), 2) := by decide +kernel
theorem dX9_draw_30 : decode cX9_draw 30 = .ok (.ireturn, 1) := by decide +kernel
theorem dX9_draw_31 : decode cX9_draw 31 = .ok (.aload_n 0, 1) := by decide +kernel
theorem dX9_draw_32 : decode cX9_draw 32 = .ok (.getfield 35, 3) := by decide +kernel
theorem dX9_draw_35 : decode cX9_draw 35 = .ok (.invokevirtual 133, 3) := by decide +kernel
theorem dX9_draw_38 : decode cX9_draw 38 = .ok (.iconst 0, 1) := by decide +kernel
theorem dX9_draw_39 : decode cX9_draw 39 = .ok (.istore_n 2, 1) := by decide +kernel
theorem dX9_draw_40 : decode cX9_draw 40 = .ok (.iconst 0, 1) := by decide +kernel
theorem dX9_draw_41 : decode cX9_draw 41 = .ok (.istore_n 3, 1) := by decide +kernel
theorem dX9_draw_42 : decode cX9_draw 42 = .ok (.iload_n 3, 1) := by decide +kernel
theorem dX9_draw_43 : decode cX9_draw 43 = .ok (.iload_n 1, 1) := by decide +kernel
theorem dX9_draw_44 : decode cX9_draw 44 = .ok (.if_icmp .ge 27, 3) := by decide +kernel
theorem dX9_draw_47 : decode cX9_draw 47 = .ok (.iload_n 2, 1) := by decide +kernel
theorem dX9_draw_48 : decode cX9_draw 48 = .ok (.aload_n 0, 1) := by decide +kernel
theorem dX9_draw_49 : decode cX9_draw 49 = .ok (.getfield 69, 3) := by decide +kernel
theorem dX9_draw_52 : decode cX9_draw 52 = .ok (.invokevirtual 144, 3) := by decide +kernel
theorem dX9_draw_55 : decode cX9_draw 55 = .ok (.ifCond .eq 7, 3) := by decide +kernel
theorem dX9_draw_58 : decode cX9_draw 58 = .ok (.iconst 1, 1) := by decide +kernel
theorem dX9_draw_59 : decode cX9_draw 59 = .ok (.goto 4, 3) := by decide +kernel
theorem dX9_draw_62 : decode cX9_draw 62 = .ok (.iconst 0, 1) := by decide +kernel
theorem dX9_draw_63 : decode cX9_draw 63 = .ok (.iadd, 1) := by decide +kernel
theorem dX9_draw_64 : decode cX9_draw 64 = .ok (.istore_n 2, 1) := by decide +kernel
theorem dX9_draw_65 : decode cX9_draw 65 = .ok (.iinc 3 1, 3) := by decide +kernel
theorem dX9_draw_68 : decode cX9_draw 68 = .ok (.goto (-26), 3) := by decide +kernel
theorem dX9_draw_71 : decode cX9_draw 71 = .ok (.aload_n 0, 1) := by decide +kernel
theorem dX9_draw_72 : decode cX9_draw 72 = .ok (.getfield 51, 3) := by decide +kernel
theorem dX9_draw_75 : decode cX9_draw 75 = .ok (.invokevirtual 109, 3) := by decide +kernel
theorem dX9_draw_78 : decode cX9_draw 78 = .ok (.iload_n 2, 1) := by decide +kernel
theorem dX9_draw_79 : decode cX9_draw 79 = .ok (.ireturn, 1) := by decide +kernel
theorem dX9_seed_0 : decode cX9_seed 0 = .ok (.aload_n 0, 1) := by decide +kernel
theorem dX9_seed_1 : decode cX9_seed 1 = .ok (.getfield 69, 3) := by decide +kernel
theorem dX9_seed_4 : decode cX9_seed 4 = .ok (.getfield 148, 3) := by decide +kernel
theorem dX9_seed_7 : decode cX9_seed 7 = .ok (.istore_n 2, 1) := by decide +kernel
theorem dX9_seed_8 : decode cX9_seed 8 = .ok (.aload_n 0, 1) := by decide +kernel
theorem dX9_seed_9 : decode cX9_seed 9 = .ok (.getfield 69, 3) := by decide +kernel
theorem dX9_seed_12 : decode cX9_seed 12 = .ok (.iload_n 1, 1) := by decide +kernel
theorem dX9_seed_13 : decode cX9_seed 13 = .ok (.putfield 148, 3) := by decide +kernel
theorem dX9_seed_16 : decode cX9_seed 16 = .ok (.iload_n 2, 1) := by decide +kernel
theorem dX9_seed_17 : decode cX9_seed 17 = .ok (.ireturn, 1) := by decide +kernel
set_option maxRecDepth 20000 in
theorem ggX9_wreck_X9_isPart : GoodIn wsX9_wreck wsX9_isPart := goodIn_r _ [7] (by decide +kernel) (by decide +kernel)
set_option maxRecDepth 20000 in
theorem gX9_wreck_X9_isPart : GoodIn wsX9_wreck (va_wsS RX9 115 yX9_isPart wsX9_isPart) := goodIn_app (goodIn_of _ (by decide +kernel)) ggX9_wreck_X9_isPart
set_option maxRecDepth 20000 in
theorem ggX9_wreck_X2_forget : GoodIn wsX9_wreck wsX2_forget := goodIn_r _ [12, 13, 14, 15, 29, 30, 31, 32, 33, 34, 35, 36, 37, 38, 39, 40, 41] (by decide +kernel) (by decide +kernel)
set_option maxRecDepth 20000 in
theorem gX9_wreck_X2_forget : GoodIn wsX9_wreck (wsV RX9 109 RX2 yX2_forget wsX2_forget) := goodIn_app (goodIn_of _ (by decide +kernel)) ggX9_wreck_X2_forget
theorem dX9_wreck_0 : decode cX9_wreck 0 = .ok (.iload_n 1, 1) := by decide +kernel
theorem dX9_wreck_1 : decode cX9_wreck 1 = .ok (.invokestatic 115, 3) := by decide +kernel
theorem dX9_wreck_4 : decode cX9_wreck 4 = .ok (.ifCond .ne 5, 3) := by decide +kernel
theorem dX9_wreck_7 : decode cX9_wreck 7 = .ok (.iconst (-1), 1) := by decide +kernel
theorem dX9_wreck_8 : decode cX9_wreck 8 = .ok (.ireturn, 1) := by decide +kernel
theorem dX9_wreck_9 : decode cX9_wreck 9 = .ok (.aload_n 0, 1) := by decide +kernel
theorem dX9_wreck_10 : decode cX9_wreck 10 = .ok (.getfield 42, 3) := by decide +kernel
theorem dX9_wreck_13 : decode cX9_wreck 13 = .ok (.getfield 151, 3) := by decide +kernel
theorem dX9_wreck_16 : decode cX9_wreck 16 = .ok (.iload_n 1, 1) := by decide +kernel
theorem dX9_wreck_17 : decode cX9_wreck 17 = .ok (.baload, 1) := by decide +kernel
theorem dX9_wreck_18 : decode cX9_wreck 18 = .ok (.ifCond .eq 7, 3) := by decide +kernel
theorem dX9_wreck_21 : decode cX9_wreck 21 = .ok (.iconst 1, 1) := by decide +kernel
theorem dX9_wreck_22 : decode cX9_wreck 22 = .ok (.goto 4, 3) := by decide +kernel
theorem dX9_wreck_25 : decode cX9_wreck 25 = .ok (.iconst 0, 1) := by decide +kernel
theorem dX9_wreck_26 : decode cX9_wreck 26 = .ok (.istore_n 3, 1) := by decide +kernel
theorem dX9_wreck_27 : decode cX9_wreck 27 = .ok (.aload_n 0, 1) := by decide +kernel
theorem dX9_wreck_28 : decode cX9_wreck 28 = .ok (.getfield 42, 3) := by decide +kernel
theorem dX9_wreck_31 : decode cX9_wreck 31 = .ok (.getfield 151, 3) := by decide +kernel
theorem dX9_wreck_34 : decode cX9_wreck 34 = .ok (.iload_n 1, 1) := by decide +kernel
theorem dX9_wreck_35 : decode cX9_wreck 35 = .ok (.iload_n 2, 1) := by decide +kernel
theorem dX9_wreck_36 : decode cX9_wreck 36 = .ok (.bastore, 1) := by decide +kernel
theorem dX9_wreck_37 : decode cX9_wreck 37 = .ok (.aload_n 0, 1) := by decide +kernel
theorem dX9_wreck_38 : decode cX9_wreck 38 = .ok (.getfield 51, 3) := by decide +kernel
theorem dX9_wreck_41 : decode cX9_wreck 41 = .ok (.invokevirtual 109, 3) := by decide +kernel
theorem dX9_wreck_44 : decode cX9_wreck 44 = .ok (.iload_n 3, 1) := by decide +kernel
theorem dX9_wreck_45 : decode cX9_wreck 45 = .ok (.ireturn, 1) := by decide +kernel
set_option maxRecDepth 20000 in
theorem ggX9_ground_X9_isPart : GoodIn wsX9_ground wsX9_isPart := goodIn_r _ [8] (by decide +kernel) (by decide +kernel)
set_option maxRecDepth 20000 in
theorem gX9_ground_X9_isPart : GoodIn wsX9_ground (va_wsS RX9 115 yX9_isPart wsX9_isPart) := goodIn_app (goodIn_of _ (by decide +kernel)) ggX9_ground_X9_isPart
set_option maxRecDepth 20000 in
theorem ggX9_ground_X2_forget : GoodIn wsX9_ground wsX2_forget := goodIn_r _ [13, 14, 15, 16, 30, 31, 32, 33, 34, 35, 36, 37, 38, 39, 40, 41, 42] (by decide +kernel) (by decide +kernel)
set_option maxRecDepth 20000 in
theorem gX9_ground_X2_forget : GoodIn wsX9_ground (wsV RX9 109 RX2 yX2_forget wsX2_forget) := goodIn_app (goodIn_of _ (by decide +kernel)) ggX9_ground_X2_forget
theorem dX9_ground_0 : decode cX9_ground 0 = .ok (.iload_n 1, 1) := by decide +kernel
theorem dX9_ground_1 : decode cX9_ground 1 = .ok (.invokestatic 115, 3) := by decide +kernel
theorem dX9_ground_4 : decode cX9_ground 4 = .ok (.ifCond .eq 22, 3) := by decide +kernel
theorem dX9_ground_7 : decode cX9_ground 7 = .ok (.iload_n 2, 1) := by decide +kernel
theorem dX9_ground_8 : decode cX9_ground 8 = .ok (.ifCond .lt 18, 3) := by decide +kernel
theorem dX9_ground_11 : decode cX9_ground 11 = .ok (.iload_n 2, 1) := by decide +kernel
theorem dX9_ground_12 : decode cX9_ground 12 = .ok (.bipush 20, 2) := by decide +kernel
theorem dX9_ground_14 : decode cX9_ground 14 = .ok (.if_icmp .gt 12, 3) := by decide +kernel
theorem dX9_ground_17 : decode cX9_ground 17 = .ok (.iload_n 3, 1) := by decide +kernel
theorem dX9_ground_18 : decode cX9_ground 18 = .ok (.ifCond .lt 8, 3) := by decide +kernel
theorem dX9_ground_21 : decode cX9_ground 21 = .ok (.iload_n 3, 1) := by decide +kernel
theorem dX9_ground_22 : decode cX9_ground 22 = .ok (.iload_n 2, 1) := by decide +kernel
theorem dX9_ground_23 : decode cX9_ground 23 = .ok (.if_icmp .le 5, 3) := by decide +kernel
theorem dX9_ground_26 : decode cX9_ground 26 = .ok (.iconst (-1), 1) := by decide +kernel
theorem dX9_ground_27 : decode cX9_ground 27 = .ok (.ireturn, 1) := by decide +kernel
theorem dX9_ground_28 : decode cX9_ground 28 = .ok (.aload_n 0, 1) := by decide +kernel
theorem dX9_ground_29 : decode cX9_ground 29 = .ok (.getfield 42, 3) := by decide +kernel
theorem dX9_ground_32 : decode cX9_ground 32 = .ok (.getfield 155, 3) := by decide +kernel
theorem dX9_ground_35 : decode cX9_ground 35 = .ok (.iload_n 1, 1) := by decide +kernel
theorem dX9_ground_36 : decode cX9_ground 36 = .ok (.iaload, 1) := by decide +kernel
theorem dX9_ground_37 : decode cX9_ground 37 = .ok (.istore 4, 2) := by decide +kernel
theorem dX9_ground_39 : decode cX9_ground 39 = .ok (.aload_n 0, 1) := by decide +kernel
theorem dX9_ground_40 : decode cX9_ground 40 = .ok (.getfield 42, 3) := by decide +kernel
theorem dX9_ground_43 : decode cX9_ground 43 = .ok (.getfield 155, 3) := by decide +kernel
theorem dX9_ground_46 : decode cX9_ground 46 = .ok (.iload_n 1, 1) := by decide +kernel
theorem dX9_ground_47 : decode cX9_ground 47 = .ok (.iload_n 2, 1) := by decide +kernel
theorem dX9_ground_48 : decode cX9_ground 48 = .ok (.iastore, 1) := by decide +kernel
theorem dX9_ground_49 : decode cX9_ground 49 = .ok (.aload_n 0, 1) := by decide +kernel
theorem dX9_ground_50 : decode cX9_ground 50 = .ok (.getfield 42, 3) := by decide +kernel
theorem dX9_ground_53 : decode cX9_ground 53 = .ok (.getfield 158, 3) := by decide +kernel
theorem dX9_ground_56 : decode cX9_ground 56 = .ok (.iload_n 1, 1) := by decide +kernel
theorem dX9_ground_57 : decode cX9_ground 57 = .ok (.iload_n 3, 1) := by decide +kernel
theorem dX9_ground_58 : decode cX9_ground 58 = .ok (.iastore, 1) := by decide +kernel
theorem dX9_ground_59 : decode cX9_ground 59 = .ok (.aload_n 0, 1) := by decide +kernel
theorem dX9_ground_60 : decode cX9_ground 60 = .ok (.getfield 51, 3) := by decide +kernel
theorem dX9_ground_63 : decode cX9_ground 63 = .ok (.invokevirtual 109, 3) := by decide +kernel
theorem dX9_ground_66 : decode cX9_ground 66 = .ok (.iload 4, 2) := by decide +kernel
theorem dX9_ground_68 : decode cX9_ground 68 = .ok (.ireturn, 1) := by decide +kernel
set_option maxRecDepth 20000 in
theorem ggX9_known_X3_sorties : GoodIn wsX9_known wsX3_sorties := goodIn_r _ [7, 8, 27, 28, 29, 30] (by decide +kernel) (by decide +kernel)
set_option maxRecDepth 20000 in
theorem gX9_known_X3_sorties : GoodIn wsX9_known (wsV RX9 129 RX3 yX3_sorties wsX3_sorties) := goodIn_app (goodIn_of _ (by decide +kernel)) ggX9_known_X3_sorties
set_option maxRecDepth 20000 in
theorem ggX9_known_X3_allHomes : GoodIn wsX9_known wsX3_allHomes := goodIn_r _ [12, 13, 14, 15, 6, 16, 8, 27, 28, 29, 30] (by decide +kernel) (by decide +kernel)
set_option maxRecDepth 20000 in
theorem gX9_known_X3_allHomes : GoodIn wsX9_known (wsV RX9 161 RX3 yX3_allHomes wsX3_allHomes) := goodIn_app (goodIn_of _ (by decide +kernel)) ggX9_known_X3_allHomes
theorem dX9_known_0 : decode cX9_known 0 = .ok (.iload_n 1, 1) := by decide +kernel
theorem dX9_known_1 : decode cX9_known 1 = .ok (.ifCond .lt 9, 3) := by decide +kernel
theorem dX9_known_4 : decode cX9_known 4 = .ok (.iload_n 1, 1) := by decide +kernel
theorem dX9_known_5 : decode cX9_known 5 = .ok (.bipush 9, 2) := by decide +kernel
theorem dX9_known_7 : decode cX9_known 7 = .ok (.if_icmp .le 5, 3) := by decide +kernel
theorem dX9_known_10 : decode cX9_known 10 = .ok (.iconst (-1), 1) := by decide +kernel
theorem dX9_known_11 : decode cX9_known 11 = .ok (.ireturn, 1) := by decide +kernel
theorem dX9_known_12 : decode cX9_known 12 = .ok (.iload_n 1, 1) := by decide +kernel
theorem dX9_known_13 : decode cX9_known 13 = .ok (.bipush 9, 2) := by decide +kernel
theorem dX9_known_15 : decode cX9_known 15 = .ok (.if_icmp .ne 21, 3) := by decide +kernel
theorem dX9_known_18 : decode cX9_known 18 = .ok (.aload_n 0, 1) := by decide +kernel
theorem dX9_known_19 : decode cX9_known 19 = .ok (.getfield 35, 3) := by decide +kernel
theorem dX9_known_22 : decode cX9_known 22 = .ok (.invokevirtual 129, 3) := by decide +kernel
theorem dX9_known_25 : decode cX9_known 25 = .ok (.aload_n 0, 1) := by decide +kernel
theorem dX9_known_26 : decode cX9_known 26 = .ok (.getfield 35, 3) := by decide +kernel
theorem dX9_known_29 : decode cX9_known 29 = .ok (.invokevirtual 161, 3) := by decide +kernel
theorem dX9_known_32 : decode cX9_known 32 = .ok (.isub, 1) := by decide +kernel
theorem dX9_known_33 : decode cX9_known 33 = .ok (.goto 12, 3) := by decide +kernel
theorem dX9_known_36 : decode cX9_known 36 = .ok (.aload_n 0, 1) := by decide +kernel
theorem dX9_known_37 : decode cX9_known 37 = .ok (.getfield 35, 3) := by decide +kernel
theorem dX9_known_40 : decode cX9_known 40 = .ok (.getfield 164, 3) := by decide +kernel
theorem dX9_known_43 : decode cX9_known 43 = .ok (.iload_n 1, 1) := by decide +kernel
theorem dX9_known_44 : decode cX9_known 44 = .ok (.iaload, 1) := by decide +kernel
theorem dX9_known_45 : decode cX9_known 45 = .ok (.ireturn, 1) := by decide +kernel
set_option maxRecDepth 20000 in
theorem ggX9_undo_X3_takeBack : GoodIn wsX9_undo wsX3_takeBack := goodIn_r _ [8, 9, 10, 11, 12, 31, 32, 33, 34] (by decide +kernel) (by decide +kernel)
set_option maxRecDepth 20000 in
theorem gX9_undo_X3_takeBack : GoodIn wsX9_undo (wsV RX9 170 RX3 yX3_takeBack wsX3_takeBack) := goodIn_app (goodIn_of _ (by decide +kernel)) ggX9_undo_X3_takeBack
set_option maxRecDepth 20000 in
theorem ggX9_undo_X2_forget : GoodIn wsX9_undo wsX2_forget := goodIn_r _ [17, 18, 19, 20, 35, 36, 37, 38, 39, 40, 41, 42, 43, 44, 45, 46, 47] (by decide +kernel) (by decide +kernel)
set_option maxRecDepth 20000 in
theorem gX9_undo_X2_forget : GoodIn wsX9_undo (wsV RX9 109 RX2 yX2_forget wsX2_forget) := goodIn_app (goodIn_of _ (by decide +kernel)) ggX9_undo_X2_forget
theorem dX9_undo_0 : decode cX9_undo 0 = .ok (.aload_n 0, 1) := by decide +kernel
theorem dX9_undo_1 : decode cX9_undo 1 = .ok (.getfield 35, 3) := by decide +kernel
theorem dX9_undo_4 : decode cX9_undo 4 = .ok (.getfield 167, 3) := by decide +kernel
theorem dX9_undo_7 : decode cX9_undo 7 = .ok (.ifCond .ne 6, 3) := by decide +kernel
theorem dX9_undo_10 : decode cX9_undo 10 = .ok (.bipush (-4), 2) := by decide +kernel
theorem dX9_undo_12 : decode cX9_undo 12 = .ok (.ireturn, 1) := by decide +kernel
theorem dX9_undo_13 : decode cX9_undo 13 = .ok (.aload_n 0, 1) := by decide +kernel
theorem dX9_undo_14 : decode cX9_undo 14 = .ok (.getfield 35, 3) := by decide +kernel
theorem dX9_undo_17 : decode cX9_undo 17 = .ok (.invokevirtual 170, 3) := by decide +kernel
theorem dX9_undo_20 : decode cX9_undo 20 = .ok (.aload_n 0, 1) := by decide +kernel
theorem dX9_undo_21 : decode cX9_undo 21 = .ok (.getfield 51, 3) := by decide +kernel
theorem dX9_undo_24 : decode cX9_undo 24 = .ok (.invokevirtual 109, 3) := by decide +kernel
theorem dX9_undo_27 : decode cX9_undo 27 = .ok (.aload_n 0, 1) := by decide +kernel
theorem dX9_undo_28 : decode cX9_undo 28 = .ok (.getfield 35, 3) := by decide +kernel
theorem dX9_undo_31 : decode cX9_undo 31 = .ok (.getfield 167, 3) := by decide +kernel
theorem dX9_undo_34 : decode cX9_undo 34 = .ok (.ireturn, 1) := by decide +kernel
set_option maxRecDepth 20000 in
theorem ggX9_share_X9_isLaw : GoodIn wsX9_share wsX9_isLaw := goodIn_r _ [7] (by decide +kernel) (by decide +kernel)
set_option maxRecDepth 20000 in
theorem gX9_share_X9_isLaw : GoodIn wsX9_share (va_wsS RX9 173 yX9_isLaw wsX9_isLaw) := goodIn_app (goodIn_of _ (by decide +kernel)) ggX9_share_X9_isLaw
set_option maxRecDepth 20000 in
theorem ggX9_share_X9_isSide : GoodIn wsX9_share wsX9_isSide := goodIn_r _ [10] (by decide +kernel) (by decide +kernel)
set_option maxRecDepth 20000 in
theorem gX9_share_X9_isSide : GoodIn wsX9_share (va_wsS RX9 176 yX9_isSide wsX9_isSide) := goodIn_app (goodIn_of _ (by decide +kernel)) ggX9_share_X9_isSide
set_option maxRecDepth 20000 in
theorem ggX9_share_X8_stand : GoodIn wsX9_share wsX8_stand := goodIn_r _ [15, 16, 6, 17, 18, 19, 20, 14, 21, 22, 50, 51, 52, 53, 54, 55] (by decide +kernel) (by decide +kernel)
set_option maxRecDepth 20000 in
theorem gX9_share_X8_stand : GoodIn wsX9_share (wsV RX9 181 RX8 yX8_stand wsX8_stand) := goodIn_app (goodIn_of _ (by decide +kernel)) ggX9_share_X8_stand
set_option maxRecDepth 20000 in
theorem ggX9_share_X8_homesTop : GoodIn wsX9_share wsX8_homesTop := goodIn_r _ [26, 27, 28, 29, 30, 31, 14, 32, 50, 51, 52, 53, 54, 55] (by decide +kernel) (by decide +kernel)
set_option maxRecDepth 20000 in
theorem gX9_share_X8_homesTop : GoodIn wsX9_share (wsV RX9 185 RX8 yX8_homesTop wsX8_homesTop) := goodIn_app (goodIn_of _ (by decide +kernel)) ggX9_share_X8_homesTop
set_option maxRecDepth 20000 in
theorem ggX9_share_X9_lowest : GoodIn wsX9_share wsX9_lowest := goodIn_r _ [35, 36, 37, 38, 39] (by decide +kernel) (by decide +kernel)
set_option maxRecDepth 20000 in
theorem gX9_share_X9_lowest : GoodIn wsX9_share (va_wsS RX9 193 yX9_lowest wsX9_lowest) := goodIn_app (goodIn_of _ (by decide +kernel)) ggX9_share_X9_lowest
theorem dX9_share_0 : decode cX9_share 0 = .ok (.iload_n 1, 1) := by decide +kernel
theorem dX9_share_1 : decode cX9_share 1 = .ok (.invokestatic 173, 3) := by decide +kernel
theorem dX9_share_4 : decode cX9_share 4 = .ok (.ifCond .eq 19, 3) := by decide +kernel
theorem dX9_share_7 : decode cX9_share 7 = .ok (.iload_n 2, 1) := by decide +kernel
theorem dX9_share_8 : decode cX9_share 8 = .ok (.ifCond .lt 15, 3) := by decide +kernel
theorem dX9_share_11 : decode cX9_share 11 = .ok (.iload_n 2, 1) := by decide +kernel
theorem dX9_share_12 : decode cX9_share 12 = .ok (.iconst 3, 1) := by decide +kernel
theorem dX9_share_13 : decode cX9_share 13 = .ok (.if_icmp .gt 10, 3) := by decide +kernel
theorem dX9_share_16 : decode cX9_share 16 = .ok (.iload_n 3, 1) := by decide +kernel
theorem dX9_share_17 : decode cX9_share 17 = .ok (.invokestatic 176, 3) := by decide +kernel
theorem dX9_share_20 : decode cX9_share 20 = .ok (.ifCond .ne 7, 3) := by decide +kernel
theorem dX9_share_23 : decode cX9_share 23 = .ok (.ldc2_w 179, 3) := by decide +kernel
theorem dX9_share_26 : decode cX9_share 26 = .ok (.lreturn, 1) := by decide +kernel
theorem dX9_share_27 : decode cX9_share 27 = .ok (.aload_n 0, 1) := by decide +kernel
theorem dX9_share_28 : decode cX9_share 28 = .ok (.getfield 10, 3) := by decide +kernel
theorem dX9_share_31 : decode cX9_share 31 = .ok (.iload_n 2, 1) := by decide +kernel
theorem dX9_share_32 : decode cX9_share 32 = .ok (.aload_n 0, 1) := by decide +kernel
theorem dX9_share_33 : decode cX9_share 33 = .ok (.getfield 10, 3) := by decide +kernel
theorem dX9_share_36 : decode cX9_share 36 = .ok (.iload_n 1, 1) := by decide +kernel
theorem dX9_share_37 : decode cX9_share 37 = .ok (.invokevirtual 181, 3) := by decide +kernel
theorem dX9_share_40 : decode cX9_share 40 = .ok (.i2l, 1) := by decide +kernel
theorem dX9_share_41 : decode cX9_share 41 = .ok (.invokevirtual 185, 3) := by decide +kernel
theorem dX9_share_44 : decode cX9_share 44 = .ok (.aload_n 0, 1) := by decide +kernel
theorem dX9_share_45 : decode cX9_share 45 = .ok (.getfield 10, 3) := by decide +kernel
theorem dX9_share_48 : decode cX9_share 48 = .ok (.getfield 189, 3) := by decide +kernel
theorem dX9_share_51 : decode cX9_share 51 = .ok (.iload_n 3, 1) := by decide +kernel
theorem dX9_share_52 : decode cX9_share 52 = .ok (.invokestatic 193, 3) := by decide +kernel
theorem dX9_share_55 : decode cX9_share 55 = .ok (.lreturn, 1) := by decide +kernel
set_option maxRecDepth 20000 in
theorem ggX9_holes_X9_isLaw : GoodIn wsX9_holes wsX9_isLaw := goodIn_r _ [7] (by decide +kernel) (by decide +kernel)
set_option maxRecDepth 20000 in
theorem gX9_holes_X9_isLaw : GoodIn wsX9_holes (va_wsS RX9 173 yX9_isLaw wsX9_isLaw) := goodIn_app (goodIn_of _ (by decide +kernel)) ggX9_holes_X9_isLaw
set_option maxRecDepth 20000 in
theorem ggX9_holes_X9_isPart : GoodIn wsX9_holes wsX9_isPart := goodIn_r _ [10] (by decide +kernel) (by decide +kernel)
set_option maxRecDepth 20000 in
theorem gX9_holes_X9_isPart : GoodIn wsX9_holes (va_wsS RX9 115 yX9_isPart wsX9_isPart) := goodIn_app (goodIn_of _ (by decide +kernel)) ggX9_holes_X9_isPart
set_option maxRecDepth 20000 in
theorem ggX9_holes_X9_isSide : GoodIn wsX9_holes wsX9_isSide := goodIn_r _ [13] (by decide +kernel) (by decide +kernel)
set_option maxRecDepth 20000 in
theorem gX9_holes_X9_isSide : GoodIn wsX9_holes (va_wsS RX9 176 yX9_isSide wsX9_isSide) := goodIn_app (goodIn_of _ (by decide +kernel)) ggX9_holes_X9_isSide
set_option maxRecDepth 20000 in
theorem ggX9_holes_X9_figure : GoodIn wsX9_holes wsX9_figure := goodIn_r _ [16] (by decide +kernel) (by decide +kernel)
set_option maxRecDepth 20000 in
theorem gX9_holes_X9_figure : GoodIn wsX9_holes (va_wsS RX9 197 yX9_figure wsX9_figure) := goodIn_app (goodIn_of _ (by decide +kernel)) ggX9_holes_X9_figure
set_option maxRecDepth 20000 in
theorem ggX9_holes_X8_partStand : GoodIn wsX9_holes wsX8_partStand := goodIn_r _ [21, 22, 55, 56, 57, 58, 59, 60] (by decide +kernel) (by decide +kernel)
set_option maxRecDepth 20000 in
theorem gX9_holes_X8_partStand : GoodIn wsX9_holes (wsV RX9 201 RX8 yX8_partStand wsX8_partStand) := goodIn_app (goodIn_of _ (by decide +kernel)) ggX9_holes_X8_partStand
set_option maxRecDepth 20000 in
theorem ggX9_holes_X8_stand : GoodIn wsX9_holes wsX8_stand := goodIn_r _ [26, 15, 6, 16, 27, 18, 19, 20, 21, 22, 55, 56, 57, 58, 59, 60] (by decide +kernel) (by decide +kernel)
set_option maxRecDepth 20000 in
theorem gX9_holes_X8_stand : GoodIn wsX9_holes (wsV RX9 181 RX8 yX8_stand wsX8_stand) := goodIn_app (goodIn_of _ (by decide +kernel)) ggX9_holes_X8_stand
set_option maxRecDepth 20000 in
theorem ggX9_holes_X8_holeRate : GoodIn wsX9_holes wsX8_holeRate := goodIn_r _ [31, 32, 33, 34, 35, 36, 20, 37, 55, 56, 57, 58, 59, 60] (by decide +kernel) (by decide +kernel)
set_option maxRecDepth 20000 in
theorem gX9_holes_X8_holeRate : GoodIn wsX9_holes (wsV RX9 204 RX8 yX8_holeRate wsX8_holeRate) := goodIn_app (goodIn_of _ (by decide +kernel)) ggX9_holes_X8_holeRate
set_option maxRecDepth 20000 in
theorem ggX9_holes_X9_lowest : GoodIn wsX9_holes wsX9_lowest := goodIn_r _ [40, 41, 42, 43, 44] (by decide +kernel) (by decide +kernel)
set_option maxRecDepth 20000 in
theorem gX9_holes_X9_lowest : GoodIn wsX9_holes (va_wsS RX9 193 yX9_lowest wsX9_lowest) := goodIn_app (goodIn_of _ (by decide +kernel)) ggX9_holes_X9_lowest
theorem dX9_holes_0 : decode cX9_holes 0 = .ok (.iload_n 1, 1) := by decide +kernel
theorem dX9_holes_1 : decode cX9_holes 1 = .ok (.invokestatic 173, 3) := by decide +kernel
theorem dX9_holes_4 : decode cX9_holes 4 = .ok (.ifCond .eq 17, 3) := by decide +kernel
theorem dX9_holes_7 : decode cX9_holes 7 = .ok (.iload_n 2, 1) := by decide +kernel
theorem dX9_holes_8 : decode cX9_holes 8 = .ok (.invokestatic 115, 3) := by decide +kernel
theorem dX9_holes_11 : decode cX9_holes 11 = .ok (.ifCond .eq 10, 3) := by decide +kernel
theorem dX9_holes_14 : decode cX9_holes 14 = .ok (.iload_n 3, 1) := by decide +kernel
theorem dX9_holes_15 : decode cX9_holes 15 = .ok (.invokestatic 176, 3) := by decide +kernel
theorem dX9_holes_18 : decode cX9_holes 18 = .ok (.ifCond .ne 7, 3) := by decide +kernel
theorem dX9_holes_21 : decode cX9_holes 21 = .ok (.ldc2_w 179, 3) := by decide +kernel
theorem dX9_holes_24 : decode cX9_holes 24 = .ok (.lreturn, 1) := by decide +kernel
theorem dX9_holes_25 : decode cX9_holes 25 = .ok (.aload_n 0, 1) := by decide +kernel
theorem dX9_holes_26 : decode cX9_holes 26 = .ok (.getfield 10, 3) := by decide +kernel
theorem dX9_holes_29 : decode cX9_holes 29 = .ok (.iload_n 2, 1) := by decide +kernel
theorem dX9_holes_30 : decode cX9_holes 30 = .ok (.iload_n 1, 1) := by decide +kernel
theorem dX9_holes_31 : decode cX9_holes 31 = .ok (.iload_n 2, 1) := by decide +kernel
theorem dX9_holes_32 : decode cX9_holes 32 = .ok (.invokestatic 197, 3) := by decide +kernel
theorem dX9_holes_35 : decode cX9_holes 35 = .ok (.invokevirtual 201, 3) := by decide +kernel
theorem dX9_holes_38 : decode cX9_holes 38 = .ok (.i2l, 1) := by decide +kernel
theorem dX9_holes_39 : decode cX9_holes 39 = .ok (.aload_n 0, 1) := by decide +kernel
theorem dX9_holes_40 : decode cX9_holes 40 = .ok (.getfield 10, 3) := by decide +kernel
theorem dX9_holes_43 : decode cX9_holes 43 = .ok (.aload_n 0, 1) := by decide +kernel
theorem dX9_holes_44 : decode cX9_holes 44 = .ok (.getfield 10, 3) := by decide +kernel
theorem dX9_holes_47 : decode cX9_holes 47 = .ok (.iload_n 1, 1) := by decide +kernel
theorem dX9_holes_48 : decode cX9_holes 48 = .ok (.invokevirtual 181, 3) := by decide +kernel
theorem dX9_holes_51 : decode cX9_holes 51 = .ok (.i2l, 1) := by decide +kernel
theorem dX9_holes_52 : decode cX9_holes 52 = .ok (.invokevirtual 204, 3) := by decide +kernel
theorem dX9_holes_55 : decode cX9_holes 55 = .ok (.lmul, 1) := by decide +kernel
theorem dX9_holes_56 : decode cX9_holes 56 = .ok (.lstore 4, 2) := by decide +kernel
theorem dX9_holes_58 : decode cX9_holes 58 = .ok (.lload 4, 2) := by decide +kernel
theorem dX9_holes_60 : decode cX9_holes 60 = .ok (.aload_n 0, 1) := by decide +kernel
theorem dX9_holes_61 : decode cX9_holes 61 = .ok (.getfield 10, 3) := by decide +kernel
theorem dX9_holes_64 : decode cX9_holes 64 = .ok (.getfield 189, 3) := by decide +kernel
theorem dX9_holes_67 : decode cX9_holes 67 = .ok (.iload_n 3, 1) := by decide +kernel
theorem dX9_holes_68 : decode cX9_holes 68 = .ok (.invokestatic 193, 3) := by decide +kernel
theorem dX9_holes_71 : decode cX9_holes 71 = .ok (.lreturn, 1) := by decide +kernel
set_option maxRecDepth 20000 in
theorem ggX9_fits_X9_isLaw : GoodIn wsX9_fits wsX9_isLaw := goodIn_r _ [7] (by decide +kernel) (by decide +kernel)
set_option maxRecDepth 20000 in
theorem gX9_fits_X9_isLaw : GoodIn wsX9_fits (va_wsS RX9 173 yX9_isLaw wsX9_isLaw) := goodIn_app (goodIn_of _ (by decide +kernel)) ggX9_fits_X9_isLaw
set_option maxRecDepth 20000 in
theorem ggX9_fits_X2_lawFits : GoodIn wsX9_fits wsX2_lawFits := goodIn_r _ [12, 13, 14, 15, 6, 16, 17, 18, 19, 20, 21, 22, 23, 24, 25, 26, 27, 28, 29, 30, 31, 32, 33, 34, 35, 36, 37, 38, 39, 40, 41, 42, 43, 11, 44, 45, 46, 47, 48, 49, 50, 51, 52, 53, 54, 55, 56, 57, 58, 59, 60, 61, 62, 63, 64, 65, 66, 67, 68, 69, 70, 71, 72, 73, 74, 75, 76, 77, 78, 79, 80, 81, 82, 99, 100, 101, 102, 103, 104, 105, 106, 107, 108, 109, 110, 111, 112, 113, 114, 93, 94, 95, 96, 97, 98, 115, 116, 117, 118] (by decide +kernel) (by decide +kernel)
set_option maxRecDepth 20000 in
theorem gX9_fits_X2_lawFits : GoodIn wsX9_fits (wsV RX9 208 RX2 yX2_lawFits wsX2_lawFits) := goodIn_app (goodIn_of _ (by decide +kernel)) ggX9_fits_X2_lawFits
theorem dX9_fits_0 : decode cX9_fits 0 = .ok (.iload_n 1, 1) := by decide +kernel
theorem dX9_fits_1 : decode cX9_fits 1 = .ok (.invokestatic 173, 3) := by decide +kernel
theorem dX9_fits_4 : decode cX9_fits 4 = .ok (.ifCond .ne 5, 3) := by decide +kernel
theorem dX9_fits_7 : decode cX9_fits 7 = .ok (.iconst (-1), 1) := by decide +kernel
theorem dX9_fits_8 : decode cX9_fits 8 = .ok (.ireturn, 1) := by decide +kernel
theorem dX9_fits_9 : decode cX9_fits 9 = .ok (.aload_n 0, 1) := by decide +kernel
theorem dX9_fits_10 : decode cX9_fits 10 = .ok (.getfield 51, 3) := by decide +kernel
theorem dX9_fits_13 : decode cX9_fits 13 = .ok (.iload_n 1, 1) := by decide +kernel
theorem dX9_fits_14 : decode cX9_fits 14 = .ok (.aload_n 0, 1) := by decide +kernel
theorem dX9_fits_15 : decode cX9_fits 15 = .ok (.getfield 10, 3) := by decide +kernel
theorem dX9_fits_18 : decode cX9_fits 18 = .ok (.getfield 123, 3) := by decide +kernel
theorem dX9_fits_21 : decode cX9_fits 21 = .ok (.iconst 5, 1) := by decide +kernel
theorem dX9_fits_22 : decode cX9_fits 22 = .ok (.iaload, 1) := by decide +kernel
theorem dX9_fits_23 : decode cX9_fits 23 = .ok (.invokevirtual 208, 3) := by decide +kernel
theorem dX9_fits_26 : decode cX9_fits 26 = .ok (.ifCond .eq 7, 3) := by decide +kernel
theorem dX9_fits_29 : decode cX9_fits 29 = .ok (.iconst 1, 1) := by decide +kernel
theorem dX9_fits_30 : decode cX9_fits 30 = .ok (.goto 4, 3) := by decide +kernel
theorem dX9_fits_33 : decode cX9_fits 33 = .ok (.iconst 0, 1) := by decide +kernel
theorem dX9_fits_34 : decode cX9_fits 34 = .ok (.ireturn, 1) := by decide +kernel
set_option maxRecDepth 20000 in
theorem ggX9_laws_X2_fitting : GoodIn wsX9_laws wsX2_fitting := goodIn_r _ [8, 9, 10, 11, 12, 13, 7, 14, 15, 16, 17, 18, 19, 20, 21, 22, 23, 24, 25, 26, 27, 28, 29, 30, 31, 32, 33, 34, 35, 36, 37, 38, 39, 40, 41, 42, 43, 44, 45, 46, 47, 48, 49, 50, 51, 52, 53, 54, 55, 56, 57, 58, 59, 60, 61, 62, 63, 64, 65, 66, 67, 68, 69, 70, 71, 72, 73, 74, 75, 76, 77, 78, 79, 80, 81, 82, 83, 84, 85, 86, 87, 88, 89, 90, 91, 92, 93, 94, 95, 96, 97, 98, 99, 100, 101, 102, 103, 104, 105, 106, 117, 118, 119, 120, 121, 122, 123, 124, 125, 126, 127, 128, 129, 130, 131, 132, 133, 134, 135, 136, 137, 138, 139, 140, 141, 142] (by decide +kernel) (by decide +kernel)
set_option maxRecDepth 20000 in
theorem gX9_laws_X2_fitting : GoodIn wsX9_laws (wsV RX9 212 RX2 yX2_fitting wsX2_fitting) := goodIn_app (goodIn_of _ (by decide +kernel)) ggX9_laws_X2_fitting
theorem dX9_laws_0 : decode cX9_laws 0 = .ok (.iload_n 1, 1) := by decide +kernel
theorem dX9_laws_1 : decode cX9_laws 1 = .ok (.ifCond .lt 8, 3) := by decide +kernel
theorem dX9_laws_4 : decode cX9_laws 4 = .ok (.iload_n 1, 1) := by decide +kernel
theorem dX9_laws_5 : decode cX9_laws 5 = .ok (.iconst 2, 1) := by decide +kernel
theorem dX9_laws_6 : decode cX9_laws 6 = .ok (.if_icmp .le 5, 3) := by decide +kernel
theorem dX9_laws_9 : decode cX9_laws 9 = .ok (.iconst (-1), 1) := by decide +kernel
theorem dX9_laws_10 : decode cX9_laws 10 = .ok (.ireturn, 1) := by decide +kernel
theorem dX9_laws_11 : decode cX9_laws 11 = .ok (.aload_n 0, 1) := by decide +kernel
theorem dX9_laws_12 : decode cX9_laws 12 = .ok (.getfield 51, 3) := by decide +kernel
theorem dX9_laws_15 : decode cX9_laws 15 = .ok (.invokevirtual 212, 3) := by decide +kernel
theorem dX9_laws_18 : decode cX9_laws 18 = .ok (.istore_n 2, 1) := by decide +kernel
theorem dX9_laws_19 : decode cX9_laws 19 = .ok (.iload_n 1, 1) := by decide +kernel
theorem dX9_laws_20 : decode cX9_laws 20 = .ok (.ifCond .ne 5, 3) := by decide +kernel
theorem dX9_laws_23 : decode cX9_laws 23 = .ok (.iload_n 2, 1) := by decide +kernel
theorem dX9_laws_24 : decode cX9_laws 24 = .ok (.ireturn, 1) := by decide +kernel
theorem dX9_laws_25 : decode cX9_laws 25 = .ok (.iload_n 2, 1) := by decide +kernel
theorem dX9_laws_26 : decode cX9_laws 26 = .ok (.ifCond .ne 6, 3) := by decide +kernel
theorem dX9_laws_29 : decode cX9_laws 29 = .ok (.bipush (-4), 2) := by decide +kernel
theorem dX9_laws_31 : decode cX9_laws 31 = .ok (.ireturn, 1) := by decide +kernel
theorem dX9_laws_32 : decode cX9_laws 32 = .ok (.iload_n 1, 1) := by decide +kernel
theorem dX9_laws_33 : decode cX9_laws 33 = .ok (.iconst 1, 1) := by decide +kernel
theorem dX9_laws_34 : decode cX9_laws 34 = .ok (.if_icmp .ne 13, 3) := by decide +kernel
theorem dX9_laws_37 : decode cX9_laws 37 = .ok (.aload_n 0, 1) := by decide +kernel
theorem dX9_laws_38 : decode cX9_laws 38 = .ok (.getfield 51, 3) := by decide +kernel
theorem dX9_laws_41 : decode cX9_laws 41 = .ok (.getfield 215, 3) := by decide +kernel
theorem dX9_laws_44 : decode cX9_laws 44 = .ok (.goto 10, 3) := by decide +kernel
theorem dX9_laws_47 : decode cX9_laws 47 = .ok (.aload_n 0, 1) := by decide +kernel
theorem dX9_laws_48 : decode cX9_laws 48 = .ok (.getfield 51, 3) := by decide +kernel
theorem dX9_laws_51 : decode cX9_laws 51 = .ok (.getfield 218, 3) := by decide +kernel
theorem dX9_laws_54 : decode cX9_laws 54 = .ok (.ireturn, 1) := by decide +kernel
set_option maxRecDepth 20000 in
theorem ggX9_span_X9_isPart : GoodIn wsX9_span wsX9_isPart := goodIn_r _ [9] (by decide +kernel) (by decide +kernel)
set_option maxRecDepth 20000 in
theorem gX9_span_X9_isPart : GoodIn wsX9_span (va_wsS RX9 115 yX9_isPart wsX9_isPart) := goodIn_app (goodIn_of _ (by decide +kernel)) ggX9_span_X9_isPart
set_option maxRecDepth 20000 in
theorem ggX9_span_X9_isSide : GoodIn wsX9_span wsX9_isSide := goodIn_r _ [12] (by decide +kernel) (by decide +kernel)
set_option maxRecDepth 20000 in
theorem gX9_span_X9_isSide : GoodIn wsX9_span (va_wsS RX9 176 yX9_isSide wsX9_isSide) := goodIn_app (goodIn_of _ (by decide +kernel)) ggX9_span_X9_isSide
set_option maxRecDepth 20000 in
theorem ggX9_span_X2_fitting : GoodIn wsX9_span wsX2_fitting := goodIn_r _ [17, 18, 19, 20, 21, 22, 16, 23, 24, 25, 26, 27, 28, 29, 30, 31, 32, 33, 34, 35, 36, 4, 37, 38, 39, 40, 41, 42, 43, 44, 45, 46, 47, 48, 49, 50, 51, 52, 53, 54, 55, 56, 57, 58, 59, 60, 61, 62, 63, 64, 65, 66, 67, 68, 69, 70, 71, 72, 73, 74, 75, 76, 77, 78, 79, 80, 81, 82, 83, 84, 8, 85, 86, 87, 88, 89, 90, 91, 92, 93, 94, 95, 96, 97, 98, 99, 100, 101, 102, 103, 104, 105, 106, 107, 108, 109, 110, 111, 112, 113, 128, 129, 130, 131, 132, 133, 134, 135, 136, 137, 138, 139, 140, 141, 142, 143, 144, 145, 146, 147, 148, 149, 150, 151, 152, 153] (by decide +kernel) (by decide +kernel)
set_option maxRecDepth 20000 in
theorem gX9_span_X2_fitting : GoodIn wsX9_span (wsV RX9 212 RX2 yX2_fitting wsX2_fitting) := goodIn_app (goodIn_of _ (by decide +kernel)) ggX9_span_X2_fitting
set_option maxRecDepth 20000 in
theorem ggX9_span_X2_withFalls : GoodIn wsX9_span wsX2_withFalls := goodIn_r _ [117, 73, 128, 129, 130, 131, 132, 133, 134, 135, 136, 137, 138, 139, 140] (by decide +kernel) (by decide +kernel)
set_option maxRecDepth 20000 in
theorem gX9_span_X2_withFalls : GoodIn wsX9_span (wsV RX9 221 RX2 yX2_withFalls wsX2_withFalls) := goodIn_app (goodIn_of _ (by decide +kernel)) ggX9_span_X2_withFalls
theorem dX9_span_0 : decode cX9_span 0 = .ok (.iload_n 1, 1) := by decide +kernel
theorem dX9_span_1 : decode cX9_span 1 = .ok (.invokestatic 115, 3) := by decide +kernel
theorem dX9_span_4 : decode cX9_span 4 = .ok (.ifCond .eq 10, 3) := by decide +kernel
theorem dX9_span_7 : decode cX9_span 7 = .ok (.iload_n 2, 1) := by decide +kernel
theorem dX9_span_8 : decode cX9_span 8 = .ok (.invokestatic 176, 3) := by decide +kernel
theorem dX9_span_11 : decode cX9_span 11 = .ok (.ifCond .ne 5, 3) := by decide +kernel
theorem dX9_span_14 : decode cX9_span 14 = .ok (.iconst (-1), 1) := by decide +kernel
theorem dX9_span_15 : decode cX9_span 15 = .ok (.ireturn, 1) := by decide +kernel
theorem dX9_span_16 : decode cX9_span 16 = .ok (.aload_n 0, 1) := by decide +kernel
theorem dX9_span_17 : decode cX9_span 17 = .ok (.getfield 51, 3) := by decide +kernel
theorem dX9_span_20 : decode cX9_span 20 = .ok (.invokevirtual 212, 3) := by decide +kernel
theorem dX9_span_23 : decode cX9_span 23 = .ok (.ifCond .ne 6, 3) := by decide +kernel
theorem dX9_span_26 : decode cX9_span 26 = .ok (.bipush (-4), 2) := by decide +kernel
theorem dX9_span_28 : decode cX9_span 28 = .ok (.ireturn, 1) := by decide +kernel
theorem dX9_span_29 : decode cX9_span 29 = .ok (.bipush 10, 2) := by decide +kernel
theorem dX9_span_31 : decode cX9_span 31 = .ok (.istore_n 3, 1) := by decide +kernel
theorem dX9_span_32 : decode cX9_span 32 = .ok (.iconst 0, 1) := by decide +kernel
theorem dX9_span_33 : decode cX9_span 33 = .ok (.istore 4, 2) := by decide +kernel
theorem dX9_span_35 : decode cX9_span 35 = .ok (.iconst 0, 1) := by decide +kernel
theorem dX9_span_36 : decode cX9_span 36 = .ok (.istore 5, 2) := by decide +kernel
theorem dX9_span_38 : decode cX9_span 38 = .ok (.iload 5, 2) := by decide +kernel
theorem dX9_span_40 : decode cX9_span 40 = .ok (.bipush 10, 2) := by decide +kernel
theorem dX9_span_42 : decode cX9_span 42 = .ok (.if_icmp .gt 33, 3) := by decide +kernel
theorem dX9_span_45 : decode cX9_span 45 = .ok (.aload_n 0, 1) := by decide +kernel
theorem dX9_span_46 : decode cX9_span 46 = .ok (.getfield 51, 3) := by decide +kernel
theorem dX9_span_49 : decode cX9_span 49 = .ok (.iload_n 1, 1) := by decide +kernel
theorem dX9_span_50 : decode cX9_span 50 = .ok (.iload 5, 2) := by decide +kernel
theorem dX9_span_52 : decode cX9_span 52 = .ok (.invokevirtual 221, 3) := by decide +kernel
theorem dX9_span_55 : decode cX9_span 55 = .ok (.ifCond .le 14, 3) := by decide +kernel
theorem dX9_span_58 : decode cX9_span 58 = .ok (.iload_n 3, 1) := by decide +kernel
theorem dX9_span_59 : decode cX9_span 59 = .ok (.iload 5, 2) := by decide +kernel
theorem dX9_span_61 : decode cX9_span 61 = .ok (.invokestatic 224, 3) := by decide +kernel
theorem dX9_span_64 : decode cX9_span 64 = .ok (.istore_n 3, 1) := by decide +kernel
theorem dX9_span_65 : decode cX9_span 65 = .ok (.iload 5, 2) := by decide +kernel
theorem dX9_span_67 : decode cX9_span 67 = .ok (.istore 4, 2) := by decide +kernel
theorem dX9_span_69 : decode cX9_span 69 = .ok (.iinc 5 1, 3) := by decide +kernel
theorem dX9_span_72 : decode cX9_span 72 = .ok (.goto (-34), 3) := by decide +kernel
theorem dX9_span_75 : decode cX9_span 75 = .ok (.iload_n 2, 1) := by decide +kernel
theorem dX9_span_76 : decode cX9_span 76 = .ok (.ifCond .ne 7, 3) := by decide +kernel
theorem dX9_span_79 : decode cX9_span 79 = .ok (.iload_n 3, 1) := by decide +kernel
theorem dX9_span_80 : decode cX9_span 80 = .ok (.goto 5, 3) := by decide +kernel
theorem dX9_span_83 : decode cX9_span 83 = .ok (.iload 4, 2) := by decide +kernel
theorem dX9_span_85 : decode cX9_span 85 = .ok (.ireturn, 1) := by decide +kernel
set_option maxRecDepth 20000 in
theorem ggX9_say_X9_isPart : GoodIn wsX9_say wsX9_isPart := goodIn_r _ [5] (by decide +kernel) (by decide +kernel)
set_option maxRecDepth 20000 in
theorem gX9_say_X9_isPart : GoodIn wsX9_say (va_wsS RX9 115 yX9_isPart wsX9_isPart) := goodIn_app (goodIn_of _ (by decide +kernel)) ggX9_say_X9_isPart
set_option maxRecDepth 20000 in
theorem ggX9_say_X2_fitting : GoodIn wsX9_say wsX2_fitting := goodIn_r _ [10, 11, 12, 13, 14, 15, 9, 16, 17, 18, 19, 20, 21, 22, 23, 24, 25, 26, 27, 28, 29, 30, 31, 32, 33, 34, 35, 36, 37, 38, 39, 40, 41, 42, 43, 44, 45, 46, 47, 48, 49, 50, 51, 52, 53, 54, 55, 56, 57, 58, 59, 60, 61, 62, 63, 64, 65, 66, 67, 68, 69, 70, 71, 72, 73, 74, 75, 76, 77, 78, 4, 79, 80, 81, 82, 83, 84, 85, 86, 87, 88, 89, 90, 91, 92, 93, 94, 95, 96, 97, 98, 99, 100, 101, 102, 103, 104, 105, 106, 107, 128, 129, 130, 131, 132, 133, 134, 135, 136, 137, 138, 139, 140, 141, 142, 143, 144, 145, 146, 147, 148, 149, 150, 151, 152, 153] (by decide +kernel) (by decide +kernel)
set_option maxRecDepth 20000 in
theorem gX9_say_X2_fitting : GoodIn wsX9_say (wsV RX9 212 RX2 yX2_fitting wsX2_fitting) := goodIn_app (goodIn_of _ (by decide +kernel)) ggX9_say_X2_fitting
set_option maxRecDepth 20000 in
theorem ggX9_say_X2_oftenerIn : GoodIn wsX9_say wsX2_oftenerIn := goodIn_r _ [111, 68, 69, 112, 113, 114, 9, 115, 66, 116, 4, 117, 128, 129, 130, 131, 132, 133, 134, 135, 136, 137, 138, 139, 140] (by decide +kernel) (by decide +kernel)
set_option maxRecDepth 20000 in
theorem gX9_say_X2_oftenerIn : GoodIn wsX9_say (wsV RX9 229 RX2 yX2_oftenerIn wsX2_oftenerIn) := goodIn_app (goodIn_of _ (by decide +kernel)) ggX9_say_X2_oftenerIn
theorem dX9_say_0 : decode cX9_say 0 = .ok (.iload_n 1, 1) := by decide +kernel
theorem dX9_say_1 : decode cX9_say 1 = .ok (.invokestatic 115, 3) := by decide +kernel
theorem dX9_say_4 : decode cX9_say 4 = .ok (.ifCond .eq 15, 3) := by decide +kernel
theorem dX9_say_7 : decode cX9_say 7 = .ok (.iload_n 2, 1) := by decide +kernel
theorem dX9_say_8 : decode cX9_say 8 = .ok (.invokestatic 115, 3) := by decide +kernel
theorem dX9_say_11 : decode cX9_say 11 = .ok (.ifCond .eq 8, 3) := by decide +kernel
theorem dX9_say_14 : decode cX9_say 14 = .ok (.iload_n 1, 1) := by decide +kernel
theorem dX9_say_15 : decode cX9_say 15 = .ok (.iload_n 2, 1) := by decide +kernel
theorem dX9_say_16 : decode cX9_say 16 = .ok (.if_icmp .ne 5, 3) := by decide +kernel
theorem dX9_say_19 : decode cX9_say 19 = .ok (.iconst (-1), 1) := by decide +kernel
theorem dX9_say_20 : decode cX9_say 20 = .ok (.ireturn, 1) := by decide +kernel
theorem dX9_say_21 : decode cX9_say 21 = .ok (.aload_n 0, 1) := by decide +kernel
theorem dX9_say_22 : decode cX9_say 22 = .ok (.getfield 51, 3) := by decide +kernel
theorem dX9_say_25 : decode cX9_say 25 = .ok (.invokevirtual 212, 3) := by decide +kernel
theorem dX9_say_28 : decode cX9_say 28 = .ok (.istore_n 3, 1) := by decide +kernel
theorem dX9_say_29 : decode cX9_say 29 = .ok (.iload_n 3, 1) := by decide +kernel
theorem dX9_say_30 : decode cX9_say 30 = .ok (.ifCond .ne 6, 3) := by decide +kernel
theorem dX9_say_33 : decode cX9_say 33 = .ok (.bipush (-4), 2) := by decide +kernel
theorem dX9_say_35 : decode cX9_say 35 = .ok (.ireturn, 1) := by decide +kernel
theorem dX9_say_36 : decode cX9_say 36 = .ok (.aload_n 0, 1) := by decide +kernel
theorem dX9_say_37 : decode cX9_say 37 = .ok (.getfield 51, 3) := by decide +kernel
theorem dX9_say_40 : decode cX9_say 40 = .ok (.iload_n 1, 1) := by decide +kernel
theorem dX9_say_41 : decode cX9_say 41 = .ok (.iload_n 2, 1) := by decide +kernel
theorem dX9_say_42 : decode cX9_say 42 = .ok (.invokevirtual 229, 3) := by decide +kernel
theorem dX9_say_45 : decode cX9_say 45 = .ok (.istore 4, 2) := by decide +kernel
theorem dX9_say_47 : decode cX9_say 47 = .ok (.iload 4, 2) := by decide +kernel
theorem dX9_say_49 : decode cX9_say 49 = .ok (.iload_n 3, 1) := by decide +kernel
theorem dX9_say_50 : decode cX9_say 50 = .ok (.if_icmp .ne 5, 3) := by decide +kernel
theorem dX9_say_53 : decode cX9_say 53 = .ok (.iconst 1, 1) := by decide +kernel
theorem dX9_say_54 : decode cX9_say 54 = .ok (.ireturn, 1) := by decide +kernel
theorem dX9_say_55 : decode cX9_say 55 = .ok (.iload 4, 2) := by decide +kernel
theorem dX9_say_57 : decode cX9_say 57 = .ok (.ifCond .ne 7, 3) := by decide +kernel
theorem dX9_say_60 : decode cX9_say 60 = .ok (.iconst 2, 1) := by decide +kernel
theorem dX9_say_61 : decode cX9_say 61 = .ok (.goto 4, 3) := by decide +kernel
theorem dX9_say_64 : decode cX9_say 64 = .ok (.iconst 0, 1) := by decide +kernel
theorem dX9_say_65 : decode cX9_say 65 = .ok (.ireturn, 1) := by decide +kernel
set_option maxRecDepth 20000 in
theorem ggX9_cost_X3_sorties : GoodIn wsX9_cost wsX3_sorties := goodIn_r _ [7, 8, 23, 24, 25, 26] (by decide +kernel) (by decide +kernel)
set_option maxRecDepth 20000 in
theorem gX9_cost_X3_sorties : GoodIn wsX9_cost (wsV RX9 129 RX3 yX3_sorties wsX3_sorties) := goodIn_app (goodIn_of _ (by decide +kernel)) ggX9_cost_X3_sorties
set_option maxRecDepth 20000 in
theorem ggX9_cost_X3_withHoles : GoodIn wsX9_cost wsX3_withHoles := goodIn_r _ [12, 8, 23, 24, 25, 26] (by decide +kernel) (by decide +kernel)
set_option maxRecDepth 20000 in
theorem gX9_cost_X3_withHoles : GoodIn wsX9_cost (wsV RX9 232 RX3 yX3_withHoles wsX3_withHoles) := goodIn_app (goodIn_of _ (by decide +kernel)) ggX9_cost_X3_withHoles
theorem dX9_cost_0 : decode cX9_cost 0 = .ok (.aload_n 0, 1) := by decide +kernel
theorem dX9_cost_1 : decode cX9_cost 1 = .ok (.getfield 35, 3) := by decide +kernel
theorem dX9_cost_4 : decode cX9_cost 4 = .ok (.invokevirtual 129, 3) := by decide +kernel
theorem dX9_cost_7 : decode cX9_cost 7 = .ok (.aload_n 0, 1) := by decide +kernel
theorem dX9_cost_8 : decode cX9_cost 8 = .ok (.getfield 35, 3) := by decide +kernel
theorem dX9_cost_11 : decode cX9_cost 11 = .ok (.iconst 0, 1) := by decide +kernel
theorem dX9_cost_12 : decode cX9_cost 12 = .ok (.invokevirtual 232, 3) := by decide +kernel
theorem dX9_cost_15 : decode cX9_cost 15 = .ok (.isub, 1) := by decide +kernel
theorem dX9_cost_16 : decode cX9_cost 16 = .ok (.i2l, 1) := by decide +kernel
theorem dX9_cost_17 : decode cX9_cost 17 = .ok (.lstore_n 1, 1) := by decide +kernel
theorem dX9_cost_18 : decode cX9_cost 18 = .ok (.aload_n 0, 1) := by decide +kernel
theorem dX9_cost_19 : decode cX9_cost 19 = .ok (.getfield 35, 3) := by decide +kernel
theorem dX9_cost_22 : decode cX9_cost 22 = .ok (.iconst 1, 1) := by decide +kernel
theorem dX9_cost_23 : decode cX9_cost 23 = .ok (.invokevirtual 232, 3) := by decide +kernel
theorem dX9_cost_26 : decode cX9_cost 26 = .ok (.i2l, 1) := by decide +kernel
theorem dX9_cost_27 : decode cX9_cost 27 = .ok (.lstore_n 3, 1) := by decide +kernel
theorem dX9_cost_28 : decode cX9_cost 28 = .ok (.aload_n 0, 1) := by decide +kernel
theorem dX9_cost_29 : decode cX9_cost 29 = .ok (.getfield 35, 3) := by decide +kernel
theorem dX9_cost_32 : decode cX9_cost 32 = .ok (.iconst 2, 1) := by decide +kernel
theorem dX9_cost_33 : decode cX9_cost 33 = .ok (.invokevirtual 232, 3) := by decide +kernel
theorem dX9_cost_36 : decode cX9_cost 36 = .ok (.i2l, 1) := by decide +kernel
theorem dX9_cost_37 : decode cX9_cost 37 = .ok (.lstore 5, 2) := by decide +kernel
theorem dX9_cost_39 : decode cX9_cost 39 = .ok (.aload_n 0, 1) := by decide +kernel
theorem dX9_cost_40 : decode cX9_cost 40 = .ok (.getfield 35, 3) := by decide +kernel
theorem dX9_cost_43 : decode cX9_cost 43 = .ok (.iconst 3, 1) := by decide +kernel
theorem dX9_cost_44 : decode cX9_cost 44 = .ok (.invokevirtual 232, 3) := by decide +kernel
theorem dX9_cost_47 : decode cX9_cost 47 = .ok (.i2l, 1) := by decide +kernel
theorem dX9_cost_48 : decode cX9_cost 48 = .ok (.lstore 7, 2) := by decide +kernel
theorem dX9_cost_50 : decode cX9_cost 50 = .ok (.lconst 1, 1) := by decide +kernel
theorem dX9_cost_51 : decode cX9_cost 51 = .ok (.lstore 9, 2) := by decide +kernel
theorem dX9_cost_53 : decode cX9_cost 53 = .ok (.lload 9, 2) := by decide +kernel
theorem dX9_cost_55 : decode cX9_cost 55 = .ok (.ldc2_w 235, 3) := by decide +kernel
theorem dX9_cost_58 : decode cX9_cost 58 = .ok (.lcmp, 1) := by decide +kernel
theorem dX9_cost_59 : decode cX9_cost 59 = .ok (.ifCond .gt 58, 3) := by decide +kernel
theorem dX9_cost_62 : decode cX9_cost 62 = .ok (.ldc2_w 235, 3) := by decide +kernel
theorem dX9_cost_65 : decode cX9_cost 65 = .ok (.ldc2_w 235, 3) := by decide +kernel
theorem dX9_cost_68 : decode cX9_cost 68 = .ok (.ldc2_w 235, 3) := by decide +kernel
theorem dX9_cost_71 : decode cX9_cost 71 = .ok (.lload 7, 2) := by decide +kernel
theorem dX9_cost_73 : decode cX9_cost 73 = .ok (.lmul, 1) := by decide +kernel
theorem dX9_cost_74 : decode cX9_cost 74 = .ok (.lload 5, 2) := by decide +kernel
theorem dX9_cost_76 : decode cX9_cost 76 = .ok (.lload 9, 2) := by decide +kernel
theorem dX9_cost_78 : decode cX9_cost 78 = .ok (.lmul, 1) := by decide +kernel
theorem dX9_cost_79 : decode cX9_cost 79 = .ok (.ladd, 1) := by decide +kernel
theorem dX9_cost_80 : decode cX9_cost 80 = .ok (.lmul, 1) := by decide +kernel
theorem dX9_cost_81 : decode cX9_cost 81 = .ok (.lload_n 3, 1) := by decide +kernel
theorem dX9_cost_82 : decode cX9_cost 82 = .ok (.lload 9, 2) := by decide +kernel
theorem dX9_cost_84 : decode cX9_cost 84 = .ok (.lmul, 1) := by decide +kernel
theorem dX9_cost_85 : decode cX9_cost 85 = .ok (.lload 9, 2) := by decide +kernel
theorem dX9_cost_87 : decode cX9_cost 87 = .ok (.lmul, 1) := by decide +kernel
theorem dX9_cost_88 : decode cX9_cost 88 = .ok (.ladd, 1) := by decide +kernel
theorem dX9_cost_89 : decode cX9_cost 89 = .ok (.lmul, 1) := by decide +kernel
theorem dX9_cost_90 : decode cX9_cost 90 = .ok (.lload_n 1, 1) := by decide +kernel
theorem dX9_cost_91 : decode cX9_cost 91 = .ok (.lload 9, 2) := by decide +kernel
theorem dX9_cost_93 : decode cX9_cost 93 = .ok (.lmul, 1) := by decide +kernel
theorem dX9_cost_94 : decode cX9_cost 94 = .ok (.lload 9, 2) := by decide +kernel
theorem dX9_cost_96 : decode cX9_cost 96 = .ok (.lmul, 1) := by decide +kernel
theorem dX9_cost_97 : decode cX9_cost 97 = .ok (.lload 9, 2) := by decide +kernel
theorem dX9_cost_99 : decode cX9_cost 99 = .ok (.lmul, 1) := by decide +kernel
theorem dX9_cost_100 : decode cX9_cost 100 = .ok (.lcmp, 1) := by decide +kernel
theorem dX9_cost_101 : decode cX9_cost 101 = .ok (.ifCond .gt 7, 3) := by decide +kernel
theorem dX9_cost_104 : decode cX9_cost 104 = .ok (.lload 9, 2) := by decide +kernel
theorem dX9_cost_106 : decode cX9_cost 106 = .ok (.l2i, 1) := by decide +kernel
theorem dX9_cost_107 : decode cX9_cost 107 = .ok (.ireturn, 1) := by decide +kernel
theorem dX9_cost_108 : decode cX9_cost 108 = .ok (.lload 9, 2) := by decide +kernel
theorem dX9_cost_110 : decode cX9_cost 110 = .ok (.lconst 1, 1) := by decide +kernel
theorem dX9_cost_111 : decode cX9_cost 111 = .ok (.ladd, 1) := by decide +kernel
theorem dX9_cost_112 : decode cX9_cost 112 = .ok (.lstore 9, 2) := by decide +kernel
theorem dX9_cost_114 : decode cX9_cost 114 = .ok (.goto (-61), 3) := by decide +kernel
theorem dX9_cost_117 : decode cX9_cost 117 = .ok (.bipush (-4), 2) := by decide +kernel
theorem dX9_cost_119 : decode cX9_cost 119 = .ok (.ireturn, 1) := by decide +kernel
set_option maxRecDepth 20000 in
theorem ggX9_near_X9_isLaw : GoodIn wsX9_near wsX9_isLaw := goodIn_r _ [5] (by decide +kernel) (by decide +kernel)
set_option maxRecDepth 20000 in
theorem gX9_near_X9_isLaw : GoodIn wsX9_near (va_wsS RX9 173 yX9_isLaw wsX9_isLaw) := goodIn_app (goodIn_of _ (by decide +kernel)) ggX9_near_X9_isLaw
set_option maxRecDepth 20000 in
theorem ggX9_near_X2_lawFits : GoodIn wsX9_near wsX2_lawFits := goodIn_r _ [10, 11, 12, 13, 4, 14, 15, 16, 17, 18, 19, 20, 21, 22, 23, 24, 25, 26, 27, 28, 29, 30, 31, 32, 33, 34, 35, 36, 37, 38, 39, 40, 41, 9, 42, 43, 44, 45, 46, 47, 48, 49, 50, 51, 52, 53, 54, 55, 56, 57, 58, 59, 60, 61, 62, 63, 64, 65, 66, 67, 68, 69, 70, 71, 72, 73, 74, 75, 76, 77, 78, 79, 80, 91, 92, 93, 94, 95, 96, 97, 98, 99, 100, 101, 102, 103, 104, 105, 106, 107, 108, 109, 110, 111, 112, 113, 114, 115, 116] (by decide +kernel) (by decide +kernel)
set_option maxRecDepth 20000 in
theorem gX9_near_X2_lawFits : GoodIn wsX9_near (wsV RX9 208 RX2 yX2_lawFits wsX2_lawFits) := goodIn_app (goodIn_of _ (by decide +kernel)) ggX9_near_X2_lawFits
theorem dX9_near_0 : decode cX9_near 0 = .ok (.iload_n 1, 1) := by decide +kernel
theorem dX9_near_1 : decode cX9_near 1 = .ok (.invokestatic 173, 3) := by decide +kernel
theorem dX9_near_4 : decode cX9_near 4 = .ok (.ifCond .ne 5, 3) := by decide +kernel
theorem dX9_near_7 : decode cX9_near 7 = .ok (.iconst (-1), 1) := by decide +kernel
theorem dX9_near_8 : decode cX9_near 8 = .ok (.ireturn, 1) := by decide +kernel
theorem dX9_near_9 : decode cX9_near 9 = .ok (.iconst 0, 1) := by decide +kernel
theorem dX9_near_10 : decode cX9_near 10 = .ok (.istore_n 2, 1) := by decide +kernel
theorem dX9_near_11 : decode cX9_near 11 = .ok (.iload_n 2, 1) := by decide +kernel
theorem dX9_near_12 : decode cX9_near 12 = .ok (.bipush 99, 2) := by decide +kernel
theorem dX9_near_14 : decode cX9_near 14 = .ok (.if_icmp .gt 23, 3) := by decide +kernel
theorem dX9_near_17 : decode cX9_near 17 = .ok (.aload_n 0, 1) := by decide +kernel
theorem dX9_near_18 : decode cX9_near 18 = .ok (.getfield 51, 3) := by decide +kernel
theorem dX9_near_21 : decode cX9_near 21 = .ok (.iload_n 1, 1) := by decide +kernel
theorem dX9_near_22 : decode cX9_near 22 = .ok (.iload_n 2, 1) := by decide +kernel
theorem dX9_near_23 : decode cX9_near 23 = .ok (.invokevirtual 208, 3) := by decide +kernel
theorem dX9_near_26 : decode cX9_near 26 = .ok (.ifCond .eq 5, 3) := by decide +kernel
theorem dX9_near_29 : decode cX9_near 29 = .ok (.iload_n 2, 1) := by decide +kernel
theorem dX9_near_30 : decode cX9_near 30 = .ok (.ireturn, 1) := by decide +kernel
theorem dX9_near_31 : decode cX9_near 31 = .ok (.iinc 2 1, 3) := by decide +kernel
theorem dX9_near_34 : decode cX9_near 34 = .ok (.goto (-23), 3) := by decide +kernel
theorem dX9_near_37 : decode cX9_near 37 = .ok (.bipush (-4), 2) := by decide +kernel
theorem dX9_near_39 : decode cX9_near 39 = .ok (.ireturn, 1) := by decide +kernel
set_option maxRecDepth 20000 in
theorem ggX9_lost_X9_isLaw : GoodIn wsX9_lost wsX9_isLaw := goodIn_r _ [10] (by decide +kernel) (by decide +kernel)
set_option maxRecDepth 20000 in
theorem gX9_lost_X9_isLaw : GoodIn wsX9_lost (va_wsS RX9 173 yX9_isLaw wsX9_isLaw) := goodIn_app (goodIn_of _ (by decide +kernel)) ggX9_lost_X9_isLaw
set_option maxRecDepth 20000 in
theorem ggX9_lost_X9_isSide : GoodIn wsX9_lost wsX9_isSide := goodIn_r _ [13] (by decide +kernel) (by decide +kernel)
set_option maxRecDepth 20000 in
theorem gX9_lost_X9_isSide : GoodIn wsX9_lost (va_wsS RX9 176 yX9_isSide wsX9_isSide) := goodIn_app (goodIn_of _ (by decide +kernel)) ggX9_lost_X9_isSide
set_option maxRecDepth 20000 in
theorem ggX9_lost_X4_homesBy : GoodIn wsX9_lost wsX4_homesBy := goodIn_r _ [18, 19, 20, 21, 22, 17, 23, 24, 25, 26, 27, 28, 29, 30, 9, 31, 32, 33, 34, 35, 36, 37, 38, 39, 40, 41, 42, 65, 66, 67, 68, 69, 70, 71, 72, 73, 74] (by decide +kernel) (by decide +kernel)
set_option maxRecDepth 20000 in
theorem gX9_lost_X4_homesBy : GoodIn wsX9_lost (wsV RX9 240 RX4 yX4_homesBy wsX4_homesBy) := goodIn_app (goodIn_of _ (by decide +kernel)) ggX9_lost_X4_homesBy
set_option maxRecDepth 20000 in
theorem ggX9_lost_X8_notOther : GoodIn wsX9_lost wsX8_notOther := goodIn_r _ [46, 47, 69, 70, 71, 72, 73, 74] (by decide +kernel) (by decide +kernel)
set_option maxRecDepth 20000 in
theorem gX9_lost_X8_notOther : GoodIn wsX9_lost (wsV RX9 244 RX8 yX8_notOther wsX8_notOther) := goodIn_app (goodIn_of _ (by decide +kernel)) ggX9_lost_X8_notOther
set_option maxRecDepth 20000 in
theorem ggX9_lost_X9_lowest : GoodIn wsX9_lost wsX9_lowest := goodIn_r _ [50, 51, 52, 53, 54] (by decide +kernel) (by decide +kernel)
set_option maxRecDepth 20000 in
theorem gX9_lost_X9_lowest : GoodIn wsX9_lost (va_wsS RX9 193 yX9_lowest wsX9_lowest) := goodIn_app (goodIn_of _ (by decide +kernel)) ggX9_lost_X9_lowest
theorem dX9_lost_0 : decode cX9_lost 0 = .ok (.iload_n 1, 1) := by decide +kernel
theorem dX9_lost_1 : decode cX9_lost 1 = .ok (.invokestatic 173, 3) := by decide +kernel
theorem dX9_lost_4 : decode cX9_lost 4 = .ok (.ifCond .eq 32, 3) := by decide +kernel
theorem dX9_lost_7 : decode cX9_lost 7 = .ok (.iload_n 2, 1) := by decide +kernel
theorem dX9_lost_8 : decode cX9_lost 8 = .ok (.ifCond .lt 28, 3) := by decide +kernel
theorem dX9_lost_11 : decode cX9_lost 11 = .ok (.iload_n 2, 1) := by decide +kernel
theorem dX9_lost_12 : decode cX9_lost 12 = .ok (.bipush 16, 2) := by decide +kernel
theorem dX9_lost_14 : decode cX9_lost 14 = .ok (.if_icmp .ge 22, 3) := by decide +kernel
theorem dX9_lost_17 : decode cX9_lost 17 = .ok (.iload_n 3, 1) := by decide +kernel
theorem dX9_lost_18 : decode cX9_lost 18 = .ok (.invokestatic 176, 3) := by decide +kernel
theorem dX9_lost_21 : decode cX9_lost 21 = .ok (.ifCond .eq 15, 3) := by decide +kernel
theorem dX9_lost_24 : decode cX9_lost 24 = .ok (.aload_n 0, 1) := by decide +kernel
theorem dX9_lost_25 : decode cX9_lost 25 = .ok (.getfield 60, 3) := by decide +kernel
theorem dX9_lost_28 : decode cX9_lost 28 = .ok (.getfield 237, 3) := by decide +kernel
theorem dX9_lost_31 : decode cX9_lost 31 = .ok (.iload_n 2, 1) := by decide +kernel
theorem dX9_lost_32 : decode cX9_lost 32 = .ok (.baload, 1) := by decide +kernel
theorem dX9_lost_33 : decode cX9_lost 33 = .ok (.ifCond .ne 7, 3) := by decide +kernel
theorem dX9_lost_36 : decode cX9_lost 36 = .ok (.ldc2_w 179, 3) := by decide +kernel
theorem dX9_lost_39 : decode cX9_lost 39 = .ok (.lreturn, 1) := by decide +kernel
theorem dX9_lost_40 : decode cX9_lost 40 = .ok (.ldc2_w 235, 3) := by decide +kernel
theorem dX9_lost_43 : decode cX9_lost 43 = .ok (.aload_n 0, 1) := by decide +kernel
theorem dX9_lost_44 : decode cX9_lost 44 = .ok (.getfield 10, 3) := by decide +kernel
theorem dX9_lost_47 : decode cX9_lost 47 = .ok (.getfield 189, 3) := by decide +kernel
theorem dX9_lost_50 : decode cX9_lost 50 = .ok (.lmul, 1) := by decide +kernel
theorem dX9_lost_51 : decode cX9_lost 51 = .ok (.lstore 4, 2) := by decide +kernel
theorem dX9_lost_53 : decode cX9_lost 53 = .ok (.lload 4, 2) := by decide +kernel
theorem dX9_lost_55 : decode cX9_lost 55 = .ok (.aload_n 0, 1) := by decide +kernel
theorem dX9_lost_56 : decode cX9_lost 56 = .ok (.getfield 60, 3) := by decide +kernel
theorem dX9_lost_59 : decode cX9_lost 59 = .ok (.iload_n 1, 1) := by decide +kernel
theorem dX9_lost_60 : decode cX9_lost 60 = .ok (.iload_n 2, 1) := by decide +kernel
theorem dX9_lost_61 : decode cX9_lost 61 = .ok (.invokevirtual 240, 3) := by decide +kernel
theorem dX9_lost_64 : decode cX9_lost 64 = .ok (.aload_n 0, 1) := by decide +kernel
theorem dX9_lost_65 : decode cX9_lost 65 = .ok (.getfield 10, 3) := by decide +kernel
theorem dX9_lost_68 : decode cX9_lost 68 = .ok (.invokevirtual 244, 3) := by decide +kernel
theorem dX9_lost_71 : decode cX9_lost 71 = .ok (.lmul, 1) := by decide +kernel
theorem dX9_lost_72 : decode cX9_lost 72 = .ok (.lsub, 1) := by decide +kernel
theorem dX9_lost_73 : decode cX9_lost 73 = .ok (.lload 4, 2) := by decide +kernel
theorem dX9_lost_75 : decode cX9_lost 75 = .ok (.iload_n 3, 1) := by decide +kernel
theorem dX9_lost_76 : decode cX9_lost 76 = .ok (.invokestatic 193, 3) := by decide +kernel
theorem dX9_lost_79 : decode cX9_lost 79 = .ok (.lreturn, 1) := by decide +kernel
set_option maxRecDepth 20000 in
theorem ggX9_best_X9_isLaw : GoodIn wsX9_best wsX9_isLaw := goodIn_r _ [5] (by decide +kernel) (by decide +kernel)
set_option maxRecDepth 20000 in
theorem gX9_best_X9_isLaw : GoodIn wsX9_best (va_wsS RX9 173 yX9_isLaw wsX9_isLaw) := goodIn_app (goodIn_of _ (by decide +kernel)) ggX9_best_X9_isLaw
set_option maxRecDepth 20000 in
theorem ggX9_best_X4_bestFor : GoodIn wsX9_best wsX4_bestFor := goodIn_r _ [10, 11, 12, 13, 14, 9, 15, 16, 17, 18, 19, 20, 21, 22, 4, 23, 24, 25, 26, 27, 28, 29, 30, 31, 32, 33, 34, 35, 36, 37, 38, 39, 40, 51, 52, 53, 54, 55, 56, 57, 58, 59, 60] (by decide +kernel) (by decide +kernel)
set_option maxRecDepth 20000 in
theorem gX9_best_X4_bestFor : GoodIn wsX9_best (wsV RX9 248 RX4 yX4_bestFor wsX4_bestFor) := goodIn_app (goodIn_of _ (by decide +kernel)) ggX9_best_X4_bestFor
theorem dX9_best_0 : decode cX9_best 0 = .ok (.iload_n 1, 1) := by decide +kernel
theorem dX9_best_1 : decode cX9_best 1 = .ok (.invokestatic 173, 3) := by decide +kernel
theorem dX9_best_4 : decode cX9_best 4 = .ok (.ifCond .eq 14, 3) := by decide +kernel
theorem dX9_best_7 : decode cX9_best 7 = .ok (.aload_n 0, 1) := by decide +kernel
theorem dX9_best_8 : decode cX9_best 8 = .ok (.getfield 60, 3) := by decide +kernel
theorem dX9_best_11 : decode cX9_best 11 = .ok (.iload_n 1, 1) := by decide +kernel
theorem dX9_best_12 : decode cX9_best 12 = .ok (.invokevirtual 248, 3) := by decide +kernel
theorem dX9_best_15 : decode cX9_best 15 = .ok (.goto 4, 3) := by decide +kernel
theorem dX9_best_18 : decode cX9_best 18 = .ok (.iconst (-1), 1) := by decide +kernel
theorem dX9_best_19 : decode cX9_best 19 = .ok (.ireturn, 1) := by decide +kernel
set_option maxRecDepth 20000 in
theorem ggX9_safest_X2_fitting : GoodIn wsX9_safest wsX2_fitting := goodIn_r _ [7, 8, 9, 10, 11, 12, 6, 13, 14, 15, 16, 17, 18, 19, 20, 21, 22, 23, 24, 25, 26, 27, 28, 29, 30, 31, 32, 33, 34, 35, 36, 37, 38, 39, 40, 41, 42, 43, 44, 45, 46, 47, 48, 49, 50, 51, 52, 53, 54, 55, 56, 57, 58, 59, 60, 61, 62, 63, 64, 65, 66, 67, 68, 69, 70, 71, 72, 73, 74, 75, 76, 77, 78, 79, 80, 81, 82, 83, 84, 85, 86, 87, 88, 89, 90, 91, 92, 93, 94, 95, 96, 97, 98, 99, 100, 101, 102, 103, 104, 105, 156, 157, 158, 159, 160, 161, 162, 163, 164, 165, 166, 167, 168, 169, 170, 171, 172, 173, 174, 175, 176, 177, 178, 179, 180, 181] (by decide +kernel) (by decide +kernel)
set_option maxRecDepth 20000 in
theorem gX9_safest_X2_fitting : GoodIn wsX9_safest (wsV RX9 212 RX2 yX2_fitting wsX2_fitting) := goodIn_app (goodIn_of _ (by decide +kernel)) ggX9_safest_X2_fitting
set_option maxRecDepth 20000 in
theorem ggX9_safest_X2_safestPlates : GoodIn wsX9_safest wsX2_safestPlates := goodIn_r _ [109, 110, 111, 65, 66, 112, 113, 114, 27, 115, 116, 117, 118, 6, 119, 63, 120, 121, 122, 123, 124, 125, 126, 127, 128, 129, 38, 130, 131, 76, 132, 133, 86, 87, 88, 89, 134, 135, 136, 137, 138, 139, 140, 141, 142, 143, 144, 145, 156, 157, 158, 159, 160, 161, 162, 163, 164, 165, 166, 167, 168, 182, 183, 184, 185, 169, 170, 171, 172, 173, 174] (by decide +kernel) (by decide +kernel)
set_option maxRecDepth 20000 in
theorem gX9_safest_X2_safestPlates : GoodIn wsX9_safest (wsV RX9 251 RX2 yX2_safestPlates wsX2_safestPlates) := goodIn_app (goodIn_of _ (by decide +kernel)) ggX9_safest_X2_safestPlates
theorem dX9_safest_0 : decode cX9_safest 0 = .ok (.aload_n 0, 1) := by decide +kernel
theorem dX9_safest_1 : decode cX9_safest 1 = .ok (.getfield 51, 3) := by decide +kernel
theorem dX9_safest_4 : decode cX9_safest 4 = .ok (.invokevirtual 212, 3) := by decide +kernel
theorem dX9_safest_7 : decode cX9_safest 7 = .ok (.ifCond .ne 8, 3) := by decide +kernel
theorem dX9_safest_10 : decode cX9_safest 10 = .ok (.bipush (-4), 2) := by decide +kernel
theorem dX9_safest_12 : decode cX9_safest 12 = .ok (.goto 14, 3) := by decide +kernel
theorem dX9_safest_15 : decode cX9_safest 15 = .ok (.aload_n 0, 1) := by decide +kernel
theorem dX9_safest_16 : decode cX9_safest 16 = .ok (.getfield 51, 3) := by decide +kernel
theorem dX9_safest_19 : decode cX9_safest 19 = .ok (.aload_n 0, 1) := by decide +kernel
theorem dX9_safest_20 : decode cX9_safest 20 = .ok (.getfield 60, 3) := by decide +kernel
theorem dX9_safest_23 : decode cX9_safest 23 = .ok (.invokevirtual 251, 3) := by decide +kernel
theorem dX9_safest_26 : decode cX9_safest 26 = .ok (.ireturn, 1) := by decide +kernel
set_option maxRecDepth 20000 in
theorem ggX9_drawing_X4_drawnFrom : GoodIn wsX9_drawing wsX4_drawnFrom := goodIn_r _ [7, 8, 9, 10, 11, 6, 12, 13, 14, 15, 16, 17, 18, 19, 20, 21, 22, 23, 24, 35, 36, 37, 38, 39, 40, 41, 42, 43, 44, 45, 46, 47, 48] (by decide +kernel) (by decide +kernel)
set_option maxRecDepth 20000 in
theorem gX9_drawing_X4_drawnFrom : GoodIn wsX9_drawing (wsV RX9 255 RX4 yX4_drawnFrom wsX4_drawnFrom) := goodIn_app (goodIn_of _ (by decide +kernel)) ggX9_drawing_X4_drawnFrom
theorem dX9_drawing_0 : decode cX9_drawing 0 = .ok (.aload_n 0, 1) := by decide +kernel
theorem dX9_drawing_1 : decode cX9_drawing 1 = .ok (.getfield 60, 3) := by decide +kernel
theorem dX9_drawing_4 : decode cX9_drawing 4 = .ok (.aload_n 0, 1) := by decide +kernel
theorem dX9_drawing_5 : decode cX9_drawing 5 = .ok (.getfield 35, 3) := by decide +kernel
theorem dX9_drawing_8 : decode cX9_drawing 8 = .ok (.invokevirtual 255, 3) := by decide +kernel
theorem dX9_drawing_11 : decode cX9_drawing 11 = .ok (.ireturn, 1) := by decide +kernel
set_option maxRecDepth 20000 in
theorem ggX9_wrong_X9_isLaw : GoodIn wsX9_wrong wsX9_isLaw := goodIn_r _ [10] (by decide +kernel) (by decide +kernel)
set_option maxRecDepth 20000 in
theorem gX9_wrong_X9_isLaw : GoodIn wsX9_wrong (va_wsS RX9 173 yX9_isLaw wsX9_isLaw) := goodIn_app (goodIn_of _ (by decide +kernel)) ggX9_wrong_X9_isLaw
set_option maxRecDepth 20000 in
theorem ggX9_wrong_X4_bestFor : GoodIn wsX9_wrong wsX4_bestFor := goodIn_r _ [15, 16, 17, 18, 19, 14, 20, 21, 22, 23, 24, 25, 26, 27, 9, 28, 29, 30, 31, 32, 33, 34, 35, 36, 37, 38, 39, 40, 41, 42, 43, 44, 45, 90, 91, 92, 93, 84, 85, 86, 87, 88, 89] (by decide +kernel) (by decide +kernel)
set_option maxRecDepth 20000 in
theorem gX9_wrong_X4_bestFor : GoodIn wsX9_wrong (wsV RX9 248 RX4 yX4_bestFor wsX4_bestFor) := goodIn_app (goodIn_of _ (by decide +kernel)) ggX9_wrong_X4_bestFor
set_option maxRecDepth 20000 in
theorem ggX9_wrong_X4_homesBy : GoodIn wsX9_wrong wsX4_homesBy := goodIn_r _ [49, 16, 17, 18, 19, 14, 20, 21, 22, 23, 24, 25, 26, 27, 9, 28, 29, 30, 31, 32, 33, 34, 41, 42, 43, 44, 45, 90, 91, 92, 93, 84, 85, 86, 87, 88, 89] (by decide +kernel) (by decide +kernel)
set_option maxRecDepth 20000 in
theorem gX9_wrong_X4_homesBy : GoodIn wsX9_wrong (wsV RX9 240 RX4 yX4_homesBy wsX4_homesBy) := goodIn_app (goodIn_of _ (by decide +kernel)) ggX9_wrong_X4_homesBy
set_option maxRecDepth 20000 in
theorem ggX9_wrong_X4_drawnFrom : GoodIn wsX9_wrong wsX4_drawnFrom := goodIn_r _ [53, 40, 54, 55, 56, 14, 57, 21, 58, 59, 60, 61, 62, 63, 64, 65, 66, 67, 68, 90, 91, 92, 93, 84, 85, 86, 87, 88, 89, 94, 95, 96, 97] (by decide +kernel) (by decide +kernel)
set_option maxRecDepth 20000 in
theorem gX9_wrong_X4_drawnFrom : GoodIn wsX9_wrong (wsV RX9 255 RX4 yX4_drawnFrom wsX4_drawnFrom) := goodIn_app (goodIn_of _ (by decide +kernel)) ggX9_wrong_X4_drawnFrom
set_option maxRecDepth 20000 in
theorem ggX9_wrong_X8_notOther : GoodIn wsX9_wrong wsX8_notOther := goodIn_r _ [72, 73, 84, 85, 86, 87, 88, 89] (by decide +kernel) (by decide +kernel)
set_option maxRecDepth 20000 in
theorem gX9_wrong_X8_notOther : GoodIn wsX9_wrong (wsV RX9 244 RX8 yX8_notOther wsX8_notOther) := goodIn_app (goodIn_of _ (by decide +kernel)) ggX9_wrong_X8_notOther
theorem dX9_wrong_0 : decode cX9_wrong 0 = .ok (.iload_n 1, 1) := by decide +kernel
theorem dX9_wrong_1 : decode cX9_wrong 1 = .ok (.invokestatic 173, 3) := by decide +kernel
theorem dX9_wrong_4 : decode cX9_wrong 4 = .ok (.ifCond .ne 5, 3) := by decide +kernel
theorem dX9_wrong_7 : decode cX9_wrong 7 = .ok (.iconst (-1), 1) := by decide +kernel
theorem dX9_wrong_8 : decode cX9_wrong 8 = .ok (.ireturn, 1) := by decide +kernel
theorem dX9_wrong_9 : decode cX9_wrong 9 = .ok (.aload_n 0, 1) := by decide +kernel
theorem dX9_wrong_10 : decode cX9_wrong 10 = .ok (.getfield 60, 3) := by decide +kernel
theorem dX9_wrong_13 : decode cX9_wrong 13 = .ok (.iload_n 1, 1) := by decide +kernel
theorem dX9_wrong_14 : decode cX9_wrong 14 = .ok (.aload_n 0, 1) := by decide +kernel
theorem dX9_wrong_15 : decode cX9_wrong 15 = .ok (.getfield 60, 3) := by decide +kernel
theorem dX9_wrong_18 : decode cX9_wrong 18 = .ok (.iload_n 1, 1) := by decide +kernel
theorem dX9_wrong_19 : decode cX9_wrong 19 = .ok (.invokevirtual 248, 3) := by decide +kernel
theorem dX9_wrong_22 : decode cX9_wrong 22 = .ok (.invokevirtual 240, 3) := by decide +kernel
theorem dX9_wrong_25 : decode cX9_wrong 25 = .ok (.aload_n 0, 1) := by decide +kernel
theorem dX9_wrong_26 : decode cX9_wrong 26 = .ok (.getfield 60, 3) := by decide +kernel
theorem dX9_wrong_29 : decode cX9_wrong 29 = .ok (.iload_n 1, 1) := by decide +kernel
theorem dX9_wrong_30 : decode cX9_wrong 30 = .ok (.aload_n 0, 1) := by decide +kernel
theorem dX9_wrong_31 : decode cX9_wrong 31 = .ok (.getfield 60, 3) := by decide +kernel
theorem dX9_wrong_34 : decode cX9_wrong 34 = .ok (.aload_n 0, 1) := by decide +kernel
theorem dX9_wrong_35 : decode cX9_wrong 35 = .ok (.getfield 35, 3) := by decide +kernel
theorem dX9_wrong_38 : decode cX9_wrong 38 = .ok (.invokevirtual 255, 3) := by decide +kernel
theorem dX9_wrong_41 : decode cX9_wrong 41 = .ok (.invokevirtual 240, 3) := by decide +kernel
theorem dX9_wrong_44 : decode cX9_wrong 44 = .ok (.lsub, 1) := by decide +kernel
theorem dX9_wrong_45 : decode cX9_wrong 45 = .ok (.lstore_n 2, 1) := by decide +kernel
theorem dX9_wrong_46 : decode cX9_wrong 46 = .ok (.ldc2_w 235, 3) := by decide +kernel
theorem dX9_wrong_49 : decode cX9_wrong 49 = .ok (.aload_n 0, 1) := by decide +kernel
theorem dX9_wrong_50 : decode cX9_wrong 50 = .ok (.getfield 10, 3) := by decide +kernel
theorem dX9_wrong_53 : decode cX9_wrong 53 = .ok (.getfield 189, 3) := by decide +kernel
theorem dX9_wrong_56 : decode cX9_wrong 56 = .ok (.lmul, 1) := by decide +kernel
theorem dX9_wrong_57 : decode cX9_wrong 57 = .ok (.ldc2_w 259, 3) := by decide +kernel
theorem dX9_wrong_60 : decode cX9_wrong 60 = .ok (.ldiv, 1) := by decide +kernel
theorem dX9_wrong_61 : decode cX9_wrong 61 = .ok (.lstore 4, 2) := by decide +kernel
theorem dX9_wrong_63 : decode cX9_wrong 63 = .ok (.lload 4, 2) := by decide +kernel
theorem dX9_wrong_65 : decode cX9_wrong 65 = .ok (.lconst 1, 1) := by decide +kernel
theorem dX9_wrong_66 : decode cX9_wrong 66 = .ok (.lcmp, 1) := by decide +kernel
theorem dX9_wrong_67 : decode cX9_wrong 67 = .ok (.ifCond .ge 7, 3) := by decide +kernel
theorem dX9_wrong_70 : decode cX9_wrong 70 = .ok (.iconst 0, 1) := by decide +kernel
theorem dX9_wrong_71 : decode cX9_wrong 71 = .ok (.goto 21, 3) := by decide +kernel
theorem dX9_wrong_74 : decode cX9_wrong 74 = .ok (.lload_n 2, 1) := by decide +kernel
theorem dX9_wrong_75 : decode cX9_wrong 75 = .ok (.aload_n 0, 1) := by decide +kernel
theorem dX9_wrong_76 : decode cX9_wrong 76 = .ok (.getfield 10, 3) := by decide +kernel
theorem dX9_wrong_79 : decode cX9_wrong 79 = .ok (.invokevirtual 244, 3) := by decide +kernel
theorem dX9_wrong_82 : decode cX9_wrong 82 = .ok (.lmul, 1) := by decide +kernel
theorem dX9_wrong_83 : decode cX9_wrong 83 = .ok (.lload 4, 2) := by decide +kernel
theorem dX9_wrong_85 : decode cX9_wrong 85 = .ok (.ladd, 1) := by decide +kernel
theorem dX9_wrong_86 : decode cX9_wrong 86 = .ok (.lconst 1, 1) := by decide +kernel
theorem dX9_wrong_87 : decode cX9_wrong 87 = .ok (.lsub, 1) := by decide +kernel
theorem dX9_wrong_88 : decode cX9_wrong 88 = .ok (.lload 4, 2) := by decide +kernel
theorem dX9_wrong_90 : decode cX9_wrong 90 = .ok (.ldiv, 1) := by decide +kernel
theorem dX9_wrong_91 : decode cX9_wrong 91 = .ok (.l2i, 1) := by decide +kernel
theorem dX9_wrong_92 : decode cX9_wrong 92 = .ok (.ireturn, 1) := by decide +kernel
set_option maxRecDepth 20000 in
theorem ggX9_unlike_X2_fitting : GoodIn wsX9_unlike wsX2_fitting := goodIn_r _ [8, 9, 10, 11, 12, 13, 7, 14, 15, 16, 17, 18, 19, 20, 21, 22, 23, 24, 25, 26, 27, 28, 29, 30, 31, 32, 33, 34, 35, 36, 37, 38, 39, 40, 41, 42, 43, 44, 45, 46, 47, 48, 49, 50, 51, 52, 53, 54, 55, 56, 57, 58, 59, 60, 61, 62, 63, 64, 65, 66, 67, 68, 69, 70, 71, 72, 73, 74, 75, 76, 77, 78, 79, 80, 81, 82, 83, 84, 85, 86, 87, 88, 89, 90, 91, 92, 93, 94, 95, 96, 97, 98, 99, 100, 101, 102, 103, 104, 105, 106, 160, 161, 162, 163, 164, 165, 166, 167, 168, 169, 170, 171, 172, 173, 174, 175, 176, 177, 178, 179, 180, 181, 182, 183, 184, 185] (by decide +kernel) (by decide +kernel)
set_option maxRecDepth 20000 in
theorem gX9_unlike_X2_fitting : GoodIn wsX9_unlike (wsV RX9 212 RX2 yX2_fitting wsX2_fitting) := goodIn_app (goodIn_of _ (by decide +kernel)) ggX9_unlike_X2_fitting
set_option maxRecDepth 20000 in
theorem ggX9_unlike_X2_unlikeLaw : GoodIn wsX9_unlike wsX2_unlikeLaw := goodIn_r _ [110, 111, 66, 67, 112, 113, 114, 115, 116, 117, 118, 119, 120, 121, 122, 123, 124, 125, 39, 126, 127, 77, 128, 129, 87, 88, 89, 90, 130, 131, 132, 133, 134, 135, 136, 137, 138, 139, 140, 141, 142, 143, 144, 7, 145, 64, 160, 161, 162, 163, 164, 165, 166, 167, 168, 169, 170, 171, 172, 186, 187, 188, 189, 173, 174, 175, 176, 177, 178] (by decide +kernel) (by decide +kernel)
set_option maxRecDepth 20000 in
theorem gX9_unlike_X2_unlikeLaw : GoodIn wsX9_unlike (wsV RX9 261 RX2 yX2_unlikeLaw wsX2_unlikeLaw) := goodIn_app (goodIn_of _ (by decide +kernel)) ggX9_unlike_X2_unlikeLaw
set_option maxRecDepth 20000 in
theorem ggX9_unlike_X9_farthestPart : GoodIn wsX9_unlike wsX9_farthestPart := goodIn_r _ [148, 79, 80, 28, 81, 149, 127, 77, 128] (by decide +kernel) (by decide +kernel)
set_option maxRecDepth 20000 in
theorem gX9_unlike_X9_farthestPart : GoodIn wsX9_unlike (va_wsS RX9 264 yX9_farthestPart wsX9_farthestPart) := goodIn_app (goodIn_of _ (by decide +kernel)) ggX9_unlike_X9_farthestPart
theorem dX9_unlike_0 : decode cX9_unlike 0 = .ok (.iload_n 1, 1) := by decide +kernel
theorem dX9_unlike_1 : decode cX9_unlike 1 = .ok (.ifCond .lt 8, 3) := by decide +kernel
theorem dX9_unlike_4 : decode cX9_unlike 4 = .ok (.iload_n 1, 1) := by decide +kernel
theorem dX9_unlike_5 : decode cX9_unlike 5 = .ok (.iconst 2, 1) := by decide +kernel
theorem dX9_unlike_6 : decode cX9_unlike 6 = .ok (.if_icmp .le 5, 3) := by decide +kernel
theorem dX9_unlike_9 : decode cX9_unlike 9 = .ok (.iconst (-1), 1) := by decide +kernel
theorem dX9_unlike_10 : decode cX9_unlike 10 = .ok (.ireturn, 1) := by decide +kernel
theorem dX9_unlike_11 : decode cX9_unlike 11 = .ok (.aload_n 0, 1) := by decide +kernel
theorem dX9_unlike_12 : decode cX9_unlike 12 = .ok (.getfield 51, 3) := by decide +kernel
theorem dX9_unlike_15 : decode cX9_unlike 15 = .ok (.invokevirtual 212, 3) := by decide +kernel
theorem dX9_unlike_18 : decode cX9_unlike 18 = .ok (.ifCond .ne 6, 3) := by decide +kernel
theorem dX9_unlike_21 : decode cX9_unlike 21 = .ok (.bipush (-4), 2) := by decide +kernel
theorem dX9_unlike_23 : decode cX9_unlike 23 = .ok (.ireturn, 1) := by decide +kernel
theorem dX9_unlike_24 : decode cX9_unlike 24 = .ok (.aload_n 0, 1) := by decide +kernel
theorem dX9_unlike_25 : decode cX9_unlike 25 = .ok (.getfield 51, 3) := by decide +kernel
theorem dX9_unlike_28 : decode cX9_unlike 28 = .ok (.aload_n 0, 1) := by decide +kernel
theorem dX9_unlike_29 : decode cX9_unlike 29 = .ok (.getfield 60, 3) := by decide +kernel
theorem dX9_unlike_32 : decode cX9_unlike 32 = .ok (.invokevirtual 261, 3) := by decide +kernel
theorem dX9_unlike_35 : decode cX9_unlike 35 = .ok (.istore_n 2, 1) := by decide +kernel
theorem dX9_unlike_36 : decode cX9_unlike 36 = .ok (.iload_n 2, 1) := by decide +kernel
theorem dX9_unlike_37 : decode cX9_unlike 37 = .ok (.bipush (-4), 2) := by decide +kernel
theorem dX9_unlike_39 : decode cX9_unlike 39 = .ok (.if_icmp .ne 6, 3) := by decide +kernel
theorem dX9_unlike_42 : decode cX9_unlike 42 = .ok (.bipush (-4), 2) := by decide +kernel
theorem dX9_unlike_44 : decode cX9_unlike 44 = .ok (.ireturn, 1) := by decide +kernel
theorem dX9_unlike_45 : decode cX9_unlike 45 = .ok (.iload_n 1, 1) := by decide +kernel
theorem dX9_unlike_46 : decode cX9_unlike 46 = .ok (.iconst 2, 1) := by decide +kernel
theorem dX9_unlike_47 : decode cX9_unlike 47 = .ok (.if_icmp .ne 15, 3) := by decide +kernel
theorem dX9_unlike_50 : decode cX9_unlike 50 = .ok (.aload_n 0, 1) := by decide +kernel
theorem dX9_unlike_51 : decode cX9_unlike 51 = .ok (.getfield 51, 3) := by decide +kernel
theorem dX9_unlike_54 : decode cX9_unlike 54 = .ok (.getfield 215, 3) := by decide +kernel
theorem dX9_unlike_57 : decode cX9_unlike 57 = .ok (.iload_n 2, 1) := by decide +kernel
theorem dX9_unlike_58 : decode cX9_unlike 58 = .ok (.invokestatic 264, 3) := by decide +kernel
theorem dX9_unlike_61 : decode cX9_unlike 61 = .ok (.ireturn, 1) := by decide +kernel
theorem dX9_unlike_62 : decode cX9_unlike 62 = .ok (.iload_n 1, 1) := by decide +kernel
theorem dX9_unlike_63 : decode cX9_unlike 63 = .ok (.ifCond .ne 13, 3) := by decide +kernel
theorem dX9_unlike_66 : decode cX9_unlike 66 = .ok (.aload_n 0, 1) := by decide +kernel
theorem dX9_unlike_67 : decode cX9_unlike 67 = .ok (.getfield 51, 3) := by decide +kernel
theorem dX9_unlike_70 : decode cX9_unlike 70 = .ok (.getfield 215, 3) := by decide +kernel
theorem dX9_unlike_73 : decode cX9_unlike 73 = .ok (.goto 4, 3) := by decide +kernel
theorem dX9_unlike_76 : decode cX9_unlike 76 = .ok (.iload_n 2, 1) := by decide +kernel
theorem dX9_unlike_77 : decode cX9_unlike 77 = .ok (.ireturn, 1) := by decide +kernel
set_option maxRecDepth 20000 in
theorem ggX9_trial_X9_isPart : GoodIn wsX9_trial wsX9_isPart := goodIn_r _ [9] (by decide +kernel) (by decide +kernel)
set_option maxRecDepth 20000 in
theorem gX9_trial_X9_isPart : GoodIn wsX9_trial (va_wsS RX9 115 yX9_isPart wsX9_isPart) := goodIn_app (goodIn_of _ (by decide +kernel)) ggX9_trial_X9_isPart
set_option maxRecDepth 20000 in
theorem ggX9_trial_X2_fitting : GoodIn wsX9_trial wsX2_fitting := goodIn_r _ [14, 15, 16, 17, 18, 19, 13, 20, 21, 22, 23, 24, 25, 26, 27, 28, 29, 30, 31, 32, 33, 4, 34, 35, 36, 37, 38, 39, 40, 41, 42, 43, 44, 45, 46, 47, 48, 49, 50, 51, 52, 53, 54, 55, 56, 57, 58, 59, 60, 61, 62, 63, 64, 65, 66, 67, 68, 69, 70, 71, 72, 73, 74, 75, 76, 77, 78, 79, 80, 81, 8, 82, 83, 84, 85, 86, 87, 88, 89, 90, 91, 92, 93, 94, 95, 96, 97, 98, 99, 100, 101, 102, 103, 104, 105, 106, 107, 108, 109, 110, 129, 130, 131, 132, 133, 134, 135, 136, 137, 138, 139, 140, 141, 142, 143, 144, 145, 146, 147, 148, 149, 150, 151, 152, 153, 154] (by decide +kernel) (by decide +kernel)
set_option maxRecDepth 20000 in
theorem gX9_trial_X2_fitting : GoodIn wsX9_trial (wsV RX9 212 RX2 yX2_fitting wsX2_fitting) := goodIn_app (goodIn_of _ (by decide +kernel)) ggX9_trial_X2_fitting
set_option maxRecDepth 20000 in
theorem ggX9_trial_X2_leftBy : GoodIn wsX9_trial wsX2_leftBy := goodIn_r _ [114, 81, 8, 82, 83, 84, 4, 85, 115, 116, 117, 13, 118, 70, 129, 130, 131, 132, 133, 134, 135, 136, 137, 138, 139, 140, 141] (by decide +kernel) (by decide +kernel)
set_option maxRecDepth 20000 in
theorem gX9_trial_X2_leftBy : GoodIn wsX9_trial (wsV RX9 267 RX2 yX2_leftBy wsX2_leftBy) := goodIn_app (goodIn_of _ (by decide +kernel)) ggX9_trial_X2_leftBy
theorem dX9_trial_0 : decode cX9_trial 0 = .ok (.iload_n 1, 1) := by decide +kernel
theorem dX9_trial_1 : decode cX9_trial 1 = .ok (.invokestatic 115, 3) := by decide +kernel
theorem dX9_trial_4 : decode cX9_trial 4 = .ok (.ifCond .eq 35, 3) := by decide +kernel
theorem dX9_trial_7 : decode cX9_trial 7 = .ok (.iload_n 2, 1) := by decide +kernel
theorem dX9_trial_8 : decode cX9_trial 8 = .ok (.iconst 1, 1) := by decide +kernel
theorem dX9_trial_9 : decode cX9_trial 9 = .ok (.if_icmp .lt 30, 3) := by decide +kernel
theorem dX9_trial_12 : decode cX9_trial 12 = .ok (.iload_n 2, 1) := by decide +kernel
theorem dX9_trial_13 : decode cX9_trial 13 = .ok (.bipush 20, 2) := by decide +kernel
theorem dX9_trial_15 : decode cX9_trial 15 = .ok (.if_icmp .gt 24, 3) := by decide +kernel
theorem dX9_trial_18 : decode cX9_trial 18 = .ok (.iload_n 3, 1) := by decide +kernel
theorem dX9_trial_19 : decode cX9_trial 19 = .ok (.ifCond .lt 20, 3) := by decide +kernel
theorem dX9_trial_22 : decode cX9_trial 22 = .ok (.iload_n 3, 1) := by decide +kernel
theorem dX9_trial_23 : decode cX9_trial 23 = .ok (.bipush 22, 2) := by decide +kernel
theorem dX9_trial_25 : decode cX9_trial 25 = .ok (.if_icmp .gt 14, 3) := by decide +kernel
theorem dX9_trial_28 : decode cX9_trial 28 = .ok (.iload_n 3, 1) := by decide +kernel
theorem dX9_trial_29 : decode cX9_trial 29 = .ok (.bipush 20, 2) := by decide +kernel
theorem dX9_trial_31 : decode cX9_trial 31 = .ok (.if_icmp .gt 10, 3) := by decide +kernel
theorem dX9_trial_34 : decode cX9_trial 34 = .ok (.iload_n 3, 1) := by decide +kernel
theorem dX9_trial_35 : decode cX9_trial 35 = .ok (.iload_n 2, 1) := by decide +kernel
theorem dX9_trial_36 : decode cX9_trial 36 = .ok (.if_icmp .le 5, 3) := by decide +kernel
theorem dX9_trial_39 : decode cX9_trial 39 = .ok (.iconst (-1), 1) := by decide +kernel
theorem dX9_trial_40 : decode cX9_trial 40 = .ok (.ireturn, 1) := by decide +kernel
theorem dX9_trial_41 : decode cX9_trial 41 = .ok (.aload_n 0, 1) := by decide +kernel
theorem dX9_trial_42 : decode cX9_trial 42 = .ok (.getfield 51, 3) := by decide +kernel
theorem dX9_trial_45 : decode cX9_trial 45 = .ok (.invokevirtual 212, 3) := by decide +kernel
theorem dX9_trial_48 : decode cX9_trial 48 = .ok (.ifCond .ne 6, 3) := by decide +kernel
theorem dX9_trial_51 : decode cX9_trial 51 = .ok (.bipush (-4), 2) := by decide +kernel
theorem dX9_trial_53 : decode cX9_trial 53 = .ok (.ireturn, 1) := by decide +kernel
theorem dX9_trial_54 : decode cX9_trial 54 = .ok (.iload_n 3, 1) := by decide +kernel
theorem dX9_trial_55 : decode cX9_trial 55 = .ok (.bipush 20, 2) := by decide +kernel
theorem dX9_trial_57 : decode cX9_trial 57 = .ok (.if_icmp .gt 14, 3) := by decide +kernel
theorem dX9_trial_60 : decode cX9_trial 60 = .ok (.aload_n 0, 1) := by decide +kernel
theorem dX9_trial_61 : decode cX9_trial 61 = .ok (.getfield 51, 3) := by decide +kernel
theorem dX9_trial_64 : decode cX9_trial 64 = .ok (.iload_n 1, 1) := by decide +kernel
theorem dX9_trial_65 : decode cX9_trial 65 = .ok (.iload_n 2, 1) := by decide +kernel
theorem dX9_trial_66 : decode cX9_trial 66 = .ok (.iload_n 3, 1) := by decide +kernel
theorem dX9_trial_67 : decode cX9_trial 67 = .ok (.invokevirtual 267, 3) := by decide +kernel
theorem dX9_trial_70 : decode cX9_trial 70 = .ok (.ireturn, 1) := by decide +kernel
theorem dX9_trial_71 : decode cX9_trial 71 = .ok (.iconst 0, 1) := by decide +kernel
theorem dX9_trial_72 : decode cX9_trial 72 = .ok (.istore 4, 2) := by decide +kernel
theorem dX9_trial_74 : decode cX9_trial 74 = .ok (.iconst 0, 1) := by decide +kernel
theorem dX9_trial_75 : decode cX9_trial 75 = .ok (.istore 5, 2) := by decide +kernel
theorem dX9_trial_77 : decode cX9_trial 77 = .ok (.iconst 0, 1) := by decide +kernel
theorem dX9_trial_78 : decode cX9_trial 78 = .ok (.istore 6, 2) := by decide +kernel
theorem dX9_trial_80 : decode cX9_trial 80 = .ok (.iload 6, 2) := by decide +kernel
theorem dX9_trial_82 : decode cX9_trial 82 = .ok (.iload_n 2, 1) := by decide +kernel
theorem dX9_trial_83 : decode cX9_trial 83 = .ok (.if_icmp .gt 46, 3) := by decide +kernel
theorem dX9_trial_86 : decode cX9_trial 86 = .ok (.aload_n 0, 1) := by decide +kernel
theorem dX9_trial_87 : decode cX9_trial 87 = .ok (.getfield 51, 3) := by decide +kernel
theorem dX9_trial_90 : decode cX9_trial 90 = .ok (.iload_n 1, 1) := by decide +kernel
theorem dX9_trial_91 : decode cX9_trial 91 = .ok (.iload_n 2, 1) := by decide +kernel
theorem dX9_trial_92 : decode cX9_trial 92 = .ok (.iload 6, 2) := by decide +kernel
theorem dX9_trial_94 : decode cX9_trial 94 = .ok (.invokevirtual 267, 3) := by decide +kernel
theorem dX9_trial_97 : decode cX9_trial 97 = .ok (.istore 7, 2) := by decide +kernel
theorem dX9_trial_99 : decode cX9_trial 99 = .ok (.iload 4, 2) := by decide +kernel
theorem dX9_trial_101 : decode cX9_trial 101 = .ok (.iload 7, 2) := by decide +kernel
theorem dX9_trial_103 : decode cX9_trial 103 = .ok (.invokestatic 271, 3) := by decide +kernel
theorem dX9_trial_106 : decode cX9_trial 106 = .ok (.istore 4, 2) := by decide +kernel
theorem dX9_trial_108 : decode cX9_trial 108 = .ok (.iload 5, 2) := by decide +kernel
theorem dX9_trial_110 : decode cX9_trial 110 = .ok (.iload 7, 2) := by decide +kernel
theorem dX9_trial_112 : decode cX9_trial 112 = .ok (.ifCond .le 7, 3) := by decide +kernel
theorem dX9_trial_115 : decode cX9_trial 115 = .ok (.iconst 1, 1) := by decide +kernel
theorem dX9_trial_116 : decode cX9_trial 116 = .ok (.goto 4, 3) := by decide +kernel
theorem dX9_trial_119 : decode cX9_trial 119 = .ok (.iconst 0, 1) := by decide +kernel
theorem dX9_trial_120 : decode cX9_trial 120 = .ok (.iadd, 1) := by decide +kernel
theorem dX9_trial_121 : decode cX9_trial 121 = .ok (.istore 5, 2) := by decide +kernel
theorem dX9_trial_123 : decode cX9_trial 123 = .ok (.iinc 6 1, 3) := by decide +kernel
theorem dX9_trial_126 : decode cX9_trial 126 = .ok (.goto (-46), 3) := by decide +kernel
theorem dX9_trial_129 : decode cX9_trial 129 = .ok (.iload_n 3, 1) := by decide +kernel
theorem dX9_trial_130 : decode cX9_trial 130 = .ok (.bipush 21, 2) := by decide +kernel
theorem dX9_trial_132 : decode cX9_trial 132 = .ok (.if_icmp .ne 8, 3) := by decide +kernel
theorem dX9_trial_135 : decode cX9_trial 135 = .ok (.iload 4, 2) := by decide +kernel
theorem dX9_trial_137 : decode cX9_trial 137 = .ok (.goto 5, 3) := by decide +kernel
theorem dX9_trial_140 : decode cX9_trial 140 = .ok (.iload 5, 2) := by decide +kernel
theorem dX9_trial_142 : decode cX9_trial 142 = .ok (.ireturn, 1) := by decide +kernel
set_option maxRecDepth 20000 in
theorem ggX9_sheet_X9_isSheet : GoodIn wsX9_sheet wsX9_isSheet := goodIn_r _ [5] (by decide +kernel) (by decide +kernel)
set_option maxRecDepth 20000 in
theorem gX9_sheet_X9_isSheet : GoodIn wsX9_sheet (va_wsS RX9 274 yX9_isSheet wsX9_isSheet) := goodIn_app (goodIn_of _ (by decide +kernel)) ggX9_sheet_X9_isSheet
set_option maxRecDepth 20000 in
theorem ggX9_sheet_X9_isLane : GoodIn wsX9_sheet wsX9_isLane := goodIn_r _ [8] (by decide +kernel) (by decide +kernel)
set_option maxRecDepth 20000 in
theorem gX9_sheet_X9_isLane : GoodIn wsX9_sheet (va_wsS RX9 277 yX9_isLane wsX9_isLane) := goodIn_app (goodIn_of _ (by decide +kernel)) ggX9_sheet_X9_isLane
set_option maxRecDepth 20000 in
theorem ggX9_sheet_X6_renew : GoodIn wsX9_sheet wsX6_renew := goodIn_r _ [13, 14, 15, 16, 27, 28, 29] (by decide +kernel) (by decide +kernel)
set_option maxRecDepth 20000 in
theorem gX9_sheet_X6_renew : GoodIn wsX9_sheet (wsV RX9 280 RX6 yX6_renew wsX6_renew) := goodIn_app (goodIn_of _ (by decide +kernel)) ggX9_sheet_X6_renew
theorem dX9_sheet_0 : decode cX9_sheet 0 = .ok (.iload_n 1, 1) := by decide +kernel
theorem dX9_sheet_1 : decode cX9_sheet 1 = .ok (.invokestatic 274, 3) := by decide +kernel
theorem dX9_sheet_4 : decode cX9_sheet 4 = .ok (.ifCond .eq 16, 3) := by decide +kernel
theorem dX9_sheet_7 : decode cX9_sheet 7 = .ok (.iload_n 2, 1) := by decide +kernel
theorem dX9_sheet_8 : decode cX9_sheet 8 = .ok (.invokestatic 277, 3) := by decide +kernel
theorem dX9_sheet_11 : decode cX9_sheet 11 = .ok (.ifCond .eq 9, 3) := by decide +kernel
theorem dX9_sheet_14 : decode cX9_sheet 14 = .ok (.iload_n 3, 1) := by decide +kernel
theorem dX9_sheet_15 : decode cX9_sheet 15 = .ok (.bipush 48, 2) := by decide +kernel
theorem dX9_sheet_17 : decode cX9_sheet 17 = .ok (.if_icmp .le 5, 3) := by decide +kernel
theorem dX9_sheet_20 : decode cX9_sheet 20 = .ok (.iconst (-1), 1) := by decide +kernel
theorem dX9_sheet_21 : decode cX9_sheet 21 = .ok (.ireturn, 1) := by decide +kernel
theorem dX9_sheet_22 : decode cX9_sheet 22 = .ok (.iload_n 3, 1) := by decide +kernel
theorem dX9_sheet_23 : decode cX9_sheet 23 = .ok (.ifCond .ge 6, 3) := by decide +kernel
theorem dX9_sheet_26 : decode cX9_sheet 26 = .ok (.bipush (-14), 2) := by decide +kernel
theorem dX9_sheet_28 : decode cX9_sheet 28 = .ok (.ireturn, 1) := by decide +kernel
theorem dX9_sheet_29 : decode cX9_sheet 29 = .ok (.aload_n 0, 1) := by decide +kernel
theorem dX9_sheet_30 : decode cX9_sheet 30 = .ok (.getfield 75, 3) := by decide +kernel
theorem dX9_sheet_33 : decode cX9_sheet 33 = .ok (.iload_n 1, 1) := by decide +kernel
theorem dX9_sheet_34 : decode cX9_sheet 34 = .ok (.aaload, 1) := by decide +kernel
theorem dX9_sheet_35 : decode cX9_sheet 35 = .ok (.iload_n 2, 1) := by decide +kernel
theorem dX9_sheet_36 : decode cX9_sheet 36 = .ok (.iload_n 3, 1) := by decide +kernel
theorem dX9_sheet_37 : decode cX9_sheet 37 = .ok (.invokevirtual 280, 3) := by decide +kernel
theorem dX9_sheet_40 : decode cX9_sheet 40 = .ok (.iconst 1, 1) := by decide +kernel
theorem dX9_sheet_41 : decode cX9_sheet 41 = .ok (.ireturn, 1) := by decide +kernel
set_option maxRecDepth 20000 in
theorem ggX9_lay_X9_isSheet : GoodIn wsX9_lay wsX9_isSheet := goodIn_r _ [6] (by decide +kernel) (by decide +kernel)
set_option maxRecDepth 20000 in
theorem gX9_lay_X9_isSheet : GoodIn wsX9_lay (va_wsS RX9 274 yX9_isSheet wsX9_isSheet) := goodIn_app (goodIn_of _ (by decide +kernel)) ggX9_lay_X9_isSheet
set_option maxRecDepth 20000 in
theorem ggX9_lay_X6_faultAt : GoodIn wsX9_lay wsX6_faultAt := goodIn_r _ [11, 12, 13, 29, 30, 31] (by decide +kernel) (by decide +kernel)
set_option maxRecDepth 20000 in
theorem gX9_lay_X6_faultAt : GoodIn wsX9_lay (wsV RX9 286 RX6 yX6_faultAt wsX6_faultAt) := goodIn_app (goodIn_of _ (by decide +kernel)) ggX9_lay_X6_faultAt
set_option maxRecDepth 20000 in
theorem ggX9_lay_X6_put : GoodIn wsX9_lay wsX6_put := goodIn_r _ [17, 18, 12, 29, 30, 31] (by decide +kernel) (by decide +kernel)
set_option maxRecDepth 20000 in
theorem gX9_lay_X6_put : GoodIn wsX9_lay (wsV RX9 289 RX6 yX6_put wsX6_put) := goodIn_app (goodIn_of _ (by decide +kernel)) ggX9_lay_X6_put
theorem dX9_lay_0 : decode cX9_lay 0 = .ok (.iload_n 1, 1) := by decide +kernel
theorem dX9_lay_1 : decode cX9_lay 1 = .ok (.invokestatic 274, 3) := by decide +kernel
theorem dX9_lay_4 : decode cX9_lay 4 = .ok (.ifCond .ne 5, 3) := by decide +kernel
theorem dX9_lay_7 : decode cX9_lay 7 = .ok (.iconst (-1), 1) := by decide +kernel
theorem dX9_lay_8 : decode cX9_lay 8 = .ok (.ireturn, 1) := by decide +kernel
theorem dX9_lay_9 : decode cX9_lay 9 = .ok (.aload_n 0, 1) := by decide +kernel
theorem dX9_lay_10 : decode cX9_lay 10 = .ok (.getfield 75, 3) := by decide +kernel
theorem dX9_lay_13 : decode cX9_lay 13 = .ok (.iload_n 1, 1) := by decide +kernel
theorem dX9_lay_14 : decode cX9_lay 14 = .ok (.aaload, 1) := by decide +kernel
theorem dX9_lay_15 : decode cX9_lay 15 = .ok (.astore 4, 2) := by decide +kernel
theorem dX9_lay_17 : decode cX9_lay 17 = .ok (.aload 4, 2) := by decide +kernel
theorem dX9_lay_19 : decode cX9_lay 19 = .ok (.aload 4, 2) := by decide +kernel
theorem dX9_lay_21 : decode cX9_lay 21 = .ok (.getfield 283, 3) := by decide +kernel
theorem dX9_lay_24 : decode cX9_lay 24 = .ok (.iload_n 2, 1) := by decide +kernel
theorem dX9_lay_25 : decode cX9_lay 25 = .ok (.invokevirtual 286, 3) := by decide +kernel
theorem dX9_lay_28 : decode cX9_lay 28 = .ok (.istore 5, 2) := by decide +kernel
theorem dX9_lay_30 : decode cX9_lay 30 = .ok (.iload 5, 2) := by decide +kernel
theorem dX9_lay_32 : decode cX9_lay 32 = .ok (.ifCond .eq 9, 3) := by decide +kernel
theorem dX9_lay_35 : decode cX9_lay 35 = .ok (.bipush (-10), 2) := by decide +kernel
theorem dX9_lay_37 : decode cX9_lay 37 = .ok (.iload 5, 2) := by decide +kernel
theorem dX9_lay_39 : decode cX9_lay 39 = .ok (.isub, 1) := by decide +kernel
theorem dX9_lay_40 : decode cX9_lay 40 = .ok (.ireturn, 1) := by decide +kernel
theorem dX9_lay_41 : decode cX9_lay 41 = .ok (.aload 4, 2) := by decide +kernel
theorem dX9_lay_43 : decode cX9_lay 43 = .ok (.iload_n 2, 1) := by decide +kernel
theorem dX9_lay_44 : decode cX9_lay 44 = .ok (.iload_n 3, 1) := by decide +kernel
theorem dX9_lay_45 : decode cX9_lay 45 = .ok (.invokevirtual 289, 3) := by decide +kernel
theorem dX9_lay_48 : decode cX9_lay 48 = .ok (.iconst 1, 1) := by decide +kernel
theorem dX9_lay_49 : decode cX9_lay 49 = .ok (.ireturn, 1) := by decide +kernel
set_option maxRecDepth 20000 in
theorem ggX9_read_X9_isSheet : GoodIn wsX9_read wsX9_isSheet := goodIn_r _ [7] (by decide +kernel) (by decide +kernel)
set_option maxRecDepth 20000 in
theorem gX9_read_X9_isSheet : GoodIn wsX9_read (va_wsS RX9 274 yX9_isSheet wsX9_isSheet) := goodIn_app (goodIn_of _ (by decide +kernel)) ggX9_read_X9_isSheet
set_option maxRecDepth 20000 in
theorem ggX9_read_X9_isLane : GoodIn wsX9_read wsX9_isLane := goodIn_r _ [10] (by decide +kernel) (by decide +kernel)
set_option maxRecDepth 20000 in
theorem gX9_read_X9_isLane : GoodIn wsX9_read (va_wsS RX9 277 yX9_isLane wsX9_isLane) := goodIn_app (goodIn_of _ (by decide +kernel)) ggX9_read_X9_isLane
set_option maxRecDepth 20000 in
theorem ggX9_read_X6_faultOfHome : GoodIn wsX9_read wsX6_faultOfHome := goodIn_r _ [15, 16, 17, 18, 14, 19, 20, 21, 81, 82, 83] (by decide +kernel) (by decide +kernel)
set_option maxRecDepth 20000 in
theorem gX9_read_X6_faultOfHome : GoodIn wsX9_read (wsV RX9 291 RX6 yX6_faultOfHome wsX6_faultOfHome) := goodIn_app (goodIn_of _ (by decide +kernel)) ggX9_read_X6_faultOfHome
set_option maxRecDepth 20000 in
theorem ggX9_read_X6_isHome : GoodIn wsX9_read wsX6_isHome := goodIn_r _ [25, 26, 27, 28, 14, 29, 30, 81, 82, 83] (by decide +kernel) (by decide +kernel)
set_option maxRecDepth 20000 in
theorem gX9_read_X6_isHome : GoodIn wsX9_read (wsV RX9 294 RX6 yX6_isHome wsX6_isHome) := goodIn_app (goodIn_of _ (by decide +kernel)) ggX9_read_X6_isHome
set_option maxRecDepth 20000 in
theorem ggX9_read_X3_sorties : GoodIn wsX9_read wsX3_sorties := goodIn_r _ [35, 36, 84, 85, 86, 87] (by decide +kernel) (by decide +kernel)
set_option maxRecDepth 20000 in
theorem gX9_read_X3_sorties : GoodIn wsX9_read (wsV RX9 129 RX3 yX3_sorties wsX3_sorties) := goodIn_app (goodIn_of _ (by decide +kernel)) ggX9_read_X3_sorties
set_option maxRecDepth 20000 in
theorem ggX9_read_X9_takeHomes : GoodIn wsX9_read wsX9_takeHomes := goodIn_r _ [40, 2, 41, 42, 43, 44, 34, 45, 46, 47, 48, 49, 50, 51, 52, 53, 54, 55, 56, 36, 57, 27, 28, 14, 29, 30, 58, 59, 60, 61, 62, 63, 64, 65, 66, 67, 68, 69, 70, 71, 72, 73, 74, 75, 76, 77, 78, 79, 80, 84, 85, 86, 87, 81, 82, 83, 88, 89, 90, 91, 92, 93, 94, 95, 96, 97, 98, 99, 100] (by decide +kernel) (by decide +kernel)
set_option maxRecDepth 20000 in
theorem gX9_read_X9_takeHomes : GoodIn wsX9_read (wsV RX9 297 RX9 yX9_takeHomes wsX9_takeHomes) := goodIn_app (goodIn_of _ (by decide +kernel)) ggX9_read_X9_takeHomes
theorem dX9_read_0 : decode cX9_read 0 = .ok (.iload_n 1, 1) := by decide +kernel
theorem dX9_read_1 : decode cX9_read 1 = .ok (.invokestatic 274, 3) := by decide +kernel
theorem dX9_read_4 : decode cX9_read 4 = .ok (.ifCond .eq 22, 3) := by decide +kernel
theorem dX9_read_7 : decode cX9_read 7 = .ok (.iload_n 2, 1) := by decide +kernel
theorem dX9_read_8 : decode cX9_read 8 = .ok (.invokestatic 277, 3) := by decide +kernel
theorem dX9_read_11 : decode cX9_read 11 = .ok (.ifCond .eq 15, 3) := by decide +kernel
theorem dX9_read_14 : decode cX9_read 14 = .ok (.iload 4, 2) := by decide +kernel
theorem dX9_read_16 : decode cX9_read 16 = .ok (.ifCond .lt 10, 3) := by decide +kernel
theorem dX9_read_19 : decode cX9_read 19 = .ok (.iload 4, 2) := by decide +kernel
theorem dX9_read_21 : decode cX9_read 21 = .ok (.bipush 12, 2) := by decide +kernel
theorem dX9_read_23 : decode cX9_read 23 = .ok (.if_icmp .le 5, 3) := by decide +kernel
theorem dX9_read_26 : decode cX9_read 26 = .ok (.iconst (-1), 1) := by decide +kernel
theorem dX9_read_27 : decode cX9_read 27 = .ok (.ireturn, 1) := by decide +kernel
theorem dX9_read_28 : decode cX9_read 28 = .ok (.aload_n 0, 1) := by decide +kernel
theorem dX9_read_29 : decode cX9_read 29 = .ok (.getfield 75, 3) := by decide +kernel
theorem dX9_read_32 : decode cX9_read 32 = .ok (.iload_n 1, 1) := by decide +kernel
theorem dX9_read_33 : decode cX9_read 33 = .ok (.aaload, 1) := by decide +kernel
theorem dX9_read_34 : decode cX9_read 34 = .ok (.astore 5, 2) := by decide +kernel
theorem dX9_read_36 : decode cX9_read 36 = .ok (.iconst 0, 1) := by decide +kernel
theorem dX9_read_37 : decode cX9_read 37 = .ok (.istore 6, 2) := by decide +kernel
theorem dX9_read_39 : decode cX9_read 39 = .ok (.iconst 0, 1) := by decide +kernel
theorem dX9_read_40 : decode cX9_read 40 = .ok (.istore 7, 2) := by decide +kernel
theorem dX9_read_42 : decode cX9_read 42 = .ok (.iconst 0, 1) := by decide +kernel
theorem dX9_read_43 : decode cX9_read 43 = .ok (.istore 8, 2) := by decide +kernel
theorem dX9_read_45 : decode cX9_read 45 = .ok (.iload 8, 2) := by decide +kernel
theorem dX9_read_47 : decode cX9_read 47 = .ok (.iload 4, 2) := by decide +kernel
theorem dX9_read_49 : decode cX9_read 49 = .ok (.if_icmp .ge 77, 3) := by decide +kernel
theorem dX9_read_52 : decode cX9_read 52 = .ok (.iload 6, 2) := by decide +kernel
theorem dX9_read_54 : decode cX9_read 54 = .ok (.ifCond .ne 72, 3) := by decide +kernel
theorem dX9_read_57 : decode cX9_read 57 = .ok (.aload 5, 2) := by decide +kernel
theorem dX9_read_59 : decode cX9_read 59 = .ok (.iload_n 2, 1) := by decide +kernel
theorem dX9_read_60 : decode cX9_read 60 = .ok (.iload_n 3, 1) := by decide +kernel
theorem dX9_read_61 : decode cX9_read 61 = .ok (.iconst 4, 1) := by decide +kernel
theorem dX9_read_62 : decode cX9_read 62 = .ok (.iload 8, 2) := by decide +kernel
theorem dX9_read_64 : decode cX9_read 64 = .ok (.imul, 1) := by decide +kernel
theorem dX9_read_65 : decode cX9_read 65 = .ok (.iadd, 1) := by decide +kernel
theorem dX9_read_66 : decode cX9_read 66 = .ok (.invokevirtual 291, 3) := by decide +kernel
theorem dX9_read_69 : decode cX9_read 69 = .ok (.istore 6, 2) := by decide +kernel
theorem dX9_read_71 : decode cX9_read 71 = .ok (.iload 6, 2) := by decide +kernel
theorem dX9_read_73 : decode cX9_read 73 = .ok (.ifCond .ne 47, 3) := by decide +kernel
theorem dX9_read_76 : decode cX9_read 76 = .ok (.aload 5, 2) := by decide +kernel
theorem dX9_read_78 : decode cX9_read 78 = .ok (.iload_n 3, 1) := by decide +kernel
theorem dX9_read_79 : decode cX9_read 79 = .ok (.iconst 4, 1) := by decide +kernel
theorem dX9_read_80 : decode cX9_read 80 = .ok (.iload 8, 2) := by decide +kernel
theorem dX9_read_82 : decode cX9_read 82 = .ok (.imul, 1) := by decide +kernel
theorem dX9_read_83 : decode cX9_read 83 = .ok (.iadd, 1) := by decide +kernel
theorem dX9_read_84 : decode cX9_read 84 = .ok (.invokevirtual 294, 3) := by decide +kernel
theorem dX9_read_87 : decode cX9_read 87 = .ok (.ifCond .ne 9, 3) := by decide +kernel
theorem dX9_read_90 : decode cX9_read 90 = .ok (.bipush (-20), 2) := by decide +kernel
theorem dX9_read_92 : decode cX9_read 92 = .ok (.iload 8, 2) := by decide +kernel
theorem dX9_read_94 : decode cX9_read 94 = .ok (.isub, 1) := by decide +kernel
theorem dX9_read_95 : decode cX9_read 95 = .ok (.ireturn, 1) := by decide +kernel
theorem dX9_read_96 : decode cX9_read 96 = .ok (.aload_n 0, 1) := by decide +kernel
theorem dX9_read_97 : decode cX9_read 97 = .ok (.getfield 35, 3) := by decide +kernel
theorem dX9_read_100 : decode cX9_read 100 = .ok (.invokevirtual 129, 3) := by decide +kernel
theorem dX9_read_103 : decode cX9_read 103 = .ok (.iload 8, 2) := by decide +kernel
theorem dX9_read_105 : decode cX9_read 105 = .ok (.iadd, 1) := by decide +kernel
theorem dX9_read_106 : decode cX9_read 106 = .ok (.iconst 1, 1) := by decide +kernel
theorem dX9_read_107 : decode cX9_read 107 = .ok (.iadd, 1) := by decide +kernel
theorem dX9_read_108 : decode cX9_read 108 = .ok (.sipush 999, 3) := by decide +kernel
theorem dX9_read_111 : decode cX9_read 111 = .ok (.if_icmp .le 6, 3) := by decide +kernel
theorem dX9_read_114 : decode cX9_read 114 = .ok (.bipush (-3), 2) := by decide +kernel
theorem dX9_read_116 : decode cX9_read 116 = .ok (.ireturn, 1) := by decide +kernel
theorem dX9_read_117 : decode cX9_read 117 = .ok (.iinc 7 1, 3) := by decide +kernel
theorem dX9_read_120 : decode cX9_read 120 = .ok (.iinc 8 1, 3) := by decide +kernel
theorem dX9_read_123 : decode cX9_read 123 = .ok (.goto (-78), 3) := by decide +kernel
theorem dX9_read_126 : decode cX9_read 126 = .ok (.aload_n 0, 1) := by decide +kernel
theorem dX9_read_127 : decode cX9_read 127 = .ok (.aload 5, 2) := by decide +kernel
theorem dX9_read_129 : decode cX9_read 129 = .ok (.iload_n 3, 1) := by decide +kernel
theorem dX9_read_130 : decode cX9_read 130 = .ok (.iload 7, 2) := by decide +kernel
theorem dX9_read_132 : decode cX9_read 132 = .ok (.invokevirtual 297, 3) := by decide +kernel
theorem dX9_read_135 : decode cX9_read 135 = .ok (.aload_n 0, 1) := by decide +kernel
theorem dX9_read_136 : decode cX9_read 136 = .ok (.iload 6, 2) := by decide +kernel
theorem dX9_read_138 : decode cX9_read 138 = .ok (.putfield 80, 3) := by decide +kernel
theorem dX9_read_141 : decode cX9_read 141 = .ok (.iload 7, 2) := by decide +kernel
theorem dX9_read_143 : decode cX9_read 143 = .ok (.ireturn, 1) := by decide +kernel
theorem dX9_torn_0 : decode cX9_torn 0 = .ok (.aload_n 0, 1) := by decide +kernel
theorem dX9_torn_1 : decode cX9_torn 1 = .ok (.getfield 80, 3) := by decide +kernel
theorem dX9_torn_4 : decode cX9_torn 4 = .ok (.ireturn, 1) := by decide +kernel
set_option maxRecDepth 20000 in
theorem ggX9_count_X3_sorties : GoodIn wsX9_count wsX3_sorties := goodIn_r _ [16, 17, 47, 48, 49, 50] (by decide +kernel) (by decide +kernel)
set_option maxRecDepth 20000 in
theorem gX9_count_X3_sorties : GoodIn wsX9_count (wsV RX9 129 RX3 yX3_sorties wsX3_sorties) := goodIn_app (goodIn_of _ (by decide +kernel)) ggX9_count_X3_sorties
set_option maxRecDepth 20000 in
theorem ggX9_count_X3_allHomes : GoodIn wsX9_count wsX3_allHomes := goodIn_r _ [21, 22, 23, 24, 15, 25, 17, 47, 48, 49, 50] (by decide +kernel) (by decide +kernel)
set_option maxRecDepth 20000 in
theorem gX9_count_X3_allHomes : GoodIn wsX9_count (wsV RX9 161 RX3 yX3_allHomes wsX3_allHomes) := goodIn_app (goodIn_of _ (by decide +kernel)) ggX9_count_X3_allHomes
set_option maxRecDepth 20000 in
theorem ggX9_count_X0_allWrecks : GoodIn wsX9_count wsX0_allWrecks := goodIn_r _ [30, 31, 63, 64, 65] (by decide +kernel) (by decide +kernel)
set_option maxRecDepth 20000 in
theorem gX9_count_X0_allWrecks : GoodIn wsX9_count (wsV RX9 301 RX0 yX0_allWrecks wsX0_allWrecks) := goodIn_app (goodIn_of _ (by decide +kernel)) ggX9_count_X0_allWrecks
set_option maxRecDepth 20000 in
theorem ggX9_count_X0_allTried : GoodIn wsX9_count wsX0_allTried := goodIn_r _ [35, 36, 63, 64, 65] (by decide +kernel) (by decide +kernel)
set_option maxRecDepth 20000 in
theorem gX9_count_X0_allTried : GoodIn wsX9_count (wsV RX9 304 RX0 yX0_allTried wsX0_allTried) := goodIn_app (goodIn_of _ (by decide +kernel)) ggX9_count_X0_allTried
theorem dX9_count_0 : decode cX9_count 0 = .ok (.iload_n 1, 1) := by decide +kernel
theorem dX9_count_1 : decode cX9_count 1 = .ok (.tableswitch 146 0 8 #[51, 59, 67, 75, 83, 91, 99, 107, 135], 51) := by decide +kernel
theorem dX9_count_52 : decode cX9_count 52 = .ok (.aload_n 0, 1) := by decide +kernel
theorem dX9_count_53 : decode cX9_count 53 = .ok (.getfield 35, 3) := by decide +kernel
theorem dX9_count_56 : decode cX9_count 56 = .ok (.invokevirtual 129, 3) := by decide +kernel
theorem dX9_count_59 : decode cX9_count 59 = .ok (.ireturn, 1) := by decide +kernel
theorem dX9_count_60 : decode cX9_count 60 = .ok (.aload_n 0, 1) := by decide +kernel
theorem dX9_count_61 : decode cX9_count 61 = .ok (.getfield 35, 3) := by decide +kernel
theorem dX9_count_64 : decode cX9_count 64 = .ok (.invokevirtual 161, 3) := by decide +kernel
theorem dX9_count_67 : decode cX9_count 67 = .ok (.ireturn, 1) := by decide +kernel
theorem dX9_count_68 : decode cX9_count 68 = .ok (.aload_n 0, 1) := by decide +kernel
theorem dX9_count_69 : decode cX9_count 69 = .ok (.getfield 42, 3) := by decide +kernel
theorem dX9_count_72 : decode cX9_count 72 = .ok (.invokevirtual 301, 3) := by decide +kernel
theorem dX9_count_75 : decode cX9_count 75 = .ok (.ireturn, 1) := by decide +kernel
theorem dX9_count_76 : decode cX9_count 76 = .ok (.aload_n 0, 1) := by decide +kernel
theorem dX9_count_77 : decode cX9_count 77 = .ok (.getfield 42, 3) := by decide +kernel
theorem dX9_count_80 : decode cX9_count 80 = .ok (.invokevirtual 304, 3) := by decide +kernel
theorem dX9_count_83 : decode cX9_count 83 = .ok (.ireturn, 1) := by decide +kernel
theorem dX9_count_84 : decode cX9_count 84 = .ok (.aload_n 0, 1) := by decide +kernel
theorem dX9_count_85 : decode cX9_count 85 = .ok (.getfield 35, 3) := by decide +kernel
theorem dX9_count_88 : decode cX9_count 88 = .ok (.getfield 167, 3) := by decide +kernel
theorem dX9_count_91 : decode cX9_count 91 = .ok (.ireturn, 1) := by decide +kernel
theorem dX9_count_92 : decode cX9_count 92 = .ok (.aload_n 0, 1) := by decide +kernel
theorem dX9_count_93 : decode cX9_count 93 = .ok (.getfield 69, 3) := by decide +kernel
theorem dX9_count_96 : decode cX9_count 96 = .ok (.getfield 148, 3) := by decide +kernel
theorem dX9_count_99 : decode cX9_count 99 = .ok (.ireturn, 1) := by decide +kernel
theorem dX9_count_100 : decode cX9_count 100 = .ok (.aload_n 0, 1) := by decide +kernel
theorem dX9_count_101 : decode cX9_count 101 = .ok (.getfield 19, 3) := by decide +kernel
theorem dX9_count_104 : decode cX9_count 104 = .ok (.getfield 88, 3) := by decide +kernel
theorem dX9_count_107 : decode cX9_count 107 = .ok (.ireturn, 1) := by decide +kernel
theorem dX9_count_108 : decode cX9_count 108 = .ok (.aload_n 0, 1) := by decide +kernel
theorem dX9_count_109 : decode cX9_count 109 = .ok (.getfield 75, 3) := by decide +kernel
theorem dX9_count_112 : decode cX9_count 112 = .ok (.iconst 0, 1) := by decide +kernel
theorem dX9_count_113 : decode cX9_count 113 = .ok (.aaload, 1) := by decide +kernel
theorem dX9_count_114 : decode cX9_count 114 = .ok (.getfield 283, 3) := by decide +kernel
theorem dX9_count_117 : decode cX9_count 117 = .ok (.iconst (-1), 1) := by decide +kernel
theorem dX9_count_118 : decode cX9_count 118 = .ok (.if_icmp .ne 8, 3) := by decide +kernel
theorem dX9_count_121 : decode cX9_count 121 = .ok (.bipush (-4), 2) := by decide +kernel
theorem dX9_count_123 : decode cX9_count 123 = .ok (.goto 12, 3) := by decide +kernel
theorem dX9_count_126 : decode cX9_count 126 = .ok (.aload_n 0, 1) := by decide +kernel
theorem dX9_count_127 : decode cX9_count 127 = .ok (.getfield 75, 3) := by decide +kernel
theorem dX9_count_130 : decode cX9_count 130 = .ok (.iconst 0, 1) := by decide +kernel
theorem dX9_count_131 : decode cX9_count 131 = .ok (.aaload, 1) := by decide +kernel
theorem dX9_count_132 : decode cX9_count 132 = .ok (.getfield 307, 3) := by decide +kernel
theorem dX9_count_135 : decode cX9_count 135 = .ok (.ireturn, 1) := by decide +kernel
theorem dX9_count_136 : decode cX9_count 136 = .ok (.aload_n 0, 1) := by decide +kernel
theorem dX9_count_137 : decode cX9_count 137 = .ok (.getfield 35, 3) := by decide +kernel
theorem dX9_count_140 : decode cX9_count 140 = .ok (.getfield 164, 3) := by decide +kernel
theorem dX9_count_143 : decode cX9_count 143 = .ok (.bipush 9, 2) := by decide +kernel
theorem dX9_count_145 : decode cX9_count 145 = .ok (.iaload, 1) := by decide +kernel
theorem dX9_count_146 : decode cX9_count 146 = .ok (.ireturn, 1) := by decide +kernel
theorem dX9_count_147 : decode cX9_count 147 = .ok (.iconst (-1), 1) := by decide +kernel
theorem dX9_count_148 : decode cX9_count 148 = .ok (.ireturn, 1) := by decide +kernel
theorem dX9_isPart_0 : decode cX9_isPart 0 = .ok (.iload_n 0, 1) := by decide +kernel
theorem dX9_isPart_1 : decode cX9_isPart 1 = .ok (.ifCond .lt 12, 3) := by decide +kernel
theorem dX9_isPart_4 : decode cX9_isPart 4 = .ok (.iload_n 0, 1) := by decide +kernel
theorem dX9_isPart_5 : decode cX9_isPart 5 = .ok (.iconst 4, 1) := by decide +kernel
theorem dX9_isPart_6 : decode cX9_isPart 6 = .ok (.if_icmp .ge 7, 3) := by decide +kernel
theorem dX9_isPart_9 : decode cX9_isPart 9 = .ok (.iconst 1, 1) := by decide +kernel
theorem dX9_isPart_10 : decode cX9_isPart 10 = .ok (.goto 4, 3) := by decide +kernel
theorem dX9_isPart_13 : decode cX9_isPart 13 = .ok (.iconst 0, 1) := by decide +kernel
theorem dX9_isPart_14 : decode cX9_isPart 14 = .ok (.ireturn, 1) := by decide +kernel
theorem dX9_isLaw_0 : decode cX9_isLaw 0 = .ok (.iload_n 0, 1) := by decide +kernel
theorem dX9_isLaw_1 : decode cX9_isLaw 1 = .ok (.ifCond .lt 14, 3) := by decide +kernel
theorem dX9_isLaw_4 : decode cX9_isLaw 4 = .ok (.iload_n 0, 1) := by decide +kernel
theorem dX9_isLaw_5 : decode cX9_isLaw 5 = .ok (.sipush 14641, 3) := by decide +kernel
theorem dX9_isLaw_8 : decode cX9_isLaw 8 = .ok (.if_icmp .ge 7, 3) := by decide +kernel
theorem dX9_isLaw_11 : decode cX9_isLaw 11 = .ok (.iconst 1, 1) := by decide +kernel
theorem dX9_isLaw_12 : decode cX9_isLaw 12 = .ok (.goto 4, 3) := by decide +kernel
theorem dX9_isLaw_15 : decode cX9_isLaw 15 = .ok (.iconst 0, 1) := by decide +kernel
theorem dX9_isLaw_16 : decode cX9_isLaw 16 = .ok (.ireturn, 1) := by decide +kernel
theorem dX9_isSide_0 : decode cX9_isSide 0 = .ok (.iload_n 0, 1) := by decide +kernel
theorem dX9_isSide_1 : decode cX9_isSide 1 = .ok (.ifCond .eq 8, 3) := by decide +kernel
theorem dX9_isSide_4 : decode cX9_isSide 4 = .ok (.iload_n 0, 1) := by decide +kernel
theorem dX9_isSide_5 : decode cX9_isSide 5 = .ok (.iconst 1, 1) := by decide +kernel
theorem dX9_isSide_6 : decode cX9_isSide 6 = .ok (.if_icmp .ne 7, 3) := by decide +kernel
theorem dX9_isSide_9 : decode cX9_isSide 9 = .ok (.iconst 1, 1) := by decide +kernel
theorem dX9_isSide_10 : decode cX9_isSide 10 = .ok (.goto 4, 3) := by decide +kernel
theorem dX9_isSide_13 : decode cX9_isSide 13 = .ok (.iconst 0, 1) := by decide +kernel
theorem dX9_isSide_14 : decode cX9_isSide 14 = .ok (.ireturn, 1) := by decide +kernel
theorem dX9_isSheet_0 : decode cX9_isSheet 0 = .ok (.iload_n 0, 1) := by decide +kernel
theorem dX9_isSheet_1 : decode cX9_isSheet 1 = .ok (.ifCond .lt 12, 3) := by decide +kernel
theorem dX9_isSheet_4 : decode cX9_isSheet 4 = .ok (.iload_n 0, 1) := by decide +kernel
theorem dX9_isSheet_5 : decode cX9_isSheet 5 = .ok (.iconst 4, 1) := by decide +kernel
theorem dX9_isSheet_6 : decode cX9_isSheet 6 = .ok (.if_icmp .ge 7, 3) := by decide +kernel
theorem dX9_isSheet_9 : decode cX9_isSheet 9 = .ok (.iconst 1, 1) := by decide +kernel
theorem dX9_isSheet_10 : decode cX9_isSheet 10 = .ok (.goto 4, 3) := by decide +kernel
theorem dX9_isSheet_13 : decode cX9_isSheet 13 = .ok (.iconst 0, 1) := by decide +kernel
theorem dX9_isSheet_14 : decode cX9_isSheet 14 = .ok (.ireturn, 1) := by decide +kernel
theorem dX9_isLane_0 : decode cX9_isLane 0 = .ok (.iload_n 0, 1) := by decide +kernel
theorem dX9_isLane_1 : decode cX9_isLane 1 = .ok (.ifCond .lt 12, 3) := by decide +kernel
theorem dX9_isLane_4 : decode cX9_isLane 4 = .ok (.iload_n 0, 1) := by decide +kernel
theorem dX9_isLane_5 : decode cX9_isLane 5 = .ok (.iconst 2, 1) := by decide +kernel
theorem dX9_isLane_6 : decode cX9_isLane 6 = .ok (.if_icmp .gt 7, 3) := by decide +kernel
theorem dX9_isLane_9 : decode cX9_isLane 9 = .ok (.iconst 1, 1) := by decide +kernel
theorem dX9_isLane_10 : decode cX9_isLane 10 = .ok (.goto 4, 3) := by decide +kernel
theorem dX9_isLane_13 : decode cX9_isLane 13 = .ok (.iconst 0, 1) := by decide +kernel
theorem dX9_isLane_14 : decode cX9_isLane 14 = .ok (.ireturn, 1) := by decide +kernel
theorem dX9_areHoles_0 : decode cX9_areHoles 0 = .ok (.iload_n 0, 1) := by decide +kernel
theorem dX9_areHoles_1 : decode cX9_areHoles 1 = .ok (.ifCond .lt 38, 3) := by decide +kernel
theorem dX9_areHoles_4 : decode cX9_areHoles 4 = .ok (.iload_n 0, 1) := by decide +kernel
theorem dX9_areHoles_5 : decode cX9_areHoles 5 = .ok (.sipush 255, 3) := by decide +kernel
theorem dX9_areHoles_8 : decode cX9_areHoles 8 = .ok (.if_icmp .gt 31, 3) := by decide +kernel
theorem dX9_areHoles_11 : decode cX9_areHoles 11 = .ok (.iload_n 0, 1) := by decide +kernel
theorem dX9_areHoles_12 : decode cX9_areHoles 12 = .ok (.bipush 6, 2) := by decide +kernel
theorem dX9_areHoles_14 : decode cX9_areHoles 14 = .ok (.ishr, 1) := by decide +kernel
theorem dX9_areHoles_15 : decode cX9_areHoles 15 = .ok (.iload_n 0, 1) := by decide +kernel
theorem dX9_areHoles_16 : decode cX9_areHoles 16 = .ok (.iconst 4, 1) := by decide +kernel
theorem dX9_areHoles_17 : decode cX9_areHoles 17 = .ok (.ishr, 1) := by decide +kernel
theorem dX9_areHoles_18 : decode cX9_areHoles 18 = .ok (.iconst 3, 1) := by decide +kernel
theorem dX9_areHoles_19 : decode cX9_areHoles 19 = .ok (.iand, 1) := by decide +kernel
theorem dX9_areHoles_20 : decode cX9_areHoles 20 = .ok (.iadd, 1) := by decide +kernel
theorem dX9_areHoles_21 : decode cX9_areHoles 21 = .ok (.iload_n 0, 1) := by decide +kernel
theorem dX9_areHoles_22 : decode cX9_areHoles 22 = .ok (.iconst 2, 1) := by decide +kernel
theorem dX9_areHoles_23 : decode cX9_areHoles 23 = .ok (.ishr, 1) := by decide +kernel
theorem dX9_areHoles_24 : decode cX9_areHoles 24 = .ok (.iconst 3, 1) := by decide +kernel
theorem dX9_areHoles_25 : decode cX9_areHoles 25 = .ok (.iand, 1) := by decide +kernel
theorem dX9_areHoles_26 : decode cX9_areHoles 26 = .ok (.iadd, 1) := by decide +kernel
theorem dX9_areHoles_27 : decode cX9_areHoles 27 = .ok (.iload_n 0, 1) := by decide +kernel
theorem dX9_areHoles_28 : decode cX9_areHoles 28 = .ok (.iconst 3, 1) := by decide +kernel
theorem dX9_areHoles_29 : decode cX9_areHoles 29 = .ok (.iand, 1) := by decide +kernel
theorem dX9_areHoles_30 : decode cX9_areHoles 30 = .ok (.iadd, 1) := by decide +kernel
theorem dX9_areHoles_31 : decode cX9_areHoles 31 = .ok (.iconst 3, 1) := by decide +kernel
theorem dX9_areHoles_32 : decode cX9_areHoles 32 = .ok (.if_icmp .gt 7, 3) := by decide +kernel
theorem dX9_areHoles_35 : decode cX9_areHoles 35 = .ok (.iconst 1, 1) := by decide +kernel
theorem dX9_areHoles_36 : decode cX9_areHoles 36 = .ok (.goto 4, 3) := by decide +kernel
theorem dX9_areHoles_39 : decode cX9_areHoles 39 = .ok (.iconst 0, 1) := by decide +kernel
theorem dX9_areHoles_40 : decode cX9_areHoles 40 = .ok (.ireturn, 1) := by decide +kernel
theorem dX9_figure_0 : decode cX9_figure 0 = .ok (.iload_n 1, 1) := by decide +kernel
theorem dX9_figure_1 : decode cX9_figure 1 = .ok (.tableswitch 49 0 2 #[27, 33, 41], 27) := by decide +kernel
theorem dX9_figure_28 : decode cX9_figure 28 = .ok (.iload_n 0, 1) := by decide +kernel
theorem dX9_figure_29 : decode cX9_figure 29 = .ok (.sipush 1331, 3) := by decide +kernel
theorem dX9_figure_32 : decode cX9_figure 32 = .ok (.idiv, 1) := by decide +kernel
theorem dX9_figure_33 : decode cX9_figure 33 = .ok (.ireturn, 1) := by decide +kernel
theorem dX9_figure_34 : decode cX9_figure 34 = .ok (.iload_n 0, 1) := by decide +kernel
theorem dX9_figure_35 : decode cX9_figure 35 = .ok (.bipush 121, 2) := by decide +kernel
theorem dX9_figure_37 : decode cX9_figure 37 = .ok (.idiv, 1) := by decide +kernel
theorem dX9_figure_38 : decode cX9_figure 38 = .ok (.bipush 11, 2) := by decide +kernel
theorem dX9_figure_40 : decode cX9_figure 40 = .ok (.irem, 1) := by decide +kernel
theorem dX9_figure_41 : decode cX9_figure 41 = .ok (.ireturn, 1) := by decide +kernel
theorem dX9_figure_42 : decode cX9_figure 42 = .ok (.iload_n 0, 1) := by decide +kernel
theorem dX9_figure_43 : decode cX9_figure 43 = .ok (.bipush 11, 2) := by decide +kernel
theorem dX9_figure_45 : decode cX9_figure 45 = .ok (.idiv, 1) := by decide +kernel
theorem dX9_figure_46 : decode cX9_figure 46 = .ok (.bipush 11, 2) := by decide +kernel
theorem dX9_figure_48 : decode cX9_figure 48 = .ok (.irem, 1) := by decide +kernel
theorem dX9_figure_49 : decode cX9_figure 49 = .ok (.ireturn, 1) := by decide +kernel
theorem dX9_figure_50 : decode cX9_figure 50 = .ok (.iload_n 0, 1) := by decide +kernel
theorem dX9_figure_51 : decode cX9_figure 51 = .ok (.bipush 11, 2) := by decide +kernel
theorem dX9_figure_53 : decode cX9_figure 53 = .ok (.irem, 1) := by decide +kernel
theorem dX9_figure_54 : decode cX9_figure 54 = .ok (.ireturn, 1) := by decide +kernel
set_option maxRecDepth 20000 in
theorem ggX9_farthestPart_X9_figure : GoodIn wsX9_farthestPart wsX9_figure := goodIn_r _ [8] (by decide +kernel) (by decide +kernel)
set_option maxRecDepth 20000 in
theorem gX9_farthestPart_X9_figure : GoodIn wsX9_farthestPart (va_wsS RX9 197 yX9_figure wsX9_figure) := goodIn_app (goodIn_of _ (by decide +kernel)) ggX9_farthestPart_X9_figure
theorem dX9_farthestPart_0 : decode cX9_farthestPart 0 = .ok (.iconst 0, 1) := by decide +kernel
theorem dX9_farthestPart_1 : decode cX9_farthestPart 1 = .ok (.istore_n 2, 1) := by decide +kernel
theorem dX9_farthestPart_2 : decode cX9_farthestPart 2 = .ok (.iconst (-1), 1) := by decide +kernel
theorem dX9_farthestPart_3 : decode cX9_farthestPart 3 = .ok (.istore_n 3, 1) := by decide +kernel
theorem dX9_farthestPart_4 : decode cX9_farthestPart 4 = .ok (.iconst 0, 1) := by decide +kernel
theorem dX9_farthestPart_5 : decode cX9_farthestPart 5 = .ok (.istore 4, 2) := by decide +kernel
theorem dX9_farthestPart_7 : decode cX9_farthestPart 7 = .ok (.iload 4, 2) := by decide +kernel
theorem dX9_farthestPart_9 : decode cX9_farthestPart 9 = .ok (.iconst 4, 1) := by decide +kernel
theorem dX9_farthestPart_10 : decode cX9_farthestPart 10 = .ok (.if_icmp .ge 39, 3) := by decide +kernel
theorem dX9_farthestPart_13 : decode cX9_farthestPart 13 = .ok (.iload_n 0, 1) := by decide +kernel
theorem dX9_farthestPart_14 : decode cX9_farthestPart 14 = .ok (.iload 4, 2) := by decide +kernel
theorem dX9_farthestPart_16 : decode cX9_farthestPart 16 = .ok (.invokestatic 197, 3) := by decide +kernel
theorem dX9_farthestPart_19 : decode cX9_farthestPart 19 = .ok (.iload_n 1, 1) := by decide +kernel
theorem dX9_farthestPart_20 : decode cX9_farthestPart 20 = .ok (.iload 4, 2) := by decide +kernel
theorem dX9_farthestPart_22 : decode cX9_farthestPart 22 = .ok (.invokestatic 197, 3) := by decide +kernel
theorem dX9_farthestPart_25 : decode cX9_farthestPart 25 = .ok (.isub, 1) := by decide +kernel
theorem dX9_farthestPart_26 : decode cX9_farthestPart 26 = .ok (.invokestatic 308, 3) := by decide +kernel
theorem dX9_farthestPart_29 : decode cX9_farthestPart 29 = .ok (.istore 5, 2) := by decide +kernel
theorem dX9_farthestPart_31 : decode cX9_farthestPart 31 = .ok (.iload 5, 2) := by decide +kernel
theorem dX9_farthestPart_33 : decode cX9_farthestPart 33 = .ok (.iload_n 3, 1) := by decide +kernel
theorem dX9_farthestPart_34 : decode cX9_farthestPart 34 = .ok (.if_icmp .le 9, 3) := by decide +kernel
theorem dX9_farthestPart_37 : decode cX9_farthestPart 37 = .ok (.iload 5, 2) := by decide +kernel
theorem dX9_farthestPart_39 : decode cX9_farthestPart 39 = .ok (.istore_n 3, 1) := by decide +kernel
theorem dX9_farthestPart_40 : decode cX9_farthestPart 40 = .ok (.iload 4, 2) := by decide +kernel
theorem dX9_farthestPart_42 : decode cX9_farthestPart 42 = .ok (.istore_n 2, 1) := by decide +kernel
theorem dX9_farthestPart_43 : decode cX9_farthestPart 43 = .ok (.iinc 4 1, 3) := by decide +kernel
theorem dX9_farthestPart_46 : decode cX9_farthestPart 46 = .ok (.goto (-39), 3) := by decide +kernel
theorem dX9_farthestPart_49 : decode cX9_farthestPart 49 = .ok (.iload_n 2, 1) := by decide +kernel
theorem dX9_farthestPart_50 : decode cX9_farthestPart 50 = .ok (.ireturn, 1) := by decide +kernel
theorem dX9_isNearTrial_0 : decode cX9_isNearTrial 0 = .ok (.bipush 10, 2) := by decide +kernel
theorem dX9_isNearTrial_2 : decode cX9_isNearTrial 2 = .ok (.iload_n 1, 1) := by decide +kernel
theorem dX9_isNearTrial_3 : decode cX9_isNearTrial 3 = .ok (.imul, 1) := by decide +kernel
theorem dX9_isNearTrial_4 : decode cX9_isNearTrial 4 = .ok (.iload_n 0, 1) := by decide +kernel
theorem dX9_isNearTrial_5 : decode cX9_isNearTrial 5 = .ok (.iload_n 2, 1) := by decide +kernel
theorem dX9_isNearTrial_6 : decode cX9_isNearTrial 6 = .ok (.imul, 1) := by decide +kernel
theorem dX9_isNearTrial_7 : decode cX9_isNearTrial 7 = .ok (.isub, 1) := by decide +kernel
theorem dX9_isNearTrial_8 : decode cX9_isNearTrial 8 = .ok (.invokestatic 308, 3) := by decide +kernel
theorem dX9_isNearTrial_11 : decode cX9_isNearTrial 11 = .ok (.bipush 10, 2) := by decide +kernel
theorem dX9_isNearTrial_13 : decode cX9_isNearTrial 13 = .ok (.if_icmp .gt 7, 3) := by decide +kernel
theorem dX9_isNearTrial_16 : decode cX9_isNearTrial 16 = .ok (.iconst 1, 1) := by decide +kernel
theorem dX9_isNearTrial_17 : decode cX9_isNearTrial 17 = .ok (.goto 4, 3) := by decide +kernel
theorem dX9_isNearTrial_20 : decode cX9_isNearTrial 20 = .ok (.iconst 0, 1) := by decide +kernel
theorem dX9_isNearTrial_21 : decode cX9_isNearTrial 21 = .ok (.ireturn, 1) := by decide +kernel
theorem dX9_lowest_0 : decode cX9_lowest 0 = .ok (.lload_n 0, 1) := by decide +kernel
theorem dX9_lowest_1 : decode cX9_lowest 1 = .ok (.invokestatic 311, 3) := by decide +kernel
theorem dX9_lowest_4 : decode cX9_lowest 4 = .ok (.lstore 5, 2) := by decide +kernel
theorem dX9_lowest_6 : decode cX9_lowest 6 = .ok (.lload_n 2, 1) := by decide +kernel
theorem dX9_lowest_7 : decode cX9_lowest 7 = .ok (.invokestatic 311, 3) := by decide +kernel
theorem dX9_lowest_10 : decode cX9_lowest 10 = .ok (.lstore 7, 2) := by decide +kernel
theorem dX9_lowest_12 : decode cX9_lowest 12 = .ok (.iconst 0, 1) := by decide +kernel
theorem dX9_lowest_13 : decode cX9_lowest 13 = .ok (.istore 9, 2) := by decide +kernel
theorem dX9_lowest_15 : decode cX9_lowest 15 = .ok (.iload 9, 2) := by decide +kernel
theorem dX9_lowest_17 : decode cX9_lowest 17 = .ok (.sipush 200, 3) := by decide +kernel
theorem dX9_lowest_20 : decode cX9_lowest 20 = .ok (.if_icmp .ge 31, 3) := by decide +kernel
theorem dX9_lowest_23 : decode cX9_lowest 23 = .ok (.lload 7, 2) := by decide +kernel
theorem dX9_lowest_25 : decode cX9_lowest 25 = .ok (.lconst 0, 1) := by decide +kernel
theorem dX9_lowest_26 : decode cX9_lowest 26 = .ok (.lcmp, 1) := by decide +kernel
theorem dX9_lowest_27 : decode cX9_lowest 27 = .ok (.ifCond .eq 24, 3) := by decide +kernel
theorem dX9_lowest_30 : decode cX9_lowest 30 = .ok (.lload 5, 2) := by decide +kernel
theorem dX9_lowest_32 : decode cX9_lowest 32 = .ok (.lload 7, 2) := by decide +kernel
theorem dX9_lowest_34 : decode cX9_lowest 34 = .ok (.lrem, 1) := by decide +kernel
theorem dX9_lowest_35 : decode cX9_lowest 35 = .ok (.lstore 10, 2) := by decide +kernel
theorem dX9_lowest_37 : decode cX9_lowest 37 = .ok (.lload 7, 2) := by decide +kernel
theorem dX9_lowest_39 : decode cX9_lowest 39 = .ok (.lstore 5, 2) := by decide +kernel
theorem dX9_lowest_41 : decode cX9_lowest 41 = .ok (.lload 10, 2) := by decide +kernel
theorem dX9_lowest_43 : decode cX9_lowest 43 = .ok (.lstore 7, 2) := by decide +kernel
theorem dX9_lowest_45 : decode cX9_lowest 45 = .ok (.iinc 9 1, 3) := by decide +kernel
theorem dX9_lowest_48 : decode cX9_lowest 48 = .ok (.goto (-33), 3) := by decide +kernel
theorem dX9_lowest_51 : decode cX9_lowest 51 = .ok (.lload 5, 2) := by decide +kernel
theorem dX9_lowest_53 : decode cX9_lowest 53 = .ok (.lconst 0, 1) := by decide +kernel
theorem dX9_lowest_54 : decode cX9_lowest 54 = .ok (.lcmp, 1) := by decide +kernel
theorem dX9_lowest_55 : decode cX9_lowest 55 = .ok (.ifCond .ne 14, 3) := by decide +kernel
theorem dX9_lowest_58 : decode cX9_lowest 58 = .ok (.iload 4, 2) := by decide +kernel
theorem dX9_lowest_60 : decode cX9_lowest 60 = .ok (.ifCond .ne 7, 3) := by decide +kernel
theorem dX9_lowest_63 : decode cX9_lowest 63 = .ok (.lconst 0, 1) := by decide +kernel
theorem dX9_lowest_64 : decode cX9_lowest 64 = .ok (.goto 4, 3) := by decide +kernel
theorem dX9_lowest_67 : decode cX9_lowest 67 = .ok (.lconst 1, 1) := by decide +kernel
theorem dX9_lowest_68 : decode cX9_lowest 68 = .ok (.lreturn, 1) := by decide +kernel
theorem dX9_lowest_69 : decode cX9_lowest 69 = .ok (.iload 4, 2) := by decide +kernel
theorem dX9_lowest_71 : decode cX9_lowest 71 = .ok (.ifCond .ne 10, 3) := by decide +kernel
theorem dX9_lowest_74 : decode cX9_lowest 74 = .ok (.lload_n 0, 1) := by decide +kernel
theorem dX9_lowest_75 : decode cX9_lowest 75 = .ok (.lload 5, 2) := by decide +kernel
theorem dX9_lowest_77 : decode cX9_lowest 77 = .ok (.ldiv, 1) := by decide +kernel
theorem dX9_lowest_78 : decode cX9_lowest 78 = .ok (.goto 7, 3) := by decide +kernel
theorem dX9_lowest_81 : decode cX9_lowest 81 = .ok (.lload_n 2, 1) := by decide +kernel
theorem dX9_lowest_82 : decode cX9_lowest 82 = .ok (.lload 5, 2) := by decide +kernel
theorem dX9_lowest_84 : decode cX9_lowest 84 = .ok (.ldiv, 1) := by decide +kernel
theorem dX9_lowest_85 : decode cX9_lowest 85 = .ok (.lreturn, 1) := by decide +kernel
set_option maxRecDepth 20000 in
theorem ggX9_takeHomes_X3_beginAct : GoodIn wsX9_takeHomes wsX3_beginAct := goodIn_r _ [7, 8, 9, 10, 11, 12, 13, 14, 49, 50, 51, 52] (by decide +kernel) (by decide +kernel)
set_option maxRecDepth 20000 in
theorem gX9_takeHomes_X3_beginAct : GoodIn wsX9_takeHomes (wsV RX9 133 RX3 yX3_beginAct wsX3_beginAct) := goodIn_app (goodIn_of _ (by decide +kernel)) ggX9_takeHomes_X3_beginAct
set_option maxRecDepth 20000 in
theorem ggX9_takeHomes_X3_add : GoodIn wsX9_takeHomes wsX3_add := goodIn_r _ [18, 19, 14, 8, 49, 50, 51, 52] (by decide +kernel) (by decide +kernel)
set_option maxRecDepth 20000 in
theorem gX9_takeHomes_X3_add : GoodIn wsX9_takeHomes (wsV RX9 136 RX3 yX3_add wsX3_add) := goodIn_app (goodIn_of _ (by decide +kernel)) ggX9_takeHomes_X3_add
set_option maxRecDepth 20000 in
theorem ggX9_takeHomes_X6_cell : GoodIn wsX9_takeHomes wsX6_cell := goodIn_r _ [24, 25, 53, 54, 55] (by decide +kernel) (by decide +kernel)
set_option maxRecDepth 20000 in
theorem gX9_takeHomes_X6_cell : GoodIn wsX9_takeHomes (wsV RX9 313 RX6 yX6_cell wsX6_cell) := goodIn_app (goodIn_of _ (by decide +kernel)) ggX9_takeHomes_X6_cell
set_option maxRecDepth 20000 in
theorem ggX9_takeHomes_X3_addHomes : GoodIn wsX9_takeHomes wsX3_addHomes := goodIn_r _ [29, 30, 16, 17, 6, 18, 19, 14, 8, 49, 50, 51, 52] (by decide +kernel) (by decide +kernel)
set_option maxRecDepth 20000 in
theorem gX9_takeHomes_X3_addHomes : GoodIn wsX9_takeHomes (wsV RX9 140 RX3 yX3_addHomes wsX3_addHomes) := goodIn_app (goodIn_of _ (by decide +kernel)) ggX9_takeHomes_X3_addHomes
set_option maxRecDepth 20000 in
theorem ggX9_takeHomes_X2_forget : GoodIn wsX9_takeHomes wsX2_forget := goodIn_r _ [35, 36, 37, 38, 56, 57, 58, 59, 60, 61, 62, 63, 64, 65, 66, 67, 68] (by decide +kernel) (by decide +kernel)
set_option maxRecDepth 20000 in
theorem gX9_takeHomes_X2_forget : GoodIn wsX9_takeHomes (wsV RX9 109 RX2 yX2_forget wsX2_forget) := goodIn_app (goodIn_of _ (by decide +kernel)) ggX9_takeHomes_X2_forget
theorem dX9_takeHomes_0 : decode cX9_takeHomes 0 = .ok (.aload_n 0, 1) := by decide +kernel
theorem dX9_takeHomes_1 : decode cX9_takeHomes 1 = .ok (.getfield 35, 3) := by decide +kernel
theorem dX9_takeHomes_4 : decode cX9_takeHomes 4 = .ok (.invokevirtual 133, 3) := by decide +kernel
theorem dX9_takeHomes_7 : decode cX9_takeHomes 7 = .ok (.aload_n 0, 1) := by decide +kernel
theorem dX9_takeHomes_8 : decode cX9_takeHomes 8 = .ok (.getfield 35, 3) := by decide +kernel
theorem dX9_takeHomes_11 : decode cX9_takeHomes 11 = .ok (.iconst 0, 1) := by decide +kernel
theorem dX9_takeHomes_12 : decode cX9_takeHomes 12 = .ok (.iload_n 3, 1) := by decide +kernel
theorem dX9_takeHomes_13 : decode cX9_takeHomes 13 = .ok (.invokevirtual 136, 3) := by decide +kernel
theorem dX9_takeHomes_16 : decode cX9_takeHomes 16 = .ok (.iconst 0, 1) := by decide +kernel
theorem dX9_takeHomes_17 : decode cX9_takeHomes 17 = .ok (.istore 4, 2) := by decide +kernel
theorem dX9_takeHomes_19 : decode cX9_takeHomes 19 = .ok (.iload 4, 2) := by decide +kernel
theorem dX9_takeHomes_21 : decode cX9_takeHomes 21 = .ok (.iload_n 3, 1) := by decide +kernel
theorem dX9_takeHomes_22 : decode cX9_takeHomes 22 = .ok (.if_icmp .ge 55, 3) := by decide +kernel
theorem dX9_takeHomes_25 : decode cX9_takeHomes 25 = .ok (.iload_n 2, 1) := by decide +kernel
theorem dX9_takeHomes_26 : decode cX9_takeHomes 26 = .ok (.iconst 4, 1) := by decide +kernel
theorem dX9_takeHomes_27 : decode cX9_takeHomes 27 = .ok (.iload 4, 2) := by decide +kernel
theorem dX9_takeHomes_29 : decode cX9_takeHomes 29 = .ok (.imul, 1) := by decide +kernel
theorem dX9_takeHomes_30 : decode cX9_takeHomes 30 = .ok (.iadd, 1) := by decide +kernel
theorem dX9_takeHomes_31 : decode cX9_takeHomes 31 = .ok (.istore 5, 2) := by decide +kernel
theorem dX9_takeHomes_33 : decode cX9_takeHomes 33 = .ok (.aload_n 0, 1) := by decide +kernel
theorem dX9_takeHomes_34 : decode cX9_takeHomes 34 = .ok (.getfield 35, 3) := by decide +kernel
theorem dX9_takeHomes_37 : decode cX9_takeHomes 37 = .ok (.iconst 1, 1) := by decide +kernel
theorem dX9_takeHomes_38 : decode cX9_takeHomes 38 = .ok (.aload_n 1, 1) := by decide +kernel
theorem dX9_takeHomes_39 : decode cX9_takeHomes 39 = .ok (.iload 5, 2) := by decide +kernel
theorem dX9_takeHomes_41 : decode cX9_takeHomes 41 = .ok (.invokevirtual 313, 3) := by decide +kernel
theorem dX9_takeHomes_44 : decode cX9_takeHomes 44 = .ok (.aload_n 1, 1) := by decide +kernel
theorem dX9_takeHomes_45 : decode cX9_takeHomes 45 = .ok (.iload 5, 2) := by decide +kernel
theorem dX9_takeHomes_47 : decode cX9_takeHomes 47 = .ok (.iconst 1, 1) := by decide +kernel
theorem dX9_takeHomes_48 : decode cX9_takeHomes 48 = .ok (.iadd, 1) := by decide +kernel
theorem dX9_takeHomes_49 : decode cX9_takeHomes 49 = .ok (.invokevirtual 313, 3) := by decide +kernel
theorem dX9_takeHomes_52 : decode cX9_takeHomes 52 = .ok (.aload_n 1, 1) := by decide +kernel
theorem dX9_takeHomes_53 : decode cX9_takeHomes 53 = .ok (.iload 5, 2) := by decide +kernel
theorem dX9_takeHomes_55 : decode cX9_takeHomes 55 = .ok (.iconst 2, 1) := by decide +kernel
theorem dX9_takeHomes_56 : decode cX9_takeHomes 56 = .ok (.iadd, 1) := by decide +kernel
theorem dX9_takeHomes_57 : decode cX9_takeHomes 57 = .ok (.invokevirtual 313, 3) := by decide +kernel
theorem dX9_takeHomes_60 : decode cX9_takeHomes 60 = .ok (.aload_n 1, 1) := by decide +kernel
theorem dX9_takeHomes_61 : decode cX9_takeHomes 61 = .ok (.iload 5, 2) := by decide +kernel
theorem dX9_takeHomes_63 : decode cX9_takeHomes 63 = .ok (.iconst 3, 1) := by decide +kernel
theorem dX9_takeHomes_64 : decode cX9_takeHomes 64 = .ok (.iadd, 1) := by decide +kernel
theorem dX9_takeHomes_65 : decode cX9_takeHomes 65 = .ok (.invokevirtual 313, 3) := by decide +kernel
theorem dX9_takeHomes_68 : decode cX9_takeHomes 68 = .ok (.invokevirtual 140, 3) := by decide +kernel
theorem dX9_takeHomes_71 : decode cX9_takeHomes 71 = .ok (.iinc 4 1, 3) := by decide +kernel
theorem dX9_takeHomes_74 : decode cX9_takeHomes 74 = .ok (.goto (-55), 3) := by decide +kernel
theorem dX9_takeHomes_77 : decode cX9_takeHomes 77 = .ok (.aload_n 0, 1) := by decide +kernel
theorem dX9_takeHomes_78 : decode cX9_takeHomes 78 = .ok (.getfield 51, 3) := by decide +kernel
theorem dX9_takeHomes_81 : decode cX9_takeHomes 81 = .ok (.invokevirtual 109, 3) := by decide +kernel
theorem dX9_takeHomes_84 : decode cX9_takeHomes 84 = .ok (.return_, 1) := by decide +kernel
